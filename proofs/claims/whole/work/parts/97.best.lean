/-! the best hand -/
theorem mn_nI {a b : Nat} (ha : a < 2147483648) (hb : b < 2147483648) : mn (nI a) (nI b) = nI (min a b) := by
  unfold mn
  rcases Nat.lt_or_ge a b with h | h
  · rw [if_neg (nI_ge h hb), Nat.min_eq_left (by omega)]
  · rw [if_pos (nI_le h ha), Nat.min_eq_right h]
theorem mx0_nI {a : Nat} (ha : a < 2147483648) : mx 0 (nI a) = nI a := by
  unfold mx
  rw [if_pos (nI_pos' ha)]
theorem neg_nI {a : Nat} (ha : a < 2147483648) : (-(nI a)).toInt = -(a : Int) := by
  rw [Int32.toInt_neg, nI_toInt ha, Int.bmod_eq_of_le (by omega) (by omega)]
theorem mx_neg {a b : Nat} (ha : a < 2147483648) (hb : b < 2147483648) : mx (-(nI a)) (nI b) = nI b := by
  unfold mx
  rw [if_pos]
  rw [Int32.le_iff_toInt_le, neg_nI ha, nI_toInt hb]
  omega
theorem goS_open {ν : Sg} (hW : InvW ν) {p : Nat} (hp : p < nP ν) : ∃ τ, Stat ν τ ∧ τ 183 (8 + p) = ν 183 (8 + p) ∧ goS ν 183 (8 + p) = ν 183 (8 + p) + mvN τ p := by
  have hP8 := hW.1.1.1.2
  have hO10 := hW.1.1.2.1.2
  have hK := hW.1.1
  have hO := hW.1.2.1
  let I (τ : Sg) : Prop := Stat ν τ ∧ ∀ i, 8 ≤ i → i < 16 → τ 183 i = ν 183 i
  have it1 : ∀ {f : Nat → Sg → Sg} {μ : Sg} (n : Nat), I μ → (∀ j τ, j < n → I τ → I (f j τ)) → I (itS f n μ) := by
    intro f μ n h0 hs
    exact it2 (fun _ τ _ => I τ) (μ' := μ) h0 n (fun j τ _ hj h => hs j τ hj h)
  have a1 : I (itS arrS (nP ν) ν) := it1 _ ⟨Stat.refl _, fun _ _ _ => rfl⟩ (fun j τ hj i => ⟨i.1.trans (arrS_stat (by omega) _), fun k h1 h2 => (arrS_miss (by omega) (by omega) (by omega)).trans (i.2 k h1 h2)⟩)
  have a2 : I (itS leakS (nP ν) (itS arrS (nP ν) ν)) := it1 _ a1 (fun j τ hj i => ⟨i.1.trans (leakS_stat (by omega) _), fun k h1 h2 => by
      unfold leakS
      rw [zup_miss (by omega), zup_miss (by omega)]
      exact i.2 k h1 h2⟩)
  have a3 : I (itS takS (nO ν) (itS leakS (nP ν) (itS arrS (nP ν) ν))) := it1 _ a2 (fun j τ hj i => by
    have hp : opl τ j < 8 := by
      rw [i.1.e_opl]
      have := (hK.2.2.2.2.2.1 j hj).2.1
      omega
    exact ⟨i.1.trans (takS_stat (by omega) hp), fun k h1 h2 => (takS_way (by omega) hp k h1 (by omega)).trans (i.2 k h1 h2)⟩)
  have a4 : I (itS pasS (nP ν) (itS takS (nO ν) (itS leakS (nP ν) (itS arrS (nP ν) ν)))) := it1 _ a3 (fun j τ hj i => by
    have hd : tl τ j 3 ≤ 9 := by rw [i.1.e_tl]; exact (hK.2.2.2.2.1 j hj).1
    exact ⟨i.1.trans (pasS_stat (by omega) hd), fun k h1 h2 => by
      rw [pasS_at (by omega) hd, if_neg (by omega), if_neg (by omega), if_neg (by omega), if_neg (by omega), if_neg (by omega)]
      exact i.2 k h1 h2⟩)
  have a5 : I (itS ovrS (nP ν) (itS pasS (nP ν) (itS takS (nO ν) (itS leakS (nP ν) (itS arrS (nP ν) ν))))) := it1 _ a4 (fun j τ hj i => by
    have hp : nP τ = nP ν := i.1.e_nP
    exact ⟨i.1.trans (ovrS_stat (by omega) (by omega) (by omega)), fun k h1 h2 => (ovrS_same (by omega) (by omega) h1 (by omega)).trans (i.2 k h1 h2)⟩)
  obtain ⟨s5, o5⟩ := a5
  refine ⟨_, s5, o5 _ (by omega) (by omega), ?_⟩
  obtain ⟨_, _, m2⟩ := movS_it (s5.e_InvK hK) (s5.e_InvO hO) (nP ν) (by rw [s5.e_nP]; exact Nat.le_refl _)
  have hk := goQ_keep (σ := ν) hP8
  have hkp : (8 + p < 32 ∨ (40 ≤ 8 + p ∧ 8 + p < 205)) := by omega
  rw [goS_e]
  unfold bump
  rw [zup_miss (by omega), hk.2.1 _ hkp]
  unfold goW
  rw [m2, if_pos (by omega), o5 _ (by omega) (by omega), show 8 + p - 8 = p from by omega]
/-- a gate told by hand, far from it, moves by its BY -/
theorem mvN_far {τ : Sg} {g x op by' M : Nat} (hx : τ 183 (16 + g) = nI x) (ho : τ 183 (8 + g) = nI op) (hb : τ 172 (9 * g + 5) = nI by') (hm : τ 172 (9 * g + 4) = nI M) (hxM : x ≤ M) (hM : M ≤ 999) (hb9 : by' ≤ 999) (hfar : op + by' ≤ x) : mvN τ g = nI by' := by
  have hne : ¬ nI x = -1 := fun q => (nI_n1 (a := x) (by omega) ▸ q : False)
  unfold mvN hld wsh
  rw [hx, if_neg hne, hb, hm, mn_nI (by omega) (by omega), Nat.min_eq_right hxM, mx0_nI (by omega), ho, nI_sub (by omega), mn_nI (by omega) (by omega), Nat.min_eq_left (by omega), mx_neg (by omega) (by omega)]
theorem hand_tie {σ : Sg} {p1 g op n h R : Nat} (hB : Base σ p1) (hgn : Gain σ) (hg : g < nP σ) (ho : σ 183 (8 + g) = nI op) (hR : R = op + tl σ g 5 * n) (hn : n ≤ 40) (hRM : R < tl σ g 4) (hRh : R < h) (hhM : h ≤ tl σ g 4) :
    ∀ k, k ≤ n → EqM (16 + g) (qrun (zup (quiet σ) 183 (16 + g) (nI R)) k) (qrun (zup (quiet σ) 183 (16 + g) (nI h)) k) ∧ qrun (zup (quiet σ) 183 (16 + g) (nI R)) k 183 (8 + g) = nI (op + tl σ g 5 * k) := by
  have hW := base_W hB hgn
  have hs := hB.1.2.2.2.2.2.2.2.1.2
  have hK := hW.1.1
  have hP8 := hK.1.2
  have qm := quiet_M σ
  have hQ := quiet_Q hW
  obtain ⟨_, k5, _, _, k4, k59, _⟩ := hK.2.2.2.2.1 g hg
  have t4 := (hK.2.2.2.1 g hg 4 (by omega)).1
  have t5 := (hK.2.2.2.1 g hg 5 (by omega)).1
  have hQR : InvQ (zup (quiet σ) 183 (16 + g) (nI R)) := var_Q hQ (Or.inl (by omega))
  have hQh : InvQ (zup (quiet σ) 183 (16 + g) (nI h)) := var_Q hQ (Or.inl (by omega))
  have hstR : stp (zup (quiet σ) 183 (16 + g) (nI R)) = stp σ := by unfold stp; rw [zup_miss (by omega), qm.2.2]
  have hsth : stp (zup (quiet σ) 183 (16 + g) (nI h)) = stp σ := by unfold stp; rw [zup_miss (by omega), qm.2.2]
  have he : okE (16 + g) := by unfold okE; omega
  intro k
  induction k with
  | zero =>
    intro _
    refine ⟨?_, ?_⟩
    · show EqM (16 + g) (zup (quiet σ) 183 (16 + g) (nI R)) (zup (quiet σ) 183 (16 + g) (nI h))
      refine ⟨⟨?_, ?_, ?_, ?_⟩, ⟨?_, ?_, ?_⟩, fun i hi => ?_⟩ <;> first | (rw [zup_ne (by omega), zup_ne (by omega)]) | (rw [zup_miss hi, zup_miss hi])
    · show zup (quiet σ) 183 (16 + g) (nI R) 183 (8 + g) = _
      rw [zup_miss (by omega), qm.2.2, ho, Nat.mul_zero, Nat.add_zero]
  | succ k ih =>
    intro hk
    obtain ⟨ih1, ih2⟩ := ih (by omega)
    obtain ⟨q1, _, sb, _⟩ := qrun_inv hQR k (by omega)
    obtain ⟨q1', _, sb', _⟩ := qrun_inv hQh k (by omega)
    have r172 : qrun (zup (quiet σ) 183 (16 + g) (nI R)) k 172 = σ 172 := by rw [sb.r172, zup_ne (by omega), qm.2.1.1]
    have hR16 : qrun (zup (quiet σ) 183 (16 + g) (nI R)) k 183 (16 + g) = nI R := by rw [sb.2 _ (by omega), zup_hit]
    have hh16 : qrun (zup (quiet σ) 183 (16 + g) (nI h)) k 183 (16 + g) = nI h := by rw [sb'.2 _ (by omega), zup_hit]
    have hfar : op + tl σ g 5 * k + tl σ g 5 ≤ R := by
      rw [hR, Nat.add_assoc, ← Nat.mul_succ]
      exact Nat.add_le_add_left (Nat.mul_le_mul_left _ hk) _
    have hnp : nP (qrun (zup (quiet σ) 183 (16 + g) (nI R)) k) = nP σ := by rw [sb.e_nP]; exact qm.e_nP
    constructor
    · refine ih1.e_qst he q1 (fun q => by omega) (fun p hp e τ τ' f1 f2 f3 f4 f5 f6 => ?_)
      have : p = g := by omega
      subst this
      have m1 := mvN_far (τ := τ) (g := p) (x := R) (op := op + tl σ p 5 * k) (by' := tl σ p 5) (M := tl σ p 4) (by rw [f5]; exact hR16) (by rw [f3]; exact ih2) (by rw [f1, r172]; exact t5) (by rw [f1, r172]; exact t4) (by omega) k4 k59 hfar
      have m2 := mvN_far (τ := τ') (g := p) (x := h) (op := op + tl σ p 5 * k) (by' := tl σ p 5) (M := tl σ p 4) (by rw [f6]; exact hh16) (by rw [f4]; exact ih2) (by rw [f2, r172]; exact t5) (by rw [f2, r172]; exact t4) (by omega) k4 k59 (by omega)
      rw [m1, m2]
    · have hWb := begW q1.1
      have bs := begS_stat (qrun (zup (quiet σ) 183 (16 + g) (nI R)) k)
      obtain ⟨τ, s1, s2, s3⟩ := goS_open hWb (p := g) (by rw [bs.e_nP]; omega)
      rw [begS_183] at s2 s3
      show goS (begS _) 183 (8 + g) = _
      rw [s3, mvN_far (x := R) (op := op + tl σ g 5 * k) (by' := tl σ g 5) (M := tl σ g 4) (by rw [s1.2 _ (by omega), begS_183]; exact hR16) (by rw [s2]; exact ih2) (by rw [s1.r172, bs.r172, r172]; exact t5) (by rw [s1.r172, bs.r172, r172]; exact t4) (by omega) k4 k59 hfar, ih2, nI_add, Nat.mul_succ, Nat.add_assoc]
theorem tie_t {σ : Sg} {p1 g op n h R : Nat} (hB : Base σ p1) (hgn : Gain σ) (hg : g < nP σ) (ho : σ 183 (8 + g) = nI op) (hR : R = op + tl σ g 5 * n) (hn : n ≤ 40) (hRM : R < tl σ g 4) (hRh : R < h) (hhM : h ≤ tl σ g 4) :
    tO (zup (quiet σ) 183 (16 + g) (nI h)) g (g + 1) n = tO (zup (quiet σ) 183 (16 + g) (nI R)) g (g + 1) n := by
  have hP8 := (base_W hB hgn).1.1.1.2
  have key := hand_tie hB hgn hg ho hR hn hRM hRh hhM
  have : ∀ k, k ≤ n → tO (zup (quiet σ) 183 (16 + g) (nI h)) g (g + 1) k = tO (zup (quiet σ) 183 (16 + g) (nI R)) g (g + 1) k := by
    intro k
    induction k with
    | zero => intro _; rfl
    | succ k ih =>
      intro hk
      rw [tO_succ, tO_succ, ih (by omega), (key (k + 1) hk).1.e_o1 (by unfold okE; omega) (by omega)]
  exact this n (Nat.le_refl n)
theorem c_best {σ : Sg} {p1 n g op : Nat} (hB : Base σ p1) (hgn : Gain σ) (hn : n ≤ 40) (hg : g < nP σ) (ho : σ 183 (8 + g) = nI op) (hop : op ≤ tl σ g 4) :
    ∃ τ, Outlook_chooseHand σ p1 55 (nI g) (nI n) = some τ ∧ Fr 81 123 σ τ ∧ τ 81 5 = nI (bst (fun h => tO (zup (quiet σ) 183 (16 + g) (nI h)) g (g + 1) n) 0 (min (tl σ g 4) (op + tl σ g 5 * n))).1 ∧ τ 81 6 = nI (bst (fun h => tO (zup (quiet σ) 183 (16 + g) (nI h)) g (g + 1) n) 0 (min (tl σ g 4) (op + tl σ g 5 * n))).2 := by
  have hW := base_W hB hgn
  have hs := hB.1.2.2.2.2.2.2.2.1.2
  have hK := hW.1.1
  obtain ⟨hP, hP8⟩ := hK.1
  have hR0 := hB.1.2.1
  have qm := quiet_M σ
  have hQ := quiet_Q hW
  have hKq := qm.e_InvK hK
  obtain ⟨_, k5, _, _, k4, k59, _⟩ := hK.2.2.2.2.1 g hg
  have t4 := (hK.2.2.2.1 g hg 4 (by omega)).1
  have t5 := (hK.2.2.2.1 g hg 5 (by omega)).1
  have hmul : tl σ g 5 * n ≤ 999 * 40 := Nat.mul_le_mul k59 hn
  obtain ⟨σ0, a1, a2, a3, a4⟩ := c_look hB hgn (n := n) (by omega)
  let t (h : Nat) : Nat := tO (zup (quiet σ) 183 (16 + g) (nI h)) g (g + 1) n
  have ht : ∀ h, t h ≤ 40 := fun h => by
    have h1 : t h ≤ n * (g + 1 - g) := tO_le _ _ _ n
    rw [show g + 1 - g = 1 from by omega] at h1
    omega
  let R := min (tl σ g 4) (op + tl σ g 5 * n)
  have hRle : R ≤ 999 := Nat.le_trans (Nat.min_le_left _ _) k4
  have hbound : ∀ x6 : Nat, x6 ≤ 1000 → ((if nI (op + tl σ g 5 * n) < nI (tl σ g 4) then nI (op + tl σ g 5 * n) else nI (tl σ g 4)) < nI x6) = (R < x6) := by
    intro x6 hx
    have : (if nI (op + tl σ g 5 * n) < nI (tl σ g 4) then nI (op + tl σ g 5 * n) else nI (tl σ g 4)) = nI R := by
      rw [mn_f, mn_nI (by omega) (by omega)]
    rw [this]
    exact propext (nI_ltI (by omega) (by omega))
  have hl := zit_cnt (b := fun (s : (Sg × Int32)) => Outlook_chooseHand_l47 s.1 (nI g) (nI n) (nI (op + tl σ g 5 * n)) s.2) (fun j τ => ChS σ τ p1 n ∧ (j = 0 → τ 81 6 = nI 1000000000) ∧ (0 < j → τ 81 5 = nI (bst t 0 (j - 1)).1 ∧ τ 81 6 = nI (bst t 0 (j - 1)).2)) nI (R + 1) (σ := zup σ0 81 6 (nI 1000000000)) (by omega)
    ⟨ChS.up81 ⟨a2, a3⟩ hK (by omega), fun _ => zup_hit, fun h => absurd h (by omega)⟩ (by
    rintro j τ hj ⟨ch, i0, i1⟩
    obtain ⟨τ1, b1, b2, b3, b4⟩ := look_again hB ch
    have hv := b3.v4 (g := g) (v := nI j) hKq (by omega)
    have hQg : InvQ (zup (quiet σ) 183 (16 + g) (nI j)) := var_Q hQ (Or.inl (by omega))
    have hf1 : Fr 82 98 τ1 (zup τ1 86 g (nI j)) := (Fr.refl τ1).up (by omega) (by omega)
    have ch2 := b4.fr hK hf1
    have lk := ch2.2.oeq (κ' := zup (quiet σ) 183 (16 + g) (nI j)) (OEq.up (by omega)) hQ.1.1.2.1
    have hst : stp (zup (quiet σ) 183 (16 + g) (nI j)) = stp σ := by
      unfold stp
      rw [zup_miss (by omega), qm.2.2]
    have hnp : nP (zup (quiet σ) 183 (16 + g) (nI j)) = nP σ := qm.e_nP
    obtain ⟨τ2, c1, c2⟩ := c_timesOut (a := g) (b := g + 1) (n := n) lk hQg hv hst.symm (Nat.le_refl _) (by omega) (by omega) (by omega)
    have ch3 := ch2.fr hK c2
    have e81 : τ2 81 = τ 81 := by rw [c2 81 (by omega), zup_ne (by omega), b2 81 (by omega)]
    have hz : ∀ {α : Type} (k : Nat → Option α), zmr2 3 29 (τ 81 3) k = k p1 := fun k => by rw [ch.2.2.2.2.1]; exact zmr2_e rfl ch.2.1
    have hmost : τ (p1 + 9) g = nI (tl σ g 4) := by
      have := (ch.2.2.1.2.1 g (by rw [qm.e_nP]; exact hg)).2.2.1
      rw [this, qm.2.1.1]; exact t4
    have c1' : Outlook_timesOut (zup τ1 86 g (nI j)) (nI g) (nI (g + 1)) (nI n) = some (nI (t j), τ2) := c1
    have htj := ht j
    have hb0 : ((if nI (op + tl σ g 5 * n) < nI (tl σ g 4) then nI (op + tl σ g 5 * n) else nI (tl σ g 4)) < nI j) = False := by
      rw [hbound j (by omega)]; exact eq_false (by omega)
    have hbody : ∀ W, Outlook_weigh τ2 (nI j) (nI (t j)) = some W → Outlook_chooseHand_l47 τ (nI g) (nI n) (nI (op + tl σ g 5 * n)) (nI j) = some (.inl (W, nI (j + 1))) := by
      intro W hwe
      unfold Outlook_chooseHand_l47
      rw [hz, zrd_e (by omega) (by omega), hmost, if_neg (by rw [hb0]; exact id), b1, obs, zwr_e (by omega) (by omega), zlit, nI_add, c1', obs, hwe, obs, zlt_e, nI_add]
    by_cases cj : j = 0
    · subst cj
      have hwe := weigh_e (τ := τ2) (c := 0) (x := t 0) (b := 1000000000) (by rw [e81]; exact i0 rfl) (by omega) (by omega)
      rw [if_pos (by omega)] at hwe
      exact ⟨_, hbody _ hwe, (ch3.up81 hK (by omega)).up81 hK (by omega), fun h => absurd h (by omega), fun _ => ⟨zup_hit, by rw [zup_miss (by omega), zup_hit]; rfl⟩⟩
    · obtain ⟨i2, i3⟩ := i1 (by omega)
      have hble := bst_le t 0 (B := 40) (j - 1) (fun i _ => ht _)
      have hwe := weigh_e (τ := τ2) (c := j) (x := t j) (b := (bst t 0 (j - 1)).2) (by rw [e81]; exact i3) (by omega) (by omega)
      have hbs := bst_succ t 0 (j - 1)
      rw [show j - 1 + 1 = j from by omega, Nat.zero_add] at hbs
      refine ⟨_, hbody _ hwe, ?_, fun h => absurd h (by omega), fun _ => ?_⟩
      · split
        · exact (ch3.up81 hK (by omega)).up81 hK (by omega)
        · exact ch3
      · rw [show j + 1 - 1 = j from by omega, hbs]
        split
        · exact ⟨zup_hit, by rw [zup_miss (by omega), zup_hit]⟩
        · rw [e81]; exact ⟨i2, i3⟩) (by
    rintro τ ⟨ch, _⟩
    have hz : ∀ {α : Type} (k : Nat → Option α), zmr2 3 29 (τ 81 3) k = k p1 := fun k => by rw [ch.2.2.2.2.1]; exact zmr2_e rfl ch.2.1
    have hmost : τ (p1 + 9) g = nI (tl σ g 4) := by
      have := (ch.2.2.1.2.1 g (by rw [qm.e_nP]; exact hg)).2.2.1
      rw [this, qm.2.1.1]; exact t4
    show Outlook_chooseHand_l47 τ (nI g) (nI n) (nI (op + tl σ g 5 * n)) (nI (R + 1)) = _
    unfold Outlook_chooseHand_l47
    rw [hz, zrd_e (by omega) (by omega), hmost, if_pos (by rw [hbound (R + 1) (by omega)]; omega)])
  obtain ⟨τ, e, ch, _, i1⟩ := hl
  obtain ⟨i2, i3⟩ := i1 (by omega)
  rw [Nat.add_sub_cancel] at i2 i3
  refine ⟨τ, ?_, ch.1, i2, i3⟩
  have e' : zit (fun (s : (Sg × Int32)) => Outlook_chooseHand_l47 s.1 (nI g) (nI n) (nI (op + tl σ g 5 * n)) s.2) zFU (zup σ0 81 6 (nI 1000000000), nI 0) = some (τ, nI (R + 1)) := e
  have x4 : zup σ0 81 6 (nI 1000000000) 81 4 = nI 56 := by rw [zup_miss (by omega)]; exact a3.2.2.2.2
  have x3 : zup σ0 81 6 (nI 1000000000) 81 3 = nI (p1 + 1) := by rw [zup_miss (by omega)]; exact a3.2.2.2.1
  have x58 : zup σ0 81 6 (nI 1000000000) 58 g = nI op := by
    have hv := (hB.1.2.2.2.1.1.1 g hg).2.1
    simp only [Nat.reduceAdd] at hv
    rw [zup_ne (by omega), a2 58 (by omega), hv, ho]
  have x10 : zup σ0 81 6 (nI 1000000000) (p1 + 10) g = nI (tl σ g 5) := by
    have hp1 := a3.1
    have := (a3.2.1.2.1 g (by rw [qm.e_nP]; exact hg)).2.2.2.1
    rw [zup_ne (by omega), this, qm.2.1.1]; exact t5
  unfold Outlook_chooseHand
  rw [a1, obs, zpt_e, zlit, x4, zmr1_e rfl, zrd_e (by omega) (by omega), x58, x3, zmr2_e rfl a3.1, zrd_e (by omega) (by omega), x10, nI_mul, nI_add, zlt_e, zlt_e, zlit, e', obs]
theorem m_best {σ σ1 : Sg} {p1 n g : Nat} (hB : Base σ p1) (hgn : Gain σ) (f : Fr 81 123 σ σ1) (hn : n ≤ 40) (hg : g < nP σ) (x3 x4 : Int32) :
    ∃ ν x, zit (fun (s : (Sg × Int32 × Int32 × Int32)) => M_best_l51 s.1 (nI g) (nI n) x3 x4 s.2.1 s.2.2.1 s.2.2.2) zFU (σ1, -nI 1, nI 1000000000, nI 0) = some (ν, nI (bst (fun h => tO (zup (quiet σ) 183 (16 + g) (nI h)) g (g + 1) n) 0 (tl σ g 4)).1, nI (bst (fun h => tO (zup (quiet σ) 183 (16 + g) (nI h)) g (g + 1) n) 0 (tl σ g 4)).2, x) ∧ MdS σ1 ν (16 + g) := by
  have hW := base_W hB hgn
  have hs := hB.1.2.2.2.2.2.2.2.1.2
  have hq := hB.2.1
  have hK := hW.1.1
  have hP8 := hK.1.2
  have qm := quiet_M σ
  have hQ := quiet_Q hW
  obtain ⟨_, k5, _, _, k4, k59, _⟩ := hK.2.2.2.2.1 g hg
  have t4 := (hK.2.2.2.1 g hg 4 (by omega)).1
  let t (h : Nat) : Nat := tO (zup (quiet σ) 183 (16 + g) (nI h)) g (g + 1) n
  have ht : ∀ h, t h ≤ 40 := fun h => by
    have h1 : t h ≤ n * (g + 1 - g) := tO_le _ _ _ n
    rw [show g + 1 - g = 1 from by omega] at h1
    omega
  have hl : Ok (zit (fun (s : (Sg × Int32 × Int32 × Int32)) => M_best_l51 s.1 (nI g) (nI n) x3 x4 s.2.1 s.2.2.1 s.2.2.2) zFU (σ1, -nI 1, nI 1000000000, nI 0)) (fun r => MdS σ1 r.1 (16 + g) ∧ r.2.1 = nI (bst t 0 (tl σ g 4)).1 ∧ r.2.2.1 = nI (bst t 0 (tl σ g 4)).2) := by
    refine zit_ok (fun j s => s.2.2.2 = nI j ∧ MdS σ1 s.1 (16 + g) ∧ (j = 0 → s.2.2.1 = nI 1000000000) ∧ (0 < j → s.2.1 = nI (bst t 0 (j - 1)).1 ∧ s.2.2.1 = nI (bst t 0 (j - 1)).2)) (tl σ g 4 + 1) ?_ ?_ zFU 0 _ (by rw [zFU_e]; omega) (by omega) ⟨rfl, MdS.refl σ1 _, fun _ => rfl, fun h => absurd h (by omega)⟩
    · rintro j ⟨ν, y4, y5, y6⟩ hj ⟨hx6, md, i0, i1⟩
      obtain rfl : y6 = _ := hx6
      have md' : MdS σ1 ν (16 + g) := md
      have md2 := md'.up (nI j)
      have hE : EqM 5000 (zup (quiet σ) 183 (16 + g) (nI j)) (quiet (zup ν 183 (16 + g) (nI j))) := md2.eqm f zup_hit
      have hQg : InvQ (zup (quiet σ) 183 (16 + g) (nI j)) := var_Q hQ (Or.inl (by omega))
      have hst : stp (zup (quiet σ) 183 (16 + g) (nI j)) = stp σ := by
        unfold stp
        rw [zup_miss (by omega), qm.2.2]
      have hq' : zup ν 183 (16 + g) (nI j) 171 26 = nI 0 := by
        rw [zup_ne (by omega), md'.1 171 (by omega) (by omega) (by omega), f 171 (by omega)]; exact hq
      obtain ⟨_, hto⟩ := m_timesOut (n := n) hQg hE hq' (by omega) (by omega)
      have hnp : nP (zup (quiet σ) 183 (16 + g) (nI j)) = nP σ := qm.e_nP
      obtain ⟨ν', c1, c2⟩ := hto g (by omega)
      have c1' : M_timesOut (zup ν 183 (16 + g) (nI j)) (nI g) (nI n) = some (nI (t j), ν') := c1
      have md3 := md2.frm c2
      have htj := ht j
      have hmost : M_toldOf ν (nI g) (nI 4) = some (nI (tl σ g 4)) := by
        rw [M_toldOf_e (by omega) (by omega), md'.1 172 (by omega) (by omega) (by omega), f 172 (by omega), t4]
      by_cases cj : j = 0
      · subst cj
        obtain rfl : y5 = nI 1000000000 := i0 rfl
        unfold M_best_l51
        simp (disch := omega) only [zlit, hmost, nI_ltf, nI_ltt, ↓reduceIte, zwr_e, c1', obs, zlt_e, nI_add]
        exact ⟨_, rfl, rfl, md3, fun h => absurd h (by omega), fun _ => ⟨rfl, rfl⟩⟩
      · obtain ⟨i2, i3⟩ := i1 (by omega)
        obtain rfl : y4 = nI (bst t 0 (j - 1)).1 := i2
        obtain rfl : y5 = nI (bst t 0 (j - 1)).2 := i3
        have hble := bst_le t 0 (B := 40) (j - 1) (fun i _ => ht _)
        have hbs := bst_succ t 0 (j - 1)
        rw [show j - 1 + 1 = j from by omega, Nat.zero_add] at hbs
        unfold M_best_l51
        by_cases cc : t j < (bst t 0 (j - 1)).2
        · rw [if_pos cc] at hbs
          simp (disch := omega) only [zlit, hmost, nI_ltf, nI_ltt, ↓reduceIte, zwr_e, c1', obs, zlt_e, nI_add]
          exact ⟨_, rfl, rfl, md3, fun h => absurd h (by omega), fun _ => by rw [show j + 1 - 1 = j from by omega, hbs]; exact ⟨rfl, rfl⟩⟩
        · rw [if_neg cc] at hbs
          simp (disch := omega) only [zlit, hmost, nI_ltf, nI_ltt, ↓reduceIte, zwr_e, c1', obs, zlt_e, nI_add]
          exact ⟨_, rfl, rfl, md3, fun h => absurd h (by omega), fun _ => by rw [show j + 1 - 1 = j from by omega, hbs]; exact ⟨rfl, rfl⟩⟩
    · rintro ⟨ν, y4, y5, y6⟩ ⟨hx6, md, _, i1⟩
      obtain rfl : y6 = _ := hx6
      have md' : MdS σ1 ν (16 + g) := md
      have hmost : M_toldOf ν (nI g) (nI 4) = some (nI (tl σ g 4)) := by
        rw [M_toldOf_e (by omega) (by omega), md'.1 172 (by omega) (by omega) (by omega), f 172 (by omega), t4]
      unfold M_best_l51
      simp (disch := omega) only [zlit, hmost, obs, nI_ltt, ↓reduceIte]
      exact ⟨_, rfl, md, i1 (by omega)⟩
  obtain ⟨⟨ν, y4, y5, y6⟩, e, md, e1, e2⟩ := hl
  have e1' : y4 = nI (bst t 0 (tl σ g 4)).1 := e1
  have e2' : y5 = nI (bst t 0 (tl σ g 4)).2 := e2
  subst e1'
  subst e2'
  exact ⟨ν, y6, e, md⟩
theorem a_best {σ : Sg} {p1 : Nat} (h : Base σ p1) (x1 x2 x3 : Int32) : Two σ (CK_best σ x1 x2 x3) (fun σ1 => M_best σ1 x1 x2 x3) := by
  have hB := h
  obtain ⟨⟨hp, hR, hK, hM⟩, hq, hG⟩ := h
  obtain ⟨hP, hP8⟩ := hK.1
  rcases isPool_c hp hR hK x1 with ⟨e1, e2⟩ | ⟨g, hg, rfl, e1, e2⟩
  · refine two_no (r := -1) ?_ ?_
    · unfold CK_best; rw [e1, bf]
    · show M_best σ x1 x2 x3 = _
      unfold M_best; rw [e2, bf]
  · have hgn := hG (Or.inl (by omega))
    rcases isIn_g1 (x := x2) (n := 40) (by omega) with ⟨c, c'⟩ | ⟨n, hn1, hn, rfl, c⟩
    · refine two_no (r := -1) ?_ ?_
      · unfold CK_best
        rw [e1, bt]
        rcases c' with c' | c'
        · rw [if_pos (show x2 < 1 from c')]
        · rw [if_pos (show 40 < x2 from c')]
          split <;> rfl
      · show M_best σ (nI g) x2 x3 = _
        unfold M_best
        rw [e2, bt, zlit, zlit, c, bf]
    · rcases isIn_gen (x := x3) (n := 1) (by omega) with ⟨d, d'⟩ | ⟨i, hi, rfl, d⟩
      · refine two_no (r := -1) ?_ ?_
        · unfold CK_best
          rw [e1, bt]
          simp (disch := omega) only [zlit, nI_ltf, ↓reduceIte]
          rcases d' with d' | d'
          · rw [if_pos (show x3 < nI 0 from d')]
          · rw [if_neg (show ¬ x3 ≤ nI 1 from Int32.not_le.mpr d')]
            split <;> rfl
        · show M_best σ (nI g) (nI n) x3 = _
          unfold M_best
          rw [e2, bt]
          simp only [zlit, c]
          rw [bt', d, bf']
      · obtain ⟨op, ho, hop⟩ := (hM.2.2.2.2.2.2.1 g hg).2.1
        obtain ⟨τ, a1, a2, a3, a4⟩ := c_best hB hgn hn hg ho hop
        obtain ⟨ν, x, b1, b2⟩ := m_best hB hgn a2 hn hg (nI i) (τ 183 (16 + g))
        have heq : bst (fun h => tO (zup (quiet σ) 183 (16 + g) (nI h)) g (g + 1) n) 0 (tl σ g 4) = bst (fun h => tO (zup (quiet σ) 183 (16 + g) (nI h)) g (g + 1) n) 0 (min (tl σ g 4) (op + tl σ g 5 * n)) := by
          rcases Nat.lt_or_ge (op + tl σ g 5 * n) (tl σ g 4) with q | q
          · rw [Nat.min_eq_right (by omega)]
            have := bst_more (fun h => tO (zup (quiet σ) 183 (16 + g) (nI h)) g (g + 1) n) 0 (op + tl σ g 5 * n) (tl σ g 4 - (op + tl σ g 5 * n)) (fun i h1 h2 => by
              show tO (zup (quiet σ) 183 (16 + g) (nI (0 + i))) g (g + 1) n = tO (zup (quiet σ) 183 (16 + g) (nI (0 + (op + tl σ g 5 * n)))) g (g + 1) n
              rw [Nat.zero_add, Nat.zero_add]
              exact tie_t hB hgn hg ho rfl hn q h1 (by omega))
            rw [show op + tl σ g 5 * n + (tl σ g 4 - (op + tl σ g 5 * n)) = tl σ g 4 from by omega] at this
            exact this
          · rw [Nat.min_eq_left q]
        rw [← heq] at a3 a4
        refine ⟨if i = 0 then nI (bst (fun h => tO (zup (quiet σ) 183 (16 + g) (nI h)) g (g + 1) n) 0 (tl σ g 4)).1 else nI (bst (fun h => tO (zup (quiet σ) 183 (16 + g) (nI h)) g (g + 1) n) 0 (tl σ g 4)).2, τ, zup ν 183 (16 + g) (τ 183 (16 + g)), ?_, a2, ?_, b2.back⟩
        · unfold CK_best
          rw [e1, bt]
          rcases (show i = 0 ∨ i = 1 by omega) with q | q <;> subst q <;> simp (disch := omega) only [zlit, nI_ltf, nI_let, nI_eqt, nI_eqf, ↓reduceIte, ptr_e hp, a1, obs, zgt_e, a3, a4]
          rfl
        · show M_best τ (nI g) (nI n) (nI i) = _
          unfold M_best M_best_j105
          rw [M_isPool_fr a2, e2, bt]
          simp only [zlit, c, d]
          rw [bt', bt']
          rcases (show i = 0 ∨ i = 1 by omega) with q | q <;> subst q <;> simp (disch := omega) only [nI_add, zrd_e, zlt_e, b1, obs, zwr_e, nI_eqt, nI_eqf, ↓reduceIte]
          rfl
