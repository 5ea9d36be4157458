/-! the gain that keeps bands best -/
def bst (t : Nat → Nat) (a : Nat) : Nat → Nat × Nat
  | 0 => (a, t a)
  | j + 1 => if t (a + (j + 1)) < (bst t a j).2 then (a + (j + 1), t (a + (j + 1))) else bst t a j
theorem bst_succ (t : Nat → Nat) (a j : Nat) : bst t a (j + 1) = if t (a + (j + 1)) < (bst t a j).2 then (a + (j + 1), t (a + (j + 1))) else bst t a j := rfl
theorem bst_le (t : Nat → Nat) (a : Nat) {B : Nat} : ∀ j, (∀ i, i ≤ j → t (a + i) ≤ B) → (bst t a j).2 ≤ B ∧ (bst t a j).1 ≤ a + j
  | 0, h => ⟨h 0 (Nat.le_refl _), Nat.le_refl _⟩
  | j + 1, h => by
    have ih := bst_le t a (B := B) j (fun i hi => h i (by omega))
    rw [bst_succ]
    split
    · exact ⟨h (j + 1) (Nat.le_refl _), Nat.le_refl _⟩
    · exact ⟨ih.1, by omega⟩
theorem bst_min (t : Nat → Nat) (a : Nat) : ∀ j i, i ≤ j → (bst t a j).2 ≤ t (a + i)
  | 0, i, h => by
    obtain rfl : i = 0 := by omega
    exact Nat.le_refl _
  | j + 1, i, h => by
    rw [bst_succ]
    by_cases e : i = j + 1
    · subst e
      split
      · exact Nat.le_refl _
      · rename_i c; exact Nat.not_lt.mp c
    · have ih := bst_min t a j i (by omega)
      split
      · rename_i c; exact Nat.le_trans (Nat.le_of_lt c) ih
      · exact ih
theorem bst_more (t : Nat → Nat) (a j : Nat) : ∀ m, (∀ i, j < i → i ≤ j + m → t (a + i) = t (a + j)) → bst t a (j + m) = bst t a j
  | 0, _ => rfl
  | m + 1, h => by
    have ih := bst_more t a j m (fun i h1 h2 => h i h1 (by omega))
    rw [show j + (m + 1) = (j + m) + 1 from rfl, bst_succ, ih, if_neg]
    rw [h (j + m + 1) (by omega) (by omega)]
    exact Nat.not_lt.mpr (bst_min t a j j (Nat.le_refl _))
theorem weigh_e {τ : Sg} {c x b : Nat} (hb : τ 81 6 = nI b) (hx : x < 2147483648) (hb2 : b < 2147483648) : Outlook_weigh τ (nI c) (nI x) = some (if x < b then zup (zup τ 81 6 (nI x)) 81 5 (nI c) else τ) := by
  unfold Outlook_weigh
  by_cases h : x < b
  · rw [if_pos h]
    simp (disch := omega) only [zgt_e, zpt_e, zlt_e, zrd_e, zwr_e, zelr_e, znz_e, zcp_e, zlit, nI_add, nI_mul, nI_sub, nI_div, ↓irem_f, irem_e, Nat.zero_add, Nat.add_zero, obs, zb_t, zb_f, nI_eqt, nI_eqf, nI_let, nI_lef, nI_ltt, nI_ltf, nI_m1, nI_n1, ↓reduceIte, zup_ne, zup_miss, zup_hit, zbo_1, zbo_0, reduceCtorEq, sel_l, sel_r, Nat.reduceAdd, Nat.reduceSub, Nat.reduceMul, hb]
  · rw [if_neg h]
    simp (disch := omega) only [zgt_e, zpt_e, zlt_e, zrd_e, zwr_e, zelr_e, znz_e, zcp_e, zlit, nI_add, nI_mul, nI_sub, nI_div, ↓irem_f, irem_e, Nat.zero_add, Nat.add_zero, obs, zb_t, zb_f, nI_eqt, nI_eqf, nI_let, nI_lef, nI_ltt, nI_ltf, nI_m1, nI_n1, ↓reduceIte, zup_ne, zup_miss, zup_hit, zbo_1, zbo_0, reduceCtorEq, sel_l, sel_r, Nat.reduceAdd, Nat.reduceSub, Nat.reduceMul, hb]
/-- the class's state between two candidates -/
def ChS (σ τ : Sg) (p1 n : Nat) : Prop := Fr 81 123 σ τ ∧ LookR τ p1 (quiet σ) (stp σ) n
theorem ChS.up81 {σ τ : Sg} {p1 n k : Nat} {v : Int32} (h : ChS σ τ p1 n) (hK : InvK σ) (hk : 5 ≤ k) : ChS σ (zup τ 81 k v) p1 n := by
  obtain ⟨f, lk⟩ := h
  have hKq := (quiet_M σ).e_InvK hK
  obtain ⟨h1, h2, h3, h4, h5⟩ := lk
  have f1 : Fr 81 81 τ (zup τ 81 k v) := (Fr.refl τ).up (by omega) (by omega)
  exact ⟨f.up (by omega) (by omega), h1, h2.fr f1 hKq.2.2.1.2 (by omega), h3.fr f1 hKq (by omega), by rw [zup_miss (by omega)]; exact h4, by rw [zup_miss (by omega)]; exact h5⟩
theorem ChS.fr {σ τ υ : Sg} {p1 n : Nat} (h : ChS σ τ p1 n) (hK : InvK σ) (f : Fr 82 98 τ υ) : ChS σ υ p1 n :=
  ⟨h.1.trans (f.wide (by omega) (by omega)), h.2.fr82 ((quiet_M σ).e_InvK hK) f⟩
theorem look_again {σ τ : Sg} {p1 n q : Nat} (hB : Base σ q) (h : ChS σ τ p1 n) : ∃ τ1, Outlook_lookAgain τ = some τ1 ∧ Fr 82 90 τ τ1 ∧ RepW τ1 82 (quiet σ) ∧ ChS σ τ1 p1 n := by
  obtain ⟨⟨hp, hR, hK, hM⟩, _⟩ := hB
  have hKq := (quiet_M σ).e_InvK hK
  obtain ⟨τ1, a1, a2, a3, a4⟩ := lookAgain_ok hKq h.2 hKq (((quiet_M σ).e_RepW hM.1).fr h.1 (by omega))
  exact ⟨τ1, a1, a2, a4, h.1.trans (a2.wide (by omega) (by omega)), a3⟩
theorem c_gain {σ : Sg} {p1 n : Nat} (hB : Base σ p1) (hg : Gain σ) (hn : n ≤ 100) (h0 : 0 < nP σ) :
    ∃ τ, Outlook_chooseGain σ p1 55 (nI n) = some τ ∧ Fr 81 123 σ τ ∧ τ 81 5 = nI (bst (fun g => tO (zup (quiet σ) 183 198 (nI g)) 0 (nP σ) n) 1 29).1 ∧ τ 81 6 = nI (bst (fun g => tO (zup (quiet σ) 183 198 (nI g)) 0 (nP σ) n) 1 29).2 := by
  have hW := base_W hB hg
  have hs := hB.1.2.2.2.2.2.2.2.1.2
  have hK := hW.1.1
  obtain ⟨hP, hP8⟩ := hK.1
  have qm := quiet_M σ
  have hQ := quiet_Q hW
  have hKq := qm.e_InvK hK
  obtain ⟨σ0, a1, a2, a3, a4⟩ := c_look hB hg (n := n) (by omega)
  let t (g : Nat) : Nat := tO (zup (quiet σ) 183 198 (nI g)) 0 (nP σ) n
  have ht : ∀ g, t g ≤ 800 := fun g => by
    have h1 : t g ≤ n * (nP σ - 0) := tO_le _ _ _ n
    have h2 : n * (nP σ - 0) ≤ 100 * 8 := Nat.mul_le_mul (by omega) (by omega)
    omega
  have hl := zit_cnt (b := fun (s : (Sg × Int32)) => Outlook_chooseGain_l16 s.1 (nI n) s.2) (fun j τ => ChS σ τ p1 n ∧ (j = 0 → τ 81 6 = nI 1000000000) ∧ (0 < j → τ 81 5 = nI (bst t 1 (j - 1)).1 ∧ τ 81 6 = nI (bst t 1 (j - 1)).2)) (fun j => nI (j + 1)) 30 (σ := zup σ0 81 6 (nI 1000000000)) (by omega)
    ⟨ChS.up81 ⟨a2, a3⟩ hK (by omega), fun _ => zup_hit, fun h => absurd h (by omega)⟩ (by
    rintro j τ hj ⟨ch, i0, i1⟩
    obtain ⟨τ1, b1, b2, b3, b4⟩ := look_again hB ch
    have hv := b3.v2 (g := nI (j + 1)) hKq
    have hQg : InvQ (zup (quiet σ) 183 198 (nI (j + 1))) := var_Q hQ (Or.inr (Or.inr ⟨rfl, j + 1, rfl, by omega, by omega⟩))
    have hf1 : Fr 82 98 τ1 (zup τ1 82 2 (nI (j + 1))) := (Fr.refl τ1).up (by omega) (by omega)
    have ch2 := b4.fr hK hf1
    have lk := ch2.2.oeq (κ' := zup (quiet σ) 183 198 (nI (j + 1))) (OEq.up (by omega)) hQ.1.1.2.1
    have hst : stp (zup (quiet σ) 183 198 (nI (j + 1))) = stp σ := by
      unfold stp
      rw [zup_miss (by omega), qm.2.2]
    have hnp : nP (zup (quiet σ) 183 198 (nI (j + 1))) = nP σ := qm.e_nP
    obtain ⟨τ2, c1, c2⟩ := c_timesOut (a := 0) (b := nP σ) (n := n) lk hQg hv hst.symm (Nat.le_refl _) (by omega) (by omega) (by omega)
    have ch3 := ch2.fr hK c2
    have e81 : τ2 81 = τ 81 := by rw [c2 81 (by omega), zup_ne (by omega), b2 81 (by omega)]
    have hz : ∀ {α : Type} (k : Nat → Option α), zmr2 3 29 (zup τ1 82 2 (nI (j + 1)) 81 3) k = k p1 := fun k => by rw [ch2.2.2.2.2.1]; exact zmr2_e rfl ch2.2.1
    have hpp : zup τ1 82 2 (nI (j + 1)) p1 3 = nI (nP σ) := by
      rw [ch2.2.2.1.1.1, qm.1.1]; exact hP
    have c1' : Outlook_timesOut (zup τ1 82 2 (nI (j + 1))) (nI 0) (nI (nP σ)) (nI n) = some (nI (t (j + 1)), τ2) := c1
    have htj := ht (j + 1)
    by_cases cj : j = 0
    · subst cj
      have hwe := weigh_e (τ := τ2) (c := 0 + 1) (x := t (0 + 1)) (b := 1000000000) (by rw [e81]; exact i0 rfl) (by omega) (by omega)
      rw [if_pos (by omega)] at hwe
      unfold Outlook_chooseGain_l16
      simp (disch := omega) only [zlit, nI_ltf, ↓reduceIte, b1, obs, zpt_e, hz, zgt_e, hpp, c1', hwe, zlt_e, nI_add]
      exact ⟨_, rfl, (ch3.up81 hK (by omega)).up81 hK (by omega), fun h => absurd h (by omega), fun _ => ⟨zup_hit, by rw [zup_miss (by omega), zup_hit]; rfl⟩⟩
    · obtain ⟨i2, i3⟩ := i1 (by omega)
      have hble := bst_le t 1 (B := 800) (j - 1) (fun i _ => ht _)
      have hwe := weigh_e (τ := τ2) (c := j + 1) (x := t (j + 1)) (b := (bst t 1 (j - 1)).2) (by rw [e81]; exact i3) (by omega) (by omega)
      have hbs := bst_succ t 1 (j - 1)
      rw [show j - 1 + 1 = j from by omega, show 1 + j = j + 1 from by omega] at hbs
      unfold Outlook_chooseGain_l16
      simp (disch := omega) only [zlit, nI_ltf, ↓reduceIte, b1, obs, zpt_e, hz, zgt_e, hpp, c1', hwe, zlt_e, nI_add]
      refine ⟨_, rfl, ?_, fun h => absurd h (by omega), fun _ => ?_⟩
      · split
        · exact (ch3.up81 hK (by omega)).up81 hK (by omega)
        · exact ch3
      · rw [show j + 1 - 1 = j from by omega, hbs]
        split
        · exact ⟨zup_hit, by rw [zup_miss (by omega), zup_hit]⟩
        · rw [e81]; exact ⟨i2, i3⟩) (by
    rintro τ _
    unfold Outlook_chooseGain_l16
    simp (disch := omega) only [zgt_e, zpt_e, zlt_e, zrd_e, zwr_e, zelr_e, znz_e, zcp_e, zlit, nI_add, nI_mul, nI_sub, nI_div, ↓irem_f, irem_e, Nat.zero_add, Nat.add_zero, obs, zb_t, zb_f, nI_eqt, nI_eqf, nI_let, nI_lef, nI_ltt, nI_ltf, nI_m1, nI_n1, ↓reduceIte, zup_ne, zup_miss, zup_hit, zbo_1, zbo_0, reduceCtorEq, sel_l, sel_r, Nat.reduceAdd, Nat.reduceSub, Nat.reduceMul])
  obtain ⟨τ, e, ch, _, i1⟩ := hl
  obtain ⟨i2, i3⟩ := i1 (by omega)
  refine ⟨τ, ?_, ch.1, i2, i3⟩
  have e' : zit (fun (s : (Sg × Int32)) => Outlook_chooseGain_l16 s.1 (nI n) s.2) zFU (zup σ0 81 6 (nI 1000000000), nI 1) = some (τ, nI (30 + 1)) := e
  unfold Outlook_chooseGain
  simp only [a1, obs, zpt_e, zlt_e, zlit, e']
/-- the reference between two candidates: one cell is another one -/
def MdS (σ ν : Sg) (k : Nat) : Prop := (∀ a, a ≠ 183 → a ≠ 184 → a < 189 ∨ 193 < a → ν a = σ a) ∧ ∀ i, i ≠ k → ν 183 i = σ 183 i
theorem MdS.refl (σ : Sg) (k : Nat) : MdS σ σ k := ⟨fun _ _ _ _ => rfl, fun _ _ => rfl⟩
theorem MdS.up {σ ν : Sg} {k : Nat} (h : MdS σ ν k) (v : Int32) : MdS σ (zup ν 183 k v) k := ⟨fun a h1 h2 h3 => by rw [zup_ne h1]; exact h.1 a h1 h2 h3, fun i hi => by rw [zup_miss hi]; exact h.2 i hi⟩
theorem MdS.frm {σ ν ν' : Sg} {k : Nat} (h : MdS σ ν k) (f : FrM ν ν') : MdS σ ν' k := ⟨fun a h1 h2 h3 => by rw [f a h2 h3]; exact h.1 a h1 h2 h3, fun i hi => by rw [f 183 (by omega) (by omega)]; exact h.2 i hi⟩
theorem MdS.back {σ ν : Sg} {k : Nat} (h : MdS σ ν k) : FrM σ (zup ν 183 k (σ 183 k)) := by
  intro a h1 h2
  by_cases c : a = 183
  · subst c
    funext i
    by_cases e : i = k
    · subst e; rw [zup_hit]
    · rw [zup_miss e]; exact h.2 i e
  · rw [zup_ne c]; exact h.1 a c h1 h2
theorem MdS.eqm {σ σ1 ν : Sg} {k : Nat} {v : Int32} (f : Fr 81 123 σ σ1) (h : MdS σ1 ν k) (hv : ν 183 k = v) : EqM 5000 (zup (quiet σ) 183 k v) (quiet ν) := by
  obtain ⟨e1, e2, e3⟩ := quiet_E (σ := σ)
  obtain ⟨d1, d2, d3⟩ := quiet_E (σ := ν)
  have r : ∀ a, a ≠ 183 → a ≠ 184 → a < 81 ∨ (123 < a ∧ a < 189) → ν a = σ a := fun a q1 q2 q3 => by rw [h.1 a q1 q2 (by omega), f a (by omega)]
  refine ⟨⟨?_, ?_, ?_, ?_⟩, ⟨?_, ?_, ?_⟩, fun i _ => ?_⟩
  · rw [zup_ne (by omega), e1.1, d1.1, r 171 (by omega) (by omega) (by omega)]
  · rw [zup_ne (by omega), e1.2.1, d1.2.1, r 171 (by omega) (by omega) (by omega)]
  · rw [zup_ne (by omega), e1.2.2, d1.2.2, r 171 (by omega) (by omega) (by omega)]
  · rw [zup_ne (by omega), e2, d2]
  · rw [zup_ne (by omega), e3 _ (by omega), d3 _ (by omega), r _ (by omega) (by omega) (by omega)]
  · rw [zup_ne (by omega), e3 _ (by omega), d3 _ (by omega), r _ (by omega) (by omega) (by omega)]
  · rw [zup_ne (by omega), e3 _ (by omega), d3 _ (by omega), r _ (by omega) (by omega) (by omega)]
  · rw [d3 _ (by omega)]
    by_cases c : i = k
    · subst c; rw [zup_hit, hv]
    · rw [zup_miss c, e3 _ (by omega), h.2 i c, f 183 (by omega)]
theorem m_gain {σ σ1 : Sg} {p1 n : Nat} (hB : Base σ p1) (hg : Gain σ) (f : Fr 81 123 σ σ1) (hn : n ≤ 100) (h0 : 0 < nP σ) (x2 x3 : Int32) :
    ∃ ν x, zit (fun (s : (Sg × Int32 × Int32 × Int32)) => M_gain_l48 s.1 (nI n) x2 x3 s.2.1 s.2.2.1 s.2.2.2) zFU (σ1, -nI 1, nI 1000000000, nI 1) = some (ν, nI (bst (fun g => tO (zup (quiet σ) 183 198 (nI g)) 0 (nP σ) n) 1 29).1, nI (bst (fun g => tO (zup (quiet σ) 183 198 (nI g)) 0 (nP σ) n) 1 29).2, x) ∧ MdS σ1 ν 198 := by
  have hW := base_W hB hg
  have hs := hB.1.2.2.2.2.2.2.2.1.2
  have hq := hB.2.1
  have hK := hW.1.1
  have hP8 := hK.1.2
  have qm := quiet_M σ
  have hQ := quiet_Q hW
  have em : (-1 : Int32) = -nI 1 := rfl
  let t (g : Nat) : Nat := tO (zup (quiet σ) 183 198 (nI g)) 0 (nP σ) n
  have ht : ∀ g, t g ≤ 800 := fun g => by
    have h1 : t g ≤ n * (nP σ - 0) := tO_le _ _ _ n
    have h2 : n * (nP σ - 0) ≤ 100 * 8 := Nat.mul_le_mul (by omega) (by omega)
    omega
  have hl : Ok (zit (fun (s : (Sg × Int32 × Int32 × Int32)) => M_gain_l48 s.1 (nI n) x2 x3 s.2.1 s.2.2.1 s.2.2.2) zFU (σ1, -nI 1, nI 1000000000, nI 1)) (fun r => MdS σ1 r.1 198 ∧ r.2.1 = nI (bst t 1 29).1 ∧ r.2.2.1 = nI (bst t 1 29).2) := by
    refine zit_ok (fun j s => s.2.2.2 = nI (j + 1) ∧ MdS σ1 s.1 198 ∧ (j = 0 → s.2.2.1 = nI 1000000000) ∧ (0 < j → s.2.1 = nI (bst t 1 (j - 1)).1 ∧ s.2.2.1 = nI (bst t 1 (j - 1)).2)) 30 ?_ ?_ zFU 0 _ (by rw [zFU_e]; omega) (by omega) ⟨rfl, MdS.refl σ1 198, fun _ => rfl, fun h => absurd h (by omega)⟩
    · rintro j ⟨ν, x4, x5, x6⟩ hj ⟨hx6, md, i0, i1⟩
      obtain rfl : x6 = _ := hx6
      have md' : MdS σ1 ν 198 := md
      have md2 := md'.up (nI (j + 1))
      have hE : EqM 5000 (zup (quiet σ) 183 198 (nI (j + 1))) (quiet (zup ν 183 198 (nI (j + 1)))) := md2.eqm f zup_hit
      have hQg : InvQ (zup (quiet σ) 183 198 (nI (j + 1))) := var_Q hQ (Or.inr (Or.inr ⟨rfl, j + 1, rfl, by omega, by omega⟩))
      have hst : stp (zup (quiet σ) 183 198 (nI (j + 1))) = stp σ := by
        unfold stp
        rw [zup_miss (by omega), qm.2.2]
      have hq' : zup ν 183 198 (nI (j + 1)) 171 26 = nI 0 := by
        rw [zup_ne (by omega), md'.1 171 (by omega) (by omega) (by omega), f 171 (by omega)]; exact hq
      obtain ⟨⟨ν', c1, c2⟩, _⟩ := m_timesOut (n := n) hQg hE hq' (by omega) (by omega)
      have hnp : nP (zup (quiet σ) 183 198 (nI (j + 1))) = nP σ := qm.e_nP
      rw [hnp] at c1
      have c1' : M_timesOut (zup ν 183 198 (nI (j + 1))) (-nI 1) (nI n) = some (nI (t (j + 1)), ν') := c1
      have md3 := md2.frm c2
      have htj := ht (j + 1)
      by_cases cj : j = 0
      · subst cj
        obtain rfl : x5 = nI 1000000000 := i0 rfl
        unfold M_gain_l48
        simp (disch := omega) only [zlit, nI_ltf, nI_ltt, ↓reduceIte, zwr_e, c1', obs, zlt_e, nI_add]
        exact ⟨_, rfl, rfl, md3, fun h => absurd h (by omega), fun _ => ⟨rfl, rfl⟩⟩
      · obtain ⟨i2, i3⟩ := i1 (by omega)
        obtain rfl : x4 = nI (bst t 1 (j - 1)).1 := i2
        obtain rfl : x5 = nI (bst t 1 (j - 1)).2 := i3
        have hble := bst_le t 1 (B := 800) (j - 1) (fun i _ => ht _)
        have hbs := bst_succ t 1 (j - 1)
        rw [show j - 1 + 1 = j from by omega, show 1 + j = j + 1 from by omega] at hbs
        unfold M_gain_l48
        by_cases cc : t (j + 1) < (bst t 1 (j - 1)).2
        · rw [if_pos cc] at hbs
          simp (disch := omega) only [zlit, nI_ltf, nI_ltt, ↓reduceIte, zwr_e, c1', obs, zlt_e, nI_add]
          exact ⟨_, rfl, rfl, md3, fun h => absurd h (by omega), fun _ => by rw [show j + 1 - 1 = j from by omega, hbs]; exact ⟨rfl, rfl⟩⟩
        · rw [if_neg cc] at hbs
          simp (disch := omega) only [zlit, nI_ltf, nI_ltt, ↓reduceIte, zwr_e, c1', obs, zlt_e, nI_add]
          exact ⟨_, rfl, rfl, md3, fun h => absurd h (by omega), fun _ => by rw [show j + 1 - 1 = j from by omega, hbs]; exact ⟨rfl, rfl⟩⟩
    · rintro ⟨ν, x4, x5, x6⟩ ⟨hx6, md, _, i1⟩
      obtain rfl : x6 = _ := hx6
      unfold M_gain_l48
      simp (disch := omega) only [zgt_e, zpt_e, zlt_e, zrd_e, zwr_e, zelr_e, znz_e, zcp_e, zlit, nI_add, nI_mul, nI_sub, nI_div, ↓irem_f, irem_e, Nat.zero_add, Nat.add_zero, obs, zb_t, zb_f, nI_eqt, nI_eqf, nI_let, nI_lef, nI_ltt, nI_ltf, nI_m1, nI_n1, ↓reduceIte, zup_ne, zup_miss, zup_hit, zbo_1, zbo_0, reduceCtorEq, sel_l, sel_r, Nat.reduceAdd, Nat.reduceSub, Nat.reduceMul]
      exact ⟨_, rfl, md, i1 (by omega)⟩
  obtain ⟨⟨ν, x4, x5, x6⟩, e, md, e1, e2⟩ := hl
  have e1' : x4 = nI (bst t 1 29).1 := e1
  have e2' : x5 = nI (bst t 1 29).2 := e2
  subst e1'
  subst e2'
  exact ⟨ν, x6, e, md⟩
theorem a_gain {σ : Sg} {p1 : Nat} (h : Base σ p1) (x1 x2 : Int32) : Two σ (CK_gain σ x1 x2) (fun σ1 => M_gain σ1 x1 x2) := by
  have hB := h
  obtain ⟨⟨hp, hR, hK, hM⟩, hq, hG⟩ := h
  obtain ⟨hP, hP8⟩ := hK.1
  have e3 : σ p1 3 = nI (nP σ) := hR.1.1.trans hP
  by_cases c0 : nP σ = 0
  · refine two_no (r := -1) ?_ ?_
    · unfold CK_gain
      rw [ptr_e hp, zgt_e, e3, c0, if_pos (show nI 0 = 0 from rfl)]
    · show M_gain σ x1 x2 = _
      unfold M_gain
      rw [zgt_e, hP, c0, if_pos (show nI 0 = 0 from rfl)]
  · have hg := hG (Or.inl (by omega))
    have n0 : ¬ nI (nP σ) = nI 0 := fun q => c0 ((nI_eq (by omega) (by omega)).mp q)
    rcases isIn_g1 (x := x1) (n := 100) (by omega) with ⟨c, c'⟩ | ⟨n, hn1, hn, rfl, c⟩
    · refine two_no (r := -1) ?_ ?_
      · unfold CK_gain
        rw [ptr_e hp, zgt_e, e3, if_neg (show ¬ nI (nP σ) = 0 from n0)]
        rcases c' with c' | c'
        · rw [if_pos (show x1 < 1 from c')]
        · rw [if_pos (show 100 < x1 from c')]
          split <;> rfl
      · show M_gain σ x1 x2 = _
        unfold M_gain
        rw [zgt_e, hP, if_neg (show ¬ nI (nP σ) = 0 from n0), zlit, zlit, c, bf]
    · rcases isIn_gen (x := x2) (n := 1) (by omega) with ⟨d, d'⟩ | ⟨i, hi, rfl, d⟩
      · refine two_no (r := -1) ?_ ?_
        · unfold CK_gain
          rw [ptr_e hp, zgt_e, e3, if_neg (show ¬ nI (nP σ) = 0 from n0)]
          simp (disch := omega) only [zlit, nI_ltf, ↓reduceIte]
          rcases d' with d' | d'
          · rw [if_pos (show x2 < nI 0 from d')]
          · rw [if_neg (show ¬ x2 ≤ nI 1 from Int32.not_le.mpr d')]
            split <;> rfl
        · show M_gain σ (nI n) x2 = _
          unfold M_gain
          rw [zgt_e, hP, if_neg (show ¬ nI (nP σ) = 0 from n0)]
          simp only [zlit, c]
          rw [bt', d, bf']
      · obtain ⟨τ, a1, a2, a3, a4⟩ := c_gain hB hg hn (by omega)
        obtain ⟨ν, x, b1, b2⟩ := m_gain hB hg a2 hn (by omega) (nI i) (τ 183 198)
        refine ⟨if i = 0 then nI (bst (fun g => tO (zup (quiet σ) 183 198 (nI g)) 0 (nP σ) n) 1 29).1 else nI (bst (fun g => tO (zup (quiet σ) 183 198 (nI g)) 0 (nP σ) n) 1 29).2, τ, zup ν 183 198 (τ 183 198), ?_, a2, ?_, b2.back⟩
        · unfold CK_gain
          rw [ptr_e hp, zgt_e, e3, if_neg (show ¬ nI (nP σ) = 0 from n0)]
          rcases (show i = 0 ∨ i = 1 by omega) with q | q <;> subst q <;> simp (disch := omega) only [zlit, nI_ltf, nI_let, nI_eqt, nI_eqf, ↓reduceIte, ptr_e hp, a1, obs, zgt_e, a3, a4]
          rfl
        · show M_gain τ (nI n) (nI i) = _
          have hPt : τ 171 0 = nI (nP σ) := by rw [a2 171 (by omega)]; exact hP
          unfold M_gain M_gain_j97
          rw [zgt_e, hPt, if_neg (show ¬ nI (nP σ) = 0 from n0)]
          simp only [zlit, c, d]
          rw [bt', bt']
          rcases (show i = 0 ∨ i = 1 by omega) with q | q <;> subst q <;> simp (disch := omega) only [zrd_e, zlt_e, b1, obs, zwr_e, nI_eqt, nI_eqf, ↓reduceIte]
          rfl
