theorem m_shortIn2 {ν κ : Sg} {n : Nat} (hκ : InvQ κ) (hE : EqM 5000 κ (quiet ν)) (hq : ν 171 26 = nI 0) (hs : stp κ ≤ 9999) (hn : n ≤ 200) : ∃ ν', M_shortIn ν (-nI 1) (nI n) = some (shA (qrun κ n) - shA κ, ν') ∧ FrM ν ν' := by
  obtain ⟨μ, a1, a2, a3, a4, a5, a6, a7⟩ := m_ahead2 hκ hE hq hs
  obtain ⟨b8, b9, ν', b10, b11⟩ := a7 n hn
  have he : okE 5000 := by unfold okE; omega
  have hO10 := hκ.1.1.1.2.1.2
  have em : (-1 : Int32) = -nI 1 := rfl
  have qi := (qrun_inv hκ n (by omega)).2.2.1
  have hKn : InvK (qrun μ n) := (qrun_inv a2 n (by omega)).1.1.1.1
  have e0 : shA μ = shA κ := a6.e_shA he hO10
  have e1 : shA (qrun μ n) = shA (qrun κ n) := b9.e_shA he (by rw [qi.e_nO]; exact hO10)
  have s1 : M_shortOf μ (-nI 1) = some (shA κ) := by
    unfold M_shortOf
    rw [em, if_pos rfl, M_shortOfAll_e a2.1.1.1, obs, ← e0]
    rfl
  have s2 : M_shortOf (qrun μ n) (-nI 1) = some (shA (qrun κ n)) := by
    unfold M_shortOf
    rw [em, if_pos rfl, M_shortOfAll_e hKn, obs, ← e1]
    rfl
  refine ⟨ν', ?_, b11⟩
  unfold M_shortIn
  simp only [a1, obs, s1, zlt_e, b8, s2, b10]
def LsG (κ : Nat → Sg) (n B : Nat) (r : Int32) : Prop := (∃ g, g ≤ 999 ∧ r = nI g ∧ sN (κ g) n ≤ B ∧ ∀ g', g' < g → B < sN (κ g') n) ∨ (r = -1 ∧ ∀ g, g ≤ 999 → B < sN (κ g) n)
theorem LsG.uniq {κ : Nat → Sg} {n B : Nat} {r r' : Int32} (h : LsG κ n B r) (h' : LsG κ n B r') : r = r' := by
  rcases h with ⟨g, g1, rfl, g2, g3⟩ | ⟨rfl, g3⟩
  · rcases h' with ⟨m, m1, rfl, m2, m3⟩ | ⟨_, m3⟩
    · rcases Nat.lt_trichotomy g m with c | c | c
      · have := m3 g c; omega
      · rw [c]
      · have := g3 m c; omega
    · have := m3 g g1; omega
  · rcases h' with ⟨m, m1, rfl, m2, m3⟩ | ⟨rfl, m3⟩
    · have := g3 m m1; omega
    · rfl
theorem var_R {σ : Sg} {g : Nat} (hK : InvK σ) (hR : InvR σ) (hz : Zr σ) (hg : g ≤ 999) : InvR (zup (quiet σ) 183 197 (nI g)) ∧ Zr (zup (quiet σ) 183 197 (nI g)) := by
  have qm := quiet_M σ
  have hP8 := hK.1.2
  have hO10 := hK.2.1.2
  have e1 : nP (zup (quiet σ) 183 197 (nI g)) = nP σ := qm.e_nP
  have e2 : nO (zup (quiet σ) 183 197 (nI g)) = nO σ := qm.e_nO
  have e3 : tl (zup (quiet σ) 183 197 (nI g)) = tl σ := qm.e_tl
  have e4 : stp (zup (quiet σ) 183 197 (nI g)) = stp σ := by unfold stp; rw [zup_miss (by omega), qm.2.2]
  have c : ∀ i, i ≠ 197 → zup (quiet σ) 183 197 (nI g) 183 i = σ 183 i := fun i hi => by rw [zup_miss hi, qm.2.2]
  obtain ⟨r1, r2, r3⟩ := hR
  refine ⟨⟨fun p hp => ?_, ⟨g, zup_hit, hg⟩, fun o ho => ?_⟩, fun p hp k hk hk2 => ?_⟩
  · rw [e1] at hp
    obtain ⟨x1, x2, x3, x4, x5⟩ := r1 p hp
    rw [e3, c _ (by omega), c _ (by omega), c _ (by omega), c _ (by omega)]
    exact ⟨x1, x2, x3, x4, fun k hk => by rw [c _ (by omega)]; exact x5 k hk⟩
  · rw [e2] at ho
    rw [e4, c _ (by omega)]
    exact r3 o ho
  · rw [e1] at hp
    rw [e3] at hk
    rw [c _ (by omega)]
    exact hz p hp k hk hk2
theorem wet_tail {σ : Sg} {p1 g g' m B : Nat} (hB : Base σ p1) (hgn : Gain σ) (hz : Zr σ) (h0 : 0 < nP σ) (hm : m ≤ 200) (hg' : g' ≤ 999) (hgg : g ≤ g') (hbad : B < sN (zup (quiet σ) 183 197 (nI g)) m) (hw : ∀ k, k < m → ¬ dry (zup (quiet σ) 183 197 (nI g)) k) : B < sN (zup (quiet σ) 183 197 (nI g')) m := by
  have hW := base_W hB hgn
  have hs := hB.1.2.2.2.2.2.2.2.1.2
  have hR := hB.1.2.2.2.2.2.2.2.2.2
  have hK := hW.1.1
  have qm := quiet_M σ
  have hQ := quiet_Q hW
  have hQ1 : InvQ (zup (quiet σ) 183 197 (nI g)) := var_Q hQ (Or.inr (Or.inl rfl))
  have hQ2 : InvQ (zup (quiet σ) 183 197 (nI g')) := var_Q hQ (Or.inr (Or.inl rfl))
  obtain ⟨R1, Z1⟩ := var_R hK hR hz (g := g) (by omega)
  have hst : stp (zup (quiet σ) 183 197 (nI g)) = stp σ := by unfold stp; rw [zup_miss (by omega), qm.2.2]
  have hst2 : stp (zup (quiet σ) 183 197 (nI g')) = stp σ := by unfold stp; rw [zup_miss (by omega), qm.2.2]
  have hnp : nP (zup (quiet σ) 183 197 (nI g)) = nP σ := qm.e_nP
  have he : okE 197 := by unfold okE; omega
  have key : ∀ k, k ≤ m → EqM 197 (qrun (zup (quiet σ) 183 197 (nI g)) k) (qrun (zup (quiet σ) 183 197 (nI g')) k) := by
    intro k
    induction k with
    | zero =>
      intro _
      show EqM 197 (zup (quiet σ) 183 197 (nI g)) (zup (quiet σ) 183 197 (nI g'))
      refine ⟨⟨?_, ?_, ?_, ?_⟩, ⟨?_, ?_, ?_⟩, fun i hi => ?_⟩ <;> first | (rw [zup_ne (by omega), zup_ne (by omega)]) | (rw [zup_miss hi, zup_miss hi])
    | succ k ih =>
      intro hk
      have ih1 := ih (by omega)
      obtain ⟨q1, _, sb, _⟩ := qrun_inv hQ1 k (by omega)
      have h8 := q1.1.1.1.1.2
      have sb2 := (qrun_inv hQ2 k (by omega)).2.2.1
      refine ih1.e_qst he q1 (fun _ => ?_) (fun p hp q => by omega)
      rw [show qrun (zup (quiet σ) 183 197 (nI g')) k 183 197 = nI g' from by rw [sb2.2 _ (by omega), zup_hit]]
      exact wet_pas hQ1 R1 Z1 (by omega) (by rw [hnp]; exact h0) (hw k (by omega)) zup_hit (by omega) hgg hg'
  have hO10 := (qrun_inv hQ1 m (by omega)).1.1.1.1.2.1.2
  have e := (key m (Nat.le_refl m)).e_shA he hO10
  unfold sN at hbad ⊢
  rw [e]
  exact hbad
theorem c_least {σ : Sg} {p1 n B : Nat} (hB : Base σ p1) (hgn : Gain σ) (hz : Zr σ) (h0 : 0 < nP σ) (hn : n ≤ 60) (hn1 : 1 ≤ n) (hS : shA σ = nI B) (hB9 : B ≤ 20000000) :
    ∃ r τ, Outlook_leastGives σ p1 55 (nI n) = some (r, τ) ∧ Fr 81 123 σ τ ∧ LsG (fun g => zup (quiet σ) 183 197 (nI g)) n B r := by
  have hW := base_W hB hgn
  have hs := hB.1.2.2.2.2.2.2.2.1.2
  have hR := hB.1.2.2.2.2.2.2.2.2.2
  have hK := hW.1.1
  have qm := quiet_M σ
  have hQ := quiet_Q hW
  have hKq := qm.e_InvK hK
  obtain ⟨σ0, a1, a2, a3, a4⟩ := c_look hB hgn (n := n) (by omega)
  have h64 : σ 64 6 = nI B := by
    have := hB.1.2.2.2.1.1.2.2.2.1
    simp only [Nat.reduceAdd] at this
    rw [this]; exact hS
  have key : ∀ (f g : Nat) (τ : Sg) (fl : Bool), 1000 < f + g → g ≤ 1000 → ChS σ τ p1 n → τ 81 7 = zb fl → (∀ g', g' < g → B < sN (zup (quiet σ) 183 197 (nI g')) n) → (fl = false → ∀ g', g' ≤ 999 → B < sN (zup (quiet σ) 183 197 (nI g')) n) →
      ∃ o, zit (fun (s : (Sg × Int32)) => Outlook_leastGives_l15 s.1 (nI n) s.2) f (τ, nI g) = some o ∧
      ((∃ r τ', o = .inl (r, τ') ∧ Fr 81 123 σ τ' ∧ LsG (fun g => zup (quiet σ) 183 197 (nI g)) n B r) ∨ (∃ τ' x, o = .inr (τ', x) ∧ Fr 81 123 σ τ' ∧ LsG (fun g => zup (quiet σ) 183 197 (nI g)) n B (-1))) := by
    intro f
    induction f with
    | zero => intro g τ fl h1 h2; omega
    | succ f ih =>
      intro g τ fl h1 h2 ch k7 no wet
      unfold zit
      rcases Nat.lt_or_ge g 1000 with hg | hg
      · cases hfl : fl with
        | false =>
          subst hfl
          have hbody : Outlook_leastGives_l15 τ (nI n) (nI g) = some (.inr (.inr (τ, nI g))) := by
            unfold Outlook_leastGives_l15
            rw [zlit, if_neg (nI_nlt (by omega) (by omega)), zgt_e, k7, if_pos (show zb false = 0 from rfl)]
          rw [hbody]
          exact ⟨_, rfl, Or.inr ⟨τ, nI g, rfl, ch.1, Or.inr ⟨rfl, wet rfl⟩⟩⟩
        | true =>
          subst hfl
          obtain ⟨τ1, b1, b2, b3, b4⟩ := look_again hB ch
          have hv := b3.v1 (g := nI g) hKq
          have hQg : InvQ (zup (quiet σ) 183 197 (nI g)) := var_Q hQ (Or.inr (Or.inl rfl))
          obtain ⟨R1, Z1⟩ := var_R hK hR hz (g := g) (by omega)
          have hf1 : Fr 82 98 τ1 (zup τ1 82 1 (nI g)) := (Fr.refl τ1).up (by omega) (by omega)
          have ch2 := b4.fr hK hf1
          have lk := ch2.2.oeq (κ' := zup (quiet σ) 183 197 (nI g)) (OEq.up (by omega)) hQ.1.1.2.1
          have hst : stp (zup (quiet σ) 183 197 (nI g)) = stp σ := by unfold stp; rw [zup_miss (by omega), qm.2.2]
          have hnp : nP (zup (quiet σ) 183 197 (nI g)) = nP σ := qm.e_nP
          obtain ⟨τ2, b, fl', c1, c2, c3, c4, c5⟩ := staysWithin_ok (n := n) (B := B) lk hQg R1 Z1 hv hst.symm (Nat.le_refl _) (by omega) (by omega) hB9 hn1
          have x4 : zup τ1 82 1 (nI g) 81 4 = nI 56 := ch2.2.2.2.2.2
          have x64 : zup τ1 82 1 (nI g) 64 6 = nI B := by
            rw [zup_ne (by omega), b2 64 (by omega), ch.1 64 (by omega)]; exact h64
          have ch3 : ChS σ τ2 p1 n := by
            have f2 : Fr 81 98 (zup τ1 82 1 (nI g)) τ2 := c2.1
            obtain ⟨l1, l2, l3, l4, l5⟩ := ch2.2
            exact ⟨ch2.1.trans (f2.wide (by omega) (by omega)), l1, l2.fr f2 hKq.2.2.1.2 (by omega), l3.fr f2 hKq (by omega), by rw [c2.2 3 (by omega)]; exact l4, by rw [c2.2 4 (by omega)]; exact l5⟩
          have hbody : Outlook_leastGives_l15 τ (nI n) (nI g) = if b = true then some (.inr (.inl (nI g, τ2))) else some (.inl (τ2, nI (g + 1))) := by
            unfold Outlook_leastGives_l15
            rw [zlit, if_neg (nI_nlt (by omega) (by omega)), zgt_e, k7, if_neg (show ¬ zb true = 0 by decide), b1, obs, zpt_e, x4, zmr1_e rfl, zlit, zrd_e (by omega) (by omega), x64, c1, obs]
            cases b
            · rw [if_pos (show zb false = 0 from rfl), if_neg (by decide), zlt_e, zlit, nI_add]
            · rw [if_neg (show ¬ zb true = 0 by decide), if_pos rfl]
          rw [hbody]
          cases hb : b with
          | true =>
            subst hb
            rw [if_pos rfl]
            refine ⟨_, rfl, Or.inl ⟨nI g, τ2, rfl, ch3.1, Or.inl ⟨g, by omega, rfl, of_decide_eq_true c4.symm, no⟩⟩⟩
          | false =>
            subst hb
            rw [if_neg (by decide)]
            have hbad : B < sN (zup (quiet σ) 183 197 (nI g)) n := by
              have := of_decide_eq_false c4.symm
              omega
            have hno : ∀ g', g' < g + 1 → B < sN (zup (quiet σ) 183 197 (nI g')) n := by
              intro g' hg'
              by_cases cg : g' = g
              · subst cg; exact hbad
              · exact no g' (by omega)
            refine ih (g + 1) τ2 fl' (by omega) (by omega) ch3 c3 hno (fun hf g' hg' => ?_)
            rcases Nat.lt_or_ge g' g with cg | cg
            · exact no g' cg
            · obtain ⟨m, m1, m2, m3, m4⟩ := c5 rfl hf
              have ht := wet_tail hB hgn hz h0 (by omega) hg' cg m3 m4
              have hQg' : InvQ (zup (quiet σ) 183 197 (nI g')) := var_Q hQ (Or.inr (Or.inl rfl))
              obtain ⟨R2, Z2⟩ := var_R hK hR hz (g := g') (by omega)
              have hst' : stp (zup (quiet σ) 183 197 (nI g')) = stp σ := by unfold stp; rw [zup_miss (by omega), qm.2.2]
              have hmo := sN_mono hQg' R2 Z2 (a := m) (n - m) (by omega)
              rw [show m + (n - m) = n from by omega] at hmo
              omega
      · have : g = 1000 := by omega
        subst this
        have hbody : Outlook_leastGives_l15 τ (nI n) (nI 1000) = some (.inr (.inr (τ, nI 1000))) := by
          unfold Outlook_leastGives_l15
          rw [zlit, if_pos (nI_lt (by omega) (by omega))]
        refine ⟨.inr (τ, nI 1000), ?_, Or.inr ⟨τ, nI 1000, rfl, ch.1, Or.inr ⟨rfl, fun g' hg' => no g' (by omega)⟩⟩⟩
        show (Outlook_leastGives_l15 τ (nI n) (nI 1000)).bind _ = _
        rw [hbody]
        rfl
  obtain ⟨o, e, ho⟩ := key zFU 0 (zup σ0 81 7 (zb true)) true (by rw [zFU_e]; omega) (by omega) (ChS.up81 ⟨a2, a3⟩ hK (by omega)) zup_hit (fun g' h => by omega) (fun h => by cases h)
  have run : Outlook_leastGives σ p1 55 (nI n) = o.elim (fun r => some r) (fun r => some ((-1), r.1)) := by
    unfold Outlook_leastGives
    rw [a1, obs, show (1 : Int32) = zb true from rfl, zb_ok, zpt_e, zlt_e, zlit, e, obs]
  rcases ho with ⟨r, τ', rfl, h1, h2⟩ | ⟨τ', x, rfl, h1, h2⟩
  · exact ⟨r, τ', run, h1, h2⟩
  · exact ⟨-1, τ', run, h1, h2⟩
theorem m_least {σ σ1 : Sg} {p1 n B : Nat} (hB : Base σ p1) (hgn : Gain σ) (hz : Zr σ) (f : Fr 81 123 σ σ1) (hn : n ≤ 60) (hn1 : 1 ≤ n) (hS : shA σ = nI B) (hB9 : B ≤ 20000000) (x2 : Int32) :
    ∃ r ν x, zit (fun (s : (Sg × Int32 × Int32)) => M_least_l33 s.1 (nI n) x2 s.2.1 s.2.2) zFU (σ1, -nI 1, nI 0) = some (ν, r, x) ∧ MdS σ1 ν 197 ∧ LsG (fun g => zup (quiet σ) 183 197 (nI g)) n B r := by
  have hW := base_W hB hgn
  have hs := hB.1.2.2.2.2.2.2.2.1.2
  have hR := hB.1.2.2.2.2.2.2.2.2.2
  have hq := hB.2.1
  have hK := hW.1.1
  have hO10 := hK.2.1.2
  have qm := quiet_M σ
  have hQ := quiet_Q hW
  have em : (-1 : Int32) = -nI 1 := rfl
  have key : ∀ (fu g : Nat) (ν : Sg), 1001 < fu + g → g ≤ 1000 → MdS σ1 ν 197 → (∀ g', g' < g → B < sN (zup (quiet σ) 183 197 (nI g')) n) →
      ∃ r ν' x, zit (fun (s : (Sg × Int32 × Int32)) => M_least_l33 s.1 (nI n) x2 s.2.1 s.2.2) fu (ν, -nI 1, nI g) = some (ν', r, x) ∧ MdS σ1 ν' 197 ∧ LsG (fun g => zup (quiet σ) 183 197 (nI g)) n B r := by
    intro fu
    induction fu with
    | zero => intro g ν h1 h2; omega
    | succ fu ih =>
      intro g ν h1 h2 md no
      unfold zit
      rcases Nat.lt_or_ge g 1000 with hg | hg
      · have md2 := md.up (nI g)
        have hE : EqM 5000 (zup (quiet σ) 183 197 (nI g)) (quiet (zup ν 183 197 (nI g))) := md2.eqm f zup_hit
        have hQg : InvQ (zup (quiet σ) 183 197 (nI g)) := var_Q hQ (Or.inr (Or.inl rfl))
        obtain ⟨R1, Z1⟩ := var_R hK hR hz (g := g) (by omega)
        have hst : stp (zup (quiet σ) 183 197 (nI g)) = stp σ := by unfold stp; rw [zup_miss (by omega), qm.2.2]
        have hq' : zup ν 183 197 (nI g) 171 26 = nI 0 := by
          rw [zup_ne (by omega), md.1 171 (by omega) (by omega) (by omega), f 171 (by omega)]; exact hq
        obtain ⟨ν', c1, c2⟩ := m_shortIn2 (n := n) hQg hE hq' (by omega) (by omega)
        have md3 := md2.frm c2
        have hsh0 : shA (zup (quiet σ) 183 197 (nI g)) = nI B := by
          rw [← hS]
          unfold shA
          rw [show nO (zup (quiet σ) 183 197 (nI g)) = nO σ from qm.e_nO]
          exact sm_congr (fun o ho => by rw [zup_miss (by omega), qm.2.2])
        have hs0 : sN (zup (quiet σ) 183 197 (nI g)) 0 = B := by
          unfold sN
          show (shA (zup (quiet σ) 183 197 (nI g))).toNatClampNeg = B
          rw [hsh0, nI_clamp (by omega)]
        have hmo := sN_mono hQg R1 Z1 (a := 0) n (by omega)
        rw [Nat.zero_add, hs0] at hmo
        have hsn := sN_step hQg R1 Z1 (n := n) (by omega)
        have hval : shA (qrun (zup (quiet σ) 183 197 (nI g)) n) - shA (zup (quiet σ) 183 197 (nI g)) = nI (sN (zup (quiet σ) 183 197 (nI g)) n - B) := by
          rw [hsn.1, hsh0, nI_sub hmo]
        rw [hval] at c1
        have hbody : M_least_l33 ν (nI n) x2 (-nI 1) (nI g) = if sN (zup (quiet σ) 183 197 (nI g)) n = B then some (.inl (ν', nI g, nI (g + 1))) else some (.inl (ν', -nI 1, nI (g + 1))) := by
          unfold M_least_l33
          rw [zlit, if_neg (nI_nlt (by omega) (by omega)), em, if_pos rfl, zlit, zwr_e (by omega) (by omega), c1, obs]
          by_cases c : sN (zup (quiet σ) 183 197 (nI g)) n = B
          · rw [if_pos c, if_pos (by rw [c, Nat.sub_self]; rfl), zlt_e, zlit, nI_add]
          · rw [if_neg c, if_neg (show ¬ nI (sN (zup (quiet σ) 183 197 (nI g)) n - B) = 0 from nI_ne0 (by omega) (by omega)), zlt_e, zlit, nI_add]
        show ∃ r ν' x, (M_least_l33 ν (nI n) x2 (-nI 1) (nI g)).bind _ = _ ∧ _
        rw [hbody]
        by_cases c : sN (zup (quiet σ) 183 197 (nI g)) n = B
        · rw [if_pos c]
          obtain ⟨fu', rfl⟩ : ∃ fu', fu = fu' + 1 := ⟨fu - 1, by omega⟩
          refine ⟨nI g, ν', nI (g + 1), ?_, md3, Or.inl ⟨g, by omega, rfl, Nat.le_of_eq c, no⟩⟩
          have hb2 : M_least_l33 ν' (nI n) x2 (nI g) (nI (g + 1)) = some (.inr (ν', nI g, nI (g + 1))) := by
            unfold M_least_l33
            rw [em, if_neg (show ¬ nI g = -nI 1 from fun q => (nI_n1 (a := g) (by omega) ▸ q : False))]
            split <;> rfl
          rw [obs]
          show zit (fun (s : (Sg × Int32 × Int32)) => M_least_l33 s.1 (nI n) x2 s.2.1 s.2.2) (fu' + 1) (ν', nI g, nI (g + 1)) = _
          unfold zit
          show (M_least_l33 ν' (nI n) x2 (nI g) (nI (g + 1))).bind _ = _
          rw [hb2]
          rfl
        · rw [if_neg c]
          refine ih (g + 1) ν' (by omega) (by omega) md3 (fun g' hg' => ?_)
          by_cases cg : g' = g
          · subst cg; omega
          · exact no g' (by omega)
      · have : g = 1000 := by omega
        subst this
        have hbody : M_least_l33 ν (nI n) x2 (-nI 1) (nI 1000) = some (.inr (ν, -nI 1, nI 1000)) := by
          unfold M_least_l33
          rw [zlit, if_pos (nI_lt (by omega) (by omega))]
        refine ⟨-nI 1, ν, nI 1000, ?_, md, Or.inr ⟨rfl, fun g' hg' => no g' (by omega)⟩⟩
        show (M_least_l33 ν (nI n) x2 (-nI 1) (nI 1000)).bind _ = _
        rw [hbody]
        rfl
  exact key zFU 0 σ1 (by rw [zFU_e]; omega) (by omega) (MdS.refl _ _) (fun g' h => by omega)
theorem now_Zr {σ : Sg} {p1 : Nat} (h : Now σ p1) : Zr σ := fun p hp => (h.2.2.2.1.2.1 p hp).2
theorem now_sh {σ : Sg} {p1 : Nat} (h : Now σ p1) : ∃ B, shA σ = nI B ∧ B ≤ 20000000 := by
  have hO10 := h.2.2.1.2.1.2
  have hs := h.2.2.2.2.2.2.2.1.2
  have hR := h.2.2.2.2.2.2.2.2.2
  have hb : ∀ m, m ≤ nO σ → ∃ b, sm (fun o => σ 183 (138 + o)) m = nI b ∧ b ≤ 99 * stp σ * m := by
    intro m
    induction m with
    | zero => exact fun _ => ⟨0, rfl, by omega⟩
    | succ m ih =>
      intro hm
      obtain ⟨b, hb, hb2⟩ := ih (by omega)
      obtain ⟨v, hv, hv2⟩ := hR.2.2 m (by omega)
      exact ⟨b + v, by rw [sm_succ, hb, hv, nI_add], by rw [Nat.mul_succ]; omega⟩
  obtain ⟨b, h1, h2⟩ := hb _ (Nat.le_refl _)
  refine ⟨b, h1, ?_⟩
  have : 99 * stp σ * nO σ ≤ 99 * 9999 * 10 := Nat.mul_le_mul (Nat.mul_le_mul_left _ hs) hO10
  omega
theorem a_least {σ : Sg} {p1 : Nat} (h : Base σ p1) (x1 : Int32) : Two σ (CK_least σ x1) (fun σ1 => M_least σ1 x1) := by
  have hB := h
  obtain ⟨⟨hp, hR, hK, hM⟩, hq, hG⟩ := h
  obtain ⟨hP, hP8⟩ := hK.1
  have e3 : σ p1 3 = nI (nP σ) := hR.1.1.trans hP
  by_cases c0 : nP σ = 0
  · refine two_no (r := -1) ?_ ?_
    · unfold CK_least
      rw [ptr_e hp, zgt_e, e3, c0, if_pos (show nI 0 = 0 from rfl)]
    · show M_least σ x1 = _
      unfold M_least
      rw [zgt_e, hP, c0, if_pos (show nI 0 = 0 from rfl)]
  · have hg := hG (Or.inl (by omega))
    have n0 : ¬ nI (nP σ) = nI 0 := fun q => c0 ((nI_eq (by omega) (by omega)).mp q)
    rcases isIn_g1 (x := x1) (n := 60) (by omega) with ⟨c, c'⟩ | ⟨n, hn1, hn, rfl, c⟩
    · refine two_no (r := -1) ?_ ?_
      · unfold CK_least
        rw [ptr_e hp, zgt_e, e3, if_neg (show ¬ nI (nP σ) = 0 from n0)]
        rcases c' with c' | c'
        · rw [if_pos (show x1 < 1 from c')]
        · rw [if_neg (show ¬ x1 ≤ 60 from Int32.not_le.mpr c')]
          split <;> rfl
      · show M_least σ x1 = _
        unfold M_least
        rw [zgt_e, hP, if_neg (show ¬ nI (nP σ) = 0 from n0), zlit, zlit, c, bf]
    · obtain ⟨B, hS, hB9⟩ := now_sh hB.1
      have hz := now_Zr hB.1
      obtain ⟨r, τ, a1, a2, a3⟩ := c_least hB hg hz (by omega) hn hn1 hS hB9
      obtain ⟨r', ν, x, b1, b2, b3⟩ := m_least hB hg hz a2 hn hn1 hS hB9 (τ 183 197)
      have : r = r' := LsG.uniq a3 b3
      subst this
      refine ⟨r, τ, zup ν 183 197 (τ 183 197), ?_, a2, ?_, b2.back⟩
      · unfold CK_least
        rw [ptr_e hp, zgt_e, e3, if_neg (show ¬ nI (nP σ) = 0 from n0)]
        simp (disch := omega) only [zlit, nI_ltf, nI_let, ↓reduceIte, ptr_e hp, a1, obs]
      · show M_least τ (nI n) = _
        have hPt : τ 171 0 = nI (nP σ) := by rw [a2 171 (by omega)]; exact hP
        unfold M_least
        rw [zgt_e, hPt, if_neg (show ¬ nI (nP σ) = 0 from n0)]
        simp only [zlit, c]
        rw [bt']
        simp (disch := omega) only [zrd_e, zlt_e, b1, obs, zwr_e]
