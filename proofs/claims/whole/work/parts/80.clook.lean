/-! looks ahead: the schedule and the copy -/
theorem zmr2_e {α : Type} {p1 q : Nat} {k : Nat → Option α} (h : q = p1 + 1) (hp : p1 = 3 ∨ p1 = 29) : zmr2 3 29 (nI q) k = k p1 := by
  subst h
  unfold zmr2
  rcases hp with h | h
  · subst h; rw [if_pos rfl]
  · subst h
    rw [if_neg (by decide), if_pos rfl]
theorem zmr1_e {α : Type} {p q : Nat} {k : Option α} (h : q = p + 1) : zmr1 p (nI q) k = k := by
  subst h
  exact if_pos rfl
theorem nar0 : vp_nar .byte ((Int32.toInt8 (nI 0)).toInt32) = nI 0 := by rw [pk_vb]; decide
theorem nar1 : vp_nar .byte ((Int32.toInt8 (nI 1)).toInt32) = nI 1 := by rw [pk_vb]; decide
theorem Water_beginStep_ok {σ μ : Sg} {w : Nat} (hw : w = 56 ∨ w = 82) (hP8 : nP μ ≤ 8) (hW : RepW σ w μ) :
    ∃ σ', Water_beginStep σ w (nI (nP μ)) = some σ' ∧ Fr w (w + 16) σ σ' ∧ RepW σ' w (begS μ) ∧ RepN σ' w (begS μ) := by
  obtain ⟨⟨v1, v2, v3, v4, v5, v6, v7⟩, hA, hZ⟩ := hW
  have st := begS_stat μ
  have h83 := begS_183 μ
  have hn := (begS_it μ 8).2.2
  have hl := zit_cnt (b := fun (s : (Sg × Int32)) => Water_beginStep_l20 s.1 w (nI (nP μ)) s.2) (fun j τ => (∀ a, a ≠ w + 10 → a ≠ w + 11 → a ≠ w + 12 → a ≠ w + 15 → τ a = σ a) ∧ (∀ p, p < 8 → τ (w + 10) p = σ (w + 1) p) ∧ ∀ p, p < j → τ (w + 11) p = 0 ∧ τ (w + 12) p = 0 ∧ τ (w + 15) p = 0) nI (nP μ) (σ := zrow σ (w + 10) (va_cpy (σ (w + 1)) (σ (w + 10)) 0 0 8)) (by omega)
    ⟨fun a h _ _ _ => zrow_ne h, fun p hp => by rw [zrow_hit, cpy0_in hp], fun p hp => absurd hp (by omega)⟩ (by
    rintro j τ hj ⟨h1, h2, h3⟩
    unfold Water_beginStep_l20
    simp (disch := omega) only [zgt_e, zpt_e, zlt_e, zrd_e, zwr_e, zelr_e, znz_e, zcp_e, zlit, nI_add, nI_mul, nI_sub, nI_div, ↓irem_f, irem_e, Nat.zero_add, Nat.add_zero, obs, zb_t, zb_f, nI_eqt, nI_eqf, nI_let, nI_lef, nI_ltt, nI_ltf, nI_m1, nI_n1, ↓reduceIte, zup_ne, zup_miss, zup_hit, zbo_1, zbo_0, reduceCtorEq, sel_l, sel_r, Nat.reduceAdd, Nat.reduceSub, Nat.reduceMul]
    refine ⟨_, rfl, fun a x1 x2 x3 x4 => ?_, fun p hp => ?_, fun p hp => ?_⟩
    · rw [zup_ne x4, zup_ne x3, zup_ne x2, h1 a x1 x2 x3 x4]
    · simp (disch := omega) only [zup_ne]
      exact h2 p hp
    · by_cases e : p = j
      · subst e
        simp (disch := omega) only [zup_ne, zup_hit, zlit, and_self]
      · simp (disch := omega) only [zup_ne, zup_miss]
        exact h3 p (by omega)) (by
    rintro τ _
    unfold Water_beginStep_l20
    simp (disch := omega) only [zgt_e, zpt_e, zlt_e, zrd_e, zwr_e, zelr_e, znz_e, zcp_e, zlit, nI_add, nI_mul, nI_sub, nI_div, ↓irem_f, irem_e, Nat.zero_add, Nat.add_zero, obs, zb_t, zb_f, nI_eqt, nI_eqf, nI_let, nI_lef, nI_ltt, nI_ltf, nI_m1, nI_n1, ↓reduceIte, zup_ne, zup_miss, zup_hit, zbo_1, zbo_0, reduceCtorEq, sel_l, sel_r, Nat.reduceAdd, Nat.reduceSub, Nat.reduceMul])
  obtain ⟨τ, e, h1, h2, h3⟩ := hl
  refine ⟨τ, ?_, fun a ha => h1 a (by omega) (by omega) (by omega) (by omega), ⟨⟨?_, ?_, ?_, ?_, ?_⟩, ?_, ?_⟩, ?_⟩
  · unfold Water_beginStep
    simp only [zcp_e, zlt_e, zlit, e, obs]
  · intro p hp
    rw [st.e_nP] at hp
    rw [h1 (w + 1) (by omega) (by omega) (by omega) (by omega), h1 (w + 2) (by omega) (by omega) (by omega) (by omega), h1 (w + 3) (by omega) (by omega) (by omega) (by omega), h1 (w + 4) (by omega) (by omega) (by omega) (by omega), h83]
    exact v1 p hp
  · intro o ho
    rw [st.e_nO] at ho
    rw [h1 (w + 6) (by omega) (by omega) (by omega) (by omega), h1 (w + 7) (by omega) (by omega) (by omega) (by omega), h83]
    exact v2 o ho
  · intro i hi
    rw [h1 (w + 8) (by omega) (by omega) (by omega) (by omega), h83]
    exact v3 i hi
  · rw [h1 (w + 8) (by omega) (by omega) (by omega) (by omega), h83, st.e_nO]
    exact v4
  · rw [h1 w (by omega) (by omega) (by omega) (by omega), h83]
    exact ⟨v5, v6, v7⟩
  · intro p hp
    rw [st.e_nP] at hp
    unfold WayA
    rw [h1 (w + 5) (by omega) (by omega) (by omega) (by omega), h83, st.e_tl, st.e_stp]
    exact hA p hp
  · unfold WayZ
    rw [h1 (w + 5) (by omega) (by omega) (by omega) (by omega), st.e_tl, st.e_nP]
    exact hZ
  · intro p hp
    rw [st.e_nP] at hp
    obtain ⟨b1, b2, b3, b4, b5⟩ := hn p (by omega)
    obtain ⟨c1, c2, c3⟩ := h3 p hp
    rw [h2 p (by omega), c1, c2, c3, (v1 p hp).1]
    exact ⟨b3.symm, b1.symm, b2.symm, b4.symm⟩
theorem Works_needs_all {σ μ : Sg} {p1 : Nat} (hR : RepK σ p1 μ) (hK : InvK μ) : Works_needs σ p1 (nI 0) (nI (nP μ) - nI 1) = some (nI (nd μ 0 (nP μ))) := by
  have hP8 := hK.1.2
  by_cases c : nP μ = 0
  · rw [c]
    have e : (nI 0 - nI 1 < nI 0) = True := eq_true (by decide)
    have hl : zit (fun (s : (Int32 × Int32)) => Works_needs_l5 σ p1 (nI 0 - nI 1) s.1 s.2) zFU (nI 0, nI 0) = some (nI 0, nI 0) := by
      refine zit_eq (fun _ => (nI 0, nI 0)) _ 0 0 (by omega) (fun i _ hi => absurd hi (by omega)) ?_ zFU 0 (by rw [zFU_e]; omega) (by omega) (by omega)
      unfold Works_needs_l5
      simp only [e, ↓reduceIte]
    unfold Works_needs
    simp only [zlt_e, zlit, hl, obs]
    rfl
  · rw [nI_sub (by omega)]
    have h := Works_needs_e hR hK (g := 0) (p := nP μ - 1) (by omega) (by omega)
    rw [h, show nP μ - 1 + 1 - 0 = nP μ from by omega]
/-- one outlet's row of the schedule -/
theorem planOutlet_ok {σ μ : Sg} {p1 w o b L : Nat} (hp1 : p1 = 3 ∨ p1 = 29) (hw : w = 73 ∨ w = 99) (hR : RepK σ p1 μ) (hQ : RepOr σ w μ) (hK : InvK μ) (hO : InvO μ) (ho : o < nO μ) (hb : σ 103 0 = nI b) (hb2 : b ≤ 20000) (hL : σ 103 2 = nI L) (hL2 : L ≤ 272) :
    ∃ σ', Schedule_planOutlet σ p1 w (nI o) = some σ' ∧ (∀ a, a ≠ 105 + o → σ' a = σ a) ∧ ∀ i, i ≤ L → σ' (105 + o) i = if opn μ o (b + i) = true then 1 else 0 := by
  have hO10 := hK.2.1.2
  have hT2 := hK.2.2.1.2
  have hl := zit_cnt (b := fun (s : (Sg × Int32)) => Schedule_planOutlet_l3 s.1 p1 w (nI o) s.2) (fun j τ => (∀ a, a ≠ 105 + o → τ a = σ a) ∧ ∀ i, i < j → τ (105 + o) i = if opn μ o (b + i) = true then 1 else 0) nI (L + 1) (σ := σ) (by omega)
    ⟨fun _ _ => rfl, fun i hi => absurd hi (by omega)⟩ (by
    rintro j τ hj ⟨h1, h2⟩
    have f : Fr 103 123 σ τ := fun a ha => h1 a (by omega)
    have hop := Works_isOpen_e (hR.fr f hT2 (by omega)) (hQ.fr f (by omega)) hK hO (o := o) (t := b + j) (by omega) (by omega)
    have e0 : τ 103 0 = nI b := by rw [h1 103 (by omega), hb]
    have e2 : τ 103 2 = nI L := by rw [h1 103 (by omega), hL]
    unfold Schedule_planOutlet_l3
    by_cases c : opn μ o (b + j) = true
    · rw [c] at hop
      simp (disch := omega) only [zgt_e, zpt_e, zlt_e, zrd_e, zwr_e, zelr_e, znz_e, zcp_e, zlit, nI_add, nI_mul, nI_sub, nI_div, ↓irem_f, irem_e, Nat.zero_add, Nat.add_zero, obs, zb_t, zb_f, nI_eqt, nI_eqf, nI_let, nI_lef, nI_ltt, nI_ltf, nI_m1, nI_n1, ↓reduceIte, zup_ne, zup_miss, zup_hit, zbo_1, zbo_0, reduceCtorEq, sel_l, sel_r, Nat.reduceAdd, Nat.reduceSub, Nat.reduceMul, e0, e2, hop, nar1]
      refine ⟨_, rfl, fun a ha => by rw [zup_ne ha, h1 a ha], fun i hi => ?_⟩
      by_cases e : i = j
      · subst e; rw [zup_hit, if_pos c]
      · rw [zup_miss e]; exact h2 i (by omega)
    · have c' : opn μ o (b + j) = false := by simpa using c
      rw [c'] at hop
      simp (disch := omega) only [zgt_e, zpt_e, zlt_e, zrd_e, zwr_e, zelr_e, znz_e, zcp_e, zlit, nI_add, nI_mul, nI_sub, nI_div, ↓irem_f, irem_e, Nat.zero_add, Nat.add_zero, obs, zb_t, zb_f, nI_eqt, nI_eqf, nI_let, nI_lef, nI_ltt, nI_ltf, nI_m1, nI_n1, ↓reduceIte, zup_ne, zup_miss, zup_hit, zbo_1, zbo_0, reduceCtorEq, sel_l, sel_r, Nat.reduceAdd, Nat.reduceSub, Nat.reduceMul, e0, e2, hop, nar0]
      refine ⟨_, rfl, fun a ha => by rw [zup_ne ha, h1 a ha], fun i hi => ?_⟩
      by_cases e : i = j
      · subst e; rw [zup_hit, if_neg c]
      · rw [zup_miss e]; exact h2 i (by omega)) (by
    rintro τ ⟨h1, _⟩
    have e2 : τ 103 2 = nI L := by rw [h1 103 (by omega), hL]
    unfold Schedule_planOutlet_l3
    simp (disch := omega) only [zgt_e, zpt_e, zlt_e, zrd_e, zwr_e, zelr_e, znz_e, zcp_e, zlit, nI_add, nI_mul, nI_sub, nI_div, ↓irem_f, irem_e, Nat.zero_add, Nat.add_zero, obs, zb_t, zb_f, nI_eqt, nI_eqf, nI_let, nI_lef, nI_ltt, nI_ltf, nI_m1, nI_n1, ↓reduceIte, zup_ne, zup_miss, zup_hit, zbo_1, zbo_0, reduceCtorEq, sel_l, sel_r, Nat.reduceAdd, Nat.reduceSub, Nat.reduceMul, e2])
  obtain ⟨τ, e, h1, h2⟩ := hl
  refine ⟨τ, ?_, h1, fun i hi => h2 i (by omega)⟩
  unfold Schedule_planOutlet
  simp only [zlt_e, zlit, e, obs]
def ldP (μ : Sg) (g t n : Nat) : Int32 := sm (fun o => if g ≤ opl μ o ∧ opn μ o (t + nd μ g (opl μ o + 1 - g)) = true then μ 173 (2 * o + 1) else 0) n
theorem nd_mono {μ : Sg} {g m : Nat} (h : g + m ≤ nP μ) : nd μ g m ≤ nd μ 0 (nP μ) := by
  have h1 : ∀ n, nd μ 0 (g + n) = nd μ 0 g + nd μ g n := by
    intro n
    induction n with
    | zero => rfl
    | succ n ih => rw [show g + (n + 1) = (g + n) + 1 from rfl, nd_succ, nd_succ, ih, Nat.zero_add]; omega
  have h2 : ∀ a c, nd μ 0 a ≤ nd μ 0 (a + c) := by
    intro a c
    induction c with
    | zero => exact Nat.le_refl _
    | succ c ih => rw [show a + (c + 1) = (a + c) + 1 from rfl, nd_succ]; omega
  have h3 := h1 m
  have h4 := h2 (g + m) (nP μ - (g + m))
  rw [show g + m + (nP μ - (g + m)) = nP μ from by omega] at h4
  omega
/-- the rows of the outlets are laid -/
def OpenR (σ μ : Sg) (b L : Nat) : Prop := ∀ o, o < nO μ → ∀ i, i ≤ L → σ (105 + o) i = if opn μ o (b + i) = true then 1 else 0
theorem addDemand_ok {σ μ : Sg} {p1 g o b l : Nat} (hp1 : p1 = 3 ∨ p1 = 29) (hR : RepK σ p1 μ) (hK : InvK μ) (hg : g < nP μ) (ho : o < nO μ) (hgo : g ≤ opl μ o) (h1l : σ 103 1 = nI l) (hl2 : l ≤ 200) (h2l : σ 103 2 = nI (l + nd μ 0 (nP μ))) (hop : OpenR σ μ b (l + nd μ 0 (nP μ))) :
    ∃ σ', Schedule_addDemand σ p1 (nI g) (nI o) = some σ' ∧ (∀ a, a ≠ 116 + g → σ' a = σ a) ∧ ∀ i, i ≤ l → σ' (116 + g) i = σ (116 + g) i + if opn μ o (b + i + nd μ g (opl μ o + 1 - g)) = true then μ 173 (2 * o + 1) else 0 := by
  have hO10 := hK.2.1.2
  have hP8 := hK.1.2
  have hT2 := hK.2.2.1.2
  obtain ⟨o1, o2, o3, o4, o5⟩ := hK.2.2.2.2.2.1 o ho
  obtain ⟨k1, k2⟩ := hR.2.2.1 o ho
  have hnd := nd_mono (μ := μ) (g := g) (m := opl μ o + 1 - g) (by omega)
  have hn9 := nd_le hK (g := 0) (j := nP μ) (by omega)
  have hneed := Works_needs_e hR hK (g := g) (p := opl μ o) (by omega) o2
  have hl := zit_cnt (b := fun (s : (Sg × Int32)) => Schedule_addDemand_l16 s.1 p1 (nI g) (nI o) (nI (nd μ g (opl μ o + 1 - g))) s.2) (fun j τ => (∀ a, a ≠ 116 + g → τ a = σ a) ∧ (∀ i, i < j → τ (116 + g) i = σ (116 + g) i + if opn μ o (b + i + nd μ g (opl μ o + 1 - g)) = true then μ 173 (2 * o + 1) else 0) ∧ ∀ i, j ≤ i → τ (116 + g) i = σ (116 + g) i) nI (l + 1) (σ := σ) (by omega)
    ⟨fun _ _ => rfl, fun i hi => absurd hi (by omega), fun _ _ => rfl⟩ (by
    rintro j τ hj ⟨h1, h2, h3⟩
    have e1 : τ 103 1 = nI l := by rw [h1 103 (by omega), h1l]
    have e2 : τ 103 2 = nI (l + nd μ 0 (nP μ)) := by rw [h1 103 (by omega), h2l]
    have e3 : τ (p1 + 15) o = μ 173 (2 * o + 1) := by rw [h1 (p1 + 15) (by omega)]; exact k2
    have e4 : τ (105 + o) (j + nd μ g (opl μ o + 1 - g)) = if opn μ o (b + j + nd μ g (opl μ o + 1 - g)) = true then 1 else 0 := by rw [h1 _ (by omega), hop o ho _ (by omega), Nat.add_assoc]
    have e5 := h3 j (Nat.le_refl j)
    unfold Schedule_addDemand_l16
    simp (disch := omega) only [zgt_e, zpt_e, zlt_e, zrd_e, zwr_e, zelr_e, znz_e, zcp_e, zlit, nI_add, nI_mul, nI_sub, nI_div, ↓irem_f, irem_e, Nat.zero_add, Nat.add_zero, obs, zb_t, zb_f, nI_eqt, nI_eqf, nI_let, nI_lef, nI_ltt, nI_ltf, nI_m1, nI_n1, ↓reduceIte, zup_ne, zup_miss, zup_hit, zbo_1, zbo_0, reduceCtorEq, sel_l, sel_r, Nat.reduceAdd, Nat.reduceSub, Nat.reduceMul, e1, e2, e3, e4, e5]
    refine ⟨_, rfl, fun a ha => by rw [zup_ne ha, h1 a ha], fun i hi => ?_, fun i hi => ?_⟩
    · by_cases e : i = j
      · subst e
        rw [zup_hit]
        congr 1
        split
        · exact Int32.one_mul _
        · exact Int32.zero_mul
      · rw [zup_miss e]; exact h2 i (by omega)
    · rw [zup_miss (by omega)]; exact h3 i (by omega)) (by
    rintro τ ⟨h1, _⟩
    have e1 : τ 103 1 = nI l := by rw [h1 103 (by omega), h1l]
    unfold Schedule_addDemand_l16
    simp (disch := omega) only [zgt_e, zpt_e, zlt_e, zrd_e, zwr_e, zelr_e, znz_e, zcp_e, zlit, nI_add, nI_mul, nI_sub, nI_div, ↓irem_f, irem_e, Nat.zero_add, Nat.add_zero, obs, zb_t, zb_f, nI_eqt, nI_eqf, nI_let, nI_lef, nI_ltt, nI_ltf, nI_m1, nI_n1, ↓reduceIte, zup_ne, zup_miss, zup_hit, zbo_1, zbo_0, reduceCtorEq, sel_l, sel_r, Nat.reduceAdd, Nat.reduceSub, Nat.reduceMul, e1])
  obtain ⟨τ, e, h1, h2, h3⟩ := hl
  refine ⟨τ, ?_, h1, fun i hi => h2 i (by omega)⟩
  unfold Schedule_addDemand
  rw [o1] at k1
  simp (disch := omega) only [zrd_e, zlt_e, zlit, k1, hneed, e, obs]
