theorem AlR.fr {σ τ ν : Sg} {lg kept lo hi : Nat} (h : AlR σ lg ν kept) (f : Fr lo hi σ τ) (hd : lg + 1 < lo ∨ hi < lg) : AlR τ lg ν kept := by
  obtain ⟨h1, h2, h3⟩ := h
  refine ⟨by rw [f lg (by omega)]; exact h1, h2, fun k hk j hj => ?_⟩
  rw [f (lg + 1) (by omega)]; exact h3 k hk j hj
theorem AlR.nu {σ ν ν' : Sg} {lg kept : Nat} (h : AlR σ lg ν kept) (e : ∀ i, 205 ≤ i → ν' 183 i = ν 183 i) : AlR σ lg ν' kept := by
  obtain ⟨h1, h2, h3⟩ := h
  refine ⟨h1, by rw [e 205 (by omega)]; exact h2, fun k hk j hj => ?_⟩
  rw [e _ (by omega)]; exact h3 k hk j hj
/-- where the log stands after p pools -/
def LgI (σ ν τ : Sg) (p : Nat) : Prop := Fr 77 79 σ τ ∧ (∃ kept, AlR τ 77 (itS watS p ν) kept ∧ kept ≤ 8 * stp ν + p) ∧
  (∀ q, q < p → ∀ j, j < 4 → τ 79 ((stp ν % 40 * 8 + q) * 4 + j) = notC ν (4 * q + j)) ∧ (∀ i, i < stp ν % 40 * 32 ∨ stp ν % 40 * 32 + 32 ≤ i → τ 79 i = σ 79 i) ∧
  Keep ν (itS watS p ν) ∧ (∀ q, q < p → itS watS p ν 183 (32 + q) = stnd ν q) ∧ (∀ q, p ≤ q → q < 8 → itS watS p ν 183 (32 + q) = ν 183 (32 + q)) ∧ ∀ i, i = 206 ∨ 327 ≤ i → itS watS p ν 183 i = ν 183 i
theorem noteOne {σ ν μ0 τ : Sg} {p1 p : Nat} (hN : NoteR σ p1 ν) (hq : ν 171 26 = nI 0) (hst : stp ν ≤ 9999) (hp : p < nP ν) (hK0 : InvK μ0) (hR0 : RepK σ p1 μ0) (hp0 : p < nP μ0) (h191 : ν 191 p = μ0 183 p) (h32 : ν 183 (32 + p) = if stp ν = 0 then nI 0 else stnd μ0 p) (h : LgI σ ν τ p) :
    ∃ τ', Log_noteStep_l10 τ 77 p1 56 (nI (stp ν)) (nI p) = some (.inl (τ', nI (p + 1))) ∧ LgI σ ν τ' (p + 1) := by
  obtain ⟨f, ⟨kept, hA, hk⟩, h1, h2, h3, h4, h5, h6⟩ := h
  have hT := hN.2.2.1
  have hP8 := hT.1.1.2
  have hm : stp ν % 40 < 40 := Nat.mod_lt _ (by omega)
  have hNt := hN.fr f
  obtain ⟨g0, g1, _, g3, g4, g5, g6⟩ := hNt
  obtain ⟨b1, b2, b3, b4⟩ := g4 p hp
  have b5 := (g5 p hp).1
  have hnp : τ p1 3 = nI (nP ν) := by rw [g1.1.1]; exact hT.1.1.1
  generalize hτ4 : zup (zup (zup (zup τ 79 ((stp ν % 40 * 8 + p) * 4) (ν 189 p)) 79 ((stp ν % 40 * 8 + p) * 4 + 1) (ν 190 p)) 79 ((stp ν % 40 * 8 + p) * 4 + 2) (ν 191 p)) 79 ((stp ν % 40 * 8 + p) * 4 + 3) (ν 183 (120 + p)) = τ4
  have f4 : Fr 79 79 τ τ4 := by
    rw [← hτ4]
    exact ((((Fr.refl τ).up (by omega) (by omega)).up (by omega) (by omega)).up (by omega) (by omega)).up (by omega) (by omega)
  have f4' : Fr 77 79 σ τ4 := f.trans (f4.wide (by omega) (by omega))
  have hN4 := hN.fr f4'
  have e66 : τ4 66 p = ν 191 p := by rw [f4 66 (by omega), b1]
  have hbd := Works_bandOf_e (hR0.fr f4' hK0.2.2.1.2 (by omega)) hK0 hp0 (ν 191 p) h191
  have hhead : Log_noteStep_l10 τ 77 p1 56 (nI (stp ν)) (nI p) = Log_noteStep_j10_125 τ4 77 p1 56 (nI (stp ν)) (nI p) (ν 183 (32 + p)) := by
    rw [h32]
    unfold Log_noteStep_l10 Log_flowPlace
    by_cases c0 : stp ν = 0
    · rw [if_pos c0]
      simp (disch := omega) only [zgt_e, zpt_e, zlt_e, zrd_e, zwr_e, zelr_e, znz_e, zcp_e, zlit, nI_add, nI_mul, nI_sub, nI_div, ↓irem_f, irem_e, Nat.zero_add, Nat.add_zero, obs, zb_t, zb_f, nI_eqt, nI_eqf, nI_let, nI_lef, nI_ltt, nI_ltf, nI_m1, nI_n1, ↓reduceIte, zup_ne, zup_miss, zup_hit, zbo_1, zbo_0, reduceCtorEq, sel_l, sel_r, Nat.reduceAdd, Nat.reduceSub, Nat.reduceMul, hnp, b1, b2, b3, b5, hτ4]
    · rw [if_neg c0]
      simp (disch := omega) only [zgt_e, zpt_e, zlt_e, zrd_e, zwr_e, zelr_e, znz_e, zcp_e, zlit, nI_add, nI_mul, nI_sub, nI_div, ↓irem_f, irem_e, Nat.zero_add, Nat.add_zero, obs, zb_t, zb_f, nI_eqt, nI_eqf, nI_let, nI_lef, nI_ltt, nI_ltf, nI_m1, nI_n1, ↓reduceIte, zup_ne, zup_miss, zup_hit, zbo_1, zbo_0, reduceCtorEq, sel_l, sel_r, Nat.reduceAdd, Nat.reduceSub, Nat.reduceMul, hnp, b1, b2, b3, b5, hτ4, e66, hbd]
  have h26 : itS watS p ν 171 26 = 0 := by rw [h3.2.2 171 (by omega)]; exact hq
  have hw : itS watS (p + 1) ν = watN p (itS watS p ν) := by
    show watS p (itS watS p ν) = _
    exact if_pos h26
  have hs1 : stnd (itS watS p ν) p = stnd ν p := h3.e_stnd (by omega)
  have h32p : itS watS p ν 183 (32 + p) = ν 183 (32 + p) := h5 p (Nat.le_refl _) (by omega)
  have kQ : Keep ν (watQ p (itS watS p ν)) := h3.trans (Keep.up (by omega))
  have q1 : ∀ i, i ≠ 32 + p → watQ p (itS watS p ν) 183 i = itS watS p ν 183 i := fun i hi => by
    unfold watQ
    rw [zup_miss hi]
  have q2 : watQ p (itS watS p ν) 183 (32 + p) = stnd ν p := by
    unfold watQ
    rw [zup_hit, hs1]
  have F1 : ∀ q, q < p + 1 → ∀ j, j < 4 → τ4 79 ((stp ν % 40 * 8 + q) * 4 + j) = notC ν (4 * q + j) := by
    intro q hq2 j hj
    rw [← hτ4]
    by_cases e : q = p
    · subst e
      unfold notC
      rw [show (4 * q + j) / 4 = q from by omega]
      rcases (show j = 0 ∨ j = 1 ∨ j = 2 ∨ j = 3 by omega) with w | w | w | w
      · subst w
        rw [zup_miss (by omega), zup_miss (by omega), zup_miss (by omega), if_pos (by omega)]
        exact zup_hit
      · subst w
        rw [zup_miss (by omega), zup_miss (by omega), zup_hit, if_neg (by omega), if_pos (by omega)]
      · subst w
        rw [zup_miss (by omega), zup_hit, if_neg (by omega), if_neg (by omega), if_pos (by omega)]
      · subst w
        rw [zup_hit, if_neg (by omega), if_neg (by omega), if_neg (by omega)]
    · rw [zup_miss (by omega), zup_miss (by omega), zup_miss (by omega), zup_miss (by omega)]
      exact h1 q (by omega) j hj
  have F2 : ∀ i, i < stp ν % 40 * 32 ∨ stp ν % 40 * 32 + 32 ≤ i → τ4 79 i = σ 79 i := by
    intro i hi
    rw [← hτ4, zup_miss (by omega), zup_miss (by omega), zup_miss (by omega), zup_miss (by omega)]
    exact h2 i hi
  have hA4 : AlR τ4 77 (watQ p (itS watS p ν)) kept := (hA.fr f4 (by omega)).nu (fun i hi => q1 i (by omega))
  have eqv : (stnd ν p ≤ 0) ↔ stnd ν p = nI 0 := by
    rcases stnd_c ν p with c | c | c
    · rw [c]; decide
    · rw [c]; decide
    · rw [c]; decide
  have R1 : ∀ q, q < p → watQ p (itS watS p ν) 183 (32 + q) = stnd ν q := fun q hq2 => by rw [q1 _ (by omega)]; exact h4 q hq2
  by_cases c : stnd ν p = nI 0 ∨ stnd ν p = ν 183 (32 + p)
  · have hwn : itS watS (p + 1) ν = watQ p (itS watS p ν) := by
      rw [hw]
      unfold watN
      rw [hs1, h32p, if_pos (c.imp eqv.mpr id)]
    refine ⟨τ4, ?_, f4', ⟨kept, by rw [hwn]; exact hA4, by omega⟩, F1, F2, by rw [hwn]; exact kQ, ?_, ?_, ?_⟩
    · rw [hhead, j125_ok hN4 hp, if_pos c]
    · intro q hq2
      rw [hwn]
      by_cases e : q = p
      · subst e; exact q2
      · exact R1 q (by omega)
    · intro q hq2 hq3
      rw [hwn, q1 _ (by omega)]
      exact h5 q (by omega) hq3
    · intro i hi
      rw [hwn, q1 _ (by omega)]
      exact h6 i hi
  · have hwn : itS watS (p + 1) ν = kepS p (watQ p (itS watS p ν)) := by
      rw [hw]
      unfold watN
      rw [hs1, h32p, if_neg (fun w => c (w.imp eqv.mp id))]
    have hTq := kQ.1.e_InvT hT
    obtain ⟨τ', k1, k2, k3⟩ := keepAlarm_ok hA4 (by omega) hTq (p := p) (by omega)
    obtain ⟨m1, _, _, m4⟩ := kepS_at (p := p) hTq (by omega) hA4.2.1
    rw [kQ.2.1 196 (by omega), hT.2.2.1.1, kQ.e_caus hT (by omega)] at k1
    refine ⟨τ', ?_, f4'.trans (k2.wide (by omega) (by omega)), ⟨kept + 1, by rw [hwn]; exact k3, by omega⟩, ?_, ?_, by rw [hwn]; exact kQ.trans m1, ?_, ?_, ?_⟩
    · rw [hhead, j125_ok hN4 hp, if_neg c, k1, obs]
    · rw [k2 79 (by omega)]; exact F1
    · rw [k2 79 (by omega)]; exact F2
    · intro q hq2
      rw [hwn, m4 _ (by omega)]
      by_cases e : q = p
      · subst e; exact q2
      · exact R1 q (by omega)
    · intro q hq2 hq3
      rw [hwn, m4 _ (by omega), q1 _ (by omega)]
      exact h5 q (by omega) hq3
    · intro i hi
      rw [hwn, m4 _ (by omega), q1 _ (by omega)]
      exact h6 i hi
theorem noteStep_ok {σ ν μ0 : Sg} {p1 : Nat} (hN : NoteR σ p1 ν) (hq : ν 171 26 = nI 0) (hst : stp ν ≤ 9999) (hs : σ 56 0 = nI (stp ν + 1)) (hK0 : InvK μ0) (hR0 : RepK σ p1 μ0) (hp0 : nP μ0 = nP ν) (h191 : ∀ p, p < nP ν → ν 191 p = μ0 183 p) (h32 : ∀ p, p < nP ν → ν 183 (32 + p) = if stp ν = 0 then nI 0 else stnd μ0 p)
    (hA : ∃ kept, AlR σ 77 ν kept ∧ kept ≤ 8 * stp ν) : ∃ τ, Log_noteStep σ 77 p1 56 = some τ ∧ LgI σ ν τ (nP ν) := by
  have hT := hN.2.2.1
  have hP8 := hT.1.1.2
  have hl := zit_cnt (b := fun (s : (Sg × Int32)) => Log_noteStep_l10 s.1 77 p1 56 (nI (stp ν)) s.2) (fun p τ => LgI σ ν τ p) nI (nP ν) (σ := σ) (by omega)
    ⟨Fr.refl σ, hA, fun q hq2 => absurd hq2 (by omega), fun _ _ => rfl, Keep.refl ν, fun q hq2 => absurd hq2 (by omega), fun _ _ _ => rfl, fun _ _ => rfl⟩ (by
    intro p τ hp hI
    exact noteOne hN hq hst hp hK0 hR0 (by omega) (h191 p hp) (h32 p hp) hI) (by
    intro τ hI
    have hNt := hN.fr hI.1
    have hnp : τ p1 3 = nI (nP ν) := by rw [hNt.2.1.1.1]; exact hT.1.1.1
    show Log_noteStep_l10 τ 77 p1 56 (nI (stp ν)) (nI (nP ν)) = _
    unfold Log_noteStep_l10
    rw [zgt_e, hnp, if_pos (nI_le (Nat.le_refl _) (by omega))])
  obtain ⟨τ, e, hI⟩ := hl
  refine ⟨τ, ?_, hI⟩
  unfold Log_noteStep
  rw [zgt_e, hs, zlt_e, zlt_e, show (1 : Int32) = nI 1 from rfl, nI_sub (by omega), Nat.add_sub_cancel, show (0 : Int32) = nI 0 from rfl, e, obs]
