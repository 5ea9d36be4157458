/-! gates, what goes over, gates that move -/
def RepP (σ : Sg) (w : Nat) (μ : Sg) (n : Nat) : Prop := ∀ p, p < n → σ (w + 13) p = μ 183 (120 + p) ∧ μ 193 p = (if σ (w + 14) p ≤ σ (w + 13) p then 0 else 1)
theorem pasS_at {j : Nat} {ν : Sg} (hj : j < 8) (hd : tl ν j 3 ≤ 9) (i : Nat) : pasS j ν 183 i =
    if i = 120 + j then pasN j ν else if j = 0 ∧ i = 200 then ν 183 200 + pasN j ν else if 0 < j ∧ i + 1 = j then ν 183 i - pasN j ν else
    if tl ν j 3 = 0 ∧ i = j then ν 183 j + pasN j ν else if 0 < tl ν j 3 ∧ i + 1 = 40 + 10 * j + tl ν j 3 then ν 183 i + pasN j ν else ν 183 i := by
  have e0 : j ≠ 0 → j - 1 + 1 = j := fun h => by omega
  unfold pasS pasB pasA
  by_cases c0 : tl ν j 3 = 0
  · rw [if_pos c0, zup_ne (by omega)]
    by_cases c1 : j = 0
    · rw [if_pos c1, zup_at, zup_at, zup_at, zup_ne (by omega)]
      by_cases x1 : i = j
      · rw [if_pos ⟨rfl, x1⟩, if_neg (by omega), if_neg (by omega), if_neg (by omega), if_pos ⟨c0, x1⟩]
      · rw [if_neg (by omega)]
        by_cases x2 : i = 200
        · rw [if_pos ⟨rfl, x2⟩, if_neg (by omega), if_pos ⟨c1, x2⟩]
        · rw [if_neg (by omega)]
          by_cases x3 : i = 120 + j
          · rw [if_pos ⟨rfl, x3⟩, if_pos x3]
          · rw [if_neg (by omega), if_neg x3, if_neg (by omega), if_neg (by omega), if_neg (by omega), if_neg (by omega)]
    · rw [if_neg c1, zup_at, zup_ne (by omega), zup_at, zup_at, zup_ne (by omega)]
      by_cases x1 : i = j
      · rw [if_pos ⟨rfl, x1⟩, if_neg (by omega), if_neg (by omega), if_neg (by omega), if_pos ⟨c0, x1⟩]
      · rw [if_neg (by omega)]
        by_cases x2 : i = j - 1
        · rw [if_pos ⟨rfl, x2⟩, if_neg (by omega), if_neg (by omega), if_pos (by omega), x2]
        · rw [if_neg (by omega)]
          by_cases x3 : i = 120 + j
          · rw [if_pos ⟨rfl, x3⟩, if_pos x3]
          · rw [if_neg (by omega), if_neg x3, if_neg (by omega), if_neg (by omega), if_neg (by omega), if_neg (by omega)]
  · rw [if_neg c0]
    by_cases c1 : j = 0
    · rw [if_pos c1, zup_at, zup_at, zup_at, zup_ne (by omega)]
      by_cases x1 : i = 40 + 10 * j + tl ν j 3 - 1
      · rw [if_pos ⟨rfl, x1⟩, if_neg (by omega), if_neg (by omega), if_neg (by omega), if_neg (by omega), if_pos (by omega), x1]
      · rw [if_neg (by omega)]
        by_cases x2 : i = 200
        · rw [if_pos ⟨rfl, x2⟩, if_neg (by omega), if_pos ⟨c1, x2⟩]
        · rw [if_neg (by omega)]
          by_cases x3 : i = 120 + j
          · rw [if_pos ⟨rfl, x3⟩, if_pos x3]
          · rw [if_neg (by omega), if_neg x3, if_neg (by omega), if_neg (by omega), if_neg (by omega), if_neg (by omega)]
    · rw [if_neg c1, zup_at, zup_ne (by omega), zup_at, zup_at, zup_ne (by omega)]
      by_cases x1 : i = 40 + 10 * j + tl ν j 3 - 1
      · rw [if_pos ⟨rfl, x1⟩, if_neg (by omega), if_neg (by omega), if_neg (by omega), if_neg (by omega), if_pos (by omega), x1]
      · rw [if_neg (by omega)]
        by_cases x2 : i = j - 1
        · rw [if_pos ⟨rfl, x2⟩, if_neg (by omega), if_neg (by omega), if_pos (by omega), x2]
        · rw [if_neg (by omega)]
          by_cases x3 : i = 120 + j
          · rw [if_pos ⟨rfl, x3⟩, if_pos x3]
          · rw [if_neg (by omega), if_neg x3, if_neg (by omega), if_neg (by omega), if_neg (by omega), if_neg (by omega)]
theorem pasB_ne {j a : Nat} {ν : Sg} (h : a ≠ 183 ∧ a ≠ 190 ∧ a ≠ 193) : pasB j ν a = ν a := by
  unfold pasB pasA
  by_cases c : j = 0
  · rw [if_pos c]
    simp (disch := omega) only [zup_ne]
  · rw [if_neg c]
    simp (disch := omega) only [zup_ne]
theorem pasS_189 {j : Nat} {ν : Sg} (i : Nat) : pasS j ν 189 i = if tl ν j 3 = 0 ∧ i = j then ν 189 j + pasN j ν else ν 189 i := by
  unfold pasS
  by_cases c0 : tl ν j 3 = 0
  · rw [if_pos c0]
    by_cases x : i = j
    · subst x; rw [zup_hit, if_pos ⟨c0, rfl⟩]
    · rw [zup_miss x, if_neg (show ¬ (tl ν j 3 = 0 ∧ i = j) from fun q => x q.2), zup_ne (by omega), pasB_ne (by omega)]
  · rw [if_neg c0, if_neg (show ¬ (tl ν j 3 = 0 ∧ i = j) from fun q => c0 q.1), zup_ne (by omega), pasB_ne (by omega)]
theorem pasS_190 {j : Nat} {ν : Sg} (i : Nat) : pasS j ν 190 i = if 0 < j ∧ i + 1 = j then ν 190 i + pasN j ν else ν 190 i := by
  have key : ∀ τ : Sg, (if tl ν j 3 = 0 then zup (zup τ 183 j (ν 183 j + pasN j ν)) 189 j (ν 189 j + pasN j ν) else zup τ 183 (40 + 10 * j + tl ν j 3 - 1) (ν 183 (40 + 10 * j + tl ν j 3 - 1) + pasN j ν)) 190 = τ 190 := by
    intro τ; split <;> simp (disch := omega) only [zup_ne]
  unfold pasS
  rw [key]
  unfold pasB pasA
  by_cases c : j = 0
  · rw [if_pos c, if_neg (show ¬ (0 < j ∧ i + 1 = j) by omega)]
    simp (disch := omega) only [zup_ne]
  · rw [if_neg c]
    by_cases x : i = j - 1
    · subst x; rw [zup_hit, if_pos (by omega)]
    · rw [zup_miss x, if_neg (show ¬ (0 < j ∧ i + 1 = j) by omega)]
      simp (disch := omega) only [zup_ne]
theorem pasS_193 {j : Nat} {ν : Sg} (i : Nat) : pasS j ν 193 i = if i = j then (if ν 183 (8 + j) ≤ pasN j ν then 0 else 1) else ν 193 i := by
  have key : ∀ τ : Sg, (if tl ν j 3 = 0 then zup (zup τ 183 j (ν 183 j + pasN j ν)) 189 j (ν 189 j + pasN j ν) else zup τ 183 (40 + 10 * j + tl ν j 3 - 1) (ν 183 (40 + 10 * j + tl ν j 3 - 1) + pasN j ν)) 193 = τ 193 := by
    intro τ; split <;> simp (disch := omega) only [zup_ne]
  have key2 : pasB j ν 193 = pasA j ν 193 := by
    unfold pasB; split <;> simp (disch := omega) only [zup_ne]
  unfold pasS
  rw [key, key2]
  unfold pasA
  rw [zup_ne (by omega)]
  by_cases x : i = j
  · subst x; rw [zup_hit, if_pos rfl]
  · rw [zup_miss x, if_neg x]
theorem pasS_ne {j a : Nat} {ν : Sg} (h : a ≠ 183 ∧ a ≠ 189 ∧ a ≠ 190 ∧ a ≠ 193) : pasS j ν a = ν a := by
  unfold pasS pasB pasA
  split <;> split <;> simp (disch := omega) only [zup_ne]
theorem mod_ne {s k D : Nat} (h : k + 1 < D) : (s + (k + 1)) % D ≠ s % D := by
  intro e
  have h1 := Nat.sub_mod_eq_zero_of_mod_eq e
  rw [show s + (k + 1) - s = k + 1 from by omega, Nat.mod_eq_of_lt h] at h1
  omega
theorem pas_run {τ ν : Sg} {w p1 j : Nat} (hw : w = 56 ∨ w = 82) (hp1 : p1 = 3 ∨ p1 = 29) (hR : RepK τ p1 ν) (hT : InvT ν) (hj : j < nP ν) (hV : RepV τ w ν) (hN : RepN τ w ν) :
    ∃ τ', Water_passGates_l2 τ w p1 (nI j) = some (.inl (τ', nI (j + 1))) ∧ Fr w (w + 16) τ τ' ∧
    (∀ p, τ' (w + 1) p = if 0 < j ∧ p + 1 = j then τ (w + 1) p - pasN j ν else if tl ν j 3 = 0 ∧ p = j then τ (w + 1) p + pasN j ν else τ (w + 1) p) ∧
    (∀ p, τ' (w + 11) p = if tl ν j 3 = 0 ∧ p = j then τ (w + 11) p + pasN j ν else τ (w + 11) p) ∧
    (∀ p, τ' (w + 12) p = if 0 < j ∧ p + 1 = j then τ (w + 12) p + pasN j ν else τ (w + 12) p) ∧
    (∀ p, τ' (w + 13) p = if p = j then pasN j ν else τ (w + 13) p) ∧ (∀ p, τ' (w + 14) p = if p = j then ν 183 (8 + j) else τ (w + 14) p) ∧
    (∀ i, τ' (w + 8) i = if j = 0 ∧ i = 0 then τ (w + 8) i + pasN j ν else τ (w + 8) i) ∧
    (∀ i, τ' (w + 5) i = if 0 < tl ν j 3 ∧ i = 9 * j + stp ν % tl ν j 3 then pasN j ν else τ (w + 5) i) ∧
    (τ' w = τ w ∧ τ' (w + 2) = τ (w + 2) ∧ τ' (w + 3) = τ (w + 3) ∧ τ' (w + 4) = τ (w + 4) ∧ τ' (w + 6) = τ (w + 6) ∧ τ' (w + 7) = τ (w + 7) ∧ τ' (w + 10) = τ (w + 10) ∧ τ' (w + 15) = τ (w + 15)) := by
  obtain ⟨hK, hO, ⟨hs, hs2⟩, _⟩ := hT
  obtain ⟨hP, hP8⟩ := hK.1
  have hd9 := (hK.2.2.2.2.1 j hj).1
  have hd3 := (hK.2.2.2.1 j hj 3 (by omega)).1
  obtain ⟨v1, v2, v3, v4, v5, v6, v7⟩ := hV
  have hd := (hR.2.1 j hj).1.2.2.2.2
  rw [hd3] at hd
  have hP' : τ p1 3 = nI (nP ν) := hR.1.1.trans hP
  obtain ⟨a1, a2, a3, a4⟩ := v1 j hj
  have v5' := v5.trans hs
  have m9 : j * 9 = 9 * j := Nat.mul_comm _ _
  have hm0 : j = 0 → mn (ν 183 (8 + j)) (ν 183 197) = pasN j ν := fun h => by unfold pasN; rw [if_pos h]
  have hm1 : ¬ j = 0 → mn (ν 183 (8 + j)) (ν 183 (j - 1)) = pasN j ν := fun h => by unfold pasN; rw [if_neg h]
  unfold Water_passGates_l2 Water_passGates_j2_35 Water_passGates_j2_83
  by_cases c : j = 0
  · have hm := hm0 c
    by_cases c0 : tl ν j 3 = 0
    · simp (disch := omega) only [zgt_e, zpt_e, zlt_e, zrd_e, zwr_e, zelr_e, znz_e, zcp_e, zlit, nI_add, nI_mul, nI_sub, nI_div, ↓irem_f, irem_e, Nat.zero_add, Nat.add_zero, obs, zb_t, zb_f, nI_eqt, nI_eqf, nI_let, nI_lef, nI_ltt, nI_ltf, nI_m1, nI_n1, ↓reduceIte, zup_ne, zup_miss, zup_hit, zbo_1, zbo_0, reduceCtorEq, sel_l, sel_r, Nat.reduceAdd, Nat.reduceSub, Nat.reduceMul, hP', a2, v6, ↓mn_f, hm, hd]
      refine ⟨_, rfl, ?_, ?_, ?_, ?_, ?_, ?_, ?_, ?_, ?_⟩
      · intro a ha; simp (disch := omega) only [zup_ne]
      all_goals first | (simp (disch := omega) only [zup_ne]; exact ⟨trivial, trivial, trivial, trivial, trivial, trivial, trivial, trivial⟩) | (intro p; simp (disch := omega) only [zup_ne, zup_at, true_and, and_true, true_and]; (repeat' split) <;> first | rfl | (exfalso; omega) | (subst_vars; rfl) | simp_all)
    · have hm9 : stp ν % tl ν j 3 < tl ν j 3 := Nat.mod_lt _ (by omega)
      simp (disch := omega) only [zgt_e, zpt_e, zlt_e, zrd_e, zwr_e, zelr_e, znz_e, zcp_e, zlit, nI_add, nI_mul, nI_sub, nI_div, ↓irem_f, irem_e, Nat.zero_add, Nat.add_zero, obs, zb_t, zb_f, nI_eqt, nI_eqf, nI_let, nI_lef, nI_ltt, nI_ltf, nI_m1, nI_n1, ↓reduceIte, zup_ne, zup_miss, zup_hit, zbo_1, zbo_0, reduceCtorEq, sel_l, sel_r, Nat.reduceAdd, Nat.reduceSub, Nat.reduceMul, hP', a2, v6, ↓mn_f, hm, hd, v5', m9]
      refine ⟨_, rfl, ?_, ?_, ?_, ?_, ?_, ?_, ?_, ?_, ?_⟩
      · intro a ha; simp (disch := omega) only [zup_ne]
      all_goals first | (simp (disch := omega) only [zup_ne]; exact ⟨trivial, trivial, trivial, trivial, trivial, trivial, trivial, trivial⟩) | (intro p; simp (disch := omega) only [zup_ne, zup_at, true_and, and_true, true_and]; (repeat' split) <;> first | rfl | (exfalso; omega) | (subst_vars; rfl) | simp_all)
  · have hm := hm1 c
    have b1 := (v1 (j - 1) (by omega)).1
    by_cases c0 : tl ν j 3 = 0
    · simp (disch := omega) only [zgt_e, zpt_e, zlt_e, zrd_e, zwr_e, zelr_e, znz_e, zcp_e, zlit, nI_add, nI_mul, nI_sub, nI_div, ↓irem_f, irem_e, Nat.zero_add, Nat.add_zero, obs, zb_t, zb_f, nI_eqt, nI_eqf, nI_let, nI_lef, nI_ltt, nI_ltf, nI_m1, nI_n1, ↓reduceIte, zup_ne, zup_miss, zup_hit, zbo_1, zbo_0, reduceCtorEq, sel_l, sel_r, Nat.reduceAdd, Nat.reduceSub, Nat.reduceMul, hP', a2, b1, ↓mn_f, hm, hd]
      refine ⟨_, rfl, ?_, ?_, ?_, ?_, ?_, ?_, ?_, ?_, ?_⟩
      · intro a ha; simp (disch := omega) only [zup_ne]
      all_goals first | (simp (disch := omega) only [zup_ne]; exact ⟨trivial, trivial, trivial, trivial, trivial, trivial, trivial, trivial⟩) | (intro p; simp (disch := omega) only [zup_ne, zup_at, true_and, and_true, true_and]; (repeat' split) <;> first | rfl | (exfalso; omega) | (subst_vars; rfl) | simp_all)
    · have hm9 : stp ν % tl ν j 3 < tl ν j 3 := Nat.mod_lt _ (by omega)
      simp (disch := omega) only [zgt_e, zpt_e, zlt_e, zrd_e, zwr_e, zelr_e, znz_e, zcp_e, zlit, nI_add, nI_mul, nI_sub, nI_div, ↓irem_f, irem_e, Nat.zero_add, Nat.add_zero, obs, zb_t, zb_f, nI_eqt, nI_eqf, nI_let, nI_lef, nI_ltt, nI_ltf, nI_m1, nI_n1, ↓reduceIte, zup_ne, zup_miss, zup_hit, zbo_1, zbo_0, reduceCtorEq, sel_l, sel_r, Nat.reduceAdd, Nat.reduceSub, Nat.reduceMul, hP', a2, b1, ↓mn_f, hm, hd, v5', m9]
      refine ⟨_, rfl, ?_, ?_, ?_, ?_, ?_, ?_, ?_, ?_, ?_⟩
      · intro a ha; simp (disch := omega) only [zup_ne]
      all_goals first | (simp (disch := omega) only [zup_ne]; exact ⟨trivial, trivial, trivial, trivial, trivial, trivial, trivial, trivial⟩) | (intro p; simp (disch := omega) only [zup_ne, zup_at, true_and, and_true, true_and]; (repeat' split) <;> first | rfl | (exfalso; omega) | (subst_vars; rfl) | simp_all)
theorem pas_body {τ ν : Sg} {w p1 j : Nat} (hw : w = 56 ∨ w = 82) (hp1 : p1 = 3 ∨ p1 = 29) (hR : RepK τ p1 ν) (hT : InvT ν) (hj : j < nP ν) (hV : RepV τ w ν) (hN : RepN τ w ν) (hB : WayB τ w ν j (stp ν)) (hPr : RepP τ w ν j) :
    ∃ τ', Water_passGates_l2 τ w p1 (nI j) = some (.inl (τ', nI (j + 1))) ∧ Fr w (w + 16) τ τ' ∧ RepV τ' w (pasS j ν) ∧ RepN τ' w (pasS j ν) ∧ RepP τ' w (pasS j ν) (j + 1) ∧ WayA τ' w (pasS j ν) j (stp ν + 1) ∧ (∀ i, i < 9 * j ∨ 9 * j + tl ν j 3 ≤ i → τ' (w + 5) i = τ (w + 5) i) := by
  obtain ⟨τ', r0, r1, r2, r3, r4, r5, r6, r7, r8, q0, q2, q3, q4, q6, q7, q10, q15⟩ := pas_run hw hp1 hR hT hj hV hN
  obtain ⟨hK, hO, ⟨hs, hs2⟩, _⟩ := hT
  obtain ⟨hP, hP8⟩ := hK.1
  have hO10 := hK.2.1.2
  have hd9 := (hK.2.2.2.2.1 j hj).1
  have st := pasS_stat (σ := ν) (p := j) (by omega) hd9
  obtain ⟨v1, v2, v3, v4, v5, v6, v7⟩ := hV
  have hat := pasS_at (ν := ν) (j := j) (by omega) hd9
  refine ⟨τ', r0, r1, ⟨?_, ?_, ?_, ?_, ?_⟩, ?_, ?_, ?_, ?_⟩
  · intro p hp
    rw [st.e_nP] at hp
    obtain ⟨b1, b2, b3, b4⟩ := v1 p hp
    rw [r2, q2, q3, q4, b1, b2, b3, b4, hat p, hat (8 + p), hat (24 + p), hat (16 + p)]
    refine ⟨?_, ?_, ?_, ?_⟩
    · rw [if_neg (show ¬ p = 120 + j by omega), if_neg (show ¬ (j = 0 ∧ p = 200) by omega)]
      by_cases x1 : 0 < j ∧ p + 1 = j
      · rw [if_pos x1, if_pos x1]
      · rw [if_neg x1, if_neg x1]
        by_cases x2 : tl ν j 3 = 0 ∧ p = j
        · rw [if_pos x2, if_pos x2, x2.2]
        · rw [if_neg x2, if_neg x2, if_neg (by omega)]
    · rw [if_neg (by omega), if_neg (by omega), if_neg (by omega), if_neg (by omega), if_neg (by omega)]
    · rw [if_neg (by omega), if_neg (by omega), if_neg (by omega), if_neg (by omega), if_neg (by omega)]
    · rw [if_neg (by omega), if_neg (by omega), if_neg (by omega), if_neg (by omega), if_neg (by omega)]
  · intro o ho
    rw [st.e_nO] at ho
    obtain ⟨b1, b2⟩ := v2 o ho
    rw [q6, q7, b1, b2, hat (128 + o), hat (138 + o)]
    constructor
    · rw [if_neg (by omega), if_neg (by omega), if_neg (by omega), if_neg (by omega), if_neg (by omega)]
    · rw [if_neg (by omega), if_neg (by omega), if_neg (by omega), if_neg (by omega), if_neg (by omega)]
  · intro i hi
    rw [r7, v3 i hi, hat (200 + i), if_neg (show ¬ 200 + i = 120 + j by omega)]
    by_cases x : j = 0 ∧ i = 0
    · rw [if_pos x, if_pos (by omega), x.2]
    · rw [if_neg x, if_neg (by omega), if_neg (by omega), if_neg (by omega), if_neg (by omega)]
  · rw [r7, if_neg (by omega), v4, st.e_nO]
    refine sm_congr (fun o ho => ?_)
    rw [hat (138 + o), if_neg (by omega), if_neg (by omega), if_neg (by omega), if_neg (by omega), if_neg (by omega)]
  · rw [q0, v5, v6, v7, hat 196, hat 197, hat 198]
    refine ⟨?_, ?_, ?_⟩
    · rw [if_neg (by omega), if_neg (by omega), if_neg (by omega), if_neg (by omega), if_neg (by omega)]
    · rw [if_neg (by omega), if_neg (by omega), if_neg (by omega), if_neg (by omega), if_neg (by omega)]
    · rw [if_neg (by omega), if_neg (by omega), if_neg (by omega), if_neg (by omega), if_neg (by omega)]
  · intro p hp
    rw [st.e_nP] at hp
    obtain ⟨b1, b2, b3, b4⟩ := hN p hp
    rw [q10, q15, r3, r4, b1, b2, b3, b4, pasS_ne (a := 191) (by omega), pasS_ne (a := 192) (by omega), pasS_189, pasS_190]
    refine ⟨rfl, ?_, rfl, rfl⟩
    by_cases x : tl ν j 3 = 0 ∧ p = j
    · rw [if_pos x, if_pos x, x.2]
    · rw [if_neg x, if_neg x]
  · intro p hp
    rw [r5, r6, pasS_193, hat (120 + p)]
    by_cases x : p = j
    · subst x
      rw [if_pos rfl, if_pos rfl, if_pos rfl, if_pos rfl]
      exact ⟨rfl, rfl⟩
    · obtain ⟨b1, b2⟩ := hPr p (by omega)
      rw [if_neg x, if_neg x, if_neg x, if_neg (by omega), if_neg (by omega), if_neg (by omega), if_neg (by omega), if_neg (by omega)]
      exact ⟨b1, b2⟩
  · have hpw : ∀ k, k < 10 → pasS j ν 183 (40 + 10 * j + k) = if 0 < tl ν j 3 ∧ k + 1 = tl ν j 3 then ν 183 (40 + 10 * j + k) + pasN j ν else ν 183 (40 + 10 * j + k) := by
      intro k hk
      rw [hat, if_neg (by omega), if_neg (by omega), if_neg (by omega), if_neg (by omega)]
      by_cases x : 0 < tl ν j 3 ∧ k + 1 = tl ν j 3
      · rw [if_pos x, if_pos (by omega)]
      · rw [if_neg x, if_neg (by omega)]
    unfold WayA
    rw [st.e_tl]
    constructor
    · intro k hk
      rw [r8, hpw k (by omega)]
      by_cases x : k + 1 = tl ν j 3
      · have e1 : (stp ν + 1 + k) % tl ν j 3 = stp ν % tl ν j 3 := by
          rw [show stp ν + 1 + k = stp ν + tl ν j 3 from by omega, Nat.add_mod_right]
        rw [if_pos ⟨by omega, by rw [e1]⟩, if_pos ⟨by omega, x⟩, hB.2 k (by omega) (by omega)]
        simp
      · have e1 : (stp ν + (k + 1)) % tl ν j 3 ≠ stp ν % tl ν j 3 := mod_ne (by omega)
        rw [show stp ν + 1 + k = stp ν + (k + 1) from by omega, if_neg (by omega), if_neg (by omega)]
        exact hB.1 k (by omega)
    · intro k hk hk2
      rw [hpw k hk2, if_neg (by omega)]
      exact hB.2 k (by omega) hk2
  · intro i hi
    rw [r8]
    by_cases x : 0 < tl ν j 3
    · have hm9 : stp ν % tl ν j 3 < tl ν j 3 := Nat.mod_lt _ x
      rw [if_neg (by omega)]
    · rw [if_neg (by omega)]
theorem Water_passGates_ok {σ μ : Sg} {w p1 : Nat} (hw : w = 56 ∨ w = 82) (hp1 : p1 = 3 ∨ p1 = 29) (hR : RepK σ p1 μ) (hT : InvT μ) (hV : RepV σ w μ) (hN : RepN σ w μ) (hB : ∀ p, p < nP μ → WayB σ w μ p (stp μ)) (hZ : WayZ σ w μ) :
    ∃ σ', Water_passGates σ w p1 = some σ' ∧ Fr w (w + 16) σ σ' ∧ Stat μ (itS pasS (nP μ) μ) ∧ RepV σ' w (itS pasS (nP μ) μ) ∧ RepN σ' w (itS pasS (nP μ) μ) ∧ RepP σ' w (itS pasS (nP μ) μ) (nP μ) ∧ (∀ p, p < nP μ → WayA σ' w (itS pasS (nP μ) μ) p (stp μ + 1)) ∧ WayZ σ' w (itS pasS (nP μ) μ) ∧ itS pasS (nP μ) μ 192 = μ 192 := by
  have hP8 := hT.1.1.2
  have hT2 := hT.1.2.2.1.2
  have hd : ∀ p, p < nP μ → tl μ p 3 ≤ 9 := fun p hp => (hT.1.2.2.2.2.1 p hp).1
  have hl := zit_cnt (b := fun (s : (Sg × Int32)) => Water_passGates_l2 s.1 w p1 s.2) (fun j τ => Fr w (w + 16) σ τ ∧ Stat μ (itS pasS j μ) ∧ RepV τ w (itS pasS j μ) ∧ RepN τ w (itS pasS j μ) ∧ RepP τ w (itS pasS j μ) j ∧ (∀ p, p < j → WayA τ w (itS pasS j μ) p (stp μ + 1)) ∧ (∀ p, p < nP μ → j ≤ p → WayB τ w (itS pasS j μ) p (stp μ)) ∧ WayZ τ w μ ∧ itS pasS j μ 192 = μ 192) nI (nP μ) (σ := σ) (by omega)
    ⟨Fr.refl σ, Stat.refl μ, hV, hN, fun p h => absurd h (by omega), fun p h => absurd h (by omega), fun p hp _ => hB p hp, hZ, rfl⟩ (by
    rintro j τ hj ⟨f, s, v, n, pr, wa, wb, wz, e9⟩
    have hj' : j < nP (itS pasS j μ) := by rw [s.e_nP]; exact hj
    have hR' : RepK τ p1 (itS pasS j μ) := (hR.fr f hT2 (by omega)).stat s
    have hB' := wb j hj (Nat.le_refl j)
    rw [← s.e_stp] at hB'
    obtain ⟨τ', b1, b2, b3, b4, b5, b6, b7⟩ := pas_body hw hp1 hR' (s.e_InvT hT) hj' v n hB' pr
    have htl : tl (itS pasS j μ) = tl μ := s.e_tl
    have hdj : tl (itS pasS j μ) j 3 ≤ 9 := by rw [htl]; exact hd j hj
    have st := pasS_stat (p := j) (by omega) hdj
    rw [htl] at b7
    have hdj' := hd j hj
    have hm : ∀ p k, p < 8 → p ≠ j → k < 10 → pasS j (itS pasS j μ) 183 (40 + 10 * p + k) = itS pasS j μ 183 (40 + 10 * p + k) := by
      intro p k hp hpj hk
      rw [pasS_at (by omega) hdj, htl, if_neg (by omega), if_neg (by omega), if_neg (by omega), if_neg (by omega), if_neg (by omega)]
    refine ⟨τ', b1, f.trans b2, s.trans st, b3, b4, b5, ?_, ?_, ?_, ?_⟩
    · intro p hp
      by_cases c : p = j
      · subst c
        rw [s.e_stp] at b6
        exact b6
      · have h0 := wa p (by omega)
        have hdp := hd p (by omega)
        show WayA τ' w (pasS j (itS pasS j μ)) p (stp μ + 1)
        unfold WayA at h0 ⊢
        rw [htl] at h0
        rw [st.e_tl, htl]
        constructor
        · intro k hk
          have hm9 : (stp μ + 1 + k) % tl μ p 3 < tl μ p 3 := Nat.mod_lt _ (by omega)
          rw [b7 _ (by omega), hm p k (by omega) c (by omega)]
          exact h0.1 k hk
        · intro k hk hk2
          rw [hm p k (by omega) c (by omega)]
          exact h0.2 k hk hk2
    · intro p hp hpj
      have h0 := wb p hp (by omega)
      have hdp := hd p hp
      show WayB τ' w (pasS j (itS pasS j μ)) p (stp μ)
      unfold WayB at h0 ⊢
      rw [htl] at h0
      rw [st.e_tl, htl]
      constructor
      · intro k hk
        have hm9 : (stp μ + (k + 1)) % tl μ p 3 < tl μ p 3 := Nat.mod_lt _ (by omega)
        rw [b7 _ (by omega), hm p k (by omega) (by omega) (by omega)]
        exact h0.1 k hk
      · intro k hk hk2
        rw [hm p k (by omega) (by omega) (by omega)]
        exact h0.2 k hk hk2
    · intro p hp i hi hi9
      by_cases c : p = j
      · subst c
        rw [b7 _ (by omega)]
        exact wz p hp i hi hi9
      · rw [b7 _ (by omega)]
        exact wz p hp i hi hi9
    · show pasS j (itS pasS j μ) 192 = μ 192
      rw [pasS_ne (by omega), e9]) (by
    rintro τ ⟨f, s, v, n, pr, wa, wb, wz⟩
    have hP' : τ p1 3 = nI (nP μ) := by rw [f p1 (by omega), hR.1.1]; exact hT.1.1.1
    unfold Water_passGates_l2
    simp (disch := omega) only [zgt_e, zpt_e, zlt_e, zrd_e, zwr_e, zelr_e, znz_e, zcp_e, zlit, nI_add, nI_mul, nI_sub, nI_div, ↓irem_f, irem_e, Nat.zero_add, Nat.add_zero, obs, zb_t, zb_f, nI_eqt, nI_eqf, nI_let, nI_lef, nI_ltt, nI_ltf, nI_m1, nI_n1, ↓reduceIte, zup_ne, zup_miss, zup_hit, zbo_1, zbo_0, reduceCtorEq, sel_l, sel_r, Nat.reduceAdd, Nat.reduceSub, Nat.reduceMul, hP'])
  obtain ⟨τ, e, f, s, v, n, pr, wa, wb, wz, e9⟩ := hl
  refine ⟨τ, ?_, f, s, v, n, pr, wa, ?_, e9⟩
  · unfold Water_passGates
    simp only [zlt_e, zlit, e, obs]
  · intro p hp i hi hi9
    rw [s.e_nP] at hp
    rw [s.e_tl] at hi
    exact wz p hp i hi hi9
