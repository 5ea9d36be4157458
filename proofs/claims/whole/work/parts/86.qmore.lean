/-! more answers that only read -/
theorem M_outlet_l {σ : Sg} (hK : InvK σ) {o : Nat} (ho : o < nO σ) (x2 : Int32) : zit (fun (s : (Int32 × Int32)) => M_outlet_l15 σ (nI o) x2 s.1 s.2) zFU (nI 0, nI 0) = some (nI (nd σ 0 (opl σ o + 1)), nI (opl σ o + 1)) := by
  obtain ⟨o1, o2, o3, o4, o5⟩ := hK.2.2.2.2.2.1 o ho
  have hP8 := hK.1.2
  have hO10 := hK.2.1.2
  refine zit_eq (fun i => (nI (nd σ 0 i), nI i)) _ (opl σ o + 1) 0 (by omega) (fun i _ hi => ?_) ?_ zFU 0 (by rw [zFU_e]; omega) (by omega) (by omega)
  · have ht3 := (hK.2.2.2.1 i (by omega) 3 (by omega)).1
    unfold M_outlet_l15
    simp (disch := omega) only [zgt_e, zpt_e, zlt_e, zrd_e, zwr_e, zelr_e, znz_e, zcp_e, zlit, nI_add, nI_mul, nI_sub, nI_div, ↓irem_f, irem_e, Nat.zero_add, Nat.add_zero, obs, zb_t, zb_f, nI_eqt, nI_eqf, nI_let, nI_lef, nI_ltt, nI_ltf, nI_m1, nI_n1, ↓reduceIte, zup_ne, zup_miss, zup_hit, zbo_1, zbo_0, reduceCtorEq, sel_l, sel_r, Nat.reduceAdd, Nat.reduceSub, Nat.reduceMul, M_poolOf_e, o1, M_toldOf_e, ht3, nd_succ]
  · unfold M_outlet_l15
    simp (disch := omega) only [zgt_e, zpt_e, zlt_e, zrd_e, zwr_e, zelr_e, znz_e, zcp_e, zlit, nI_add, nI_mul, nI_sub, nI_div, ↓irem_f, irem_e, Nat.zero_add, Nat.add_zero, obs, zb_t, zb_f, nI_eqt, nI_eqf, nI_let, nI_lef, nI_ltt, nI_ltf, nI_m1, nI_n1, ↓reduceIte, zup_ne, zup_miss, zup_hit, zbo_1, zbo_0, reduceCtorEq, sel_l, sel_r, Nat.reduceAdd, Nat.reduceSub, Nat.reduceMul, M_poolOf_e, o1]
theorem q_outlet {σ : Sg} {p1 : Nat} (h : Now σ p1) (x1 x2 : Int32) : Same (CK_outlet σ x1 x2) (M_outlet σ x1 x2) := by
  obtain ⟨hp, hR, hK, hM⟩ := h
  have hP8 := hK.1.2
  have hO10 := hK.2.1.2
  obtain ⟨⟨⟨v1, v2, _, _, v5, v6, v7⟩, hA, hZ⟩, hQ, hL, hO, ⟨hS, hS9⟩, hWs, _⟩ := hM
  unfold CK_outlet M_outlet
  rcases isOutlet_c hp hR hK x1 with ⟨e1, e2⟩ | ⟨j, hj, rfl, e1, e2⟩
  · rw [e1, e2, bf, bf]
    exact ⟨_, rfl, rfl⟩
  · obtain ⟨o1, o2, o3, o4, o5⟩ := hK.2.2.2.2.2.1 j hj
    obtain ⟨k1, k2⟩ := hR.2.2.1 j hj
    obtain ⟨b1, b2⟩ := v2 j hj
    simp only [Nat.reduceAdd] at v5 b1 b2
    have hst := v5.trans hS
    have hl := M_outlet_l hK hj x2
    have hop := Works_isOpen_e hR hQ hK hO (o := j) (t := stp σ) (by omega) (by omega)
    have hop2 := M_isOpen_e hK hO (o := j) (t := stp σ) (by omega) (by omega)
    have hneed := Works_needs_e hR hK (g := 0) (p := opl σ j) (by omega) o2
    rw [e1, e2, bt, bt]
    simp only [zlt_e, zlit, hl, obs, M_outlet_j41]
    refine same_ite (fun _ => (by simp (disch := omega) only [zgt_e, zpt_e, zlt_e, zrd_e, zwr_e, zelr_e, znz_e, zcp_e, zlit, nI_add, nI_mul, nI_sub, nI_div, ↓irem_f, irem_e, Nat.zero_add, Nat.add_zero, obs, zb_t, zb_f, nI_eqt, nI_eqf, nI_let, nI_lef, nI_ltt, nI_ltf, nI_m1, nI_n1, ↓reduceIte, zup_ne, zup_miss, zup_hit, zbo_1, zbo_0, reduceCtorEq, sel_l, sel_r, Nat.reduceAdd, Nat.reduceSub, Nat.reduceMul, ptr_e hp, k1, M_poolOf_e]; exact ⟨_, rfl, rfl⟩)) (fun _ => ?_)
    refine same_ite (fun _ => (by simp (disch := omega) only [zgt_e, zpt_e, zlt_e, zrd_e, zwr_e, zelr_e, znz_e, zcp_e, zlit, nI_add, nI_mul, nI_sub, nI_div, ↓irem_f, irem_e, Nat.zero_add, Nat.add_zero, obs, zb_t, zb_f, nI_eqt, nI_eqf, nI_let, nI_lef, nI_ltt, nI_ltf, nI_m1, nI_n1, ↓reduceIte, zup_ne, zup_miss, zup_hit, zbo_1, zbo_0, reduceCtorEq, sel_l, sel_r, Nat.reduceAdd, Nat.reduceSub, Nat.reduceMul, ptr_e hp, k2, M_takesOf_e]; exact ⟨_, rfl, rfl⟩)) (fun _ => ?_)
    refine same_ite (fun _ => ?_) (fun _ => ?_)
    · simp (disch := omega) only [zgt_e, zpt_e, zlt_e, zrd_e, zwr_e, zelr_e, znz_e, zcp_e, zlit, nI_add, nI_mul, nI_sub, nI_div, ↓irem_f, irem_e, Nat.zero_add, Nat.add_zero, obs, zb_t, zb_f, nI_eqt, nI_eqf, nI_let, nI_lef, nI_ltt, nI_ltf, nI_m1, nI_n1, ↓reduceIte, zup_ne, zup_miss, zup_hit, zbo_1, zbo_0, reduceCtorEq, sel_l, sel_r, Nat.reduceAdd, Nat.reduceSub, Nat.reduceMul, ptr_e hp, hst, hS, hop, hop2]
      exact same_ite (fun _ => ⟨_, rfl, rfl⟩) (fun _ => ⟨_, rfl, rfl⟩)
    refine same_ite (fun _ => (by simp (disch := omega) only [zgt_e, zpt_e, zlt_e, zrd_e, zwr_e, zelr_e, znz_e, zcp_e, zlit, nI_add, nI_mul, nI_sub, nI_div, ↓irem_f, irem_e, Nat.zero_add, Nat.add_zero, obs, zb_t, zb_f, nI_eqt, nI_eqf, nI_let, nI_lef, nI_ltt, nI_ltf, nI_m1, nI_n1, ↓reduceIte, zup_ne, zup_miss, zup_hit, zbo_1, zbo_0, reduceCtorEq, sel_l, sel_r, Nat.reduceAdd, Nat.reduceSub, Nat.reduceMul, b1]; exact ⟨_, rfl, rfl⟩)) (fun _ => ?_)
    refine same_ite (fun _ => (by simp (disch := omega) only [zgt_e, zpt_e, zlt_e, zrd_e, zwr_e, zelr_e, znz_e, zcp_e, zlit, nI_add, nI_mul, nI_sub, nI_div, ↓irem_f, irem_e, Nat.zero_add, Nat.add_zero, obs, zb_t, zb_f, nI_eqt, nI_eqf, nI_let, nI_lef, nI_ltt, nI_ltf, nI_m1, nI_n1, ↓reduceIte, zup_ne, zup_miss, zup_hit, zbo_1, zbo_0, reduceCtorEq, sel_l, sel_r, Nat.reduceAdd, Nat.reduceSub, Nat.reduceMul, b2]; exact ⟨_, rfl, rfl⟩)) (fun _ => ?_)
    refine same_ite (fun _ => ?_) (fun _ => ⟨_, rfl, rfl⟩)
    rw [o1] at k1
    simp (disch := omega) only [zgt_e, zpt_e, zlt_e, zrd_e, zwr_e, zelr_e, znz_e, zcp_e, zlit, nI_add, nI_mul, nI_sub, nI_div, ↓irem_f, irem_e, Nat.zero_add, Nat.add_zero, obs, zb_t, zb_f, nI_eqt, nI_eqf, nI_let, nI_lef, nI_ltt, nI_ltf, nI_m1, nI_n1, ↓reduceIte, zup_ne, zup_miss, zup_hit, zbo_1, zbo_0, reduceCtorEq, sel_l, sel_r, Nat.reduceAdd, Nat.reduceSub, Nat.reduceMul, ptr_e hp, k1, hneed, Nat.sub_zero]
    exact ⟨_, rfl, rfl⟩
theorem q_order {σ : Sg} {p1 : Nat} (h : Now σ p1) (x1 x2 : Int32) : Same (CK_order σ x1 x2) (M_order σ x1 x2) := by
  obtain ⟨hp, hR, hK, hM⟩ := h
  have hO10 := hK.2.1.2
  obtain ⟨⟨⟨v1, v2, _, _, v5, v6, v7⟩, hA, hZ⟩, ⟨q0, q1⟩, hL, ⟨hC, hC16, hI⟩, ⟨hS, hS9⟩, hWs, _⟩ := hM
  simp only [Nat.reduceAdd] at v5 q0 q1
  have hst := v5.trans hS
  have hcc := q0.trans hC
  unfold CK_order M_order CK_isOrder
  rcases pk_ix x1 (n := nC σ) (by omega) with c | c | ⟨j, hj, rfl⟩
  · have c' : x1 < nI 0 := c
    simp (disch := omega) only [zlit, zrd_e, hC, isIn_out (show nC σ < 2147483648 by omega) (Or.inl c), c', ↓reduceIte]
    rw [bf', bf']
    exact ⟨_, rfl, rfl⟩
  · simp (disch := omega) only [zlit, zrd_e, zgt_e, hC, hcc, isIn_out (show nC σ < 2147483648 by omega) (Or.inr c), c, ↓reduceIte]
    by_cases c0 : x1 < nI 0
    · rw [if_pos c0, bf', bf']
      exact ⟨_, rfl, rfl⟩
    · rw [if_neg c0, bf', bf']
      exact ⟨_, rfl, rfl⟩
  · obtain ⟨e1, e2, e3, e4, e5, e6, e7⟩ := hI j hj
    obtain ⟨r1, r2, r3⟩ := q1 j hj
    rw [e1] at r1
    rw [e3] at r2
    rw [e5] at r3
    have x1' : 148 + 3 * j + 1 = 149 + 3 * j := by omega
    have x2' : 148 + 3 * j + 2 = 150 + 3 * j := by omega
    simp (disch := omega) only [zlit, zrd_e, zgt_e, hC, hcc, nI_ltf, nI_lef, isIn_in (show nC σ < 2147483648 by omega) hj, ↓reduceIte]
    rw [bt', bt']
    rcases pk_ix x2 (n := 4) (by omega) with c | c | ⟨k, hk, rfl⟩
    · rw [isIn_lit (n := 3) (by omega) (Or.inl c), bf']
      have hne : ∀ n : Nat, n < 100 → ¬ x2 = nI n := fun n hn e => by
        rw [e] at c
        exact absurd c (nI_pos (by omega))
      rw [if_neg (hne 0 (by omega)), if_neg (hne 1 (by omega)), if_neg (hne 2 (by omega)), if_neg (hne 3 (by omega))]
      exact ⟨_, rfl, rfl⟩
    · rw [isIn_lit (n := 3) (by omega) (Or.inr c), bf']
      have hne : ∀ n : Nat, n < 4 → ¬ x2 = nI n := fun n hn e => by
        rw [e] at c
        exact absurd c (nI_ge hn (by omega))
      rw [if_neg (hne 0 (by omega)), if_neg (hne 1 (by omega)), if_neg (hne 2 (by omega)), if_neg (hne 3 (by omega))]
      exact ⟨_, rfl, rfl⟩
    · have hin : M_isIn (nI k) (nI 0) (nI 3) = some true := by
        rw [M_isIn_e (by omega) (by omega) (by omega)]
        congr 1
        exact decide_eq_true (by omega)
      rw [hin, bt']
      rcases (show k = 0 ∨ k = 1 ∨ k = 2 ∨ k = 3 by omega) with e | e | e | e
      · subst e
        simp (disch := omega) only [zgt_e, zpt_e, zlt_e, zrd_e, zwr_e, zelr_e, znz_e, zcp_e, zlit, nI_add, nI_mul, nI_sub, nI_div, ↓irem_f, irem_e, Nat.zero_add, Nat.add_zero, obs, zb_t, zb_f, nI_eqt, nI_eqf, nI_let, nI_lef, nI_ltt, nI_ltf, nI_m1, nI_n1, ↓reduceIte, zup_ne, zup_miss, zup_hit, zbo_1, zbo_0, reduceCtorEq, sel_l, sel_r, Nat.reduceAdd, Nat.reduceSub, Nat.reduceMul, r1, e1]
        exact ⟨_, rfl, rfl⟩
      · subst e
        simp (disch := omega) only [zgt_e, zpt_e, zlt_e, zrd_e, zwr_e, zelr_e, znz_e, zcp_e, zlit, nI_add, nI_mul, nI_sub, nI_div, ↓irem_f, irem_e, Nat.zero_add, Nat.add_zero, obs, zb_t, zb_f, nI_eqt, nI_eqf, nI_let, nI_lef, nI_ltt, nI_ltf, nI_m1, nI_n1, ↓reduceIte, zup_ne, zup_miss, zup_hit, zbo_1, zbo_0, reduceCtorEq, sel_l, sel_r, Nat.reduceAdd, Nat.reduceSub, Nat.reduceMul, r2, x1', e3]
        exact ⟨_, rfl, rfl⟩
      · subst e
        simp (disch := omega) only [zgt_e, zpt_e, zlt_e, zrd_e, zwr_e, zelr_e, znz_e, zcp_e, zlit, nI_add, nI_mul, nI_sub, nI_div, ↓irem_f, irem_e, Nat.zero_add, Nat.add_zero, obs, zb_t, zb_f, nI_eqt, nI_eqf, nI_let, nI_lef, nI_ltt, nI_ltf, nI_m1, nI_n1, ↓reduceIte, zup_ne, zup_miss, zup_hit, zbo_1, zbo_0, reduceCtorEq, sel_l, sel_r, Nat.reduceAdd, Nat.reduceSub, Nat.reduceMul, r3, x2', e5]
        exact ⟨_, rfl, rfl⟩
      · subst e
        unfold Orders_stateAt
        simp (disch := omega) only [zgt_e, zpt_e, zlt_e, zrd_e, zwr_e, zelr_e, znz_e, zcp_e, zlit, nI_add, nI_mul, nI_sub, nI_div, ↓irem_f, irem_e, Nat.zero_add, Nat.add_zero, obs, zb_t, zb_f, nI_eqt, nI_eqf, nI_let, nI_lef, nI_ltt, nI_ltf, nI_m1, nI_n1, ↓reduceIte, zup_ne, zup_miss, zup_hit, zbo_1, zbo_0, reduceCtorEq, sel_l, sel_r, Nat.reduceAdd, Nat.reduceSub, Nat.reduceMul, r2, r3, x1', x2', e3, e5, hst, hS]
        by_cases y1 : ofr σ j ≤ stp σ
        · by_cases y2 : ofr σ j + oma σ j ≤ stp σ
          · simp (disch := omega) only [zgt_e, zpt_e, zlt_e, zrd_e, zwr_e, zelr_e, znz_e, zcp_e, zlit, nI_add, nI_mul, nI_sub, nI_div, ↓irem_f, irem_e, Nat.zero_add, Nat.add_zero, obs, zb_t, zb_f, nI_eqt, nI_eqf, nI_let, nI_lef, nI_ltt, nI_ltf, nI_m1, nI_n1, ↓reduceIte, zup_ne, zup_miss, zup_hit, zbo_1, zbo_0, reduceCtorEq, sel_l, sel_r, Nat.reduceAdd, Nat.reduceSub, Nat.reduceMul]
            exact ⟨_, rfl, rfl⟩
          · simp (disch := omega) only [zgt_e, zpt_e, zlt_e, zrd_e, zwr_e, zelr_e, znz_e, zcp_e, zlit, nI_add, nI_mul, nI_sub, nI_div, ↓irem_f, irem_e, Nat.zero_add, Nat.add_zero, obs, zb_t, zb_f, nI_eqt, nI_eqf, nI_let, nI_lef, nI_ltt, nI_ltf, nI_m1, nI_n1, ↓reduceIte, zup_ne, zup_miss, zup_hit, zbo_1, zbo_0, reduceCtorEq, sel_l, sel_r, Nat.reduceAdd, Nat.reduceSub, Nat.reduceMul]
            exact ⟨_, rfl, rfl⟩
        · simp (disch := omega) only [zgt_e, zpt_e, zlt_e, zrd_e, zwr_e, zelr_e, znz_e, zcp_e, zlit, nI_add, nI_mul, nI_sub, nI_div, ↓irem_f, irem_e, Nat.zero_add, Nat.add_zero, obs, zb_t, zb_f, nI_eqt, nI_eqf, nI_let, nI_lef, nI_ltt, nI_ltf, nI_m1, nI_n1, ↓reduceIte, zup_ne, zup_miss, zup_hit, zbo_1, zbo_0, reduceCtorEq, sel_l, sel_r, Nat.reduceAdd, Nat.reduceSub, Nat.reduceMul]
          exact ⟨_, rfl, rfl⟩
theorem isStep_c (x : Int32) : (CK_isStep x = some false ∧ M_isIn x (nI 0) (nI 9999) = some false) ∨ ∃ t, t ≤ 9999 ∧ x = nI t ∧ CK_isStep x = some true ∧ M_isIn x (nI 0) (nI 9999) = some true := by
  unfold CK_isStep
  rcases isIn_gen (x := x) (n := 9999) (by omega) with ⟨e, c⟩ | ⟨t, ht, rfl, e⟩
  · left
    refine ⟨?_, e⟩
    rcases c with c | c
    · rw [if_pos c]
    · rw [zlit, zlit, if_pos c]
      split <;> rfl
  · right
    refine ⟨t, ht, rfl, ?_, e⟩
    simp (disch := omega) only [zgt_e, zpt_e, zlt_e, zrd_e, zwr_e, zelr_e, znz_e, zcp_e, zlit, nI_add, nI_mul, nI_sub, nI_div, ↓irem_f, irem_e, Nat.zero_add, Nat.add_zero, obs, zb_t, zb_f, nI_eqt, nI_eqf, nI_let, nI_lef, nI_ltt, nI_ltf, nI_m1, nI_n1, ↓reduceIte, zup_ne, zup_miss, zup_hit, zbo_1, zbo_0, reduceCtorEq, sel_l, sel_r, Nat.reduceAdd, Nat.reduceSub, Nat.reduceMul]
theorem q_opens {σ : Sg} {p1 : Nat} (h : Now σ p1) (x1 x2 : Int32) : Same (CK_opens σ x1 x2) (M_opens σ x1 x2) := by
  obtain ⟨hp, hR, hK, hM⟩ := h
  have hO10 := hK.2.1.2
  obtain ⟨_, hQ, hL, hO, _⟩ := hM
  unfold CK_opens M_opens
  rcases isOutlet_c hp hR hK x1 with ⟨e1, e2⟩ | ⟨j, hj, rfl, e1, e2⟩
  · rw [e1, e2, bf, bf]
    exact ⟨_, rfl, rfl⟩
  · rw [e1, e2, bt, bt]
    rcases isStep_c x2 with ⟨e3, e4⟩ | ⟨t, ht, rfl, e3, e4⟩
    · simp only [zlit, e3, e4]
      rw [bf', bf']
      exact ⟨_, rfl, rfl⟩
    · simp only [zlit, e3, e4, ptr_e hp]
      rw [bt', bt', Works_isOpen_e hR hQ hK hO (by omega) (by omega), M_isOpen_e hK hO (by omega) (by omega)]
      simp only [obs]
      exact same_ite (fun _ => ⟨_, rfl, rfl⟩) (fun _ => ⟨_, rfl, rfl⟩)
theorem q_load {σ : Sg} {p1 : Nat} (h : Now σ p1) (x1 x2 : Int32) : Same (CK_load σ x1 x2) (M_load σ x1 x2) := by
  have hN := h
  obtain ⟨hp, hR, hK, hM⟩ := h
  obtain ⟨_, hQ, hL, hO, _⟩ := hM
  unfold CK_load M_load
  rcases isPool_c hp hR hK x1 with ⟨e1, e2⟩ | ⟨j, hj, rfl, e1, e2⟩
  · rw [e1, e2, bf, bf]
    exact ⟨_, rfl, rfl⟩
  · rw [e1, e2, bt, bt]
    rcases isStep_c x2 with ⟨e3, e4⟩ | ⟨t, ht, rfl, e3, e4⟩
    · simp only [zlit, e3, e4]
      rw [bf', bf']
      exact ⟨_, rfl, rfl⟩
    · simp only [zlit, e3, e4]
      rw [bt', bt', CK_loadAt_e hN (by omega) (by omega), M_loadOf_e hK hO (by omega) (by omega)]
      exact ⟨_, rfl, rfl⟩
theorem Water_there_e {σ : Sg} {p1 : Nat} (h : Now σ p1) : Same (Water_there σ 56 (nI (nP σ))) (M_thereNow σ) := by
  obtain ⟨hp, hR, hK, hM⟩ := h
  obtain ⟨hP, hP8⟩ := hK.1
  obtain ⟨⟨⟨v1, v2, _, _, v5, v6, v7⟩, hA, hZ⟩, _⟩ := hM
  let S (n : Nat) : Int32 := sm (fun p => σ 183 p + sm (fun k => σ 183 (40 + 10 * p + k)) 10) n
  have h1 : zit (fun (s : (Int32 × Int32)) => Water_there_l4 σ 56 (nI (nP σ)) s.1 s.2) zFU (nI 0, nI 0) = some (S (nP σ), nI (nP σ)) := by
    refine zit_eq (fun j => (S j, nI j)) _ (nP σ) 0 (by omega) (fun j _ hj => ?_) ?_ zFU 0 (by rw [zFU_e]; omega) (by omega) (by omega)
    · have a1 := (v1 j hj).1
      have hd := (hK.2.2.2.2.1 j hj).1
      have ow := way_sum (hA j hj) hZ hj hd
      simp only [Nat.reduceAdd] at a1 ow
      unfold Water_there_l4
      simp (disch := omega) only [zgt_e, zpt_e, zlt_e, zrd_e, zwr_e, zelr_e, znz_e, zcp_e, zlit, nI_add, nI_mul, nI_sub, nI_div, ↓irem_f, irem_e, Nat.zero_add, Nat.add_zero, obs, zb_t, zb_f, nI_eqt, nI_eqf, nI_let, nI_lef, nI_ltt, nI_ltf, nI_m1, nI_n1, ↓reduceIte, zup_ne, zup_miss, zup_hit, zbo_1, zbo_0, reduceCtorEq, sel_l, sel_r, Nat.reduceAdd, Nat.reduceSub, Nat.reduceMul, a1, Water_onItsWay_e, ow]
      rfl
    · unfold Water_there_l4
      simp (disch := omega) only [zgt_e, zpt_e, zlt_e, zrd_e, zwr_e, zelr_e, znz_e, zcp_e, zlit, nI_add, nI_mul, nI_sub, nI_div, ↓irem_f, irem_e, Nat.zero_add, Nat.add_zero, obs, zb_t, zb_f, nI_eqt, nI_eqf, nI_let, nI_lef, nI_ltt, nI_ltf, nI_m1, nI_n1, ↓reduceIte, zup_ne, zup_miss, zup_hit, zbo_1, zbo_0, reduceCtorEq, sel_l, sel_r, Nat.reduceAdd, Nat.reduceSub, Nat.reduceMul]
  have h2 : zit (fun (s : (Int32 × Int32)) => M_thereNow_l4 σ s.1 s.2) zFU (nI 0, nI 0) = some (S (nP σ), nI (nP σ)) := by
    refine zit_eq (fun j => (S j, nI j)) _ (nP σ) 0 (by omega) (fun j _ hj => ?_) ?_ zFU 0 (by rw [zFU_e]; omega) (by omega) (by omega)
    · unfold M_thereNow_l4
      simp (disch := omega) only [zgt_e, zpt_e, zlt_e, zrd_e, zwr_e, zelr_e, znz_e, zcp_e, zlit, nI_add, nI_mul, nI_sub, nI_div, ↓irem_f, irem_e, Nat.zero_add, Nat.add_zero, obs, zb_t, zb_f, nI_eqt, nI_eqf, nI_let, nI_lef, nI_ltt, nI_ltf, nI_m1, nI_n1, ↓reduceIte, zup_ne, zup_miss, zup_hit, zbo_1, zbo_0, reduceCtorEq, sel_l, sel_r, Nat.reduceAdd, Nat.reduceSub, Nat.reduceMul, hP, M_onWay_e]
      rfl
    · unfold M_thereNow_l4
      simp (disch := omega) only [zgt_e, zpt_e, zlt_e, zrd_e, zwr_e, zelr_e, znz_e, zcp_e, zlit, nI_add, nI_mul, nI_sub, nI_div, ↓irem_f, irem_e, Nat.zero_add, Nat.add_zero, obs, zb_t, zb_f, nI_eqt, nI_eqf, nI_let, nI_lef, nI_ltt, nI_ltf, nI_m1, nI_n1, ↓reduceIte, zup_ne, zup_miss, zup_hit, zbo_1, zbo_0, reduceCtorEq, sel_l, sel_r, Nat.reduceAdd, Nat.reduceSub, Nat.reduceMul, hP]
  refine ⟨S (nP σ), ?_, ?_⟩
  · unfold Water_there
    simp only [zlt_e, zlit, h1, obs]
  · unfold M_thereNow
    simp only [zlt_e, zlit, h2, obs]
theorem M_shortOfAll_e {σ : Sg} (hK : InvK σ) : M_shortOfAll σ = some (sm (fun o => σ 183 (138 + o)) (nO σ)) := by
  obtain ⟨hP, hP8⟩ := hK.2.1
  have h2 : zit (fun (s : (Int32 × Int32)) => M_shortOfAll_l4 σ s.1 s.2) zFU (nI 0, nI 0) = some (sm (fun o => σ 183 (138 + o)) (nO σ), nI (nO σ)) := by
    refine zit_eq (fun j => (sm (fun o => σ 183 (138 + o)) j, nI j)) _ (nO σ) 0 (by omega) (fun j _ hj => ?_) ?_ zFU 0 (by rw [zFU_e]; omega) (by omega) (by omega)
    · unfold M_shortOfAll_l4
      simp (disch := omega) only [zgt_e, zpt_e, zlt_e, zrd_e, zwr_e, zelr_e, znz_e, zcp_e, zlit, nI_add, nI_mul, nI_sub, nI_div, ↓irem_f, irem_e, Nat.zero_add, Nat.add_zero, obs, zb_t, zb_f, nI_eqt, nI_eqf, nI_let, nI_lef, nI_ltt, nI_ltf, nI_m1, nI_n1, ↓reduceIte, zup_ne, zup_miss, zup_hit, zbo_1, zbo_0, reduceCtorEq, sel_l, sel_r, Nat.reduceAdd, Nat.reduceSub, Nat.reduceMul, hP, sm_succ]
    · unfold M_shortOfAll_l4
      simp (disch := omega) only [zgt_e, zpt_e, zlt_e, zrd_e, zwr_e, zelr_e, znz_e, zcp_e, zlit, nI_add, nI_mul, nI_sub, nI_div, ↓irem_f, irem_e, Nat.zero_add, Nat.add_zero, obs, zb_t, zb_f, nI_eqt, nI_eqf, nI_let, nI_lef, nI_ltt, nI_ltf, nI_m1, nI_n1, ↓reduceIte, zup_ne, zup_miss, zup_hit, zbo_1, zbo_0, reduceCtorEq, sel_l, sel_r, Nat.reduceAdd, Nat.reduceSub, Nat.reduceMul, hP]
  unfold M_shortOfAll
  simp only [zlt_e, zlit, h2, obs]
theorem q_account {σ : Sg} {p1 : Nat} (h : Now σ p1) (hT : Told σ) (x1 : Int32) : Same (CK_account σ x1) (M_account σ x1) := by
  have hN := h
  obtain ⟨hp, hR, hK, hM⟩ := h
  obtain ⟨hP, hP8⟩ := hK.1
  have e3 : σ p1 3 = nI (nP σ) := hR.1.1.trans hP
  obtain ⟨⟨⟨v1, v2, v3, v4, v5, v6, v7⟩, hA, hZ⟩, _⟩ := hM
  unfold CK_account M_account
  simp only [zgt_e]
  rw [hT.1]
  refine same_ite (fun _ => ⟨_, rfl, rfl⟩) (fun _ => ?_)
  rcases pk_ix x1 (n := 7) (by omega) with c | c | ⟨k, hk, rfl⟩
  · rw [if_pos c]
    have hne : ∀ n : Nat, n < 100 → ¬ x1 = nI n := fun n hn e => by
      rw [e] at c
      exact absurd c (nI_pos (by omega))
    simp only [zlit]
    rw [if_neg (hne 0 (by omega)), if_neg (hne 1 (by omega)), if_neg (hne 2 (by omega)), if_neg (hne 3 (by omega)), if_neg (hne 4 (by omega)), if_neg (hne 5 (by omega)), if_neg (hne 6 (by omega))]
    exact ⟨_, rfl, rfl⟩
  · have hne : ∀ n : Nat, n < 7 → ¬ x1 = nI n := fun n hn e => by
      rw [e] at c
      exact absurd c (nI_ge hn (by omega))
    have c7 : ¬ x1 < nI 7 := Int32.not_lt.mpr c
    simp only [zlit, hne 0 (by omega), hne 1 (by omega), hne 2 (by omega), hne 3 (by omega), hne 4 (by omega), hne 5 (by omega), hne 6 (by omega), c7, ↓reduceIte]
    refine ⟨-nI 1, ?_, rfl⟩
    split <;> rfl
  · have v3' := fun i hi => v3 i hi
    simp only [Nat.reduceAdd] at v3' v4
    rcases (show k = 5 ∨ k = 6 ∨ k < 5 by omega) with e | e | e
    · subst e
      obtain ⟨r, r1, r2⟩ := Water_there_e hN
      simp (disch := omega) only [zgt_e, zpt_e, zlt_e, zrd_e, zwr_e, zelr_e, znz_e, zcp_e, zlit, nI_add, nI_mul, nI_sub, nI_div, ↓irem_f, irem_e, Nat.zero_add, Nat.add_zero, obs, zb_t, zb_f, nI_eqt, nI_eqf, nI_let, nI_lef, nI_ltt, nI_ltf, nI_m1, nI_n1, ↓reduceIte, zup_ne, zup_miss, zup_hit, zbo_1, zbo_0, reduceCtorEq, sel_l, sel_r, Nat.reduceAdd, Nat.reduceSub, Nat.reduceMul, ptr_e hp, e3, r1, r2]
      exact ⟨_, rfl, rfl⟩
    · subst e
      simp (disch := omega) only [zgt_e, zpt_e, zlt_e, zrd_e, zwr_e, zelr_e, znz_e, zcp_e, zlit, nI_add, nI_mul, nI_sub, nI_div, ↓irem_f, irem_e, Nat.zero_add, Nat.add_zero, obs, zb_t, zb_f, nI_eqt, nI_eqf, nI_let, nI_lef, nI_ltt, nI_ltf, nI_m1, nI_n1, ↓reduceIte, zup_ne, zup_miss, zup_hit, zbo_1, zbo_0, reduceCtorEq, sel_l, sel_r, Nat.reduceAdd, Nat.reduceSub, Nat.reduceMul, M_shortOfAll_e hK, v4]
      exact ⟨_, rfl, rfl⟩
    · have b := v3' k e
      rcases (show k = 0 ∨ k = 1 ∨ k = 2 ∨ k = 3 ∨ k = 4 by omega) with e | e | e | e | e <;> subst e <;> (simp (disch := omega) only [zgt_e, zpt_e, zlt_e, zrd_e, zwr_e, zelr_e, znz_e, zcp_e, zlit, nI_add, nI_mul, nI_sub, nI_div, ↓irem_f, irem_e, Nat.zero_add, Nat.add_zero, obs, zb_t, zb_f, nI_eqt, nI_eqf, nI_let, nI_lef, nI_ltt, nI_ltf, nI_m1, nI_n1, ↓reduceIte, zup_ne, zup_miss, zup_hit, zbo_1, zbo_0, reduceCtorEq, sel_l, sel_r, Nat.reduceAdd, Nat.reduceSub, Nat.reduceMul, b]; exact ⟨_, rfl, rfl⟩)
