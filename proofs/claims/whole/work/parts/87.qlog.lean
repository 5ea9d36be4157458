/-! alarms, flows, ranks -/
theorem Log_toldCount_e {σ : Sg} {lg kept : Nat} (h : σ lg 0 = nI kept) (hk : kept < 1000000) : Log_toldCount σ lg = some (nI (min kept 40)) := by
  unfold Log_toldCount
  rcases Nat.lt_or_ge 40 kept with c | c
  · rw [Nat.min_eq_right (by omega)]
    simp (disch := omega) only [zgt_e, zpt_e, zlt_e, zrd_e, zwr_e, zelr_e, znz_e, zcp_e, zlit, nI_add, nI_mul, nI_sub, nI_div, ↓irem_f, irem_e, Nat.zero_add, Nat.add_zero, obs, zb_t, zb_f, nI_eqt, nI_eqf, nI_let, nI_lef, nI_ltt, nI_ltf, nI_m1, nI_n1, ↓reduceIte, zup_ne, zup_miss, zup_hit, zbo_1, zbo_0, reduceCtorEq, sel_l, sel_r, Nat.reduceAdd, Nat.reduceSub, Nat.reduceMul, h]
  · rw [Nat.min_eq_left c]
    simp (disch := omega) only [zgt_e, zpt_e, zlt_e, zrd_e, zwr_e, zelr_e, znz_e, zcp_e, zlit, nI_add, nI_mul, nI_sub, nI_div, ↓irem_f, irem_e, Nat.zero_add, Nat.add_zero, obs, zb_t, zb_f, nI_eqt, nI_eqf, nI_let, nI_lef, nI_ltt, nI_ltf, nI_m1, nI_n1, ↓reduceIte, zup_ne, zup_miss, zup_hit, zbo_1, zbo_0, reduceCtorEq, sel_l, sel_r, Nat.reduceAdd, Nat.reduceSub, Nat.reduceMul, h]
theorem Log_alarmNumber_e {σ : Sg} {lg kept k j : Nat} (h : σ lg 0 = nI kept) (hk : kept < 1000000) (hkk : k < 40) (hj : j < 3) : Log_alarmNumber σ lg (nI k) (nI j) = some (σ (lg + 1) ((kept - min kept 40 + k) % 40 * 3 + j)) := by
  have hm : (kept - min kept 40 + k) % 40 < 40 := Nat.mod_lt _ (by omega)
  unfold Log_alarmNumber
  simp (disch := omega) only [zgt_e, zpt_e, zlt_e, zrd_e, zwr_e, zelr_e, znz_e, zcp_e, zlit, nI_add, nI_mul, nI_sub, nI_div, ↓irem_f, irem_e, Nat.zero_add, Nat.add_zero, obs, zb_t, zb_f, nI_eqt, nI_eqf, nI_let, nI_lef, nI_ltt, nI_ltf, nI_m1, nI_n1, ↓reduceIte, zup_ne, zup_miss, zup_hit, zbo_1, zbo_0, reduceCtorEq, sel_l, sel_r, Nat.reduceAdd, Nat.reduceSub, Nat.reduceMul, Log_toldCount_e h hk, h]
theorem q_alarm {σ : Sg} {p1 : Nat} (h : Now σ p1) (x1 x2 : Int32) : Same (CK_alarm σ x1 x2) (M_alarm σ x1 x2) := by
  obtain ⟨hp, hR, hK, hM⟩ := h
  obtain ⟨_, _, ⟨kept, l1, l2, l3, l4, l5, l6⟩, _, ⟨hS, hS9⟩, _⟩ := hM
  simp only [Nat.reduceAdd] at l1 l4
  have htc := Log_toldCount_e l1 (by omega)
  have hmin : min kept 40 ≤ 40 := Nat.min_le_right _ _
  unfold CK_alarm M_alarm
  rcases pk_ix x1 (n := min kept 40) (by omega) with c | c | ⟨k, hk, rfl⟩
  · have c' : x1 < nI 0 := c
    simp (disch := omega) only [zlit, zrd_e, l3, isIn_out (show min kept 40 < 2147483648 by omega) (Or.inl c), c', ↓reduceIte]
    rw [bf']
    exact ⟨_, rfl, rfl⟩
  · simp (disch := omega) only [zlit, zrd_e, l3, htc, obs, isIn_out (show min kept 40 < 2147483648 by omega) (Or.inr c), c, ↓reduceIte]
    rw [if_pos (show zb false = nI 0 from rfl)]
    refine ⟨-nI 1, ?_, rfl⟩
    split <;> rfl
  · simp (disch := omega) only [zlit, zrd_e, l3, htc, obs, isIn_in (show min kept 40 < 2147483648 by omega) hk, nI_ltf, nI_lef, ↓reduceIte]
    rw [if_neg (show ¬ zb true = nI 0 by decide)]
    rcases pk_ix x2 (n := 3) (by omega) with c | c | ⟨j, hj, rfl⟩
    · rw [isIn_lit (n := 2) (by omega) (Or.inl c), bf', if_pos (show x2 < nI 0 from c)]
      exact ⟨_, rfl, rfl⟩
    · rw [isIn_lit (n := 2) (by omega) (Or.inr c), bf', if_neg (show ¬ x2 < nI 3 from Int32.not_lt.mpr c)]
      refine ⟨-nI 1, ?_, rfl⟩
      split <;> rfl
    · have hin : M_isIn (nI j) (nI 0) (nI 2) = some true := by
        rw [M_isIn_e (by omega) (by omega) (by omega)]
        congr 1
        exact decide_eq_true (by omega)
      have l7 := l4 k hk j hj
      rw [hin, bt']
      simp (disch := omega) only [zgt_e, zpt_e, zlt_e, zrd_e, zwr_e, zelr_e, znz_e, zcp_e, zlit, nI_add, nI_mul, nI_sub, nI_div, ↓irem_f, irem_e, Nat.zero_add, Nat.add_zero, obs, zb_t, zb_f, nI_eqt, nI_eqf, nI_let, nI_lef, nI_ltt, nI_ltf, nI_m1, nI_n1, ↓reduceIte, zup_ne, zup_miss, zup_hit, zbo_1, zbo_0, reduceCtorEq, sel_l, sel_r, Nat.reduceAdd, Nat.reduceSub, Nat.reduceMul, Log_alarmNumber_e l1, l7]
      exact ⟨_, rfl, rfl⟩
def alC (σ : Sg) (x1 x2 : Int32) (k : Nat) : Int32 := if (x1 = -nI 1 ∨ σ 183 (207 + 3 * k + 1) = x1) ∧ σ 183 (207 + 3 * k + 2) = x2 then nI 1 else nI 0
theorem countAlarms_e {σ : Sg} {p1 : Nat} (h : Now σ p1) (x1 x2 : Int32) : ∃ r, Log_countAlarms σ 77 x1 x2 = some r ∧ ∃ x, zit (fun (s : (Int32 × Int32)) => M_alarms_l30 σ x1 x2 s.1 s.2) zFU (nI 0, nI 0) = some (r, x) := by
  obtain ⟨hp, hR, hK, hM⟩ := h
  obtain ⟨_, _, ⟨kept, l1, l2, l3, l4, l5, l6⟩, _, ⟨hS, hS9⟩, _⟩ := hM
  simp only [Nat.reduceAdd] at l1 l4
  have htc := Log_toldCount_e l1 (by omega)
  have hmin : min kept 40 ≤ 40 := Nat.min_le_right _ _
  have em : (-1 : Int32) = -nI 1 := rfl
  have h1 : zit (fun (s : (Int32 × Int32)) => Log_countAlarms_l5 σ 77 x1 x2 s.1 s.2) zFU (nI 0, nI 0) = some (sm (alC σ x1 x2) (min kept 40), nI (min kept 40)) := by
    refine zit_eq (fun j => (sm (alC σ x1 x2) j, nI j)) _ (min kept 40) 0 (by omega) (fun j _ hj => ?_) ?_ zFU 0 (by rw [zFU_e]; omega) (by omega) (by omega)
    · have a1 := l4 j hj 1 (by omega)
      have a2 := l4 j hj 2 (by omega)
      have hs : sm (alC σ x1 x2) (j + 1) = sm (alC σ x1 x2) j + alC σ x1 x2 j := rfl
      unfold Log_countAlarms_l5 Log_countAlarms_j5_30
      simp (disch := omega) only [zgt_e, zpt_e, zlt_e, zrd_e, zwr_e, zelr_e, znz_e, zcp_e, zlit, nI_add, nI_mul, nI_sub, nI_div, ↓irem_f, irem_e, Nat.zero_add, Nat.add_zero, obs, zb_t, zb_f, nI_eqt, nI_eqf, nI_let, nI_lef, nI_ltt, nI_ltf, nI_m1, nI_n1, ↓reduceIte, zup_ne, zup_miss, zup_hit, zbo_1, zbo_0, reduceCtorEq, sel_l, sel_r, Nat.reduceAdd, Nat.reduceSub, Nat.reduceMul, htc, em, Log_alarmNumber_e l1, a1, a2, hs]
      unfold alC
      by_cases c1 : x1 = -nI 1
      · by_cases c2 : σ 183 (207 + 3 * j + 2) = x2
        · simp only [c1, c2, true_or, true_and, ↓reduceIte]
        · simp only [c1, c2, true_or, true_and, and_false, ↓reduceIte]
          simp [nI_0]
      · by_cases c2 : σ 183 (207 + 3 * j + 1) = x1
        · by_cases c3 : σ 183 (207 + 3 * j + 2) = x2
          · simp only [c1, c2, c3, or_true, and_self, ↓reduceIte]
          · simp only [c1, c2, c3, or_true, and_false, ↓reduceIte]
            simp [nI_0]
        · simp only [c1, c2, or_self, false_and, ↓reduceIte]
          simp [nI_0]
    · unfold Log_countAlarms_l5
      simp (disch := omega) only [zgt_e, zpt_e, zlt_e, zrd_e, zwr_e, zelr_e, znz_e, zcp_e, zlit, nI_add, nI_mul, nI_sub, nI_div, ↓irem_f, irem_e, Nat.zero_add, Nat.add_zero, obs, zb_t, zb_f, nI_eqt, nI_eqf, nI_let, nI_lef, nI_ltt, nI_ltf, nI_m1, nI_n1, ↓reduceIte, zup_ne, zup_miss, zup_hit, zbo_1, zbo_0, reduceCtorEq, sel_l, sel_r, Nat.reduceAdd, Nat.reduceSub, Nat.reduceMul, htc]
  have h2 : zit (fun (s : (Int32 × Int32)) => M_alarms_l30 σ x1 x2 s.1 s.2) zFU (nI 0, nI 0) = some (sm (alC σ x1 x2) (min kept 40), nI (min kept 40)) := by
    refine zit_eq (fun j => (sm (alC σ x1 x2) j, nI j)) _ (min kept 40) 0 (by omega) (fun j _ hj => ?_) ?_ zFU 0 (by rw [zFU_e]; omega) (by omega) (by omega)
    · have hs : sm (alC σ x1 x2) (j + 1) = sm (alC σ x1 x2) j + alC σ x1 x2 j := rfl
      unfold M_alarms_l30 M_alarms_j30_68
      simp (disch := omega) only [zgt_e, zpt_e, zlt_e, zrd_e, zwr_e, zelr_e, znz_e, zcp_e, zlit, nI_add, nI_mul, nI_sub, nI_div, ↓irem_f, irem_e, Nat.zero_add, Nat.add_zero, obs, zb_t, zb_f, nI_eqt, nI_eqf, nI_let, nI_lef, nI_ltt, nI_ltf, nI_m1, nI_n1, ↓reduceIte, zup_ne, zup_miss, zup_hit, zbo_1, zbo_0, reduceCtorEq, sel_l, sel_r, Nat.reduceAdd, Nat.reduceSub, Nat.reduceMul, l3, em, hs]
      unfold alC
      by_cases c1 : x1 = -nI 1
      · by_cases c2 : σ 183 (207 + 3 * j + 2) = x2
        · simp only [c1, c2, true_or, true_and, ↓reduceIte]
        · simp only [c1, c2, true_or, true_and, and_false, ↓reduceIte]
      · by_cases c2 : σ 183 (207 + 3 * j + 1) = x1
        · by_cases c3 : σ 183 (207 + 3 * j + 2) = x2
          · simp only [c1, c2, c3, or_true, and_self, ↓reduceIte]
          · simp only [c1, c2, c3, or_true, and_false, ↓reduceIte]
        · simp only [c1, c2, or_self, false_and, ↓reduceIte]
    · unfold M_alarms_l30
      simp (disch := omega) only [zgt_e, zpt_e, zlt_e, zrd_e, zwr_e, zelr_e, znz_e, zcp_e, zlit, nI_add, nI_mul, nI_sub, nI_div, ↓irem_f, irem_e, Nat.zero_add, Nat.add_zero, obs, zb_t, zb_f, nI_eqt, nI_eqf, nI_let, nI_lef, nI_ltt, nI_ltf, nI_m1, nI_n1, ↓reduceIte, zup_ne, zup_miss, zup_hit, zbo_1, zbo_0, reduceCtorEq, sel_l, sel_r, Nat.reduceAdd, Nat.reduceSub, Nat.reduceMul, l3]
  refine ⟨_, ?_, _, h2⟩
  unfold Log_countAlarms
  simp only [zlt_e, zlit, h1, obs]
theorem q_alarms {σ : Sg} {p1 : Nat} (h : Now σ p1) (x1 x2 : Int32) : Same (CK_alarms σ x1 x2) (M_alarms σ x1 x2) := by
  have hN := h
  obtain ⟨hp, hR, hK, hM⟩ := h
  obtain ⟨r, r1, x, r2⟩ := countAlarms_e hN x1 x2
  have hj13 : M_alarms_j13 σ x1 x2 = (if x2 < nI 1 then some (-nI 1) else if nI 8 < x2 then some (-nI 1) else some r) := by
    unfold M_alarms_j13 M_isIn
    simp only [zlt_e, zlit, r2, obs]
    by_cases c1 : x2 < nI 1
    · simp only [c1, ↓reduceIte, bf']
    · by_cases c2 : nI 8 < x2
      · simp only [c1, c2, ↓reduceIte, bf']
      · simp only [c1, c2, ↓reduceIte, bt']
  unfold CK_alarms M_alarms
  rw [hj13]
  simp only [zlit, r1, obs]
  by_cases c0 : x1 = -nI 1
  · simp only [c0, ↓reduceIte]
    repeat (refine same_ite (fun _ => ⟨_, rfl, rfl⟩) (fun _ => ?_))
    exact ⟨_, rfl, rfl⟩
  · simp only [c0, ↓reduceIte]
    rcases isPool_c hp hR hK x1 with ⟨e1, e2⟩ | ⟨j, hj, e0, e1, e2⟩
    · rw [e1, e2, bf', bf']
      refine ⟨-nI 1, ?_, rfl⟩
      split
      · rfl
      · split <;> rfl
    · rw [e1, e2, bt', bt']
      repeat (refine same_ite (fun _ => ⟨_, rfl, rfl⟩) (fun _ => ?_))
      exact ⟨_, rfl, rfl⟩
theorem wereSteps_c {σ : Sg} (hst : σ 56 0 = nI (stp σ)) (hS9 : stp σ ≤ 9999) (x : Int32) : (CK_wereSteps σ x = some false ∧ M_isIn x (nI 1) (nI (min (stp σ) 40)) = some false) ∨ ∃ n, 1 ≤ n ∧ n ≤ min (stp σ) 40 ∧ x = nI n ∧ CK_wereSteps σ x = some true ∧ M_isIn x (nI 1) (nI (min (stp σ) 40)) = some true := by
  have hmin : min (stp σ) 40 ≤ 40 := Nat.min_le_right _ _
  unfold CK_wereSteps
  simp only [zgt_e, zlit, hst]
  rcases rng1 x (n := min (stp σ) 40) (by omega) with c | c | ⟨n, h1, h2, rfl⟩
  · left
    rw [if_pos c, isIn_l1 (by omega) (Or.inl c)]
    exact ⟨rfl, rfl⟩
  · left
    rw [isIn_l1 (by omega) (Or.inr c)]
    refine ⟨?_, rfl⟩
    split
    · rfl
    · split
      · rfl
      · rename_i c1 c2
        obtain ⟨m, hm, rfl⟩ := nI_of2 (n := 40) (nI_toInt (by omega)) (fun q => c1 (Int32.lt_of_lt_of_le q (by decide))) (Int32.not_lt.mp c2)
        have hle : min (stp σ) 40 + 1 ≤ m := (nI_leI (by omega) (by omega)).mp c
        rw [if_pos (nI_lt (by omega) (by omega))]
  · right
    refine ⟨n, h1, h2, rfl, ?_, ?_⟩
    · rw [if_neg (nI_nlt (by omega) (by omega)), if_neg (nI_nlt (by omega) (by omega)), if_neg (nI_nlt (by omega) (by omega))]
    · rw [M_isIn_e (by omega) (by omega) (by omega)]
      congr 1
      exact decide_eq_true ⟨h1, h2⟩
theorem q_flow {σ : Sg} {p1 : Nat} (h : Now σ p1) (x1 x2 x3 : Int32) : Same (CK_flow σ x1 x2 x3) (M_flow σ x1 x2 x3) := by
  obtain ⟨hp, hR, hK, hM⟩ := h
  have hP8 := hK.1.2
  obtain ⟨⟨⟨v1, _, _, _, v5, v6, v7⟩, hA, hZ⟩, _, ⟨kept, l1, l2, l3, l4, l5, l6⟩, _, ⟨hS, hS9⟩, _⟩ := hM
  simp only [Nat.reduceAdd] at v5 l6
  have hst := v5.trans hS
  have hmin : min (stp σ) 40 ≤ 40 := Nat.min_le_right _ _
  have hmin2 : min (stp σ) 40 ≤ stp σ := Nat.min_le_left _ _
  unfold CK_flow M_flow
  rcases isPool_c hp hR hK x1 with ⟨e1, e2⟩ | ⟨j, hj, rfl, e1, e2⟩
  · rw [e1, e2, bf, bf]
    exact ⟨_, rfl, rfl⟩
  · rw [e1, e2, bt, bt]
    simp (disch := omega) only [zlit, zrd_e, l5]
    rcases wereSteps_c hst hS9 x2 with ⟨f1, f2⟩ | ⟨n, hn1, hn2, rfl, f1, f2⟩
    · rw [f1, f2, bf', bf']
      exact ⟨_, rfl, rfl⟩
    · rw [f1, f2, bt', bt']
      rcases pk_ix x3 (n := 4) (by omega) with c | c | ⟨i, hi, rfl⟩
      · rw [isIn_lit (n := 3) (by omega) (Or.inl c), bf', if_pos (show x3 < nI 0 from c)]
        exact ⟨_, rfl, rfl⟩
      · rw [isIn_lit (n := 3) (by omega) (Or.inr c), bf', if_neg (show ¬ x3 < nI 4 from Int32.not_lt.mpr c)]
        refine ⟨-nI 1, ?_, rfl⟩
        split <;> rfl
      · have hin : M_isIn (nI i) (nI 0) (nI 3) = some true := by
          rw [M_isIn_e (by omega) (by omega) (by omega)]
          congr 1
          exact decide_eq_true (by omega)
        have l7 := l6 (n - 1) (by omega) j hj i hi
        rw [show stp σ - 1 - (n - 1) = stp σ - n from by omega] at l7
        rw [hin, bt']
        simp (disch := omega) only [zgt_e, zpt_e, zlt_e, zrd_e, zwr_e, zelr_e, znz_e, zcp_e, zlit, nI_add, nI_mul, nI_sub, nI_div, ↓irem_f, irem_e, Nat.zero_add, Nat.add_zero, obs, zb_t, zb_f, nI_eqt, nI_eqf, nI_let, nI_lef, nI_ltt, nI_ltf, nI_m1, nI_n1, ↓reduceIte, zup_ne, zup_miss, zup_hit, zbo_1, zbo_0, reduceCtorEq, sel_l, sel_r, Nat.reduceAdd, Nat.reduceSub, Nat.reduceMul, hst, Log_flowOf_e, l7]
        exact ⟨_, rfl, rfl⟩
theorem sm_rev (f : Nat → Int32) : ∀ n, sm (fun k => f (n - 1 - k)) n = sm f n
  | 0 => rfl
  | n + 1 => by
    rw [sm_head, sm_succ, Int32.add_comm]
    congr 1
    rw [← sm_rev f n]
    refine sm_congr (fun k hk => ?_)
    show f (n + 1 - 1 - (k + 1)) = f (n - 1 - k)
    rw [show n + 1 - 1 - (k + 1) = n - 1 - k from by omega]
theorem q_missing {σ : Sg} {p1 : Nat} (h : Now σ p1) (x1 x2 : Int32) : Same (CK_missing σ x1 x2) (M_missing σ x1 x2) := by
  obtain ⟨hp, hR, hK, hM⟩ := h
  have hP8 := hK.1.2
  obtain ⟨⟨⟨v1, _, _, _, v5, v6, v7⟩, hA, hZ⟩, _, ⟨kept, l1, l2, l3, l4, l5, l6⟩, _, ⟨hS, hS9⟩, _⟩ := hM
  simp only [Nat.reduceAdd] at v5 l6
  have hst := v5.trans hS
  have hmin : min (stp σ) 40 ≤ 40 := Nat.min_le_right _ _
  have hmin2 : min (stp σ) 40 ≤ stp σ := Nat.min_le_left _ _
  unfold CK_missing M_missing
  rcases isPool_c hp hR hK x1 with ⟨e1, e2⟩ | ⟨j, hj, rfl, e1, e2⟩
  · rw [e1, e2, bf, bf]
    exact ⟨_, rfl, rfl⟩
  · rw [e1, e2, bt, bt]
    simp (disch := omega) only [zlit, zrd_e, l5]
    rcases wereSteps_c hst hS9 x2 with ⟨f1, f2⟩ | ⟨n, hn1, hn2, rfl, f1, f2⟩
    · rw [f1, f2, bf', bf']
      exact ⟨_, rfl, rfl⟩
    · rw [f1, f2, bt', bt']
      have a1 := (v1 j hj).1
      simp only [Nat.reduceAdd] at a1
      have hfl : ∀ k i, k < n → i < 4 → Log_flowOf σ 77 (nI j) (nI (stp σ - n + k)) (nI i) = some (σ 183 (327 + 32 * (n - 1 - k) + 4 * j + i)) := by
        intro k i hk hi
        have l7 := l6 (n - 1 - k) (by omega) j hj i hi
        rw [show stp σ - 1 - (n - 1 - k) = stp σ - n + k from by omega] at l7
        rw [Log_flowOf_e (by omega) (by omega) hi, l7]
      let F (k : Nat) : Int32 := σ 183 (327 + 32 * k + 4 * j) - σ 183 (327 + 32 * k + 4 * j + 1)
      let b0 : Int32 := σ 183 (327 + 32 * (n - 1) + 4 * j + 2) - σ 183 j
      have h1 : zit (fun (s : (Int32 × Int32)) => CK_missing_l64 σ (nI j) (nI n) (nI (stp σ - n)) s.1 s.2) zFU (b0, nI 0) = some (b0 + sm (fun k => F (n - 1 - k)) n, nI n) := by
        have e0 : (b0, nI 0) = (fun m => (b0 + sm (fun k => F (n - 1 - k)) m, nI m)) 0 := by
          show _ = (b0 + 0, nI 0)
          simp
        rw [e0]
        refine zit_eq (fun m => (b0 + sm (fun k => F (n - 1 - k)) m, nI m)) _ n 0 (by omega) (fun k _ hk => ?_) ?_ zFU 0 (by rw [zFU_e]; omega) (by omega) (by omega)
        · have g0 := hfl k 0 hk (by omega)
          have g1 := hfl k 1 hk (by omega)
          have hs : sm (fun k => F (n - 1 - k)) (k + 1) = sm (fun k => F (n - 1 - k)) k + (σ 183 (327 + 32 * (n - 1 - k) + 4 * j) - σ 183 (327 + 32 * (n - 1 - k) + 4 * j + 1)) := rfl
          simp only [hs]
          unfold CK_missing_l64
          simp (disch := omega) only [zgt_e, zpt_e, zlt_e, zrd_e, zwr_e, zelr_e, znz_e, zcp_e, zlit, nI_add, nI_mul, nI_sub, nI_div, ↓irem_f, irem_e, Nat.zero_add, Nat.add_zero, obs, zb_t, zb_f, nI_eqt, nI_eqf, nI_let, nI_lef, nI_ltt, nI_ltf, nI_m1, nI_n1, ↓reduceIte, zup_ne, zup_miss, zup_hit, zbo_1, zbo_0, reduceCtorEq, sel_l, sel_r, Nat.reduceAdd, Nat.reduceSub, Nat.reduceMul, g0, g1, Int32.add_assoc]
        · unfold CK_missing_l64
          simp (disch := omega) only [zgt_e, zpt_e, zlt_e, zrd_e, zwr_e, zelr_e, znz_e, zcp_e, zlit, nI_add, nI_mul, nI_sub, nI_div, ↓irem_f, irem_e, Nat.zero_add, Nat.add_zero, obs, zb_t, zb_f, nI_eqt, nI_eqf, nI_let, nI_lef, nI_ltt, nI_ltf, nI_m1, nI_n1, ↓reduceIte, zup_ne, zup_miss, zup_hit, zbo_1, zbo_0, reduceCtorEq, sel_l, sel_r, Nat.reduceAdd, Nat.reduceSub, Nat.reduceMul]
      have h2 : zit (fun (s : (Int32 × Int32)) => M_missing_l33 σ (nI j) (nI n) s.1 s.2) zFU (nI 0, nI 0) = some (sm F n, nI n) := by
        refine zit_eq (fun m => (sm F m, nI m)) _ n 0 (by omega) (fun k _ hk => ?_) ?_ zFU 0 (by rw [zFU_e]; omega) (by omega) (by omega)
        · have hs : sm F (k + 1) = sm F k + (σ 183 (327 + 32 * k + 4 * j) - σ 183 (327 + 32 * k + 4 * j + 1)) := rfl
          simp only [hs]
          unfold M_missing_l33
          simp (disch := omega) only [zgt_e, zpt_e, zlt_e, zrd_e, zwr_e, zelr_e, znz_e, zcp_e, zlit, nI_add, nI_mul, nI_sub, nI_div, ↓irem_f, irem_e, Nat.zero_add, Nat.add_zero, obs, zb_t, zb_f, nI_eqt, nI_eqf, nI_let, nI_lef, nI_ltt, nI_ltf, nI_m1, nI_n1, ↓reduceIte, zup_ne, zup_miss, zup_hit, zbo_1, zbo_0, reduceCtorEq, sel_l, sel_r, Nat.reduceAdd, Nat.reduceSub, Nat.reduceMul]
        · unfold M_missing_l33
          simp (disch := omega) only [zgt_e, zpt_e, zlt_e, zrd_e, zwr_e, zelr_e, znz_e, zcp_e, zlit, nI_add, nI_mul, nI_sub, nI_div, ↓irem_f, irem_e, Nat.zero_add, Nat.add_zero, obs, zb_t, zb_f, nI_eqt, nI_eqf, nI_let, nI_lef, nI_ltt, nI_ltf, nI_m1, nI_n1, ↓reduceIte, zup_ne, zup_miss, zup_hit, zbo_1, zbo_0, reduceCtorEq, sel_l, sel_r, Nat.reduceAdd, Nat.reduceSub, Nat.reduceMul]
      have g2 := hfl 0 2 (by omega) (by omega)
      rw [Nat.add_zero, Nat.sub_zero] at g2
      refine ⟨b0 + sm F n, ?_, ?_⟩
      · rw [sm_rev] at h1
        simp (disch := omega) only [zgt_e, zpt_e, zlt_e, zrd_e, zwr_e, zelr_e, znz_e, zcp_e, zlit, nI_add, nI_mul, nI_sub, nI_div, ↓irem_f, irem_e, Nat.zero_add, Nat.add_zero, obs, zb_t, zb_f, nI_eqt, nI_eqf, nI_let, nI_lef, nI_ltt, nI_ltf, nI_m1, nI_n1, ↓reduceIte, zup_ne, zup_miss, zup_hit, zbo_1, zbo_0, reduceCtorEq, sel_l, sel_r, Nat.reduceAdd, Nat.reduceSub, Nat.reduceMul, hst, g2, a1]
        rw [show σ 183 (327 + 32 * (n - 1) + 4 * j + 2) - σ 183 j = b0 from rfl, h1]
        rfl
      · unfold M_missing_j87
        simp (disch := omega) only [zgt_e, zpt_e, zlt_e, zrd_e, zwr_e, zelr_e, znz_e, zcp_e, zlit, nI_add, nI_mul, nI_sub, nI_div, ↓irem_f, irem_e, Nat.zero_add, Nat.add_zero, obs, zb_t, zb_f, nI_eqt, nI_eqf, nI_let, nI_lef, nI_ltt, nI_ltf, nI_m1, nI_n1, ↓reduceIte, zup_ne, zup_miss, zup_hit, zbo_1, zbo_0, reduceCtorEq, sel_l, sel_r, Nat.reduceAdd, Nat.reduceSub, Nat.reduceMul, h2]
        congr 1
        show sm F n - (σ 183 j - σ 183 (327 + 32 * (n - 1) + 4 * j + 2)) = σ 183 (327 + 32 * (n - 1) + 4 * j + 2) - σ 183 j + sm F n
        generalize sm F n = s
        generalize σ 183 j = a
        generalize σ 183 (327 + 32 * (n - 1) + 4 * j + 2) = c
        grind
