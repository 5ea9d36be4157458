/-! ranks and events -/
def farA (x : Int32) : Int32 := mx x (-x)
theorem abs_e (x : Int32) : (if 0 ≤ x then x else 0 - x) = farA x := by
  unfold farA mx
  rw [Int32.zero_sub]
  by_cases h : 0 ≤ x
  · rw [if_pos h]
    by_cases h2 : x ≤ -x
    · rw [if_pos h2]
      have e : x.toInt = 0 := by
        have h3 := Int32.le_iff_toInt_le.mp h
        have h4 := Int32.le_iff_toInt_le.mp h2
        rw [show (0 : Int32).toInt = 0 from by decide] at h3
        by_cases c : 0 < x.toInt
        · exfalso
          have hb : x.toInt < 2147483648 := by have := x.toInt_lt; omega
          rw [Int32.toInt_neg, Int.bmod_eq_of_le (by omega) (by omega)] at h4
          omega
        · omega
      have e2 : x = 0 := Int32.toInt_inj.mp (by rw [e]; decide)
      rw [e2]
      decide
    · rw [if_neg h2]
  · rw [if_neg h]
    by_cases h2 : x ≤ -x
    · rw [if_pos h2]
    · rw [if_neg h2]
      exfalso
      have h3 : x.toInt < 0 := by
        have := Int32.lt_iff_toInt_lt.mp (Int32.not_le.mp h)
        rw [show (0 : Int32).toInt = 0 from by decide] at this
        exact this
      have h4 := Int32.lt_iff_toInt_lt.mp (Int32.not_le.mp h2)
      have hb : -2147483648 ≤ x.toInt := by have := x.le_toInt; omega
      rw [Int32.toInt_neg] at h4
      by_cases hm : x.toInt = -2147483648
      · rw [hm] at h4
        exact absurd h4 (by decide)
      · rw [Int.bmod_eq_of_le (by omega) (by omega)] at h4
        omega
def far (σ : Sg) (p : Nat) : Int32 := farA (σ 183 p - mid σ p)
theorem CK_far_e {σ : Sg} {p1 : Nat} (h : Now σ p1) {p : Nat} (hp : p < nP σ) : CK_farFromMiddle σ (nI p) = some (far σ p) := by
  obtain ⟨hq, hR, hK, ⟨⟨v1, _⟩, _⟩, _⟩ := h
  have hP8 := hK.1.2
  have a1 := (v1 p hp).1
  have k10 := (hR.2.1 p hp).2.2.2.2.2
  simp only [Nat.reduceAdd] at a1
  unfold CK_farFromMiddle far
  rw [zrd_e (by omega) (by omega), ptr_e hq, zrd_e (by omega) (by omega), a1, k10, abs_e]
theorem M_far_e {σ : Sg} {p : Nat} (hp : p < 8) : M_farOf σ (nI p) = some (far σ p) := by
  unfold M_farOf far farA
  simp (disch := omega) only [zgt_e, zpt_e, zlt_e, zrd_e, zwr_e, zelr_e, znz_e, zcp_e, zlit, nI_add, nI_mul, nI_sub, nI_div, ↓irem_f, irem_e, Nat.zero_add, Nat.add_zero, obs, zb_t, zb_f, nI_eqt, nI_eqf, nI_let, nI_lef, nI_ltt, nI_ltf, nI_m1, nI_n1, ↓reduceIte, zup_ne, zup_miss, zup_hit, zbo_1, zbo_0, reduceCtorEq, sel_l, sel_r, Nat.reduceAdd, Nat.reduceSub, Nat.reduceMul, M_middleOf_e, M_greater_e]
def rkB (σ : Sg) (p o : Nat) : Int32 := if far σ p < far σ o ∨ (far σ o = far σ p ∧ o < p) then nI 1 else nI 0
def rkN (σ : Sg) (p : Nat) : Int32 := sm (rkB σ p) (nP σ)
theorem CK_countFarther_e {σ : Sg} {p1 : Nat} (h : Now σ p1) {p : Nat} (hp : p < nP σ) : CK_countFarther σ (nI p) = some (rkN σ p) := by
  have hN := h
  obtain ⟨hq, hR, hK, _⟩ := h
  obtain ⟨hP, hP8⟩ := hK.1
  have e3 : σ p1 3 = nI (nP σ) := hR.1.1.trans hP
  have h1 : zit (fun (s : (Int32 × Int32)) => CK_countFarther_l11 σ (nI p) (far σ p) s.1 s.2) zFU (nI 0, nI 0) = some (rkN σ p, nI (nP σ)) := by
    refine zit_eq (fun j => (sm (rkB σ p) j, nI j)) _ (nP σ) 0 (by omega) (fun j _ hj => ?_) ?_ zFU 0 (by rw [zFU_e]; omega) (by omega) (by omega)
    · have hs : sm (rkB σ p) (j + 1) = sm (rkB σ p) j + rkB σ p j := rfl
      have hf := CK_far_e hN hj
      unfold CK_countFarther_l11
      simp (disch := omega) only [zgt_e, zpt_e, zlt_e, zrd_e, zwr_e, zelr_e, znz_e, zcp_e, zlit, nI_add, nI_mul, nI_sub, nI_div, ↓irem_f, irem_e, Nat.zero_add, Nat.add_zero, obs, zb_t, zb_f, nI_eqt, nI_eqf, nI_let, nI_lef, nI_ltt, nI_ltf, nI_m1, nI_n1, ↓reduceIte, zup_ne, zup_miss, zup_hit, zbo_1, zbo_0, reduceCtorEq, sel_l, sel_r, Nat.reduceAdd, Nat.reduceSub, Nat.reduceMul, ptr_e hq, e3, hf, hs]
      unfold rkB
      by_cases c1 : far σ p < far σ j
      · simp only [c1, true_or, ↓reduceIte]
      · by_cases c2 : far σ j = far σ p
        · by_cases c3 : j < p
          · simp (disch := omega) only [zgt_e, zpt_e, zlt_e, zrd_e, zwr_e, zelr_e, znz_e, zcp_e, zlit, nI_add, nI_mul, nI_sub, nI_div, ↓irem_f, irem_e, Nat.zero_add, Nat.add_zero, obs, zb_t, zb_f, nI_eqt, nI_eqf, nI_let, nI_lef, nI_ltt, nI_ltf, nI_m1, nI_n1, ↓reduceIte, zup_ne, zup_miss, zup_hit, zbo_1, zbo_0, reduceCtorEq, sel_l, sel_r, Nat.reduceAdd, Nat.reduceSub, Nat.reduceMul, c1, c2, c3, and_self, or_true]
            split <;> rfl
          · simp (disch := omega) only [zgt_e, zpt_e, zlt_e, zrd_e, zwr_e, zelr_e, znz_e, zcp_e, zlit, nI_add, nI_mul, nI_sub, nI_div, ↓irem_f, irem_e, Nat.zero_add, Nat.add_zero, obs, zb_t, zb_f, nI_eqt, nI_eqf, nI_let, nI_lef, nI_ltt, nI_ltf, nI_m1, nI_n1, ↓reduceIte, zup_ne, zup_miss, zup_hit, zbo_1, zbo_0, reduceCtorEq, sel_l, sel_r, Nat.reduceAdd, Nat.reduceSub, Nat.reduceMul, c1, c2, c3, and_false, or_false]
            simp [nI_0, Int32.lt_irrefl]
        · simp only [c1, c2, false_and, or_self, ↓reduceIte]
          simp [nI_0]
    · unfold CK_countFarther_l11
      simp (disch := omega) only [zgt_e, zpt_e, zlt_e, zrd_e, zwr_e, zelr_e, znz_e, zcp_e, zlit, nI_add, nI_mul, nI_sub, nI_div, ↓irem_f, irem_e, Nat.zero_add, Nat.add_zero, obs, zb_t, zb_f, nI_eqt, nI_eqf, nI_let, nI_lef, nI_ltt, nI_ltf, nI_m1, nI_n1, ↓reduceIte, zup_ne, zup_miss, zup_hit, zbo_1, zbo_0, reduceCtorEq, sel_l, sel_r, Nat.reduceAdd, Nat.reduceSub, Nat.reduceMul, ptr_e hq, e3]
      rfl
  unfold CK_countFarther
  rw [CK_far_e hN hp]
  simp only [obs, zlt_e, zlit, h1]
theorem M_count_e {σ : Sg} (hK : InvK σ) {p : Nat} (hp : p < nP σ) (x1 : Int32) : zit (fun (s : (Int32 × Int32)) => M_rank_l15 σ x1 (nI p) s.1 s.2) zFU (nI 0, nI 0) = some (rkN σ p, nI (nP σ)) := by
  obtain ⟨hP, hP8⟩ := hK.1
  refine zit_eq (fun j => (sm (rkB σ p) j, nI j)) _ (nP σ) 0 (by omega) (fun j _ hj => ?_) ?_ zFU 0 (by rw [zFU_e]; omega) (by omega) (by omega)
  · have hs : sm (rkB σ p) (j + 1) = sm (rkB σ p) j + rkB σ p j := rfl
    have hf := M_far_e (σ := σ) (p := j) (by omega)
    have hf2 := M_far_e (σ := σ) (p := p) (by omega)
    unfold M_rank_l15
    simp (disch := omega) only [zgt_e, zpt_e, zlt_e, zrd_e, zwr_e, zelr_e, znz_e, zcp_e, zlit, nI_add, nI_mul, nI_sub, nI_div, ↓irem_f, irem_e, Nat.zero_add, Nat.add_zero, obs, zb_t, zb_f, nI_eqt, nI_eqf, nI_let, nI_lef, nI_ltt, nI_ltf, nI_m1, nI_n1, ↓reduceIte, zup_ne, zup_miss, zup_hit, zbo_1, zbo_0, reduceCtorEq, sel_l, sel_r, Nat.reduceAdd, Nat.reduceSub, Nat.reduceMul, hP, hf, hf2, hs]
    unfold rkB
    by_cases c1 : far σ p < far σ j
    · simp only [c1, true_or, ↓reduceIte]
    · by_cases c2 : far σ j = far σ p
      · by_cases c3 : j < p
        · simp (disch := omega) only [zgt_e, zpt_e, zlt_e, zrd_e, zwr_e, zelr_e, znz_e, zcp_e, zlit, nI_add, nI_mul, nI_sub, nI_div, ↓irem_f, irem_e, Nat.zero_add, Nat.add_zero, obs, zb_t, zb_f, nI_eqt, nI_eqf, nI_let, nI_lef, nI_ltt, nI_ltf, nI_m1, nI_n1, ↓reduceIte, zup_ne, zup_miss, zup_hit, zbo_1, zbo_0, reduceCtorEq, sel_l, sel_r, Nat.reduceAdd, Nat.reduceSub, Nat.reduceMul, c1, c2, c3, and_self, or_true]
          split <;> rfl
        · simp (disch := omega) only [zgt_e, zpt_e, zlt_e, zrd_e, zwr_e, zelr_e, znz_e, zcp_e, zlit, nI_add, nI_mul, nI_sub, nI_div, ↓irem_f, irem_e, Nat.zero_add, Nat.add_zero, obs, zb_t, zb_f, nI_eqt, nI_eqf, nI_let, nI_lef, nI_ltt, nI_ltf, nI_m1, nI_n1, ↓reduceIte, zup_ne, zup_miss, zup_hit, zbo_1, zbo_0, reduceCtorEq, sel_l, sel_r, Nat.reduceAdd, Nat.reduceSub, Nat.reduceMul, c1, c2, c3, and_false, or_false]
          simp [nI_0, Int32.lt_irrefl]
      · simp only [c1, c2, false_and, or_self, ↓reduceIte]
  · unfold M_rank_l15
    simp (disch := omega) only [zgt_e, zpt_e, zlt_e, zrd_e, zwr_e, zelr_e, znz_e, zcp_e, zlit, nI_add, nI_mul, nI_sub, nI_div, ↓irem_f, irem_e, Nat.zero_add, Nat.add_zero, obs, zb_t, zb_f, nI_eqt, nI_eqf, nI_let, nI_lef, nI_ltt, nI_ltf, nI_m1, nI_n1, ↓reduceIte, zup_ne, zup_miss, zup_hit, zbo_1, zbo_0, reduceCtorEq, sel_l, sel_r, Nat.reduceAdd, Nat.reduceSub, Nat.reduceMul, hP]
    rfl
/-- two search loops that go alike -/
theorem zit_find {R : Type} {b c : Int32 → Option (Int32 ⊕ (R ⊕ Int32))} {n : Nat} (hn : n < 30000)
    (hs : ∀ j, j < n → (∃ r, b (nI j) = some (.inr (.inl r)) ∧ c (nI j) = some (.inr (.inl r))) ∨ (b (nI j) = some (.inl (nI (j + 1))) ∧ c (nI j) = some (.inl (nI (j + 1)))))
    (he : b (nI n) = some (.inr (.inr (nI n))) ∧ c (nI n) = some (.inr (.inr (nI n)))) : Same (zit b zFU (nI 0)) (zit c zFU (nI 0)) := by
  have key : ∀ (f j : Nat), n < f + j → j ≤ n → Same (zit b f (nI j)) (zit c f (nI j)) := by
    intro f
    induction f with
    | zero => intro j h1 h2; omega
    | succ f ih =>
      intro j h1 h2
      unfold zit
      rcases Nat.lt_or_ge j n with h | h
      · rcases hs j h with ⟨r, e1, e2⟩ | ⟨e1, e2⟩
        · rw [e1, e2]; exact ⟨_, rfl, rfl⟩
        · rw [e1, e2]; exact ih (j + 1) (by omega) (by omega)
      · have : j = n := by omega
        subst this
        rw [he.1, he.2]
        exact ⟨_, rfl, rfl⟩
  exact key zFU 0 (by rw [zFU_e]; omega) (by omega)
theorem q_rank {σ : Sg} {p1 : Nat} (h : Now σ p1) (x1 : Int32) : Same (CK_rank σ x1) (M_rank σ x1) := by
  have hN := h
  obtain ⟨hq, hR, hK, _⟩ := h
  obtain ⟨hP, hP8⟩ := hK.1
  have e3 : σ p1 3 = nI (nP σ) := hR.1.1.trans hP
  have hz : Same (zit (fun (s : Int32) => CK_rank_l2 σ x1 s) zFU (nI 0)) (zit (fun (s : Int32) => M_rank_l2 σ x1 s) zFU (nI 0)) := by
    refine zit_find (n := nP σ) (by omega) (fun j hj => ?_) ?_
    · have a1 := CK_countFarther_e hN hj
      have a2 := M_count_e hK hj x1
      unfold CK_rank_l2 M_rank_l2 M_rank_j2_72
      simp (disch := omega) only [zgt_e, zpt_e, zlt_e, zrd_e, zwr_e, zelr_e, znz_e, zcp_e, zlit, nI_add, nI_mul, nI_sub, nI_div, ↓irem_f, irem_e, Nat.zero_add, Nat.add_zero, obs, zb_t, zb_f, nI_eqt, nI_eqf, nI_let, nI_lef, nI_ltt, nI_ltf, nI_m1, nI_n1, ↓reduceIte, zup_ne, zup_miss, zup_hit, zbo_1, zbo_0, reduceCtorEq, sel_l, sel_r, Nat.reduceAdd, Nat.reduceSub, Nat.reduceMul, ptr_e hq, e3, hP, a1, a2]
      by_cases c : rkN σ j = x1
      · left
        rw [if_pos c]
        exact ⟨_, rfl, rfl⟩
      · right
        rw [if_neg c]
        exact ⟨rfl, rfl⟩
    · unfold CK_rank_l2 M_rank_l2
      simp (disch := omega) only [zgt_e, zpt_e, zlt_e, zrd_e, zwr_e, zelr_e, znz_e, zcp_e, zlit, nI_add, nI_mul, nI_sub, nI_div, ↓irem_f, irem_e, Nat.zero_add, Nat.add_zero, obs, zb_t, zb_f, nI_eqt, nI_eqf, nI_let, nI_lef, nI_ltt, nI_ltf, nI_m1, nI_n1, ↓reduceIte, zup_ne, zup_miss, zup_hit, zbo_1, zbo_0, reduceCtorEq, sel_l, sel_r, Nat.reduceAdd, Nat.reduceSub, Nat.reduceMul, ptr_e hq, e3, hP]
      exact ⟨trivial, trivial⟩
  obtain ⟨r, r1, r2⟩ := hz
  unfold CK_rank M_rank
  simp only [zlt_e, zlit, r1, r2, obs]
  cases r <;> exact ⟨_, rfl, rfl⟩
