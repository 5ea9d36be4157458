/-! answers that only read -/
theorem bf' {α : Type} {a b : Option α} : ((some false).bind fun r => if (zb r) = nI 0 then a else b) = a := bf
theorem bt' {α : Type} {a b : Option α} : ((some true).bind fun r => if (zb r) = nI 0 then a else b) = b := bt
theorem isIn_lit {x : Int32} {n : Nat} (hn : n + 1 < 2147483648) (h : x < 0 ∨ nI (n + 1) ≤ x) : M_isIn x (nI 0) (nI n) = some false := by
  have := isIn_out hn h
  rw [nI_sub (by omega), Nat.add_sub_cancel] at this
  exact this
theorem isIn_l1 {x : Int32} {n : Nat} (hn : n + 1 < 2147483648) (h : x < nI 1 ∨ nI (n + 1) ≤ x) : M_isIn x (nI 1) (nI n) = some false := by
  unfold M_isIn
  by_cases c : x < nI 1
  · rw [if_pos c]
  · have h2 : nI n < x := Int32.lt_of_lt_of_le (nI_lt (by omega) (by omega)) (h.resolve_left c)
    rw [if_neg c, if_pos h2]
theorem rng1 (x : Int32) {n : Nat} (hn : n + 1 < 2147483648) : x < nI 1 ∨ nI (n + 1) ≤ x ∨ ∃ j, 1 ≤ j ∧ j ≤ n ∧ x = nI j := by
  rcases pk_ix x (n := n + 1) hn with h | h | ⟨j, hj, rfl⟩
  · left; exact Int32.lt_of_lt_of_le (show x < nI 0 from h) (nI_le (by omega) (by omega))
  · exact Or.inr (Or.inl h)
  · rcases Nat.eq_zero_or_pos j with e | e
    · left; exact nI_lt (by omega) (by omega)
    · exact Or.inr (Or.inr ⟨j, e, by omega, rfl⟩)
theorem lt_of_succ {x : Int32} {n : Nat} (hn : n + 1 < 2147483648) (h : nI (n + 1) ≤ x) : nI n < x := Int32.lt_of_lt_of_le (nI_lt (by omega) (by omega)) h
theorem CK_loadAt_e {σ : Sg} {p1 : Nat} (h : Now σ p1) {g t : Nat} (hg : g ≤ nP σ) (ht : t < 900000) : CK_loadAt σ (nI g) (nI t) = some (ldS σ g t) := by
  obtain ⟨hp, hR, hK, ⟨⟨v1, _⟩, _⟩, hQ, _, hO, _⟩ := h
  obtain ⟨hP, hP8⟩ := hK.1
  obtain ⟨hOu, hO10⟩ := hK.2.1
  have e3 : σ p1 3 = nI (nP σ) := hR.1.1.trans hP
  have e7 : σ p1 7 = nI (nO σ) := hR.1.2.1.trans hOu
  have h1 : zit (fun (s : (Int32 × Int32)) => CK_loadAt_l5 σ (nI g) (nI t) s.1 s.2) zFU (nI 0, nI g) = some (ldL σ g, nI (nP σ)) := by
    refine zit_eq (fun i => (sm (fun i => σ 183 (24 + (g + i))) i, nI (g + i))) _ (nP σ - g) 0 (by omega) (fun i _ hi => ?_) ?_ zFU 0 (by rw [zFU_e]; omega) (by omega) (by omega)
    · have a3 := (v1 (g + i) (by omega)).2.2.1
      simp only [Nat.reduceAdd] at a3
      unfold CK_loadAt_l5
      simp (disch := omega) only [zgt_e, zpt_e, zlt_e, zrd_e, zwr_e, zelr_e, znz_e, zcp_e, zlit, nI_add, nI_mul, nI_sub, nI_div, ↓irem_f, irem_e, Nat.zero_add, Nat.add_zero, obs, zb_t, zb_f, nI_eqt, nI_eqf, nI_let, nI_lef, nI_ltt, nI_ltf, nI_m1, nI_n1, ↓reduceIte, zup_ne, zup_miss, zup_hit, zbo_1, zbo_0, reduceCtorEq, sel_l, sel_r, Nat.reduceAdd, Nat.reduceSub, Nat.reduceMul, ptr_e hp, e3, a3, sm_succ]
      rfl
    · unfold CK_loadAt_l5
      simp (disch := omega) only [zgt_e, zpt_e, zlt_e, zrd_e, zwr_e, zelr_e, znz_e, zcp_e, zlit, nI_add, nI_mul, nI_sub, nI_div, ↓irem_f, irem_e, Nat.zero_add, Nat.add_zero, obs, zb_t, zb_f, nI_eqt, nI_eqf, nI_let, nI_lef, nI_ltt, nI_ltf, nI_m1, nI_n1, ↓reduceIte, zup_ne, zup_miss, zup_hit, zbo_1, zbo_0, reduceCtorEq, sel_l, sel_r, Nat.reduceAdd, Nat.reduceSub, Nat.reduceMul, ptr_e hp, e3, show g + (nP σ - g) = nP σ from by omega]
      rfl
  have h2 : zit (fun (s : (Int32 × Int32)) => CK_loadAt_l42 σ (nI g) (nI t) s.1 s.2) zFU (ldL σ g, nI 0) = some (ldL σ g + ldP σ g t (nO σ), nI (nO σ)) := by
    have e0 : (ldL σ g, nI 0) = (fun n => (ldL σ g + ldP σ g t n, nI n)) 0 := by
      show _ = (ldL σ g + 0, nI 0)
      simp
    rw [e0]
    refine zit_eq (fun n => (ldL σ g + ldP σ g t n, nI n)) _ (nO σ) 0 (by omega) (fun n _ hn => ?_) ?_ zFU 0 (by rw [zFU_e]; omega) (by omega) (by omega)
    · obtain ⟨o1, o2, o3, o4, o5⟩ := hK.2.2.2.2.2.1 n hn
      obtain ⟨k1, k2⟩ := hR.2.2.1 n hn
      rw [o1] at k1
      simp only [ldP_succ]
      unfold CK_loadAt_l42
      by_cases c : g ≤ opl σ n
      · have hnd := nd_mono (μ := σ) (g := g) (m := opl σ n + 1 - g) (by omega)
        have hn9 := nd_le hK (g := 0) (j := nP σ) (by omega)
        have hneed := Works_needs_e hR hK (g := g) (p := opl σ n) (by omega) o2
        have hop := Works_isOpen_e hR hQ hK hO (o := n) (t := t + nd σ g (opl σ n + 1 - g)) (by omega) (by omega)
        by_cases c2 : opn σ n (t + nd σ g (opl σ n + 1 - g)) = true
        · rw [c2] at hop
          simp (disch := omega) only [zgt_e, zpt_e, zlt_e, zrd_e, zwr_e, zelr_e, znz_e, zcp_e, zlit, nI_add, nI_mul, nI_sub, nI_div, ↓irem_f, irem_e, Nat.zero_add, Nat.add_zero, obs, zb_t, zb_f, nI_eqt, nI_eqf, nI_let, nI_lef, nI_ltt, nI_ltf, nI_m1, nI_n1, ↓reduceIte, zup_ne, zup_miss, zup_hit, zbo_1, zbo_0, reduceCtorEq, sel_l, sel_r, Nat.reduceAdd, Nat.reduceSub, Nat.reduceMul, ptr_e hp, e7, k1, k2, hneed, hop, c, c2, and_self]
          simp only [Int32.add_assoc]
        · have c2' : opn σ n (t + nd σ g (opl σ n + 1 - g)) = false := by simpa using c2
          rw [c2'] at hop
          simp (disch := omega) only [zgt_e, zpt_e, zlt_e, zrd_e, zwr_e, zelr_e, znz_e, zcp_e, zlit, nI_add, nI_mul, nI_sub, nI_div, ↓irem_f, irem_e, Nat.zero_add, Nat.add_zero, obs, zb_t, zb_f, nI_eqt, nI_eqf, nI_let, nI_lef, nI_ltt, nI_ltf, nI_m1, nI_n1, ↓reduceIte, zup_ne, zup_miss, zup_hit, zbo_1, zbo_0, reduceCtorEq, sel_l, sel_r, Nat.reduceAdd, Nat.reduceSub, Nat.reduceMul, ptr_e hp, e7, k1, k2, hneed, hop, c, c2', Bool.false_eq_true, and_false]
          simp [nI_0]
      · simp (disch := omega) only [zgt_e, zpt_e, zlt_e, zrd_e, zwr_e, zelr_e, znz_e, zcp_e, zlit, nI_add, nI_mul, nI_sub, nI_div, ↓irem_f, irem_e, Nat.zero_add, Nat.add_zero, obs, zb_t, zb_f, nI_eqt, nI_eqf, nI_let, nI_lef, nI_ltt, nI_ltf, nI_m1, nI_n1, ↓reduceIte, zup_ne, zup_miss, zup_hit, zbo_1, zbo_0, reduceCtorEq, sel_l, sel_r, Nat.reduceAdd, Nat.reduceSub, Nat.reduceMul, ptr_e hp, e7, k1, c, false_and]
        simp [nI_0]
    · unfold CK_loadAt_l42
      simp (disch := omega) only [zgt_e, zpt_e, zlt_e, zrd_e, zwr_e, zelr_e, znz_e, zcp_e, zlit, nI_add, nI_mul, nI_sub, nI_div, ↓irem_f, irem_e, Nat.zero_add, Nat.add_zero, obs, zb_t, zb_f, nI_eqt, nI_eqf, nI_let, nI_lef, nI_ltt, nI_ltf, nI_m1, nI_n1, ↓reduceIte, zup_ne, zup_miss, zup_hit, zbo_1, zbo_0, reduceCtorEq, sel_l, sel_r, Nat.reduceAdd, Nat.reduceSub, Nat.reduceMul, ptr_e hp, e7]
  unfold CK_loadAt CK_loadAt_j39
  simp only [zlt_e, zlit, h1, h2, obs]
  rfl
theorem Log_flowOf_e {σ : Sg} {lg p t j : Nat} (hp : p < 8) (ht : t < 1000000) (hj : j < 4) : Log_flowOf σ lg (nI p) (nI t) (nI j) = some (σ (lg + 2) ((t % 40 * 8 + p) * 4 + j)) := by
  have hm : t % 40 < 40 := Nat.mod_lt _ (by omega)
  unfold Log_flowOf Log_flowPlace
  simp (disch := omega) only [zgt_e, zpt_e, zlt_e, zrd_e, zwr_e, zelr_e, znz_e, zcp_e, zlit, nI_add, nI_mul, nI_sub, nI_div, ↓irem_f, irem_e, Nat.zero_add, Nat.add_zero, obs, zb_t, zb_f, nI_eqt, nI_eqf, nI_let, nI_lef, nI_ltt, nI_ltf, nI_m1, nI_n1, ↓reduceIte, zup_ne, zup_miss, zup_hit, zbo_1, zbo_0, reduceCtorEq, sel_l, sel_r, Nat.reduceAdd, Nat.reduceSub, Nat.reduceMul]
theorem q_gate {σ : Sg} {p1 : Nat} (h : Now σ p1) (hG : 0 < nP σ → Gain σ) (x1 x2 : Int32) : Same (CK_gate σ x1 x2) (M_gate σ x1 x2) := by
  have hN := h
  obtain ⟨hp, hR, hK, hM⟩ := h
  have hP8 := hK.1.2
  obtain ⟨⟨⟨v1, _, _, _, v5, v6, v7⟩, hA, hZ⟩, hQ, hL, hO, ⟨hS, hS9⟩, hWs, _⟩ := hM
  unfold CK_gate M_gate
  rcases isPool_c hp hR hK x1 with ⟨e1, e2⟩ | ⟨j, hj, rfl, e1, e2⟩
  · rw [e1, e2, bf, bf]
    exact ⟨_, rfl, rfl⟩
  · obtain ⟨g, hg, hg1, hg2⟩ := hG (by omega)
    obtain ⟨a1, a2, a3, a4⟩ := v1 j hj
    obtain ⟨⟨k1, k2, k3, k4, k5⟩, k6, k7, k8, k9, k10⟩ := hR.2.1 j hj
    simp only [Nat.reduceAdd] at a1 a2 a3 a4 v5 v6 v7
    have hst := v5.trans hS
    have hld := CK_loadAt_e hN (g := j) (t := stp σ) (by omega) (by omega)
    have hwi : Water_wishOf σ 56 p1 (nI j) (ldS σ j (stp σ)) = some (wsh σ j (stp σ)) := Water_wishOf_e (by omega) hR hK hj a1 a4 (v7.trans hg) hg hg1 hg2 rfl
    have hhe := Works_heldIn_e hR hK hj (wsh σ j (stp σ))
    have hwa := M_wanted_e hK hO hj (t := stp σ) (by omega) hg hg1 hg2
    rw [e1, e2, bt, bt]
    refine same_ite (fun _ => (by simp (disch := omega) only [zgt_e, zpt_e, zlt_e, zrd_e, zwr_e, zelr_e, znz_e, zcp_e, zlit, nI_add, nI_mul, nI_sub, nI_div, ↓irem_f, irem_e, Nat.zero_add, Nat.add_zero, obs, zb_t, zb_f, nI_eqt, nI_eqf, nI_let, nI_lef, nI_ltt, nI_ltf, nI_m1, nI_n1, ↓reduceIte, zup_ne, zup_miss, zup_hit, zbo_1, zbo_0, reduceCtorEq, sel_l, sel_r, Nat.reduceAdd, Nat.reduceSub, Nat.reduceMul, a2]; exact ⟨_, rfl, rfl⟩)) (fun _ => ?_)
    refine same_ite (fun _ => (by simp (disch := omega) only [zgt_e, zpt_e, zlt_e, zrd_e, zwr_e, zelr_e, znz_e, zcp_e, zlit, nI_add, nI_mul, nI_sub, nI_div, ↓irem_f, irem_e, Nat.zero_add, Nat.add_zero, obs, zb_t, zb_f, nI_eqt, nI_eqf, nI_let, nI_lef, nI_ltt, nI_ltf, nI_m1, nI_n1, ↓reduceIte, zup_ne, zup_miss, zup_hit, zbo_1, zbo_0, reduceCtorEq, sel_l, sel_r, Nat.reduceAdd, Nat.reduceSub, Nat.reduceMul, ptr_e hp, k7, M_toldOf_e]; exact ⟨_, rfl, rfl⟩)) (fun _ => ?_)
    refine same_ite (fun _ => (by simp (disch := omega) only [zgt_e, zpt_e, zlt_e, zrd_e, zwr_e, zelr_e, znz_e, zcp_e, zlit, nI_add, nI_mul, nI_sub, nI_div, ↓irem_f, irem_e, Nat.zero_add, Nat.add_zero, obs, zb_t, zb_f, nI_eqt, nI_eqf, nI_let, nI_lef, nI_ltt, nI_ltf, nI_m1, nI_n1, ↓reduceIte, zup_ne, zup_miss, zup_hit, zbo_1, zbo_0, reduceCtorEq, sel_l, sel_r, Nat.reduceAdd, Nat.reduceSub, Nat.reduceMul, ptr_e hp, k8, M_toldOf_e]; exact ⟨_, rfl, rfl⟩)) (fun _ => ?_)
    refine same_ite (fun _ => (by simp (disch := omega) only [zgt_e, zpt_e, zlt_e, zrd_e, zwr_e, zelr_e, znz_e, zcp_e, zlit, nI_add, nI_mul, nI_sub, nI_div, ↓irem_f, irem_e, Nat.zero_add, Nat.add_zero, obs, zb_t, zb_f, nI_eqt, nI_eqf, nI_let, nI_lef, nI_ltt, nI_ltf, nI_m1, nI_n1, ↓reduceIte, zup_ne, zup_miss, zup_hit, zbo_1, zbo_0, reduceCtorEq, sel_l, sel_r, Nat.reduceAdd, Nat.reduceSub, Nat.reduceMul, ptr_e hp, hst, hS, hld, hwi, hhe, hwa]; exact ⟨_, rfl, rfl⟩)) (fun _ => ?_)
    refine same_ite (fun _ => (by simp (disch := omega) only [zgt_e, zpt_e, zlt_e, zrd_e, zwr_e, zelr_e, znz_e, zcp_e, zlit, nI_add, nI_mul, nI_sub, nI_div, ↓irem_f, irem_e, Nat.zero_add, Nat.add_zero, obs, zb_t, zb_f, nI_eqt, nI_eqf, nI_let, nI_lef, nI_ltt, nI_ltf, nI_m1, nI_n1, ↓reduceIte, zup_ne, zup_miss, zup_hit, zbo_1, zbo_0, reduceCtorEq, sel_l, sel_r, Nat.reduceAdd, Nat.reduceSub, Nat.reduceMul, a4]; exact ⟨_, rfl, rfl⟩)) (fun _ => ?_)
    refine same_ite (fun _ => ?_) (fun _ => ⟨_, rfl, rfl⟩)
    obtain ⟨kept, l1, l2, l3, l4, l5, l6⟩ := hL
    have hw := (hWs j hj).2
    by_cases c : stp σ = 0
    · rw [if_pos c] at hw
      simp (disch := omega) only [zgt_e, zpt_e, zlt_e, zrd_e, zwr_e, zelr_e, znz_e, zcp_e, zlit, nI_add, nI_mul, nI_sub, nI_div, ↓irem_f, irem_e, Nat.zero_add, Nat.add_zero, obs, zb_t, zb_f, nI_eqt, nI_eqf, nI_let, nI_lef, nI_ltt, nI_ltf, nI_m1, nI_n1, ↓reduceIte, zup_ne, zup_miss, zup_hit, zbo_1, zbo_0, reduceCtorEq, sel_l, sel_r, Nat.reduceAdd, Nat.reduceSub, Nat.reduceMul, hst, hw, c]
      exact ⟨_, rfl, rfl⟩
    · rw [if_neg c] at hw
      have l7 := l6 0 (by omega) j hj 3 (by omega)
      rw [show 327 + 32 * 0 + 4 * j + 3 = 327 + 4 * j + 3 from by omega, Nat.sub_zero] at l7
      simp (disch := omega) only [zgt_e, zpt_e, zlt_e, zrd_e, zwr_e, zelr_e, znz_e, zcp_e, zlit, nI_add, nI_mul, nI_sub, nI_div, ↓irem_f, irem_e, Nat.zero_add, Nat.add_zero, obs, zb_t, zb_f, nI_eqt, nI_eqf, nI_let, nI_lef, nI_ltt, nI_ltf, nI_m1, nI_n1, ↓reduceIte, zup_ne, zup_miss, zup_hit, zbo_1, zbo_0, reduceCtorEq, sel_l, sel_r, Nat.reduceAdd, Nat.reduceSub, Nat.reduceMul, hst, Log_flowOf_e, hw]
      simp only [Nat.reduceAdd] at l7
      rw [l7]
      exact ⟨_, rfl, rfl⟩
theorem q_row {σ : Sg} {p1 : Nat} (h : Now σ p1) (x1 x2 : Int32) : Same (CK_row σ x1 x2) (M_row σ x1 x2) := by
  obtain ⟨hp, hR, hK, hM⟩ := h
  have hP8 := hK.1.2
  obtain ⟨⟨⟨v1, _, _, _, v5, v6, v7⟩, hA, hZ⟩, hQ, hL, hO, ⟨hS, hS9⟩, hWs, _⟩ := hM
  unfold CK_row M_row
  rcases isPool_c hp hR hK x1 with ⟨e1, e2⟩ | ⟨j, hj, rfl, e1, e2⟩
  · rw [e1, e2, bf, bf]
    exact ⟨_, rfl, rfl⟩
  · have k5 := (hR.2.1 j hj).1.2.2.2.2
    have hd3 := (hK.2.2.2.1 j hj 3 (by omega)).1
    have hd := (hK.2.2.2.2.1 j hj).1
    rw [hd3] at k5
    simp only [Nat.reduceAdd] at v5
    have hst := v5.trans hS
    rw [e1, e2, bt, bt]
    have ht := M_toldOf_e (σ := σ) (p := j) (j := 3) (by omega) (by omega)
    rw [hd3] at ht
    rcases pk_ix x2 (n := tl σ j 3) (by omega) with c | c | ⟨k, hk, rfl⟩
    · have c' : x2 < nI 0 := c
      simp (disch := omega) only [zlit, obs, ht, c', ↓reduceIte]
      rw [isIn_out (by omega) (Or.inl c), bf']
      exact ⟨_, rfl, rfl⟩
    · have c' : ¬ x2 < nI (tl σ j 3) := Int32.not_lt.mpr c
      simp (disch := omega) only [zlit, obs, ht, ptr_e hp, zrd_e, k5, c', ↓reduceIte]
      rw [isIn_out (by omega) (Or.inr c), bf']
      refine ⟨-nI 1, ?_, rfl⟩
      split <;> rfl
    · have hw := (hA j hj).1 k hk
      have hm : (stp σ + k) % tl σ j 3 < tl σ j 3 := Nat.mod_lt _ (by omega)
      have m9 : j * 9 = 9 * j := Nat.mul_comm _ _
      simp only [Nat.reduceAdd] at hw
      have ha : Water_arrivesIn σ 56 p1 (nI j) (nI k) = some (σ 183 (40 + 10 * j + k)) := by
        unfold Water_arrivesIn
        simp (disch := omega) only [zgt_e, zpt_e, zlt_e, zrd_e, zwr_e, zelr_e, znz_e, zcp_e, zlit, nI_add, nI_mul, nI_sub, nI_div, ↓irem_f, irem_e, Nat.zero_add, Nat.add_zero, obs, zb_t, zb_f, nI_eqt, nI_eqf, nI_let, nI_lef, nI_ltt, nI_ltf, nI_m1, nI_n1, ↓reduceIte, zup_ne, zup_miss, zup_hit, zbo_1, zbo_0, reduceCtorEq, sel_l, sel_r, Nat.reduceAdd, Nat.reduceSub, Nat.reduceMul, k5, hst, m9, hw]
      have hin := isIn_in (j := k) (n := tl σ j 3) (by omega) hk
      simp (disch := omega) only [zlit, obs, ht, ptr_e hp, zrd_e, k5, nI_ltf, nI_ltt, ↓reduceIte, ha, hin, zb_t, nI_eqf, nI_add, nI_mul]
      exact ⟨_, rfl, rfl⟩
