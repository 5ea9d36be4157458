theorem zit_first {R : Type} {b : Int32 → Option (Int32 ⊕ R)} {e : Nat} {r : R} (he : e < 30000) (hs : ∀ j, j < e → b (nI j) = some (.inl (nI (j + 1)))) (hr : b (nI e) = some (.inr r)) : zit b zFU (nI 0) = some r :=
  zit_eq (fun j => nI j) r e 0 (by omega) (fun j _ hj => hs j hj) hr zFU 0 (by rw [zFU_e]; omega) (by omega) (by omega)
theorem evK_inj {σ : Sg} (hK : InvK σ) (hO : InvO σ) {a b : Nat} (ha : a < 2 * nC σ) (hb : b < 2 * nC σ) (h : evK σ a = evK σ b) : a = b := by
  have h4 := hO.2.1
  unfold evK at h
  omega
theorem q_event {σ : Sg} {p1 : Nat} (h : Now σ p1) (x1 x2 : Int32) : Same (CK_event σ x1 x2) (M_event σ x1 x2) := by
  obtain ⟨hp, hR, hK, hM⟩ := h
  obtain ⟨⟨⟨_, _, _, _, v5, _⟩, _⟩, hQ, _, hO, hS, _⟩ := hM
  simp only [Nat.reduceAdd] at v5 hQ
  have hst : σ 56 0 = nI (stp σ) := v5.trans hS.1
  have hs9 := hS.2
  have h4 := hO.2.1
  have h5 := hK.2.1.2
  have hcl := nct_le (evV σ) (2 * nC σ)
  have hm := M_many_e hO hS x1 x2
  have em : (-1 : Int32) = -nI 1 := rfl
  have hcc : Orders_countEvents σ 73 (nI (stp σ)) = some (nI (nct (evV σ) (2 * nC σ))) := by
    have := countKeys_e (w := 73) (B := 1000000000) hQ hK hO (by omega) (by omega)
    unfold Orders_countEvents
    rw [zlit, this]
    simp only [obs]
    congr 2
    refine nct_congr (fun j hj => ?_)
    have := evK_le hK hO hj
    rw [decide_eq_true (by omega), Bool.and_true]
  unfold CK_event M_event M_event_j44
  simp only [zgt_e, zlt_e, zlit, hst, hcc, obs, hm]
  refine same_ite (fun _ => ⟨_, rfl, rfl⟩) (fun c0 => ?_)
  rcases pk_ix x1 (n := nct (evV σ) (2 * nC σ)) (by omega) with c | c | ⟨k, hk, rfl⟩
  · rw [if_pos (show x1 < nI 0 from c), isIn_out (by omega) (Or.inl c), bf']
    exact ⟨_, rfl, rfl⟩
  · rw [isIn_out (by omega) (Or.inr c), bf', if_neg (show ¬ x1 < nI (nct (evV σ) (2 * nC σ)) from Int32.not_lt.mpr c)]
    refine ⟨-nI 1, ?_, rfl⟩
    split <;> rfl
  · rw [if_neg (nI_nlt (a := k) (b := 0) (by omega) (by omega)), if_pos (nI_lt hk (by omega)), isIn_in (by omega) hk, bt']
    obtain ⟨e', he', hv', hr'⟩ := kth (v := evV σ) (f := evK σ) (N := 2 * nC σ) (M := 11000000) (fun a b ha hb => evK_inj hK hO ha hb) (fun a ha => evK_le hK hO ha) hk
    obtain ⟨e, ⟨he, hv, hr⟩, hmin⟩ := pk_least (fun e => e < 2 * nC σ ∧ evV σ e = true ∧ evR σ e = k) ⟨e', he', hv', hr'⟩
    have hkl := evK_le hK hO he
    have hdiv : ∀ j, j < 2 * nC σ → evK σ j / 512 = evS σ j := by
      intro j hj
      have h := hO.2.2 (j / 2) (by omega)
      unfold evK
      omega
    have hrl : ∀ j, evR σ j ≤ 32 := fun j => by have := nct_le (fun o => evV σ o && decide (evK σ o < evK σ j)) (2 * nC σ); unfold evR; omega
    have hc73 : σ 73 0 = nI (nC σ) := hQ.1.trans hO.1
    have hcnt : ∀ j, j < 2 * nC σ → Orders_countKeysBelow σ 73 (nI (evK σ j)) (nI (stp σ)) = some (nI (evR σ j)) := fun j hj => countKeys_e (w := 73) (B := evK σ j) hQ hK hO (by omega) (by have := evK_le hK hO hj; omega)
    have hCK : Orders_eventKey σ 73 (nI k) (nI (stp σ)) = some (nI (evK σ e)) := by
      have : zit (fun (s : Int32) => Orders_eventKey_l2 σ 73 (nI k) (nI (stp σ)) s) zFU (nI 0) = some (.inl (nI (evK σ e))) := by
        refine zit_first (e := e) (by omega) (fun j hj => ?_) ?_
        · have hj2 : j < 2 * nC σ := by omega
          have hkj := keyOf_e hQ hK hO hj2
          have hkl := evK_le hK hO hj2
          have hsl := evS_le hO hj2
          have hd := hdiv j hj2
          have hcj := hcnt j hj2
          have hrj := hrl j
          unfold Orders_eventKey_l2 Orders_stepOfKey
          by_cases c2 : evV σ j = true
          · have c3 : stp σ ≤ evS σ j := of_decide_eq_true c2
            have c4 : evR σ j ≠ k := fun q => hmin j hj ⟨hj2, c2, q⟩
            simp (disch := omega) only [zgt_e, zpt_e, zlt_e, zrd_e, zwr_e, zelr_e, znz_e, zcp_e, zlit, nI_add, nI_mul, nI_sub, nI_div, ↓irem_f, irem_e, Nat.zero_add, Nat.add_zero, obs, zb_t, zb_f, nI_eqt, nI_eqf, nI_let, nI_lef, nI_ltt, nI_ltf, nI_m1, nI_n1, ↓reduceIte, zup_ne, zup_miss, zup_hit, zbo_1, zbo_0, reduceCtorEq, sel_l, sel_r, Nat.reduceAdd, Nat.reduceSub, Nat.reduceMul, hc73, hkj, hd, hcj]
          · have c3 : ¬ stp σ ≤ evS σ j := fun q => c2 (decide_eq_true q)
            simp (disch := omega) only [zgt_e, zpt_e, zlt_e, zrd_e, zwr_e, zelr_e, znz_e, zcp_e, zlit, nI_add, nI_mul, nI_sub, nI_div, ↓irem_f, irem_e, Nat.zero_add, Nat.add_zero, obs, zb_t, zb_f, nI_eqt, nI_eqf, nI_let, nI_lef, nI_ltt, nI_ltf, nI_m1, nI_n1, ↓reduceIte, zup_ne, zup_miss, zup_hit, zbo_1, zbo_0, reduceCtorEq, sel_l, sel_r, Nat.reduceAdd, Nat.reduceSub, Nat.reduceMul, hc73, hkj, hd]
        · have hkj := keyOf_e hQ hK hO he
          have hsl := evS_le hO he
          have hd := hdiv e he
          have hcj := hcnt e he
          have c3 : stp σ ≤ evS σ e := of_decide_eq_true hv
          rw [hr] at hcj
          unfold Orders_eventKey_l2 Orders_stepOfKey
          simp (disch := omega) only [zgt_e, zpt_e, zlt_e, zrd_e, zwr_e, zelr_e, znz_e, zcp_e, zlit, nI_add, nI_mul, nI_sub, nI_div, ↓irem_f, irem_e, Nat.zero_add, Nat.add_zero, obs, zb_t, zb_f, nI_eqt, nI_eqf, nI_let, nI_lef, nI_ltt, nI_ltf, nI_m1, nI_n1, ↓reduceIte, zup_ne, zup_miss, zup_hit, zbo_1, zbo_0, reduceCtorEq, sel_l, sel_r, Nat.reduceAdd, Nat.reduceSub, Nat.reduceMul, hc73, hkj, hd, hcj]
      unfold Orders_eventKey
      simp only [zlt_e, zlit, this, obs, sel_l]
    have hMl : ∀ i, i < 4 → zit (fun (s : Int32) => M_event_l76 σ (nI k) (nI i) s) zFU (nI 0) = some (.inl (if i = 0 then nI (evS σ e) else if i = 1 then nI (oo σ (e / 2)) else if i = 2 then nI (e / 2) else nI (e % 2))) := by
      intro i hi
      have hc := hO.1
      refine zit_first (e := e) (by omega) (fun j hj => ?_) ?_
      · have hj2 : j < 2 * nC σ := by omega
        have sj := M_stepOf_e hO hS hj2
        have hsl := evS_le hO hj2
        have hrj := hrl j
        unfold M_event_l76 M_event_j76_169
        by_cases c2 : evV σ j = true
        · rw [if_pos c2] at sj
          have c4 : evR σ j ≠ k := fun q => hmin j hj ⟨hj2, c2, q⟩
          have hl := M_evR_e hK hO hS hj2 c2 (nI k) (nI i)
          simp (disch := omega) only [zgt_e, zpt_e, zlt_e, zrd_e, zwr_e, zelr_e, znz_e, zcp_e, zlit, nI_add, nI_mul, nI_sub, nI_div, ↓irem_f, irem_e, Nat.zero_add, Nat.add_zero, obs, zb_t, zb_f, nI_eqt, nI_eqf, nI_let, nI_lef, nI_ltt, nI_ltf, nI_m1, nI_n1, ↓reduceIte, zup_ne, zup_miss, zup_hit, zbo_1, zbo_0, reduceCtorEq, sel_l, sel_r, Nat.reduceAdd, Nat.reduceSub, Nat.reduceMul, hc, sj, hl]
        · rw [if_neg c2] at sj
          simp (disch := omega) only [zgt_e, zpt_e, zlt_e, zrd_e, zwr_e, zelr_e, znz_e, zcp_e, zlit, nI_add, nI_mul, nI_sub, nI_div, ↓irem_f, irem_e, Nat.zero_add, Nat.add_zero, obs, zb_t, zb_f, nI_eqt, nI_eqf, nI_let, nI_lef, nI_ltt, nI_ltf, nI_m1, nI_n1, ↓reduceIte, zup_ne, zup_miss, zup_hit, zbo_1, zbo_0, reduceCtorEq, sel_l, sel_r, Nat.reduceAdd, Nat.reduceSub, Nat.reduceMul, hc, sj]
      · have sj := M_stepOf_e hO hS he
        have hsl := evS_le hO he
        rw [if_pos hv] at sj
        have hl := M_evR_e hK hO hS he hv (nI k) (nI i)
        rw [hr] at hl
        obtain ⟨a1, a2, _⟩ := hO.2.2 (e / 2) (by omega)
        unfold M_event_l76 M_event_j76_169
        rcases (show i = 0 ∨ i = 1 ∨ i = 2 ∨ i = 3 by omega) with q | q | q | q <;> subst q <;> first | (simp (disch := omega) only [zgt_e, zpt_e, zlt_e, zrd_e, zwr_e, zelr_e, znz_e, zcp_e, zlit, nI_add, nI_mul, nI_sub, nI_div, ↓irem_f, irem_e, Nat.zero_add, Nat.add_zero, obs, zb_t, zb_f, nI_eqt, nI_eqf, nI_let, nI_lef, nI_ltt, nI_ltf, nI_m1, nI_n1, ↓reduceIte, zup_ne, zup_miss, zup_hit, zbo_1, zbo_0, reduceCtorEq, sel_l, sel_r, Nat.reduceAdd, Nat.reduceSub, Nat.reduceMul, hc, sj, hl, a1]; done) | (simp (disch := omega) only [zgt_e, zpt_e, zlt_e, zrd_e, zwr_e, zelr_e, znz_e, zcp_e, zlit, nI_add, nI_mul, nI_sub, nI_div, ↓irem_f, irem_e, Nat.zero_add, Nat.add_zero, obs, zb_t, zb_f, nI_eqt, nI_eqf, nI_let, nI_lef, nI_ltt, nI_ltf, nI_m1, nI_n1, ↓reduceIte, zup_ne, zup_miss, zup_hit, zbo_1, zbo_0, reduceCtorEq, sel_l, sel_r, Nat.reduceAdd, Nat.reduceSub, Nat.reduceMul, hc, sj, hl, a1]; rfl)
    rw [hCK]
    simp only [obs]
    rcases pk_ix x2 (n := 4) (by omega) with c | c | ⟨i, hi, rfl⟩
    · rw [isIn_lit (n := 3) (by omega) (Or.inl c), bf']
      have hne : ∀ n : Nat, n < 100 → ¬ x2 = nI n := fun n hn e => by
        rw [e] at c
        exact absurd c (nI_pos (by omega))
      rw [if_neg (hne 0 (by omega)), if_neg (hne 1 (by omega)), if_neg (hne 2 (by omega)), if_neg (hne 3 (by omega))]
      exact ⟨_, rfl, rfl⟩
    · rw [isIn_lit (n := 3) (by omega) (Or.inr c), bf']
      have hne : ∀ n : Nat, n < 4 → ¬ x2 = nI n := fun n hn e => by
        rw [e] at c
        exact absurd c (nI_ge hn (by omega))
      rw [if_neg (hne 0 (by omega)), if_neg (hne 1 (by omega)), if_neg (hne 2 (by omega)), if_neg (hne 3 (by omega))]
      exact ⟨_, rfl, rfl⟩
    · have hin : M_isIn (nI i) (nI 0) (nI 3) = some true := by
        rw [M_isIn_e (by omega) (by omega) (by omega)]
        congr 1
        exact decide_eq_true (by omega)
      rw [hin, bt', hMl i hi]
      obtain ⟨a1, a2, _⟩ := hO.2.2 (e / 2) (by omega)
      have d1 := hdiv e he
      have d2a : evK σ e / 32 = evS σ e * 16 + oo σ (e / 2) := by unfold evK; omega
      have d2 : evK σ e / 32 % 16 = oo σ (e / 2) := by rw [d2a]; omega
      have d3 : evK σ e % 16 = e / 2 := by unfold evK; omega
      have d4a : evK σ e / 16 = (evS σ e * 16 + oo σ (e / 2)) * 2 + e % 2 := by unfold evK; omega
      have d4 : evK σ e / 16 % 2 = e % 2 := by rw [d4a]; omega
      unfold Orders_stepOfKey Orders_outletOfKey Orders_orderOfKey Orders_beginsOfKey
      rcases (show i = 0 ∨ i = 1 ∨ i = 2 ∨ i = 3 by omega) with q | q | q | q <;> subst q <;> (simp (disch := omega) only [zgt_e, zpt_e, zlt_e, zrd_e, zwr_e, zelr_e, znz_e, zcp_e, zlit, nI_add, nI_mul, nI_sub, nI_div, ↓irem_f, irem_e, Nat.zero_add, Nat.add_zero, obs, zb_t, zb_f, nI_eqt, nI_eqf, nI_let, nI_lef, nI_ltt, nI_ltf, nI_m1, nI_n1, ↓reduceIte, zup_ne, zup_miss, zup_hit, zbo_1, zbo_0, reduceCtorEq, sel_l, sel_r, Nat.reduceAdd, Nat.reduceSub, Nat.reduceMul, d1, d2, d3, d4]; exact ⟨_, rfl, rfl⟩)
