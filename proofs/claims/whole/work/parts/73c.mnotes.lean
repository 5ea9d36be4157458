def notC (σ : Sg) (i : Nat) : Int32 := if i % 4 = 0 then σ 189 (i / 4) else if i % 4 = 1 then σ 190 (i / 4) else if i % 4 = 2 then σ 191 (i / 4) else σ 183 (120 + i / 4)
def notF (σ : Sg) : Nat → Int32 := fun k => if k = 206 then mn 40 (σ 183 206 + 1) else if 327 ≤ k ∧ k < 359 then notC σ (k - 327) else if 359 ≤ k ∧ k < 1607 then σ 183 (k - 32) else σ 183 k
def notS (σ : Sg) : Sg := zrow σ 183 (notF σ)
theorem M_notes_e (σ : Sg) : M_notes σ = some (notS σ) := by
  have h1 := zit_cnt (b := fun (s : (Sg × Int32)) => M_notes_l4 s.1 s.2) (fun j τ => (∀ a, a ≠ 183 → τ a = σ a) ∧ ∀ k, τ 183 k = if 1606 - j < k ∧ k < 1607 then σ 183 (k - 32) else σ 183 k) (fun j => nI (1279 - j)) 1248 (σ := σ) (by omega) ⟨fun _ _ => rfl, fun k => by rw [if_neg (by omega)]⟩ (by
    rintro j τ hj ⟨ha, hk⟩
    unfold M_notes_l4
    simp (disch := omega) only [zgt_e, zpt_e, zlt_e, zrd_e, zwr_e, zelr_e, znz_e, zcp_e, zlit, nI_add, nI_mul, nI_sub, nI_div, ↓irem_f, irem_e, Nat.zero_add, Nat.add_zero, obs, zb_t, zb_f, nI_eqt, nI_eqf, nI_let, nI_lef, nI_ltt, nI_ltf, nI_m1, nI_n1, ↓reduceIte, zup_ne, zup_miss, zup_hit, zbo_1, zbo_0, reduceCtorEq, sel_l, sel_r, Nat.reduceAdd, Nat.reduceSub, Nat.reduceMul]
    refine ⟨_, rfl, fun a h => by rw [zup_ne h]; exact ha a h, fun k => ?_⟩
    by_cases e : k = 327 + (1279 - j)
    · subst e
      rw [zup_hit, hk, if_neg (by omega), if_pos (by omega)]
    · rw [zup_miss e, hk]
      by_cases c : 1606 - j < k ∧ k < 1607
      · rw [if_pos c, if_pos (by omega)]
      · rw [if_neg c, if_neg (by omega)]) (by
    rintro τ ⟨ha, hk⟩
    unfold M_notes_l4
    simp (disch := omega) only [zgt_e, zpt_e, zlt_e, zrd_e, zwr_e, zelr_e, znz_e, zcp_e, zlit, nI_add, nI_mul, nI_sub, nI_div, ↓irem_f, irem_e, Nat.zero_add, Nat.add_zero, obs, zb_t, zb_f, nI_eqt, nI_eqf, nI_let, nI_lef, nI_ltt, nI_ltf, nI_m1, nI_n1, ↓reduceIte, zup_ne, zup_miss, zup_hit, zbo_1, zbo_0, reduceCtorEq, sel_l, sel_r, Nat.reduceAdd, Nat.reduceSub, Nat.reduceMul])
  obtain ⟨τ, e1, ha1, hk1⟩ := h1
  have hτ2 : ∀ p, p < 8 → τ 183 (120 + p) = σ 183 (120 + p) := fun p hp => by rw [hk1, if_neg (by omega)]
  have h2 := zit_cnt (b := fun (s : (Sg × Int32)) => M_notes_l41 s.1 s.2) (fun j υ => (∀ a, a ≠ 183 → υ a = σ a) ∧ ∀ k, υ 183 k = if 327 ≤ k ∧ k < 327 + 4 * j then notC σ (k - 327) else τ 183 k) nI 8 (σ := τ) (by omega) ⟨ha1, fun k => by rw [if_neg (by omega)]⟩ (by
    rintro j υ hj ⟨ha, hk⟩
    have hp : υ 183 (120 + j) = σ 183 (120 + j) := by rw [hk, if_neg (by omega), hτ2 j hj]
    unfold M_notes_l41
    simp (disch := omega) only [zgt_e, zpt_e, zlt_e, zrd_e, zwr_e, zelr_e, znz_e, zcp_e, zlit, nI_add, nI_mul, nI_sub, nI_div, ↓irem_f, irem_e, Nat.zero_add, Nat.add_zero, obs, zb_t, zb_f, nI_eqt, nI_eqf, nI_let, nI_lef, nI_ltt, nI_ltf, nI_m1, nI_n1, ↓reduceIte, zup_ne, zup_miss, zup_hit, zbo_1, zbo_0, reduceCtorEq, sel_l, sel_r, Nat.reduceAdd, Nat.reduceSub, Nat.reduceMul, ha 189 (by decide), ha 190 (by decide), ha 191 (by decide), hp]
    refine ⟨_, rfl, fun a h => by rw [zup_ne h, zup_ne h, zup_ne h, zup_ne h]; exact ha a h, fun k => ?_⟩
    by_cases e0 : k = 327 + 4 * j
    · subst e0
      rw [zup_miss (by omega), zup_miss (by omega), zup_miss (by omega), zup_hit, if_pos (by omega)]
      unfold notC
      rw [if_pos (by omega), show (327 + 4 * j - 327) / 4 = j from by omega]
    · by_cases e1 : k = 327 + 4 * j + 1
      · subst e1
        rw [zup_miss (by omega), zup_miss (by omega), zup_hit, if_pos (by omega)]
        unfold notC
        rw [if_neg (by omega), if_pos (by omega), show (327 + 4 * j + 1 - 327) / 4 = j from by omega]
      · by_cases e2 : k = 327 + 4 * j + 2
        · subst e2
          rw [zup_miss (by omega), zup_hit, if_pos (by omega)]
          unfold notC
          rw [if_neg (by omega), if_neg (by omega), if_pos (by omega), show (327 + 4 * j + 2 - 327) / 4 = j from by omega]
        · by_cases e3 : k = 327 + 4 * j + 3
          · subst e3
            rw [zup_hit, if_pos (by omega)]
            unfold notC
            rw [if_neg (by omega), if_neg (by omega), if_neg (by omega), show (327 + 4 * j + 3 - 327) / 4 = j from by omega]
          · rw [zup_miss e3, zup_miss e2, zup_miss e1, zup_miss e0, hk]
            by_cases c : 327 ≤ k ∧ k < 327 + 4 * j
            · rw [if_pos c, if_pos (by omega)]
            · rw [if_neg c, if_neg (by omega)]) (by
    rintro υ ⟨ha, hk⟩
    unfold M_notes_l41
    simp (disch := omega) only [zgt_e, zpt_e, zlt_e, zrd_e, zwr_e, zelr_e, znz_e, zcp_e, zlit, nI_add, nI_mul, nI_sub, nI_div, ↓irem_f, irem_e, Nat.zero_add, Nat.add_zero, obs, zb_t, zb_f, nI_eqt, nI_eqf, nI_let, nI_lef, nI_ltt, nI_ltf, nI_m1, nI_n1, ↓reduceIte, zup_ne, zup_miss, zup_hit, zbo_1, zbo_0, reduceCtorEq, sel_l, sel_r, Nat.reduceAdd, Nat.reduceSub, Nat.reduceMul])
  obtain ⟨υ, e2, ha2, hk2⟩ := h2
  have h206 : υ 183 206 = σ 183 206 := by rw [hk2, if_neg (by omega), hk1, if_neg (by omega)]
  unfold M_notes M_notes_j39 M_notes_j134
  simp (disch := omega) only [zgt_e, zpt_e, zlt_e, zrd_e, zwr_e, zelr_e, znz_e, zcp_e, zlit, nI_add, nI_mul, nI_sub, nI_div, ↓irem_f, irem_e, Nat.zero_add, Nat.add_zero, obs, zb_t, zb_f, nI_eqt, nI_eqf, nI_let, nI_lef, nI_ltt, nI_ltf, nI_m1, nI_n1, ↓reduceIte, zup_ne, zup_miss, zup_hit, zbo_1, zbo_0, reduceCtorEq, sel_l, sel_r, Nat.reduceAdd, Nat.reduceSub, Nat.reduceMul, Nat.sub_zero] at e1 e2 ⊢
  simp (disch := omega) only [zgt_e, zpt_e, zlt_e, zrd_e, zwr_e, zelr_e, znz_e, zcp_e, zlit, nI_add, nI_mul, nI_sub, nI_div, ↓irem_f, irem_e, Nat.zero_add, Nat.add_zero, obs, zb_t, zb_f, nI_eqt, nI_eqf, nI_let, nI_lef, nI_ltt, nI_ltf, nI_m1, nI_n1, ↓reduceIte, zup_ne, zup_miss, zup_hit, zbo_1, zbo_0, reduceCtorEq, sel_l, sel_r, Nat.reduceAdd, Nat.reduceSub, Nat.reduceMul, e1, e2, M_lesser_e, h206]
  congr 1
  funext a
  by_cases c : a = 183
  · subst c
    unfold notS
    rw [zrow_hit]
    funext k
    unfold notF
    by_cases e : k = 206
    · subst e
      rw [zup_hit, if_pos rfl]
      rfl
    · rw [zup_miss e, if_neg e, hk2, hk1]
      split
      · rfl
      · by_cases c : 359 ≤ k ∧ k < 1607
        · rw [if_pos c, if_pos (by omega)]
        · rw [if_neg c, if_neg (by omega)]
  · unfold notS
    rw [zup_ne c, zrow_ne c, ha2 a c]
