theorem mx_nI {a b : Nat} (ha : a < 2147483648) (hb : b < 2147483648) : mx (nI a) (nI b) = nI (max a b) := by
  unfold mx
  rcases Nat.lt_or_ge b a with h | h
  · rw [if_neg (nI_ge h ha), Nat.max_eq_left (by omega)]
  · rw [if_pos (nI_le h hb), Nat.max_eq_right h]
theorem nn_nI {x : Int32} (h : ¬ x < nI 0) : ∃ m, m < 2147483648 ∧ x = nI m := by
  have h2 : x ≤ nI 2147483647 := by
    rw [Int32.le_iff_toInt_le, nI_toInt (by omega)]
    have := Int32.toInt_lt x
    omega
  obtain ⟨j, hj, e⟩ := nI_of2 (n := 2147483647) (nI_toInt (by omega)) h h2
  exact ⟨j, by omega, e⟩
def TwS {α : Type} (σ : Sg) (c : Option (α × Sg)) (m : Sg → Option (α × Sg)) : Prop := ∃ r σ1 σ2, c = some (r, σ1) ∧ FrS σ σ1 ∧ m σ1 = some (r, σ2) ∧ FrV σ1 σ2
theorem FrV.refl (σ : Sg) : FrV σ σ := fun _ _ _ => rfl
theorem m_leaksAt {ν : Sg} {fit : Nat → Bool} {m : Nat} (hm : m < 2147483648) (h : ∀ i, i < 41 → ν 197 i = if fit i = true then nI 1 else nI 0) :
    Ok (zit (fun (s : (Int32 × Int32)) => M_leaks_l31 ν (nI m) s.1 s.2) zFU (nI 0, nI 0)) (fun r => (∃ l, l < 41 ∧ fit l = true ∧ nct fit l = m ∧ r = .inl (nI l, ν)) ∨ (∃ y, r = .inr y ∧ nct fit 41 ≤ m)) := by
  refine zit_ok (fun l s => s = (nI (nct fit l), nI l) ∧ nct fit l ≤ m) 41 ?_ ?_ zFU 0 _ (by rw [zFU_e]; omega) (by omega) ⟨rfl, Nat.zero_le _⟩
  · rintro l s hl ⟨rfl, hle⟩
    have hn := nct_le fit l
    have hv := h l hl
    show Ok (M_leaks_l31 ν (nI m) (nI (nct fit l)) (nI l)) _
    unfold M_leaks_l31
    by_cases c : fit l = true
    · rw [if_pos c] at hv
      by_cases c2 : nct fit l = m
      · simp (disch := omega) only [zgt_e, zpt_e, zlt_e, zrd_e, zwr_e, zelr_e, znz_e, zcp_e, zlit, nI_add, nI_mul, nI_sub, nI_div, ↓irem_f, irem_e, Nat.zero_add, Nat.add_zero, obs, zb_t, zb_f, nI_eqt, nI_eqf, nI_let, nI_lef, nI_ltt, nI_ltf, nI_m1, nI_n1, ↓reduceIte, zup_ne, zup_miss, zup_hit, zbo_1, zbo_0, reduceCtorEq, sel_l, sel_r, Nat.reduceAdd, Nat.reduceSub, Nat.reduceMul, hv]
        exact ⟨_, rfl, Or.inl ⟨l, hl, c, c2, rfl⟩⟩
      · simp (disch := omega) only [zgt_e, zpt_e, zlt_e, zrd_e, zwr_e, zelr_e, znz_e, zcp_e, zlit, nI_add, nI_mul, nI_sub, nI_div, ↓irem_f, irem_e, Nat.zero_add, Nat.add_zero, obs, zb_t, zb_f, nI_eqt, nI_eqf, nI_let, nI_lef, nI_ltt, nI_ltf, nI_m1, nI_n1, ↓reduceIte, zup_ne, zup_miss, zup_hit, zbo_1, zbo_0, reduceCtorEq, sel_l, sel_r, Nat.reduceAdd, Nat.reduceSub, Nat.reduceMul, hv]
        exact ⟨_, rfl, by rw [nct_t c], by rw [nct_t c]; omega⟩
    · rw [if_neg c] at hv
      have c' : fit l = false := by simpa using c
      simp (disch := omega) only [zgt_e, zpt_e, zlt_e, zrd_e, zwr_e, zelr_e, znz_e, zcp_e, zlit, nI_add, nI_mul, nI_sub, nI_div, ↓irem_f, irem_e, Nat.zero_add, Nat.add_zero, obs, zb_t, zb_f, nI_eqt, nI_eqf, nI_let, nI_lef, nI_ltt, nI_ltf, nI_m1, nI_n1, ↓reduceIte, zup_ne, zup_miss, zup_hit, zbo_1, zbo_0, reduceCtorEq, sel_l, sel_r, Nat.reduceAdd, Nat.reduceSub, Nat.reduceMul, hv]
      exact ⟨_, rfl, by rw [nct_f c'], by rw [nct_f c']; exact hle⟩
  · rintro s ⟨rfl, hle⟩
    show Ok (M_leaks_l31 ν (nI m) (nI (nct fit 41)) (nI 41)) _
    unfold M_leaks_l31
    simp (disch := omega) only [zgt_e, zpt_e, zlt_e, zrd_e, zwr_e, zelr_e, znz_e, zcp_e, zlit, nI_add, nI_mul, nI_sub, nI_div, ↓irem_f, irem_e, Nat.zero_add, Nat.add_zero, obs, zb_t, zb_f, nI_eqt, nI_eqf, nI_let, nI_lef, nI_ltt, nI_ltf, nI_m1, nI_n1, ↓reduceIte, zup_ne, zup_miss, zup_hit, zbo_1, zbo_0, reduceCtorEq, sel_l, sel_r, Nat.reduceAdd, Nat.reduceSub, Nat.reduceMul]
    exact ⟨_, rfl, Or.inr ⟨_, rfl, hle⟩⟩
theorem a_leaks {σ : Sg} {p1 R q : Nat} {s : Nat → Nat} (hB : Base σ p1) (hg : 0 < R → Gain σ) (hS : Seen σ R q s) (x1 : Int32) : TwS σ (CK_leaks σ x1) (fun σ1 => M_leaks σ1 x1) := by
  rcases Nat.eq_zero_or_pos R with h | h
  · subst h
    refine ⟨-1, σ, σ, ?_, FrS.refl σ, ?_, FrV.refl σ⟩
    · unfold CK_leaks
      rw [zgt_e, hS.2.1, if_pos (show nI 0 = 0 from rfl)]
    · show M_leaks σ x1 = _
      unfold M_leaks
      rw [zgt_e, hS.2.2.1, if_pos (show nI 0 = 0 from rfl)]
  · have hg' := hg h
    obtain ⟨τ, a1, a2, a3, a4⟩ := c_findFits hB hg' hS h
    obtain ⟨ν, b1, b2, b3, b4⟩ := m_laysFits hB hg' a2 hS h
    have hp := hB.1.1
    have hR10 := hS.1
    have hn := nct_le (fitL σ q R s) 41
    have e0 : σ 124 0 = nI R := hS.2.1
    have e1 : τ 171 43 = nI R := by rw [a2.all 171 (by omega)]; exact hS.2.2.1
    by_cases c1 : x1 = -1
    · subst c1
      refine ⟨nI (nct (fitL σ q R s) 41), τ, ν, ?_, a2, ?_, b2⟩
      · unfold CK_leaks
        rw [zgt_e, e0, if_neg (nI_ne0 h (by omega)), ptr_e hp, a1, obs, if_pos rfl, zgt_e, a3]
      · show M_leaks τ (-1) = _
        unfold M_leaks
        rw [zgt_e, e1, if_neg (nI_ne0 h (by omega)), if_pos (by decide), b1, obs, zlt_e, if_pos rfl]
    · by_cases c2 : x1 < 0
      · refine ⟨-1, τ, τ, ?_, a2, ?_, FrV.refl τ⟩
        · unfold CK_leaks
          rw [zgt_e, e0, if_neg (nI_ne0 h (by omega)), ptr_e hp, a1, obs, if_neg c1, if_pos c2]
        · have c3 : ¬ (-1 : Int32) ≤ x1 := by
            intro hle
            apply c1
            rw [Int32.le_iff_toInt_le] at hle
            rw [Int32.lt_iff_toInt_lt] at c2
            have z0 : (0 : Int32).toInt = 0 := by decide
            have z1 : (-1 : Int32).toInt = -1 := by decide
            rw [z0] at c2
            rw [z1] at hle
            apply Int32.toInt_inj.mp
            rw [z1]
            omega
          show M_leaks τ x1 = _
          unfold M_leaks
          rw [zgt_e, e1, if_neg (nI_ne0 h (by omega)), if_neg c3]
      · obtain ⟨m, hm, rfl⟩ := nn_nI c2
        have c4 : (-1 : Int32) ≤ nI m := by
          rw [Int32.le_iff_toInt_le, nI_toInt hm]
          have z1 : (-1 : Int32).toInt = -1 := by decide
          rw [z1]; omega
        have hmod : ∀ r, zit (fun (s : (Int32 × Int32)) => M_leaks_l31 ν (nI m) s.1 s.2) zFU (nI 0, nI 0) = some r → M_leaks τ (nI m) = Sum.elim (fun r => some r) (fun _ => some (-1, ν)) r := by
          intro r hr
          unfold M_leaks
          rw [zgt_e, e1, if_neg (nI_ne0 h (by omega)), if_pos c4, b1, obs, zlt_e, if_neg c1, zlt_e, zlt_e, show (0 : Int32) = nI 0 from rfl, hr, obs]
        obtain ⟨r, r1, r2⟩ := m_leaksAt hm b3
        rcases r2 with ⟨l, l1, l2, l3, rfl⟩ | ⟨y, rfl, l1⟩
        · have hlt := nct_lt l1 l2
          refine ⟨nI l, τ, ν, ?_, a2, (hmod _ r1).trans rfl, b2⟩
          unfold CK_leaks
          rw [zgt_e, e0, if_neg (nI_ne0 h (by omega)), ptr_e hp, a1, obs, if_neg c1, if_neg c2, zgt_e, a3, if_neg (nI_ge (by omega) (by omega)), zrd_e (by omega) (by omega), ← l3, (a4 l l1 l2).1]
        · refine ⟨-1, τ, ν, ?_, a2, (hmod _ r1).trans rfl, b2⟩
          unfold CK_leaks
          rw [zgt_e, e0, if_neg (nI_ne0 h (by omega)), ptr_e hp, a1, obs, if_neg c1, if_neg c2, zgt_e, a3, if_pos (nI_le l1 hm)]
