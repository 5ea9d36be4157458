/-! events -/
def nct (f : Nat → Bool) : Nat → Nat
  | 0 => 0
  | n + 1 => nct f n + if f n = true then 1 else 0
theorem nct_succ (f : Nat → Bool) (n : Nat) : nct f (n + 1) = nct f n + if f n = true then 1 else 0 := rfl
theorem nct_congr {f g : Nat → Bool} : ∀ {n : Nat}, (∀ j, j < n → f j = g j) → nct f n = nct g n
  | 0, _ => rfl
  | n + 1, h => by rw [nct_succ, nct_succ, nct_congr (fun j hj => h j (by omega)), h n (by omega)]
theorem nct_le (f : Nat → Bool) : ∀ n, nct f n ≤ n
  | 0 => Nat.le_refl _
  | n + 1 => by
    rw [nct_succ]
    have := nct_le f n
    split <;> omega
/-- the k-th smallest is there -/
theorem kth {v : Nat → Bool} {f : Nat → Nat} {N M : Nat} (hinj : ∀ a b, a < N → b < N → f a = f b → a = b) (hM : ∀ a, a < N → f a < M) {k : Nat} (hk : k < nct v N) : ∃ e, e < N ∧ v e = true ∧ nct (fun o => v o && decide (f o < f e)) N = k := by
  let c (B : Nat) : Nat := nct (fun o => v o && decide (f o < B)) N
  have hstep : ∀ B n, n ≤ N → nct (fun o => v o && decide (f o < B + 1)) n ≤ nct (fun o => v o && decide (f o < B)) n + 1 ∧ ((∀ o, o < n → ¬ (v o = true ∧ f o = B)) → nct (fun o => v o && decide (f o < B + 1)) n = nct (fun o => v o && decide (f o < B)) n) := by
    intro B n
    induction n with
    | zero => exact fun _ => ⟨Nat.zero_le _, fun _ => rfl⟩
    | succ n ih =>
      intro hn
      obtain ⟨i1, i2⟩ := ih (by omega)
      have same : ¬ (v n = true ∧ f n = B) → (v n && decide (f n < B + 1)) = (v n && decide (f n < B)) := by
        intro h
        cases hv : v n with
        | false => rfl
        | true =>
          have h9 : f n ≠ B := fun e => h ⟨hv, e⟩
          simp only [Bool.true_and]
          exact decide_eq_decide.mpr ⟨fun q => by omega, fun q => by omega⟩
      refine ⟨?_, ?_⟩
      · rw [nct_succ, nct_succ]
        by_cases hq : v n = true ∧ f n = B
        · have := i2 (fun o ho q => by
            have := hinj o n (by omega) (by omega) (by rw [q.2, hq.2])
            omega)
          rw [this]
          split <;> split <;> omega
        · rw [same hq]
          omega
      · intro h
        rw [nct_succ, nct_succ, i2 (fun o ho => h o (by omega)), same (h n (by omega))]
  have hex : ∃ B, k < c B := by
    refine ⟨M, ?_⟩
    show k < nct (fun o => v o && decide (f o < M)) N
    rw [nct_congr (g := v) (fun j hj => by rw [decide_eq_true (hM j hj), Bool.and_true])]
    exact hk
  obtain ⟨B, hB, hmin⟩ := pk_least (fun B => k < c B) hex
  have h0 : c 0 = 0 := by
    show nct (fun o => v o && decide (f o < 0)) N = 0
    rw [nct_congr (g := fun _ => false) (fun j hj => by simp)]
    generalize N = m
    induction m with
    | zero => rfl
    | succ m ih => rw [nct_succ, ih]; rfl
  obtain ⟨B', rfl⟩ : ∃ B', B = B' + 1 := by
    cases B with
    | zero => exact absurd hB (by rw [h0]; omega)
    | succ B' => exact ⟨B', rfl⟩
  have h1 := hmin B' (by omega)
  have h2 := hstep B' N (Nat.le_refl _)
  have h3 : c B' = k := by
    have : c (B' + 1) ≤ c B' + 1 := h2.1
    omega
  have h4 : ∃ e, e < N ∧ v e = true ∧ f e = B' := by
    refine Classical.byContradiction (fun hno => ?_)
    have : c (B' + 1) = c B' := h2.2 (fun o ho q => hno ⟨o, ho, q.1, q.2⟩)
    omega
  obtain ⟨e, he, hv, hf⟩ := h4
  exact ⟨e, he, hv, by rw [hf]; exact h3⟩
def evS (σ : Sg) (e : Nat) : Nat := if e % 2 = 0 then ofr σ (e / 2) + oma σ (e / 2) else ofr σ (e / 2)
def evK (σ : Sg) (e : Nat) : Nat := ((evS σ e * 16 + oo σ (e / 2)) * 2 + e % 2) * 16 + e / 2
def evV (σ : Sg) (e : Nat) : Bool := decide (stp σ ≤ evS σ e)
theorem evS_le {σ : Sg} (hO : InvO σ) {e : Nat} (he : e < 2 * nC σ) : evS σ e ≤ 20099 := by
  have h := hO.2.2 (e / 2) (by omega)
  unfold evS
  split <;> omega
theorem evK_le {σ : Sg} (hK : InvK σ) (hO : InvO σ) {e : Nat} (he : e < 2 * nC σ) : evK σ e < 11000000 := by
  have h := hO.2.2 (e / 2) (by omega)
  have h2 := evS_le hO he
  have h3 := hK.2.1.2
  have h4 := hO.2.1
  unfold evK
  omega
theorem M_stepOf_e {σ : Sg} (hO : InvO σ) (hS : InvS σ) {e : Nat} (he : e < 2 * nC σ) : M_stepOf σ (nI e) = some (if evV σ e = true then nI (evS σ e) else -nI 1) := by
  have hle := evS_le hO he
  have h4 := hO.2.1
  obtain ⟨e1, e2, e3, e4, e5, e6, e7⟩ := hO.2.2 (e / 2) (by omega)
  obtain ⟨hs, hs9⟩ := hS
  have x1 : 148 + 3 * (e / 2) + 1 = 149 + 3 * (e / 2) := by omega
  have x2 : 148 + 3 * (e / 2) + 2 = 150 + 3 * (e / 2) := by omega
  have key : ∀ a b : Nat, a + b = evS σ e → M_stepOf_j42 σ (nI a) (nI b) = some (if evV σ e = true then nI (evS σ e) else -nI 1) := by
    intro a b hab
    unfold M_stepOf_j42 evV
    by_cases c : stp σ ≤ evS σ e
    · simp (disch := omega) only [zgt_e, zpt_e, zlt_e, zrd_e, zwr_e, zelr_e, znz_e, zcp_e, zlit, nI_add, nI_mul, nI_sub, nI_div, ↓irem_f, irem_e, Nat.zero_add, Nat.add_zero, obs, zb_t, zb_f, nI_eqt, nI_eqf, nI_let, nI_lef, nI_ltt, nI_ltf, nI_m1, nI_n1, ↓reduceIte, zup_ne, zup_miss, zup_hit, zbo_1, zbo_0, reduceCtorEq, sel_l, sel_r, Nat.reduceAdd, Nat.reduceSub, Nat.reduceMul, hs, hab, c, decide_true]
    · simp (disch := omega) only [zgt_e, zpt_e, zlt_e, zrd_e, zwr_e, zelr_e, znz_e, zcp_e, zlit, nI_add, nI_mul, nI_sub, nI_div, ↓irem_f, irem_e, Nat.zero_add, Nat.add_zero, obs, zb_t, zb_f, nI_eqt, nI_eqf, nI_let, nI_lef, nI_ltt, nI_ltf, nI_m1, nI_n1, ↓reduceIte, zup_ne, zup_miss, zup_hit, zbo_1, zbo_0, reduceCtorEq, sel_l, sel_r, Nat.reduceAdd, Nat.reduceSub, Nat.reduceMul, hs, hab, c, decide_false, Bool.false_eq_true]
  unfold M_stepOf
  by_cases c : e % 2 = 0
  · have k1 := key (ofr σ (e / 2)) (oma σ (e / 2)) (by unfold evS; rw [if_pos c])
    simp (disch := omega) only [zgt_e, zpt_e, zlt_e, zrd_e, zwr_e, zelr_e, znz_e, zcp_e, zlit, nI_add, nI_mul, nI_sub, nI_div, ↓irem_f, irem_e, Nat.zero_add, Nat.add_zero, obs, zb_t, zb_f, nI_eqt, nI_eqf, nI_let, nI_lef, nI_ltt, nI_ltf, nI_m1, nI_n1, ↓reduceIte, zup_ne, zup_miss, zup_hit, zbo_1, zbo_0, reduceCtorEq, sel_l, sel_r, Nat.reduceAdd, Nat.reduceSub, Nat.reduceMul, x1, x2, e3, e5, c, k1]
  · have k1 := key (ofr σ (e / 2)) 0 (by unfold evS; rw [if_neg c]; omega)
    simp (disch := omega) only [zgt_e, zpt_e, zlt_e, zrd_e, zwr_e, zelr_e, znz_e, zcp_e, zlit, nI_add, nI_mul, nI_sub, nI_div, ↓irem_f, irem_e, Nat.zero_add, Nat.add_zero, obs, zb_t, zb_f, nI_eqt, nI_eqf, nI_let, nI_lef, nI_ltt, nI_ltf, nI_m1, nI_n1, ↓reduceIte, zup_ne, zup_miss, zup_hit, zbo_1, zbo_0, reduceCtorEq, sel_l, sel_r, Nat.reduceAdd, Nat.reduceSub, Nat.reduceMul, x1, e3, k1]
theorem keyOf_e {σ μ : Sg} {w : Nat} (hQ : RepOr σ w μ) (hK : InvK μ) (hO : InvO μ) {e : Nat} (he : e < 2 * nC μ) : Orders_keyOf σ w (nI (e / 2)) (nI (e % 2)) = some (nI (evK μ e)) := by
  have h4 := hO.2.1
  have h5 := hK.2.1.2
  obtain ⟨e1, e2, e3, e4, e5, e6, e7⟩ := hO.2.2 (e / 2) (by omega)
  obtain ⟨r1, r2, r3⟩ := hQ.2 (e / 2) (by omega)
  rw [e1] at r1
  rw [e3] at r2
  rw [e5] at r3
  unfold Orders_keyOf Orders_keyOf_j27 evK evS
  by_cases c : e % 2 = 0
  · simp (disch := omega) only [zgt_e, zpt_e, zlt_e, zrd_e, zwr_e, zelr_e, znz_e, zcp_e, zlit, nI_add, nI_mul, nI_sub, nI_div, ↓irem_f, irem_e, Nat.zero_add, Nat.add_zero, obs, zb_t, zb_f, nI_eqt, nI_eqf, nI_let, nI_lef, nI_ltt, nI_ltf, nI_m1, nI_n1, ↓reduceIte, zup_ne, zup_miss, zup_hit, zbo_1, zbo_0, reduceCtorEq, sel_l, sel_r, Nat.reduceAdd, Nat.reduceSub, Nat.reduceMul, r1, r2, r3, c]
  · have c1 : e % 2 = 1 := by omega
    simp (disch := omega) only [zgt_e, zpt_e, zlt_e, zrd_e, zwr_e, zelr_e, znz_e, zcp_e, zlit, nI_add, nI_mul, nI_sub, nI_div, ↓irem_f, irem_e, Nat.zero_add, Nat.add_zero, obs, zb_t, zb_f, nI_eqt, nI_eqf, nI_let, nI_lef, nI_ltt, nI_ltf, nI_m1, nI_n1, ↓reduceIte, zup_ne, zup_miss, zup_hit, zbo_1, zbo_0, reduceCtorEq, sel_l, sel_r, Nat.reduceAdd, Nat.reduceSub, Nat.reduceMul, r1, r2, r3, c1]
/-- how many keys lie below a bound -/
theorem countKeys_e {σ μ : Sg} {w B : Nat} (hQ : RepOr σ w μ) (hK : InvK μ) (hO : InvO μ) (hs : stp μ ≤ 20000) (hB : B < 2147483648) : Orders_countKeysBelow σ w (nI B) (nI (stp μ)) = some (nI (nct (fun o => evV μ o && decide (evK μ o < B)) (2 * nC μ))) := by
  have h4 := hO.2.1
  have hc : σ w 0 = nI (nC μ) := hQ.1.trans hO.1
  have hl : zit (fun (s : (Int32 × Int32)) => Orders_countKeysBelow_l5 σ w (nI B) (nI (stp μ)) s.1 s.2) zFU (nI 0, nI 0) = some (nI (nct (fun o => evV μ o && decide (evK μ o < B)) (2 * nC μ)), nI (2 * nC μ)) := by
    refine zit_eq (fun j => (nI (nct (fun o => evV μ o && decide (evK μ o < B)) j), nI j)) _ (2 * nC μ) 0 (by omega) (fun j _ hj => ?_) ?_ zFU 0 (by rw [zFU_e]; omega) (by omega) (by omega)
    · have hk := keyOf_e hQ hK hO hj
      have hkl := evK_le hK hO hj
      have hd : evK μ j / 512 = evS μ j := by
        have h := hO.2.2 (j / 2) (by omega)
        have h5 := hK.2.1.2
        unfold evK
        omega
      have hsl := evS_le hO hj
      have hs' := nct_succ (fun o => evV μ o && decide (evK μ o < B)) j
      unfold Orders_countKeysBelow_l5 Orders_stepOfKey
      by_cases c : stp μ ≤ evS μ j
      · by_cases c2 : evK μ j < B
        · have e : (evV μ j && decide (evK μ j < B)) = true := by unfold evV; simp [c, c2]
          rw [e] at hs'
          simp (disch := omega) only [zgt_e, zpt_e, zlt_e, zrd_e, zwr_e, zelr_e, znz_e, zcp_e, zlit, nI_add, nI_mul, nI_sub, nI_div, ↓irem_f, irem_e, Nat.zero_add, Nat.add_zero, obs, zb_t, zb_f, nI_eqt, nI_eqf, nI_let, nI_lef, nI_ltt, nI_ltf, nI_m1, nI_n1, ↓reduceIte, zup_ne, zup_miss, zup_hit, zbo_1, zbo_0, reduceCtorEq, sel_l, sel_r, Nat.reduceAdd, Nat.reduceSub, Nat.reduceMul, hc, hk, hd, hs']
        · have e : (evV μ j && decide (evK μ j < B)) = false := by simp [c2]
          rw [e] at hs'
          simp (disch := omega) only [zgt_e, zpt_e, zlt_e, zrd_e, zwr_e, zelr_e, znz_e, zcp_e, zlit, nI_add, nI_mul, nI_sub, nI_div, ↓irem_f, irem_e, Nat.zero_add, Nat.add_zero, obs, zb_t, zb_f, nI_eqt, nI_eqf, nI_let, nI_lef, nI_ltt, nI_ltf, nI_m1, nI_n1, ↓reduceIte, zup_ne, zup_miss, zup_hit, zbo_1, zbo_0, reduceCtorEq, sel_l, sel_r, Nat.reduceAdd, Nat.reduceSub, Nat.reduceMul, hc, hk, hd, hs', Bool.false_eq_true]
      · have e : (evV μ j && decide (evK μ j < B)) = false := by unfold evV; simp [c]
        rw [e] at hs'
        simp (disch := omega) only [zgt_e, zpt_e, zlt_e, zrd_e, zwr_e, zelr_e, znz_e, zcp_e, zlit, nI_add, nI_mul, nI_sub, nI_div, ↓irem_f, irem_e, Nat.zero_add, Nat.add_zero, obs, zb_t, zb_f, nI_eqt, nI_eqf, nI_let, nI_lef, nI_ltt, nI_ltf, nI_m1, nI_n1, ↓reduceIte, zup_ne, zup_miss, zup_hit, zbo_1, zbo_0, reduceCtorEq, sel_l, sel_r, Nat.reduceAdd, Nat.reduceSub, Nat.reduceMul, hc, hk, hd, hs', Bool.false_eq_true]
    · unfold Orders_countKeysBelow_l5
      simp (disch := omega) only [zgt_e, zpt_e, zlt_e, zrd_e, zwr_e, zelr_e, znz_e, zcp_e, zlit, nI_add, nI_mul, nI_sub, nI_div, ↓irem_f, irem_e, Nat.zero_add, Nat.add_zero, obs, zb_t, zb_f, nI_eqt, nI_eqf, nI_let, nI_lef, nI_ltt, nI_ltf, nI_m1, nI_n1, ↓reduceIte, zup_ne, zup_miss, zup_hit, zbo_1, zbo_0, reduceCtorEq, sel_l, sel_r, Nat.reduceAdd, Nat.reduceSub, Nat.reduceMul, hc]
  unfold Orders_countKeysBelow
  simp only [zlt_e, zlit, hl, obs]
theorem M_isAhead_e {σ : Sg} (hK : InvK σ) (hO : InvO σ) (hS : InvS σ) {a b : Nat} (ha : a < 2 * nC σ) (hb : b < 2 * nC σ) (va : evV σ a = true) (vb : evV σ b = true) : M_isAhead σ (nI a) (nI b) = some (decide (evK σ a < evK σ b)) := by
  have h4 := hO.2.1
  have h5 := hK.2.1.2
  have sa := M_stepOf_e hO hS ha
  have sb := M_stepOf_e hO hS hb
  rw [if_pos va] at sa
  rw [if_pos vb] at sb
  have la := evS_le hO ha
  have lb := evS_le hO hb
  obtain ⟨a1, a2, _⟩ := hO.2.2 (a / 2) (by omega)
  obtain ⟨b1, b2, _⟩ := hO.2.2 (b / 2) (by omega)
  unfold M_isAhead
  by_cases c1 : evS σ a = evS σ b
  · by_cases c2 : oo σ (a / 2) = oo σ (b / 2)
    · by_cases c3 : a % 2 = b % 2
      · by_cases c4 : b ≤ a
        · have hd : ¬ evK σ a < evK σ b := by unfold evK; omega
          simp (disch := omega) only [zgt_e, zpt_e, zlt_e, zrd_e, zwr_e, zelr_e, znz_e, zcp_e, zlit, nI_add, nI_mul, nI_sub, nI_div, ↓irem_f, irem_e, Nat.zero_add, Nat.add_zero, obs, zb_t, zb_f, nI_eqt, nI_eqf, nI_let, nI_lef, nI_ltt, nI_ltf, nI_m1, nI_n1, ↓reduceIte, zup_ne, zup_miss, zup_hit, zbo_1, zbo_0, reduceCtorEq, sel_l, sel_r, Nat.reduceAdd, Nat.reduceSub, Nat.reduceMul, sa, sb, a1, b1, hd, decide_false]
        · have hd : evK σ a < evK σ b := by unfold evK; omega
          simp (disch := omega) only [zgt_e, zpt_e, zlt_e, zrd_e, zwr_e, zelr_e, znz_e, zcp_e, zlit, nI_add, nI_mul, nI_sub, nI_div, ↓irem_f, irem_e, Nat.zero_add, Nat.add_zero, obs, zb_t, zb_f, nI_eqt, nI_eqf, nI_let, nI_lef, nI_ltt, nI_ltf, nI_m1, nI_n1, ↓reduceIte, zup_ne, zup_miss, zup_hit, zbo_1, zbo_0, reduceCtorEq, sel_l, sel_r, Nat.reduceAdd, Nat.reduceSub, Nat.reduceMul, sa, sb, a1, b1, hd, decide_true]
      · by_cases c4 : b % 2 ≤ a % 2
        · have hd : ¬ evK σ a < evK σ b := by unfold evK; omega
          simp (disch := omega) only [zgt_e, zpt_e, zlt_e, zrd_e, zwr_e, zelr_e, znz_e, zcp_e, zlit, nI_add, nI_mul, nI_sub, nI_div, ↓irem_f, irem_e, Nat.zero_add, Nat.add_zero, obs, zb_t, zb_f, nI_eqt, nI_eqf, nI_let, nI_lef, nI_ltt, nI_ltf, nI_m1, nI_n1, ↓reduceIte, zup_ne, zup_miss, zup_hit, zbo_1, zbo_0, reduceCtorEq, sel_l, sel_r, Nat.reduceAdd, Nat.reduceSub, Nat.reduceMul, sa, sb, a1, b1, hd, decide_false]
        · have hd : evK σ a < evK σ b := by unfold evK; omega
          simp (disch := omega) only [zgt_e, zpt_e, zlt_e, zrd_e, zwr_e, zelr_e, znz_e, zcp_e, zlit, nI_add, nI_mul, nI_sub, nI_div, ↓irem_f, irem_e, Nat.zero_add, Nat.add_zero, obs, zb_t, zb_f, nI_eqt, nI_eqf, nI_let, nI_lef, nI_ltt, nI_ltf, nI_m1, nI_n1, ↓reduceIte, zup_ne, zup_miss, zup_hit, zbo_1, zbo_0, reduceCtorEq, sel_l, sel_r, Nat.reduceAdd, Nat.reduceSub, Nat.reduceMul, sa, sb, a1, b1, hd, decide_true]
    · by_cases c4 : oo σ (b / 2) ≤ oo σ (a / 2)
      · have hd : ¬ evK σ a < evK σ b := by unfold evK; omega
        simp (disch := omega) only [zgt_e, zpt_e, zlt_e, zrd_e, zwr_e, zelr_e, znz_e, zcp_e, zlit, nI_add, nI_mul, nI_sub, nI_div, ↓irem_f, irem_e, Nat.zero_add, Nat.add_zero, obs, zb_t, zb_f, nI_eqt, nI_eqf, nI_let, nI_lef, nI_ltt, nI_ltf, nI_m1, nI_n1, ↓reduceIte, zup_ne, zup_miss, zup_hit, zbo_1, zbo_0, reduceCtorEq, sel_l, sel_r, Nat.reduceAdd, Nat.reduceSub, Nat.reduceMul, sa, sb, a1, b1, hd, decide_false]
      · have hd : evK σ a < evK σ b := by unfold evK; omega
        simp (disch := omega) only [zgt_e, zpt_e, zlt_e, zrd_e, zwr_e, zelr_e, znz_e, zcp_e, zlit, nI_add, nI_mul, nI_sub, nI_div, ↓irem_f, irem_e, Nat.zero_add, Nat.add_zero, obs, zb_t, zb_f, nI_eqt, nI_eqf, nI_let, nI_lef, nI_ltt, nI_ltf, nI_m1, nI_n1, ↓reduceIte, zup_ne, zup_miss, zup_hit, zbo_1, zbo_0, reduceCtorEq, sel_l, sel_r, Nat.reduceAdd, Nat.reduceSub, Nat.reduceMul, sa, sb, a1, b1, hd, decide_true]
  · by_cases c4 : evS σ b ≤ evS σ a
    · have hd : ¬ evK σ a < evK σ b := by unfold evK; omega
      simp (disch := omega) only [zgt_e, zpt_e, zlt_e, zrd_e, zwr_e, zelr_e, znz_e, zcp_e, zlit, nI_add, nI_mul, nI_sub, nI_div, ↓irem_f, irem_e, Nat.zero_add, Nat.add_zero, obs, zb_t, zb_f, nI_eqt, nI_eqf, nI_let, nI_lef, nI_ltt, nI_ltf, nI_m1, nI_n1, ↓reduceIte, zup_ne, zup_miss, zup_hit, zbo_1, zbo_0, reduceCtorEq, sel_l, sel_r, Nat.reduceAdd, Nat.reduceSub, Nat.reduceMul, sa, sb, a1, b1, hd, decide_false]
    · have hd : evK σ a < evK σ b := by unfold evK; omega
      simp (disch := omega) only [zgt_e, zpt_e, zlt_e, zrd_e, zwr_e, zelr_e, znz_e, zcp_e, zlit, nI_add, nI_mul, nI_sub, nI_div, ↓irem_f, irem_e, Nat.zero_add, Nat.add_zero, obs, zb_t, zb_f, nI_eqt, nI_eqf, nI_let, nI_lef, nI_ltt, nI_ltf, nI_m1, nI_n1, ↓reduceIte, zup_ne, zup_miss, zup_hit, zbo_1, zbo_0, reduceCtorEq, sel_l, sel_r, Nat.reduceAdd, Nat.reduceSub, Nat.reduceMul, sa, sb, a1, b1, hd, decide_true]
def evR (σ : Sg) (e : Nat) : Nat := nct (fun o => evV σ o && decide (evK σ o < evK σ e)) (2 * nC σ)
theorem M_evR_e {σ : Sg} (hK : InvK σ) (hO : InvO σ) (hS : InvS σ) {e : Nat} (he : e < 2 * nC σ) (ve : evV σ e = true) (x1 x2 : Int32) : zit (fun (s : (Int32 × Int32)) => M_event_l110 σ x1 x2 (nI e) s.1 s.2) zFU (nI 0, nI 0) = some (nI (evR σ e), nI (2 * nC σ)) := by
  have h4 := hO.2.1
  have hc := hO.1
  refine zit_eq (fun j => (nI (nct (fun o => evV σ o && decide (evK σ o < evK σ e)) j), nI j)) _ (2 * nC σ) 0 (by omega) (fun j _ hj => ?_) ?_ zFU 0 (by rw [zFU_e]; omega) (by omega) (by omega)
  · have hs' := nct_succ (fun o => evV σ o && decide (evK σ o < evK σ e)) j
    have sj := M_stepOf_e hO hS hj
    have lj := evS_le hO hj
    unfold M_event_l110
    by_cases c : j = e
    · subst c
      have e0 : (evV σ j && decide (evK σ j < evK σ j)) = false := by simp
      rw [e0] at hs'
      simp (disch := omega) only [zgt_e, zpt_e, zlt_e, zrd_e, zwr_e, zelr_e, znz_e, zcp_e, zlit, nI_add, nI_mul, nI_sub, nI_div, ↓irem_f, irem_e, Nat.zero_add, Nat.add_zero, obs, zb_t, zb_f, nI_eqt, nI_eqf, nI_let, nI_lef, nI_ltt, nI_ltf, nI_m1, nI_n1, ↓reduceIte, zup_ne, zup_miss, zup_hit, zbo_1, zbo_0, reduceCtorEq, sel_l, sel_r, Nat.reduceAdd, Nat.reduceSub, Nat.reduceMul, hc, hs', Bool.false_eq_true]
    · by_cases c2 : evV σ j = true
      · have hA := M_isAhead_e hK hO hS hj he c2 ve
        rw [if_pos c2] at sj
        by_cases c3 : evK σ j < evK σ e
        · have e0 : (evV σ j && decide (evK σ j < evK σ e)) = true := by simp [c2, c3]
          rw [e0] at hs'
          rw [decide_eq_true c3] at hA
          simp (disch := omega) only [zgt_e, zpt_e, zlt_e, zrd_e, zwr_e, zelr_e, znz_e, zcp_e, zlit, nI_add, nI_mul, nI_sub, nI_div, ↓irem_f, irem_e, Nat.zero_add, Nat.add_zero, obs, zb_t, zb_f, nI_eqt, nI_eqf, nI_let, nI_lef, nI_ltt, nI_ltf, nI_m1, nI_n1, ↓reduceIte, zup_ne, zup_miss, zup_hit, zbo_1, zbo_0, reduceCtorEq, sel_l, sel_r, Nat.reduceAdd, Nat.reduceSub, Nat.reduceMul, hc, sj, hA, hs']
        · have e0 : (evV σ j && decide (evK σ j < evK σ e)) = false := by simp [c3]
          rw [e0] at hs'
          rw [decide_eq_false c3] at hA
          simp (disch := omega) only [zgt_e, zpt_e, zlt_e, zrd_e, zwr_e, zelr_e, znz_e, zcp_e, zlit, nI_add, nI_mul, nI_sub, nI_div, ↓irem_f, irem_e, Nat.zero_add, Nat.add_zero, obs, zb_t, zb_f, nI_eqt, nI_eqf, nI_let, nI_lef, nI_ltt, nI_ltf, nI_m1, nI_n1, ↓reduceIte, zup_ne, zup_miss, zup_hit, zbo_1, zbo_0, reduceCtorEq, sel_l, sel_r, Nat.reduceAdd, Nat.reduceSub, Nat.reduceMul, hc, sj, hA, hs', Bool.false_eq_true]
      · rw [if_neg c2] at sj
        have e0 : (evV σ j && decide (evK σ j < evK σ e)) = false := by simp [c2]
        rw [e0] at hs'
        simp (disch := omega) only [zgt_e, zpt_e, zlt_e, zrd_e, zwr_e, zelr_e, znz_e, zcp_e, zlit, nI_add, nI_mul, nI_sub, nI_div, ↓irem_f, irem_e, Nat.zero_add, Nat.add_zero, obs, zb_t, zb_f, nI_eqt, nI_eqf, nI_let, nI_lef, nI_ltt, nI_ltf, nI_m1, nI_n1, ↓reduceIte, zup_ne, zup_miss, zup_hit, zbo_1, zbo_0, reduceCtorEq, sel_l, sel_r, Nat.reduceAdd, Nat.reduceSub, Nat.reduceMul, hc, sj, hs', Bool.false_eq_true]
  · unfold M_event_l110
    simp (disch := omega) only [zgt_e, zpt_e, zlt_e, zrd_e, zwr_e, zelr_e, znz_e, zcp_e, zlit, nI_add, nI_mul, nI_sub, nI_div, ↓irem_f, irem_e, Nat.zero_add, Nat.add_zero, obs, zb_t, zb_f, nI_eqt, nI_eqf, nI_let, nI_lef, nI_ltt, nI_ltf, nI_m1, nI_n1, ↓reduceIte, zup_ne, zup_miss, zup_hit, zbo_1, zbo_0, reduceCtorEq, sel_l, sel_r, Nat.reduceAdd, Nat.reduceSub, Nat.reduceMul, hc]
    rfl
theorem M_many_e {σ : Sg} (hO : InvO σ) (hS : InvS σ) (x1 x2 : Int32) : zit (fun (s : (Int32 × Int32)) => M_event_l5 σ x1 x2 s.1 s.2) zFU (nI 0, nI 0) = some (nI (nct (evV σ) (2 * nC σ)), nI (2 * nC σ)) := by
  have h4 := hO.2.1
  have hc := hO.1
  refine zit_eq (fun j => (nI (nct (evV σ) j), nI j)) _ (2 * nC σ) 0 (by omega) (fun j _ hj => ?_) ?_ zFU 0 (by rw [zFU_e]; omega) (by omega) (by omega)
  · have hs' := nct_succ (evV σ) j
    have sj := M_stepOf_e hO hS hj
    have lj := evS_le hO hj
    unfold M_event_l5
    by_cases c2 : evV σ j = true
    · rw [if_pos c2] at sj
      rw [if_pos c2] at hs'
      simp (disch := omega) only [zgt_e, zpt_e, zlt_e, zrd_e, zwr_e, zelr_e, znz_e, zcp_e, zlit, nI_add, nI_mul, nI_sub, nI_div, ↓irem_f, irem_e, Nat.zero_add, Nat.add_zero, obs, zb_t, zb_f, nI_eqt, nI_eqf, nI_let, nI_lef, nI_ltt, nI_ltf, nI_m1, nI_n1, ↓reduceIte, zup_ne, zup_miss, zup_hit, zbo_1, zbo_0, reduceCtorEq, sel_l, sel_r, Nat.reduceAdd, Nat.reduceSub, Nat.reduceMul, hc, sj, hs']
    · rw [if_neg c2] at sj
      rw [if_neg c2] at hs'
      simp (disch := omega) only [zgt_e, zpt_e, zlt_e, zrd_e, zwr_e, zelr_e, znz_e, zcp_e, zlit, nI_add, nI_mul, nI_sub, nI_div, ↓irem_f, irem_e, Nat.zero_add, Nat.add_zero, obs, zb_t, zb_f, nI_eqt, nI_eqf, nI_let, nI_lef, nI_ltt, nI_ltf, nI_m1, nI_n1, ↓reduceIte, zup_ne, zup_miss, zup_hit, zbo_1, zbo_0, reduceCtorEq, sel_l, sel_r, Nat.reduceAdd, Nat.reduceSub, Nat.reduceMul, hc, sj, hs']
  · unfold M_event_l5
    simp (disch := omega) only [zgt_e, zpt_e, zlt_e, zrd_e, zwr_e, zelr_e, znz_e, zcp_e, zlit, nI_add, nI_mul, nI_sub, nI_div, ↓irem_f, irem_e, Nat.zero_add, Nat.add_zero, obs, zb_t, zb_f, nI_eqt, nI_eqf, nI_let, nI_lef, nI_ltt, nI_ltf, nI_m1, nI_n1, ↓reduceIte, zup_ne, zup_miss, zup_hit, zbo_1, zbo_0, reduceCtorEq, sel_l, sel_r, Nat.reduceAdd, Nat.reduceSub, Nat.reduceMul, hc]
