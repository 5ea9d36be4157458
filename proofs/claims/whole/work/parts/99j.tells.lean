/-! the reading that tells most -/
theorem bst_ge (t : Nat → Nat) (a : Nat) : ∀ j, a ≤ (bst t a j).1 ∧ (bst t a j).2 = t (bst t a j).1
  | 0 => ⟨Nat.le_refl _, rfl⟩
  | j + 1 => by
    have ih := bst_ge t a j
    rw [bst_succ]
    split
    · exact ⟨Nat.le_add_right _ _, rfl⟩
    · exact ih
theorem zit_bst {b : Int32 × Int32 × Int32 → Option ((Int32 × Int32 × Int32) ⊕ (Int32 × Int32 × Int32))} {t : Nat → Nat} {x y : Int32} (ht : ∀ k, t k ≤ 41)
    (h0 : b (x, y, nI 1) = some (.inl (nI 1, nI (t 1), nI 2)))
    (hs : ∀ k c v, 2 ≤ k → k ≤ 40 → v ≤ 41 → b (nI c, nI v, nI k) = some (.inl (if t k < v then (nI k, nI (t k), nI (k + 1)) else (nI c, nI v, nI (k + 1)))))
    (he : ∀ c v, b (c, v, nI 41) = some (.inr (c, v, nI 41))) : zit b zFU (x, y, nI 1) = some (nI (bst t 1 39).1, nI (bst t 1 39).2, nI 41) := by
  have key := zit_eq (b := b) (fun j => if j = 0 then (x, y, nI 1) else (nI (bst t 1 (j - 1)).1, nI (bst t 1 (j - 1)).2, nI (j + 1))) (nI (bst t 1 39).1, nI (bst t 1 39).2, nI 41) 40 0 (by omega) (by
    intro j _ hj
    by_cases c : j = 0
    · subst c
      rw [if_pos rfl, if_neg (by omega), h0]
      rfl
    · have hb := (bst_le t 1 (B := 41) (j - 1) (fun i _ => ht _)).1
      rw [if_neg c, if_neg (by omega), hs (j + 1) _ _ (by omega) (by omega) hb]
      have e := bst_succ t 1 (j - 1)
      rw [show 1 + (j - 1 + 1) = j + 1 from by omega] at e
      rw [show j + 1 - 1 = j - 1 + 1 from by omega, e]
      split
      · rfl
      · rfl) (by
    rw [if_neg (by omega)]
    exact he _ _) zFU 0 (by rw [zFU_e]; omega) (by omega) (by omega)
  rw [if_pos rfl] at key
  exact key
def alN (fit : Nat → Bool) (v : Nat → Nat → Int32) (k a : Nat) : Nat := nct (fun b => fit a && (fit b && decide (v a k = v b k))) 41
def alT (fit : Nat → Bool) (v : Nat → Nat → Int32) (k : Nat) : Nat := mxx (alN fit v k) 41
theorem alT_le (fit : Nat → Bool) (v : Nat → Nat → Int32) (k : Nat) : alT fit v k ≤ 41 := mxx_le 41 (fun j _ => nct_le _ 41)
/-- the class's count, over those that fit alone -/
theorem al_re {fit : Nat → Bool} {v : Nat → Nat → Int32} {τ : Sg} {k : Nat} (h : ∀ i, i < 41 → fit i = true → τ (129 + nct fit i) k = v i k) :
    mxx (fun i => nct (fun j => decide (τ (129 + i) k = τ (129 + j) k)) (nct fit 41)) (nct fit 41) = alT fit v k := by
  rw [mxx_re]
  unfold alT
  refine mxx_congr (fun a ha => ?_)
  unfold alN
  by_cases c : fit a = true
  · rw [if_pos c, nct_re]
    refine nct_congr (fun b hb => ?_)
    rw [c, Bool.true_and]
    by_cases d : fit b = true
    · rw [h a ha c, h b hb d]
    · have d' : fit b = false := by simpa using d
      rw [d', Bool.false_and, Bool.false_and]
  · have c' : fit a = false := by simpa using c
    rw [if_neg c]
    have z : ∀ n, nct (fun _ => false) n = 0 := by
      intro n
      induction n with
      | zero => rfl
      | succ n ih => rw [nct_succ, ih]; rfl
    rw [← z 41]
    refine nct_congr (fun b _ => ?_)
    rw [c', Bool.false_and]
theorem c_mostAlike {τ : Sg} {c k : Nat} (hc : τ 124 4 = nI c) (hc2 : c ≤ 41) (hk : k ≤ 40) :
    Sight_mostAlike τ (nI k) = some (nI (mxx (fun i => nct (fun j => decide (τ (129 + i) k = τ (129 + j) k)) c) c)) := by
  have inner : ∀ i, i < c → ∀ x2 : Int32, zit (fun (s : (Int32 × Int32)) => Sight_mostAlike_l18 τ (nI k) x2 (nI i) s.1 s.2) zFU (nI 0, nI 0) = some (nI (nct (fun j => decide (τ (129 + i) k = τ (129 + j) k)) c), nI c) := by
    intro i hi x2
    refine zit_eq (b := fun (s : (Int32 × Int32)) => Sight_mostAlike_l18 τ (nI k) x2 (nI i) s.1 s.2) (fun j => (nI (nct (fun j => decide (τ (129 + i) k = τ (129 + j) k)) j), nI j)) _ c 0 (by omega) ?_ ?_ zFU 0 (by rw [zFU_e]; omega) (by omega) (by omega)
    · intro j _ hj
      show Sight_mostAlike_l18 τ (nI k) x2 (nI i) (nI (nct _ j)) (nI j) = _
      unfold Sight_mostAlike_l18
      rw [nct_succ]
      by_cases e : τ (129 + i) k = τ (129 + j) k
      · simp (disch := omega) only [zgt_e, zpt_e, zlt_e, zrd_e, zwr_e, zelr_e, znz_e, zcp_e, zlit, nI_add, nI_mul, nI_sub, nI_div, ↓irem_f, irem_e, Nat.zero_add, Nat.add_zero, obs, zb_t, zb_f, nI_eqt, nI_eqf, nI_let, nI_lef, nI_ltt, nI_ltf, nI_m1, nI_n1, ↓reduceIte, zup_ne, zup_miss, zup_hit, zbo_1, zbo_0, reduceCtorEq, sel_l, sel_r, Nat.reduceAdd, Nat.reduceSub, Nat.reduceMul, hc, e, decide_true]
      · simp (disch := omega) only [zgt_e, zpt_e, zlt_e, zrd_e, zwr_e, zelr_e, znz_e, zcp_e, zlit, nI_add, nI_mul, nI_sub, nI_div, ↓irem_f, irem_e, Nat.zero_add, Nat.add_zero, obs, zb_t, zb_f, nI_eqt, nI_eqf, nI_let, nI_lef, nI_ltt, nI_ltf, nI_m1, nI_n1, ↓reduceIte, zup_ne, zup_miss, zup_hit, zbo_1, zbo_0, reduceCtorEq, sel_l, sel_r, Nat.reduceAdd, Nat.reduceSub, Nat.reduceMul, hc, e, decide_false, Bool.false_eq_true]
    · show Sight_mostAlike_l18 τ (nI k) x2 (nI i) (nI (nct _ c)) (nI c) = _
      unfold Sight_mostAlike_l18
      simp (disch := omega) only [zgt_e, zpt_e, zlt_e, zrd_e, zwr_e, zelr_e, znz_e, zcp_e, zlit, nI_add, nI_mul, nI_sub, nI_div, ↓irem_f, irem_e, Nat.zero_add, Nat.add_zero, obs, zb_t, zb_f, nI_eqt, nI_eqf, nI_let, nI_lef, nI_ltt, nI_ltf, nI_m1, nI_n1, ↓reduceIte, zup_ne, zup_miss, zup_hit, zbo_1, zbo_0, reduceCtorEq, sel_l, sel_r, Nat.reduceAdd, Nat.reduceSub, Nat.reduceMul, hc]
  have outer := zit_eq (b := fun (s : (Int32 × Int32)) => Sight_mostAlike_l4 τ (nI k) s.1 s.2) (fun i => (nI (mxx (fun i => nct (fun j => decide (τ (129 + i) k = τ (129 + j) k)) c) i), nI i)) (nI (mxx (fun i => nct (fun j => decide (τ (129 + i) k = τ (129 + j) k)) c) c), nI c) c 0 (by omega) (by
    intro i _ hi
    show Sight_mostAlike_l4 τ (nI k) (nI (mxx _ i)) (nI i) = _
    have h1 : mxx (fun i => nct (fun j => decide (τ (129 + i) k = τ (129 + j) k)) c) i ≤ 41 := mxx_le i (fun j _ => Nat.le_trans (nct_le _ c) hc2)
    have h2 := nct_le (fun j => decide (τ (129 + i) k = τ (129 + j) k)) c
    unfold Sight_mostAlike_l4
    rw [zgt_e, hc, if_neg (nI_ge hi (by omega)), zlt_e, zlt_e, show (0 : Int32) = nI 0 from rfl, inner i hi, obs, zlt_e, zlt_e, mx_f, mx_nI (by omega) (by omega), mxx_succ, show (1 : Int32) = nI 1 from rfl, nI_add]) (by
    show Sight_mostAlike_l4 τ (nI k) (nI (mxx _ c)) (nI c) = _
    unfold Sight_mostAlike_l4
    rw [zgt_e, hc, if_pos (nI_le (Nat.le_refl _) (by omega))]) zFU 0 (by rw [zFU_e]; omega) (by omega) (by omega)
  have outer' : zit (fun (s : (Int32 × Int32)) => Sight_mostAlike_l4 τ (nI k) s.1 s.2) zFU (nI 0, nI 0) = _ := outer
  unfold Sight_mostAlike
  rw [zlt_e, zlt_e, show (0 : Int32) = nI 0 from rfl, outer', obs]
theorem c_telling {τ : Sg} {t : Nat → Nat} (ht : ∀ k, t k ≤ 41) (h : ∀ k, 1 ≤ k → k ≤ 40 → Sight_mostAlike τ (nI k) = some (nI (t k))) : Sight_telling τ = some (nI (bst t 1 39).1) := by
  have hl := zit_bst (b := fun (s : (Int32 × Int32 × Int32)) => Sight_telling_l7 τ s.1 s.2.1 s.2.2) (t := t) (x := nI 1) (y := nI 1000000000) ht (by
    show Sight_telling_l7 τ (nI 1) (nI 1000000000) (nI 1) = _
    have h1 := ht 1
    unfold Sight_telling_l7
    simp (disch := omega) only [zgt_e, zpt_e, zlt_e, zrd_e, zwr_e, zelr_e, znz_e, zcp_e, zlit, nI_add, nI_mul, nI_sub, nI_div, ↓irem_f, irem_e, Nat.zero_add, Nat.add_zero, obs, zb_t, zb_f, nI_eqt, nI_eqf, nI_let, nI_lef, nI_ltt, nI_ltf, nI_m1, nI_n1, ↓reduceIte, zup_ne, zup_miss, zup_hit, zbo_1, zbo_0, reduceCtorEq, sel_l, sel_r, Nat.reduceAdd, Nat.reduceSub, Nat.reduceMul, h]) (by
    intro k c v h1 h2 h3
    show Sight_telling_l7 τ (nI c) (nI v) (nI k) = _
    have h4 := ht k
    unfold Sight_telling_l7
    by_cases e : t k < v
    · rw [if_pos e]
      simp (disch := omega) only [zgt_e, zpt_e, zlt_e, zrd_e, zwr_e, zelr_e, znz_e, zcp_e, zlit, nI_add, nI_mul, nI_sub, nI_div, ↓irem_f, irem_e, Nat.zero_add, Nat.add_zero, obs, zb_t, zb_f, nI_eqt, nI_eqf, nI_let, nI_lef, nI_ltt, nI_ltf, nI_m1, nI_n1, ↓reduceIte, zup_ne, zup_miss, zup_hit, zbo_1, zbo_0, reduceCtorEq, sel_l, sel_r, Nat.reduceAdd, Nat.reduceSub, Nat.reduceMul, h k (by omega) h2]
    · rw [if_neg e]
      simp (disch := omega) only [zgt_e, zpt_e, zlt_e, zrd_e, zwr_e, zelr_e, znz_e, zcp_e, zlit, nI_add, nI_mul, nI_sub, nI_div, ↓irem_f, irem_e, Nat.zero_add, Nat.add_zero, obs, zb_t, zb_f, nI_eqt, nI_eqf, nI_let, nI_lef, nI_ltt, nI_ltf, nI_m1, nI_n1, ↓reduceIte, zup_ne, zup_miss, zup_hit, zbo_1, zbo_0, reduceCtorEq, sel_l, sel_r, Nat.reduceAdd, Nat.reduceSub, Nat.reduceMul, h k (by omega) h2]) (by
    intro c v
    show Sight_telling_l7 τ c v (nI 41) = _
    unfold Sight_telling_l7
    simp (disch := omega) only [zgt_e, zpt_e, zlt_e, zrd_e, zwr_e, zelr_e, znz_e, zcp_e, zlit, nI_add, nI_mul, nI_sub, nI_div, ↓irem_f, irem_e, Nat.zero_add, Nat.add_zero, obs, zb_t, zb_f, nI_eqt, nI_eqf, nI_let, nI_lef, nI_ltt, nI_ltf, nI_m1, nI_n1, ↓reduceIte, zup_ne, zup_miss, zup_hit, zbo_1, zbo_0, reduceCtorEq, sel_l, sel_r, Nat.reduceAdd, Nat.reduceSub, Nat.reduceMul])
  unfold Sight_telling
  rw [zlt_e, zlt_e, zlt_e, show (1 : Int32) = nI 1 from rfl, show (1000000000 : Int32) = nI 1000000000 from rfl, hl, obs]
theorem m_alike {ν : Sg} {fit : Nat → Bool} {v : Nat → Nat → Int32} {k : Nat} (hk : 1 ≤ k ∧ k ≤ 40) (h7 : ∀ i, i < 41 → ν 197 i = if fit i = true then nI 1 else nI 0) (h6 : ∀ i, i < 41 → ∀ k, 1 ≤ k → k ≤ 40 → ν 196 (41 * i + k) = v i k) (x1 x2 x3 : Int32) :
    zit (fun (s : (Int32 × Int32)) => M_tells_l49 ν x1 x2 x3 (nI k) s.1 s.2) zFU (nI 0, nI 0) = some (nI (alT fit v k), nI 41) := by
  have inner : ∀ a, a < 41 → ∀ x5 : Int32, zit (fun (s : (Int32 × Int32)) => M_tells_l62 ν x1 x2 x3 (nI k) x5 (nI a) s.1 s.2) zFU (nI 0, nI 0) = some (nI (alN fit v k a), nI 41) := by
    intro a ha x5
    refine zit_eq (b := fun (s : (Int32 × Int32)) => M_tells_l62 ν x1 x2 x3 (nI k) x5 (nI a) s.1 s.2) (fun j => (nI (nct (fun b => fit a && (fit b && decide (v a k = v b k))) j), nI j)) _ 41 0 (by omega) ?_ ?_ zFU 0 (by rw [zFU_e]; omega) (by omega) (by omega)
    · intro j _ hj
      show M_tells_l62 ν x1 x2 x3 (nI k) x5 (nI a) (nI (nct _ j)) (nI j) = _
      have e1 := h7 a ha
      have e2 := h7 j hj
      have e3 := h6 a ha k hk.1 hk.2
      have e4 := h6 j hj k hk.1 hk.2
      unfold M_tells_l62
      rw [nct_succ]
      by_cases c1 : fit a = true
      · rw [if_pos c1] at e1
        by_cases c2 : fit j = true
        · rw [if_pos c2] at e2
          by_cases c3 : v a k = v j k
          · simp (disch := omega) only [zgt_e, zpt_e, zlt_e, zrd_e, zwr_e, zelr_e, znz_e, zcp_e, zlit, nI_add, nI_mul, nI_sub, nI_div, ↓irem_f, irem_e, Nat.zero_add, Nat.add_zero, obs, zb_t, zb_f, nI_eqt, nI_eqf, nI_let, nI_lef, nI_ltt, nI_ltf, nI_m1, nI_n1, ↓reduceIte, zup_ne, zup_miss, zup_hit, zbo_1, zbo_0, reduceCtorEq, sel_l, sel_r, Nat.reduceAdd, Nat.reduceSub, Nat.reduceMul, e1, e2, e3, e4, c1, c2, c3, decide_true, Bool.true_and]
          · simp (disch := omega) only [zgt_e, zpt_e, zlt_e, zrd_e, zwr_e, zelr_e, znz_e, zcp_e, zlit, nI_add, nI_mul, nI_sub, nI_div, ↓irem_f, irem_e, Nat.zero_add, Nat.add_zero, obs, zb_t, zb_f, nI_eqt, nI_eqf, nI_let, nI_lef, nI_ltt, nI_ltf, nI_m1, nI_n1, ↓reduceIte, zup_ne, zup_miss, zup_hit, zbo_1, zbo_0, reduceCtorEq, sel_l, sel_r, Nat.reduceAdd, Nat.reduceSub, Nat.reduceMul, e1, e2, e3, e4, c1, c2, c3, decide_false, Bool.true_and, Bool.false_eq_true]
        · have c2' : fit j = false := by simpa using c2
          rw [if_neg c2] at e2
          simp (disch := omega) only [zgt_e, zpt_e, zlt_e, zrd_e, zwr_e, zelr_e, znz_e, zcp_e, zlit, nI_add, nI_mul, nI_sub, nI_div, ↓irem_f, irem_e, Nat.zero_add, Nat.add_zero, obs, zb_t, zb_f, nI_eqt, nI_eqf, nI_let, nI_lef, nI_ltt, nI_ltf, nI_m1, nI_n1, ↓reduceIte, zup_ne, zup_miss, zup_hit, zbo_1, zbo_0, reduceCtorEq, sel_l, sel_r, Nat.reduceAdd, Nat.reduceSub, Nat.reduceMul, e1, e2, c1, c2', Bool.false_and, Bool.true_and, Bool.false_eq_true]
      · have c1' : fit a = false := by simpa using c1
        rw [if_neg c1] at e1
        simp (disch := omega) only [zgt_e, zpt_e, zlt_e, zrd_e, zwr_e, zelr_e, znz_e, zcp_e, zlit, nI_add, nI_mul, nI_sub, nI_div, ↓irem_f, irem_e, Nat.zero_add, Nat.add_zero, obs, zb_t, zb_f, nI_eqt, nI_eqf, nI_let, nI_lef, nI_ltt, nI_ltf, nI_m1, nI_n1, ↓reduceIte, zup_ne, zup_miss, zup_hit, zbo_1, zbo_0, reduceCtorEq, sel_l, sel_r, Nat.reduceAdd, Nat.reduceSub, Nat.reduceMul, e1, c1', Bool.false_and, Bool.false_eq_true]
    · show M_tells_l62 ν x1 x2 x3 (nI k) x5 (nI a) (nI (nct _ 41)) (nI 41) = _
      unfold M_tells_l62
      simp (disch := omega) only [zgt_e, zpt_e, zlt_e, zrd_e, zwr_e, zelr_e, znz_e, zcp_e, zlit, nI_add, nI_mul, nI_sub, nI_div, ↓irem_f, irem_e, Nat.zero_add, Nat.add_zero, obs, zb_t, zb_f, nI_eqt, nI_eqf, nI_let, nI_lef, nI_ltt, nI_ltf, nI_m1, nI_n1, ↓reduceIte, zup_ne, zup_miss, zup_hit, zbo_1, zbo_0, reduceCtorEq, sel_l, sel_r, Nat.reduceAdd, Nat.reduceSub, Nat.reduceMul]
      rfl
  refine zit_eq (b := fun (s : (Int32 × Int32)) => M_tells_l49 ν x1 x2 x3 (nI k) s.1 s.2) (fun i => (nI (mxx (alN fit v k) i), nI i)) _ 41 0 (by omega) ?_ ?_ zFU 0 (by rw [zFU_e]; omega) (by omega) (by omega)
  · intro i _ hi
    show M_tells_l49 ν x1 x2 x3 (nI k) (nI (mxx _ i)) (nI i) = _
    have h1 : mxx (alN fit v k) i ≤ 41 := mxx_le i (fun j _ => nct_le _ 41)
    have h2 : alN fit v k i ≤ 41 := nct_le _ 41
    unfold M_tells_l49
    rw [show (40 : Int32) = nI 40 from rfl, if_neg (nI_nlt (by omega) (by omega)), zlt_e, zlt_e, show (0 : Int32) = nI 0 from rfl, inner i hi, obs, M_greater_e, obs, zlt_e, zlt_e, mx_nI (by omega) (by omega), mxx_succ, show (1 : Int32) = nI 1 from rfl, nI_add]
  · show M_tells_l49 ν x1 x2 x3 (nI k) (nI (mxx _ 41)) (nI 41) = _
    unfold M_tells_l49
    rw [show (40 : Int32) = nI 40 from rfl, if_pos (nI_lt (by omega) (by omega))]
    rfl
