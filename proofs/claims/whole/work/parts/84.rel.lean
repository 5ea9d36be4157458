/-! what stands between two calls -/
def Ptr (σ : Sg) (p1 : Nat) : Prop := (p1 = 3 ∨ p1 = 29) ∧ σ 0 3 = nI (p1 + 1) ∧ σ 0 4 = nI (32 - p1 + 1)
def RepLg (σ : Sg) (lg : Nat) (μ : Sg) : Prop := ∃ kept, σ lg 0 = nI kept ∧ kept ≤ 8 * stp μ ∧ μ 183 205 = nI (min kept 40) ∧
  (∀ k, k < min kept 40 → ∀ j, j < 3 → σ (lg + 1) ((kept - min kept 40 + k) % 40 * 3 + j) = μ 183 (207 + 3 * k + j)) ∧
  μ 183 206 = nI (min (stp μ) 40) ∧
  (∀ k, k < min (stp μ) 40 → ∀ p, p < nP μ → ∀ j, j < 4 → σ (lg + 2) (((stp μ - 1 - k) % 40 * 8 + p) * 4 + j) = μ 183 (327 + 32 * k + 4 * p + j))
def InvWs (μ : Sg) : Prop := ∀ p, p < nP μ → μ 183 (32 + p) = (if stp μ = 0 then 0 else stnd μ p) ∧ μ 183 (120 + p) = (if stp μ = 0 then 0 else μ 183 (327 + 4 * p + 3))
def InvR (μ : Sg) : Prop :=
  (∀ p, p < nP μ → (∃ v, μ 183 p = nI v ∧ v ≤ 9999) ∧ (∃ v, μ 183 (8 + p) = nI v ∧ v ≤ tl μ p 4) ∧ (μ 183 (16 + p) = -1 ∨ ∃ v, μ 183 (16 + p) = nI v ∧ v ≤ tl μ p 4) ∧ (∃ v, μ 183 (24 + p) = nI v ∧ v ≤ 99) ∧ ∀ k, k < 10 → ∃ v, μ 183 (40 + 10 * p + k) = nI v ∧ v ≤ 999) ∧
  (∃ v, μ 183 197 = nI v ∧ v ≤ 999) ∧ ∀ o, o < nO μ → ∃ v, μ 183 (138 + o) = nI v ∧ v ≤ 99 * stp μ
def InvS (μ : Sg) : Prop := μ 183 196 = nI (stp μ) ∧ stp μ ≤ 9999
def Mom (σ : Sg) (m : Nat) (μ : Sg) : Prop := RepW σ (m + 1) μ ∧ RepOr σ (m + 18) μ ∧ RepLg σ (m + 22) μ ∧ InvO μ ∧ InvS μ ∧ InvWs μ ∧ InvR μ
def Now (σ : Sg) (p1 : Nat) : Prop := Ptr σ p1 ∧ RepK σ p1 σ ∧ InvK σ ∧ Mom σ 55 σ
def Gain (μ : Sg) : Prop := ∃ g, μ 183 198 = nI g ∧ 1 ≤ g ∧ g ≤ 99
/-- told or not -/
def Told (σ : Sg) : Prop := σ 0 5 = σ 171 25 ∧ ((σ 171 25 = nI 1 ∧ Gain σ) ∨ (σ 171 25 = nI 0 ∧ nP σ = 0 ∧ nO σ = 0 ∧ nC σ = 0 ∧ stp σ = 0 ∧ σ 183 197 = nI 0 ∧ σ 183 198 = nI 0 ∧ σ 183 205 = nI 0 ∧ σ 171 43 = nI 0 ∧ σ 171 23 = nI 0))
def Same {α : Type} (a b : Option α) : Prop := ∃ r, a = some r ∧ b = some r
theorem same_ite {α : Type} {c : Prop} [Decidable c] {a a' b b' : Option α} (h1 : c → Same a b) (h2 : ¬ c → Same a' b') : Same (if c then a else a') (if c then b else b') := by
  by_cases h : c
  · rw [if_pos h, if_pos h]; exact h1 h
  · rw [if_neg h, if_neg h]; exact h2 h
theorem ptr_e {σ : Sg} {p1 : Nat} (h : Ptr σ p1) {α : Type} (k : Nat → Option α) : zmr2 3 29 (σ 0 3) k = k p1 := by
  rw [h.2.1]
  exact zmr2_e rfl h.1
theorem isIn_out {x : Int32} {n : Nat} (hn : n < 2147483648) (h : x < 0 ∨ nI n ≤ x) : M_isIn x (nI 0) (nI n - nI 1) = some false := by
  unfold M_isIn
  by_cases c : x < nI 0
  · rw [if_pos c]
  · rw [if_neg c]
    have h2 : nI n ≤ x := h.resolve_left c
    have h3 : nI n - nI 1 < x := by
      rcases Nat.eq_zero_or_pos n with e | e
      · subst e
        exact Int32.lt_of_lt_of_le (show nI 0 - nI 1 < nI 0 by decide) (Int32.not_lt.mp c)
      · rw [nI_sub (by omega)]
        exact Int32.lt_of_lt_of_le (nI_lt (by omega) (by omega)) h2
    rw [if_pos h3]
theorem isIn_in {j n : Nat} (hn : n < 2147483648) (h : j < n) : M_isIn (nI j) (nI 0) (nI n - nI 1) = some true := by
  rw [nI_sub (by omega), M_isIn_e (by omega) (by omega) (by omega)]
  congr 1
  exact decide_eq_true (by omega)
theorem isIn_gen {x : Int32} {n : Nat} (hn : n < 2147483648) : (M_isIn x (nI 0) (nI n) = some false ∧ (x < 0 ∨ nI n < x)) ∨ ∃ j, j ≤ n ∧ x = nI j ∧ M_isIn x (nI 0) (nI n) = some true := by
  unfold M_isIn
  by_cases c : x < nI 0
  · rw [if_pos c]; exact Or.inl ⟨rfl, Or.inl c⟩
  · rw [if_neg c]
    by_cases c2 : nI n < x
    · rw [if_pos c2]; exact Or.inl ⟨rfl, Or.inr c2⟩
    · rw [if_neg c2]
      obtain ⟨j, hj, rfl⟩ := nI_of2 (n := n) (nI_toInt hn) c (Int32.not_lt.mp c2)
      exact Or.inr ⟨j, hj, rfl, rfl⟩
theorem isPool_c {σ : Sg} {p1 : Nat} (hp : Ptr σ p1) (hR : RepK σ p1 σ) (hK : InvK σ) (x : Int32) : (CK_isPool σ x = some false ∧ M_isPool σ x = some false) ∨ ∃ j, j < nP σ ∧ x = nI j ∧ CK_isPool σ x = some true ∧ M_isPool σ x = some true := by
  obtain ⟨hP, hP8⟩ := hK.1
  have e3 : σ p1 3 = nI (nP σ) := hR.1.1.trans hP
  unfold CK_isPool M_isPool
  simp only [ptr_e hp, zgt_e, zlit, e3, hP]
  rcases pk_ix x (n := nP σ) (by omega) with h | h | ⟨j, hj, rfl⟩
  · left
    rw [isIn_out (by omega) (Or.inl h), if_pos (show x < nI 0 from h)]
    exact ⟨rfl, rfl⟩
  · left
    rw [isIn_out (by omega) (Or.inr h), if_pos h]
    refine ⟨?_, rfl⟩
    split <;> rfl
  · right
    refine ⟨j, hj, rfl, ?_, ?_⟩
    · rw [if_neg (nI_nlt (a := j) (b := 0) (by omega) (by omega)), if_neg (nI_ge hj (by omega))]
    · rw [isIn_in (by omega) hj]; rfl
theorem isOutlet_c {σ : Sg} {p1 : Nat} (hp : Ptr σ p1) (hR : RepK σ p1 σ) (hK : InvK σ) (x : Int32) : (CK_isOutlet σ x = some false ∧ M_isOutlet σ x = some false) ∨ ∃ j, j < nO σ ∧ x = nI j ∧ CK_isOutlet σ x = some true ∧ M_isOutlet σ x = some true := by
  obtain ⟨hP, hP8⟩ := hK.2.1
  have e3 : σ p1 7 = nI (nO σ) := hR.1.2.1.trans hP
  unfold CK_isOutlet M_isOutlet
  simp only [ptr_e hp, zgt_e, zlit, e3, hP]
  rcases pk_ix x (n := nO σ) (by omega) with h | h | ⟨j, hj, rfl⟩
  · left
    rw [isIn_out (by omega) (Or.inl h), if_pos (show x < nI 0 from h)]
    exact ⟨rfl, rfl⟩
  · left
    rw [isIn_out (by omega) (Or.inr h), if_pos h]
    refine ⟨?_, rfl⟩
    split <;> rfl
  · right
    refine ⟨j, hj, rfl, ?_, ?_⟩
    · rw [if_neg (nI_nlt (a := j) (b := 0) (by omega) (by omega)), if_neg (nI_ge hj (by omega))]
    · rw [isIn_in (by omega) hj]; rfl
/-- a ring's sum, wherever it begins -/
theorem sm_rot (f : Nat → Int32) {D : Nat} (hD : 0 < D) : ∀ s, sm (fun k => f ((s + k) % D)) D = sm f D := by
  intro s
  induction s with
  | zero => exact sm_congr (fun j hj => by rw [Nat.zero_add, Nat.mod_eq_of_lt hj])
  | succ s ih =>
    rw [← ih]
    obtain ⟨d, rfl⟩ : ∃ d, D = d + 1 := ⟨D - 1, by omega⟩
    rw [sm_head (fun k => f ((s + k) % (d + 1))), sm_succ, Int32.add_comm]
    congr 1
    · show f ((s + 1 + d) % (d + 1)) = f ((s + 0) % (d + 1))
      rw [show s + 1 + d = s + (d + 1) from by omega, Nat.add_mod_right]
      rfl
    · refine sm_congr (fun j _ => ?_)
      rw [show s + 1 + j = s + (j + 1) from by omega]
theorem sm_tail0 (f : Nat → Int32) {n m : Nat} (h : ∀ i, n ≤ i → i < n + m → f i = 0) : sm f (n + m) = sm f n := by
  induction m with
  | zero => rfl
  | succ m ih =>
    rw [show n + (m + 1) = (n + m) + 1 from rfl, sm_succ, ih (fun i h1 h2 => h i h1 (by omega)), h (n + m) (by omega) (by omega)]
    simp
theorem way_sum {σ μ : Sg} {w p : Nat} (hA : WayA σ w μ p (stp μ)) (hZ : WayZ σ w μ) (hp : p < nP μ) (hd : tl μ p 3 ≤ 9) : sm (fun i => σ (w + 5) (9 * p + i)) 9 = sm (fun k => μ 183 (40 + 10 * p + k)) 10 := by
  have e1 : sm (fun i => σ (w + 5) (9 * p + i)) 9 = sm (fun i => σ (w + 5) (9 * p + i)) (tl μ p 3) := by
    have := sm_tail0 (fun i => σ (w + 5) (9 * p + i)) (n := tl μ p 3) (m := 9 - tl μ p 3) (fun i h1 h2 => hZ p hp i h1 (by omega))
    rw [show tl μ p 3 + (9 - tl μ p 3) = 9 from by omega] at this
    exact this
  have e2 : sm (fun k => μ 183 (40 + 10 * p + k)) 10 = sm (fun k => μ 183 (40 + 10 * p + k)) (tl μ p 3) := by
    have := sm_tail0 (fun k => μ 183 (40 + 10 * p + k)) (n := tl μ p 3) (m := 10 - tl μ p 3) (fun i h1 h2 => hA.2 i h1 (by omega))
    rw [show tl μ p 3 + (10 - tl μ p 3) = 10 from by omega] at this
    exact this
  rw [e1, e2]
  rcases Nat.eq_zero_or_pos (tl μ p 3) with h | h
  · rw [h]; rfl
  · rw [← sm_rot (fun i => σ (w + 5) (9 * p + i)) h (stp μ)]
    exact sm_congr (fun k hk => hA.1 k hk)
theorem Water_onItsWay_e {σ : Sg} {w p : Nat} (hp : p < 8) : Water_onItsWay σ w (nI p) = some (sm (fun i => σ (w + 5) (9 * p + i)) 9) := by
  have m9 : p * 9 = 9 * p := Nat.mul_comm _ _
  have hl : zit (fun (s : (Int32 × Int32)) => Water_onItsWay_l4 σ w (nI p) s.1 s.2) zFU (nI 0, nI 0) = some (sm (fun i => σ (w + 5) (9 * p + i)) 9, nI 9) := by
    refine zit_eq (fun j => (sm (fun i => σ (w + 5) (9 * p + i)) j, nI j)) _ 9 0 (by omega) (fun j _ hj => ?_) ?_ zFU 0 (by rw [zFU_e]; omega) (by omega) (by omega)
    · unfold Water_onItsWay_l4
      simp (disch := omega) only [zgt_e, zpt_e, zlt_e, zrd_e, zwr_e, zelr_e, znz_e, zcp_e, zlit, nI_add, nI_mul, nI_sub, nI_div, ↓irem_f, irem_e, Nat.zero_add, Nat.add_zero, obs, zb_t, zb_f, nI_eqt, nI_eqf, nI_let, nI_lef, nI_ltt, nI_ltf, nI_m1, nI_n1, ↓reduceIte, zup_ne, zup_miss, zup_hit, zbo_1, zbo_0, reduceCtorEq, sel_l, sel_r, Nat.reduceAdd, Nat.reduceSub, Nat.reduceMul, m9, sm_succ]
    · unfold Water_onItsWay_l4
      simp (disch := omega) only [zgt_e, zpt_e, zlt_e, zrd_e, zwr_e, zelr_e, znz_e, zcp_e, zlit, nI_add, nI_mul, nI_sub, nI_div, ↓irem_f, irem_e, Nat.zero_add, Nat.add_zero, obs, zb_t, zb_f, nI_eqt, nI_eqf, nI_let, nI_lef, nI_ltt, nI_ltf, nI_m1, nI_n1, ↓reduceIte, zup_ne, zup_miss, zup_hit, zbo_1, zbo_0, reduceCtorEq, sel_l, sel_r, Nat.reduceAdd, Nat.reduceSub, Nat.reduceMul]
  unfold Water_onItsWay
  simp only [zlt_e, zlit, hl, obs]
theorem M_onWay_e {σ : Sg} {p : Nat} (hp : p < 8) : M_onWay σ (nI p) = some (sm (fun k => σ 183 (40 + 10 * p + k)) 10) := by
  have hl : zit (fun (s : (Int32 × Int32)) => M_onWay_l4 σ (nI p) s.1 s.2) zFU (nI 0, nI 0) = some (sm (fun k => σ 183 (40 + 10 * p + k)) 10, nI 10) := by
    refine zit_eq (fun j => (sm (fun k => σ 183 (40 + 10 * p + k)) j, nI j)) _ 10 0 (by omega) (fun j _ hj => ?_) ?_ zFU 0 (by rw [zFU_e]; omega) (by omega) (by omega)
    · unfold M_onWay_l4
      simp (disch := omega) only [zgt_e, zpt_e, zlt_e, zrd_e, zwr_e, zelr_e, znz_e, zcp_e, zlit, nI_add, nI_mul, nI_sub, nI_div, ↓irem_f, irem_e, Nat.zero_add, Nat.add_zero, obs, zb_t, zb_f, nI_eqt, nI_eqf, nI_let, nI_lef, nI_ltt, nI_ltf, nI_m1, nI_n1, ↓reduceIte, zup_ne, zup_miss, zup_hit, zbo_1, zbo_0, reduceCtorEq, sel_l, sel_r, Nat.reduceAdd, Nat.reduceSub, Nat.reduceMul, sm_succ]
    · unfold M_onWay_l4
      simp (disch := omega) only [zgt_e, zpt_e, zlt_e, zrd_e, zwr_e, zelr_e, znz_e, zcp_e, zlit, nI_add, nI_mul, nI_sub, nI_div, ↓irem_f, irem_e, Nat.zero_add, Nat.add_zero, obs, zb_t, zb_f, nI_eqt, nI_eqf, nI_let, nI_lef, nI_ltt, nI_ltf, nI_m1, nI_n1, ↓reduceIte, zup_ne, zup_miss, zup_hit, zbo_1, zbo_0, reduceCtorEq, sel_l, sel_r, Nat.reduceAdd, Nat.reduceSub, Nat.reduceMul]
  unfold M_onWay
  simp only [zlt_e, zlit, hl, obs]
theorem bt {α : Type} {a b : Option α} : ((some true).bind fun r => if (zb r) = 0 then a else b) = b := by
  show (if (1 : Int32) = 0 then a else b) = b
  exact if_neg (by decide)
theorem bf {α : Type} {a b : Option α} : ((some false).bind fun r => if (zb r) = 0 then a else b) = a := by
  show (if (0 : Int32) = 0 then a else b) = a
  exact if_pos rfl
theorem q_pool {σ : Sg} {p1 : Nat} (h : Now σ p1) (x1 x2 : Int32) : Same (CK_pool σ x1 x2) (M_pool σ x1 x2) := by
  obtain ⟨hp, hR, hK, hM⟩ := h
  have hP8 := hK.1.2
  obtain ⟨⟨⟨v1, _⟩, hA, hZ⟩, _⟩ := hM
  unfold CK_pool M_pool
  rcases isPool_c hp hR hK x1 with ⟨e1, e2⟩ | ⟨j, hj, rfl, e1, e2⟩
  · rw [e1, e2, bf, bf]
    exact ⟨_, rfl, rfl⟩
  · obtain ⟨a1, a2, a3, a4⟩ := v1 j hj
    obtain ⟨⟨k1, k2, k3, k4, k5⟩, k6, k7, k8, k9, k10⟩ := hR.2.1 j hj
    have hd := (hK.2.2.2.2.1 j hj).1
    have ow := way_sum (hA j hj) hZ hj hd
    have hb := Works_bandOf_e hR hK hj _ rfl
    simp only [Nat.reduceAdd] at a1 a2 a3 a4 ow
    rw [e1, e2, bt, bt, zrd_e (by omega) (by omega), a1]
    repeat (refine same_ite (fun _ => (by simp (disch := omega) only [zgt_e, zpt_e, zlt_e, zrd_e, zwr_e, zelr_e, znz_e, zcp_e, zlit, nI_add, nI_mul, nI_sub, nI_div, ↓irem_f, irem_e, Nat.zero_add, Nat.add_zero, obs, zb_t, zb_f, nI_eqt, nI_eqf, nI_let, nI_lef, nI_ltt, nI_ltf, nI_m1, nI_n1, ↓reduceIte, zup_ne, zup_miss, zup_hit, zbo_1, zbo_0, reduceCtorEq, sel_l, sel_r, Nat.reduceAdd, Nat.reduceSub, Nat.reduceMul, ptr_e hp, a1, a3, k2, k3, k4, k5, k10, M_toldOf_e, Water_onItsWay_e, M_onWay_e, ow, M_middleOf_e, M_standOf_e, hb]; exact ⟨_, rfl, rfl⟩)) (fun _ => ?_))
    exact ⟨_, rfl, rfl⟩
