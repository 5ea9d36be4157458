/-! what the class's rows say of the reference's -/
theorem mn_f (x y : Int32) : (if x < y then x else y) = mn y x := by
  unfold mn
  by_cases h : x < y
  · rw [if_pos h, if_pos (Int32.le_of_lt h)]
  · rw [if_neg h]
    split
    · rename_i h2
      exact Int32.le_antisymm (Int32.not_lt.mp h) h2
    · rfl
theorem mx_f (x y : Int32) : (if x < y then y else x) = mx x y := by
  unfold mx
  by_cases h : x < y
  · rw [if_pos h, if_pos (Int32.le_of_lt h)]
  · rw [if_neg h]
    split
    · rename_i h2
      exact Int32.le_antisymm h2 (Int32.not_lt.mp h)
    · rfl
theorem mn_comm (x y : Int32) : mn x y = mn y x := by
  unfold mn
  by_cases h : y ≤ x
  · rw [if_pos h]
    split
    · rename_i h2
      exact Int32.le_antisymm h h2
    · rfl
  · rw [if_neg h, if_pos (Int32.le_of_lt (Int32.not_le.mp h))]
def RepK (σ : Sg) (p1 : Nat) (μ : Sg) : Prop :=
  (σ p1 3 = μ 171 0 ∧ σ p1 7 = μ 171 1 ∧ σ (p1 + 20) 0 = μ 171 2) ∧
  (∀ p, p < nP μ → (σ (p1 + 3) p = μ 172 (9 * p + 6) ∧ σ (p1 + 4) p = μ 172 (9 * p) ∧ σ (p1 + 5) p = μ 172 (9 * p + 1) ∧ σ (p1 + 6) p = μ 172 (9 * p + 2) ∧ σ (p1 + 7) p = μ 172 (9 * p + 3)) ∧
    σ (p1 + 8) p = μ 172 (9 * p + 7) ∧ σ (p1 + 9) p = μ 172 (9 * p + 4) ∧ σ (p1 + 10) p = μ 172 (9 * p + 5) ∧ σ (p1 + 11) p = μ 172 (9 * p + 8) ∧ σ (p1 + 12) p = mid μ p) ∧
  (∀ o, o < nO μ → σ (p1 + 14) o = μ 173 (2 * o) ∧ σ (p1 + 15) o = μ 173 (2 * o + 1)) ∧
  (∀ t, t < nT μ → σ (p1 + 21) t = μ 174 (8 * t) ∧ σ (p1 + 22) t = μ 174 (8 * t + 1) ∧ ∀ i, i < sz μ t → σ (p1 + 24 + t) i = μ 174 (8 * t + 2 + i))
def RepOr (σ : Sg) (w : Nat) (μ : Sg) : Prop :=
  σ w 0 = μ 183 199 ∧ ∀ k, k < nC μ → σ (w + 1) k = μ 183 (148 + 3 * k) ∧ σ (w + 2) k = μ 183 (149 + 3 * k) ∧ σ (w + 3) k = μ 183 (150 + 3 * k)
theorem RepK.stat {σ μ ν : Sg} {p1 : Nat} (s : Stat μ ν) (h : RepK σ p1 μ) : RepK σ p1 ν := by
  obtain ⟨h1, h2, h3, h4⟩ := h
  refine ⟨?_, ?_, ?_, ?_⟩
  · rw [s.r171]; exact h1
  · intro p hp; rw [s.e_nP] at hp; rw [s.r172, s.e_mid]; exact h2 p hp
  · intro o ho; rw [s.e_nO] at ho; rw [s.r173]; exact h3 o ho
  · intro t ht; rw [s.e_nT] at ht; rw [s.r174, s.e_sz]; exact h4 t ht
theorem RepOr.stat {σ μ ν : Sg} {w : Nat} (s : Stat μ ν) (hC : nC μ ≤ 16) (h : RepOr σ w μ) : RepOr σ w ν := by
  obtain ⟨h1, h2⟩ := h
  refine ⟨?_, ?_⟩
  · rw [s.2 199 (by omega)]; exact h1
  · intro k hk
    rw [s.e_nC] at hk
    rw [s.2 _ (by omega), s.2 _ (by omega), s.2 _ (by omega)]
    exact h2 k hk
/-- rows that a piece of the class leaves alone -/
def Fr (lo hi : Nat) (σ σ' : Sg) : Prop := ∀ a, a < lo ∨ hi < a → σ' a = σ a
theorem Fr.refl {lo hi : Nat} (σ : Sg) : Fr lo hi σ σ := fun _ _ => rfl
theorem Fr.trans {lo hi : Nat} {σ τ υ : Sg} (h : Fr lo hi σ τ) (g : Fr lo hi τ υ) : Fr lo hi σ υ := fun a ha => (g a ha).trans (h a ha)
theorem Fr.wide {lo hi lo' hi' : Nat} {σ τ : Sg} (h : Fr lo hi σ τ) (h1 : lo' ≤ lo) (h2 : hi ≤ hi') : Fr lo' hi' σ τ := fun a ha => h a (by omega)
theorem Fr.up {lo hi : Nat} {σ τ : Sg} {a k : Nat} {v : Int32} (h : Fr lo hi σ τ) (h1 : lo ≤ a) (h2 : a ≤ hi) : Fr lo hi σ (zup τ a k v) := fun b hb => by rw [zup_ne (by omega)]; exact h b hb
theorem Fr.row {lo hi : Nat} {σ τ : Sg} {a : Nat} {f : Nat → Int32} (h : Fr lo hi σ τ) (h1 : lo ≤ a) (h2 : a ≤ hi) : Fr lo hi σ (zrow τ a f) := fun b hb => by rw [zrow_ne (by omega)]; exact h b hb
theorem RepK.fr {σ τ μ : Sg} {p1 lo hi : Nat} (f : Fr lo hi σ τ) (h : RepK σ p1 μ) (hT : nT μ ≤ 2) (hd : p1 + 25 < lo ∨ hi < p1) : RepK τ p1 μ := by
  obtain ⟨h1, h2, h3, h4⟩ := h
  refine ⟨?_, ?_, ?_, ?_⟩
  · rw [f p1 (by omega), f (p1 + 20) (by omega)]; exact h1
  · rw [f _ (by omega), f _ (by omega), f _ (by omega), f _ (by omega), f _ (by omega), f _ (by omega), f _ (by omega), f _ (by omega), f _ (by omega), f _ (by omega)]; exact h2
  · rw [f _ (by omega), f _ (by omega)]; exact h3
  · intro t ht; rw [f _ (by omega), f _ (by omega), f _ (by omega)]; exact h4 t ht
theorem RepOr.fr {σ τ μ : Sg} {w lo hi : Nat} (f : Fr lo hi σ τ) (h : RepOr σ w μ) (hd : w + 3 < lo ∨ hi < w) : RepOr τ w μ := by
  obtain ⟨h1, h2⟩ := h
  refine ⟨?_, ?_⟩
  · rw [f _ (by omega)]; exact h1
  · rw [f _ (by omega), f _ (by omega), f _ (by omega)]; exact h2
theorem Orders_isOpen_e {σ μ : Sg} {w : Nat} (hR : RepOr σ w μ) (hK : InvK μ) (hO : InvO μ) {o t : Nat} (ho : o < 2147483648) (ht : t < 1000000) : Orders_isOpen σ w (nI o) (nI t) = some (anyB (opO μ o t) (nC μ)) := by
  obtain ⟨h1, h2⟩ := hR
  obtain ⟨hC, hC16, hI⟩ := hO
  have hO10 := hK.2.1.2
  have hl : zit (fun (s : Int32) => Orders_isOpen_l2 σ w (nI o) (nI t) s) zFU (nI 0) = some (if anyB (opO μ o t) (nC μ) then .inl true else .inr (nI (nC μ))) := by
    refine zit_any (by omega) (fun j hj => ?_) ?_
    · obtain ⟨e1, e2, e3, e4, e5, e6, e7⟩ := hI j hj
      obtain ⟨r1, r2, r3⟩ := h2 j hj
      rw [e1] at r1
      rw [e3] at r2
      rw [e5] at r3
      unfold Orders_isOpen_l2 opO
      by_cases c1 : oo μ j = o
      · by_cases c2 : ofr μ j ≤ t
        · by_cases c3 : t < ofr μ j + oma μ j
          · simp (disch := omega) only [zgt_e, zpt_e, zlt_e, zrd_e, zwr_e, zelr_e, znz_e, zcp_e, zlit, nI_add, nI_mul, nI_sub, nI_div, ↓irem_f, irem_e, Nat.zero_add, Nat.add_zero, obs, zb_t, zb_f, nI_eqt, nI_eqf, nI_let, nI_lef, nI_ltt, nI_ltf, nI_m1, nI_n1, ↓reduceIte, zup_ne, zup_miss, zup_hit, zbo_1, zbo_0, reduceCtorEq, sel_l, sel_r, Nat.reduceAdd, Nat.reduceSub, Nat.reduceMul, h1, hC, r1, r2, r3, c1, c2, c3, decide_true, and_self]
          · simp (disch := omega) only [zgt_e, zpt_e, zlt_e, zrd_e, zwr_e, zelr_e, znz_e, zcp_e, zlit, nI_add, nI_mul, nI_sub, nI_div, ↓irem_f, irem_e, Nat.zero_add, Nat.add_zero, obs, zb_t, zb_f, nI_eqt, nI_eqf, nI_let, nI_lef, nI_ltt, nI_ltf, nI_m1, nI_n1, ↓reduceIte, zup_ne, zup_miss, zup_hit, zbo_1, zbo_0, reduceCtorEq, sel_l, sel_r, Nat.reduceAdd, Nat.reduceSub, Nat.reduceMul, h1, hC, r1, r2, r3, c1, c2, c3, decide_false, and_false, Bool.false_eq_true]
        · simp (disch := omega) only [zgt_e, zpt_e, zlt_e, zrd_e, zwr_e, zelr_e, znz_e, zcp_e, zlit, nI_add, nI_mul, nI_sub, nI_div, ↓irem_f, irem_e, Nat.zero_add, Nat.add_zero, obs, zb_t, zb_f, nI_eqt, nI_eqf, nI_let, nI_lef, nI_ltt, nI_ltf, nI_m1, nI_n1, ↓reduceIte, zup_ne, zup_miss, zup_hit, zbo_1, zbo_0, reduceCtorEq, sel_l, sel_r, Nat.reduceAdd, Nat.reduceSub, Nat.reduceMul, h1, hC, r1, r2, r3, c1, c2, decide_false, and_false, false_and, Bool.false_eq_true]
      · simp (disch := omega) only [zgt_e, zpt_e, zlt_e, zrd_e, zwr_e, zelr_e, znz_e, zcp_e, zlit, nI_add, nI_mul, nI_sub, nI_div, ↓irem_f, irem_e, Nat.zero_add, Nat.add_zero, obs, zb_t, zb_f, nI_eqt, nI_eqf, nI_let, nI_lef, nI_ltt, nI_ltf, nI_m1, nI_n1, ↓reduceIte, zup_ne, zup_miss, zup_hit, zbo_1, zbo_0, reduceCtorEq, sel_l, sel_r, Nat.reduceAdd, Nat.reduceSub, Nat.reduceMul, h1, hC, r1, c1, decide_false, false_and, Bool.false_eq_true]
    · unfold Orders_isOpen_l2
      simp (disch := omega) only [zgt_e, zpt_e, zlt_e, zrd_e, zwr_e, zelr_e, znz_e, zcp_e, zlit, nI_add, nI_mul, nI_sub, nI_div, ↓irem_f, irem_e, Nat.zero_add, Nat.add_zero, obs, zb_t, zb_f, nI_eqt, nI_eqf, nI_let, nI_lef, nI_ltt, nI_ltf, nI_m1, nI_n1, ↓reduceIte, zup_ne, zup_miss, zup_hit, zbo_1, zbo_0, reduceCtorEq, sel_l, sel_r, Nat.reduceAdd, Nat.reduceSub, Nat.reduceMul, h1, hC]
  unfold Orders_isOpen
  simp only [zlt_e, zlit, hl, obs]
  cases anyB (opO μ o t) (nC μ) <;> rfl
theorem Turns_isOpen_e {σ μ : Sg} {p1 : Nat} (hR : RepK σ p1 μ) (hK : InvK μ) {o t : Nat} (ho : o < 2147483648) (ht : t < 1000000) : Turns_isOpen σ (p1 + 20) (nI o) (nI t) = some (anyB (opT μ o t) (nT μ)) := by
  obtain ⟨⟨_, _, h1⟩, _, _, h4⟩ := hR
  obtain ⟨_, _, ⟨hT, hT2⟩, _, _, _, hTs⟩ := hK
  have hl : zit (fun (s : Int32) => Turns_isOpen_l2 σ (p1 + 20) (nI o) (nI t) s) zFU (nI 0) = some (if anyB (opT μ o t) (nT μ) then .inl true else .inr (nI (nT μ))) := by
    refine zit_any (by omega) (fun j hj => ?_) ?_
    · obtain ⟨e1, e2, e3, e4, e5, e6⟩ := hTs j hj
      obtain ⟨r1, r2, r3⟩ := h4 j hj
      rw [e1] at r1
      rw [e4] at r2
      have hm : t / ev μ j % sz μ j < sz μ j := Nat.mod_lt _ (by omega)
      have hd : t / ev μ j ≤ t := Nat.div_le_self _ _
      have r4 := r3 _ hm
      unfold Turns_isOpen_l2 opT
      simp (disch := omega) only [zgt_e, zpt_e, zlt_e, zrd_e, zwr_e, zelr_e, znz_e, zcp_e, zlit, nI_add, nI_mul, nI_sub, nI_div, ↓irem_f, irem_e, Nat.zero_add, Nat.add_zero, obs, zb_t, zb_f, nI_eqt, nI_eqf, nI_let, nI_lef, nI_ltt, nI_ltf, nI_m1, nI_n1, ↓reduceIte, zup_ne, zup_miss, zup_hit, zbo_1, zbo_0, reduceCtorEq, sel_l, sel_r, Nat.reduceAdd, Nat.reduceSub, Nat.reduceMul, h1, hT, Nat.add_assoc] at r1 r2 r4 ⊢
      simp (disch := omega) only [zgt_e, zpt_e, zlt_e, zrd_e, zwr_e, zelr_e, znz_e, zcp_e, zlit, nI_add, nI_mul, nI_sub, nI_div, ↓irem_f, irem_e, Nat.zero_add, Nat.add_zero, obs, zb_t, zb_f, nI_eqt, nI_eqf, nI_let, nI_lef, nI_ltt, nI_ltf, nI_m1, nI_n1, ↓reduceIte, zup_ne, zup_miss, zup_hit, zbo_1, zbo_0, reduceCtorEq, sel_l, sel_r, Nat.reduceAdd, Nat.reduceSub, Nat.reduceMul, r1, r2, r4]
      by_cases c1 : μ 174 (8 * j + (2 + t / ev μ j % sz μ j)) = nI o
      · simp only [c1, ↓reduceIte, decide_true]
      · simp only [c1, ↓reduceIte, decide_false, Bool.false_eq_true]
    · unfold Turns_isOpen_l2
      simp (disch := omega) only [zgt_e, zpt_e, zlt_e, zrd_e, zwr_e, zelr_e, znz_e, zcp_e, zlit, nI_add, nI_mul, nI_sub, nI_div, ↓irem_f, irem_e, Nat.zero_add, Nat.add_zero, obs, zb_t, zb_f, nI_eqt, nI_eqf, nI_let, nI_lef, nI_ltt, nI_ltf, nI_m1, nI_n1, ↓reduceIte, zup_ne, zup_miss, zup_hit, zbo_1, zbo_0, reduceCtorEq, sel_l, sel_r, Nat.reduceAdd, Nat.reduceSub, Nat.reduceMul, h1, hT]
  unfold Turns_isOpen
  simp only [zlt_e, zlit, hl, obs]
  cases anyB (opT μ o t) (nT μ) <;> rfl
theorem Works_isOpen_e {σ μ : Sg} {p1 w : Nat} (hR : RepK σ p1 μ) (hQ : RepOr σ w μ) (hK : InvK μ) (hO : InvO μ) {o t : Nat} (ho : o < 2147483648) (ht : t < 1000000) : Works_isOpen σ p1 w (nI o) (nI t) = some (opn μ o t) := by
  unfold Works_isOpen opn
  rw [Orders_isOpen_e hQ hK hO ho ht, Turns_isOpen_e hR hK ho ht]
  cases anyB (opO μ o t) (nC μ) <;> cases anyB (opT μ o t) (nT μ) <;> rfl
theorem Works_needs_e {σ μ : Sg} {p1 : Nat} (hR : RepK σ p1 μ) (hK : InvK μ) {g p : Nat} (hg : g ≤ p + 1) (hp : p < nP μ) : Works_needs σ p1 (nI g) (nI p) = some (nI (nd μ g (p + 1 - g))) := by
  obtain ⟨⟨h1, _, _⟩, h2, _, _⟩ := hR
  have hK0 := hK
  obtain ⟨⟨hP, hP8⟩, _, _, hTl, hTr, _⟩ := hK
  have hl : zit (fun (s : (Int32 × Int32)) => Works_needs_l5 σ p1 (nI p) s.1 s.2) zFU (nI 0, nI g) = some (nI (nd μ g (p + 1 - g)), nI (p + 1)) := by
    refine zit_eq (fun i => (nI (nd μ g i), nI (g + i))) _ (p + 1 - g) 0 (by omega) (fun i _ hi => ?_) ?_ zFU 0 (by rw [zFU_e]; omega) (by omega) (by omega)
    · have hn := nd_le hK0 (g := g) (j := i) (by omega)
      have h5 := (h2 (g + i) (by omega)).1.2.2.2.2
      have ht3 := (hTl (g + i) (by omega) 3 (by omega)).1
      rw [ht3] at h5
      unfold Works_needs_l5
      simp (disch := omega) only [zgt_e, zpt_e, zlt_e, zrd_e, zwr_e, zelr_e, znz_e, zcp_e, zlit, nI_add, nI_mul, nI_sub, nI_div, ↓irem_f, irem_e, Nat.zero_add, Nat.add_zero, obs, zb_t, zb_f, nI_eqt, nI_eqf, nI_let, nI_lef, nI_ltt, nI_ltf, nI_m1, nI_n1, ↓reduceIte, zup_ne, zup_miss, zup_hit, zbo_1, zbo_0, reduceCtorEq, sel_l, sel_r, Nat.reduceAdd, Nat.reduceSub, Nat.reduceMul, h1, hP, h5]
      rfl
    · unfold Works_needs_l5
      have e : g + (p + 1 - g) = p + 1 := by omega
      simp (disch := omega) only [zgt_e, zpt_e, zlt_e, zrd_e, zwr_e, zelr_e, znz_e, zcp_e, zlit, nI_add, nI_mul, nI_sub, nI_div, ↓irem_f, irem_e, Nat.zero_add, Nat.add_zero, obs, zb_t, zb_f, nI_eqt, nI_eqf, nI_let, nI_lef, nI_ltt, nI_ltf, nI_m1, nI_n1, ↓reduceIte, zup_ne, zup_miss, zup_hit, zbo_1, zbo_0, reduceCtorEq, sel_l, sel_r, Nat.reduceAdd, Nat.reduceSub, Nat.reduceMul, e]
  unfold Works_needs
  simp only [zlt_e, zlit, hl, obs]
theorem Works_heldIn_e {σ μ : Sg} {p1 : Nat} (hR : RepK σ p1 μ) (hK : InvK μ) {p : Nat} (hp : p < nP μ) (x : Int32) : Works_heldIn σ p1 (nI p) x = some (hld μ p x) := by
  have hP8 := hK.1.2
  have h6 := (hR.2.1 p hp).2.2.1
  unfold Works_heldIn hld
  simp (disch := omega) only [zrd_e, ↓mn_f, ↓mx_f, h6]
  rw [mn_comm]
theorem Works_bandOf_e {σ μ : Sg} {p1 : Nat} (hR : RepK σ p1 μ) (hK : InvK μ) {p : Nat} (hp : p < nP μ) (v : Int32) (hv : v = μ 183 p) : Works_bandOf σ p1 (nI p) v = some (stnd μ p) := by
  have hP8 := hK.1.2
  have h2 := (hR.2.1 p hp).1.2.1
  have h3 := (hR.2.1 p hp).1.2.2.1
  subst hv
  unfold Works_bandOf stnd
  simp (disch := omega) only [zgt_e, zpt_e, zlt_e, zrd_e, zwr_e, zelr_e, znz_e, zcp_e, zlit, nI_add, nI_mul, nI_sub, nI_div, ↓irem_f, irem_e, Nat.zero_add, Nat.add_zero, obs, zb_t, zb_f, nI_eqt, nI_eqf, nI_let, nI_lef, nI_ltt, nI_ltf, nI_m1, nI_n1, ↓reduceIte, zup_ne, zup_miss, zup_hit, zbo_1, zbo_0, reduceCtorEq, sel_l, sel_r, Nat.reduceAdd, Nat.reduceSub, Nat.reduceMul, h2, h3]
  by_cases c1 : μ 183 p < μ 172 (9 * p)
  · simp only [c1, Int32.not_le.mpr c1, ↓reduceIte]
  · simp only [c1, Int32.not_lt.mp c1, ↓reduceIte]
    by_cases c2 : μ 172 (9 * p + 1) < μ 183 p
    · simp only [c2, Int32.not_le.mpr c2, ↓reduceIte]
    · simp only [c2, Int32.not_lt.mp c2, ↓reduceIte]
