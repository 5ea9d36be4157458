/-! all that stands between two calls; refusals; steps and chance -/
def TB (x y : Int32) : Prop := ∃ b : Nat, b < 256 ∧ y = nI b ∧ x = if b < 128 then nI b else nI b - nI 256
def Tp (σ : Sg) (L : Nat) : Prop := L ≤ 1600 ∧ σ 0 1 = nI L ∧ σ 171 28 = nI L ∧ ∀ i, i < L → TB (σ 1 i) (σ 186 i)
def Rst (σ : Sg) (g L : Nat) : Prop := (σ 0 14 = nI g ∧ σ 171 24 = nI g ∧ g < 2147483648) ∧ Tp σ L ∧ (∀ i, i < 6 → σ 187 i = σ 170 i) ∧ (σ 171 30 = σ 0 6 ∧ σ 171 31 = σ 0 7) ∧ σ 188 = lw_s0 188
def Rel (σ : Sg) (n : Nat) : Prop := ∃ p1 K t c R q s g L, Cor σ n p1 K t c R q s ∧ Rst σ g L
def Acts {α : Type} (n : Nat) (c : Option ((α × Sg) × Nat)) (m : Sg → Option (α × Sg)) : Prop := ∃ r τ υ n1, c = some ((r, τ), n1) ∧ m τ = some (r, υ) ∧ Rel υ n1 ∧ (n1 = n ∨ n1 = n + 25) ∧ n1 ≤ 90000
def Calls {α : Type} (n : Nat) (c : Option (α × Sg)) (m : Sg → Option (α × Sg)) : Prop := ∃ r τ υ, c = some (r, τ) ∧ m τ = some (r, υ) ∧ Rel υ n
theorem Rst.keep {σ υ : Sg} {g g' L : Nat} (h : Rst σ g L) (hs : υ 0 14 = nI g' ∧ υ 171 24 = nI g' ∧ g' < 2147483648) (h0 : ∀ k, k = 1 ∨ k = 6 ∨ k = 7 → υ 0 k = σ 0 k) (h171 : ∀ k, k = 28 ∨ k = 30 ∨ k = 31 → υ 171 k = σ 171 k) (hr : ∀ a, a = 1 ∨ a = 170 ∨ a = 186 ∨ a = 187 ∨ a = 188 → υ a = σ a) : Rst υ g' L := by
  obtain ⟨_, ⟨t1, t2, t3, t4⟩, r1, r2, r3⟩ := h
  refine ⟨hs, ⟨t1, by rw [h0 1 (by omega)]; exact t2, by rw [h171 28 (by omega)]; exact t3, fun i hi => by rw [hr 1 (by omega), hr 186 (by omega)]; exact t4 i hi⟩, fun i hi => by rw [hr 187 (by omega), hr 170 (by omega)]; exact r1 i hi, ?_, by rw [hr 188 (by omega)]; exact r3⟩
  rw [h171 30 (by omega), h171 31 (by omega), h0 6 (by omega), h0 7 (by omega)]
  exact r2
theorem Ring.le {σ : Sg} {n K t c : Nat} (h : Ring σ n K t c) : n ≤ 700 := by
  have h1 := h.1
  have h2 := h.2.1
  omega
theorem Rel.le {σ : Sg} {n : Nat} (h : Rel σ n) : n ≤ 700 := by
  obtain ⟨p1, K, t, c, R, q, s, g, L, hC, _⟩ := h
  exact hC.2.2.2.2.1.le
/-! refusals -/
def refC (σ : Sg) (k : Nat) : Sg := zup σ 170 k (σ 170 k + nI 1)
def refM (σ : Sg) (k : Nat) : Sg := zup σ 187 k (σ 187 k + nI 1)
theorem rel_ref {σ : Sg} {n k : Nat} (h : Rel σ n) (hk : k < 6) : Rel (refM (refC σ k) k) n := by
  obtain ⟨p1, K, t, c, R, q, s, g, L, hC, ⟨s1, t1, r1, r2, r3⟩⟩ := h
  have fr : ∀ a, a ≠ 170 → a ≠ 187 → refM (refC σ k) k a = σ a := fun a h1 h2 => by
    unfold refM refC
    rw [zup_ne h2, zup_ne h1]
  refine ⟨p1, K, t, c, R, q, s, g, L, hC.keep ⟨fun _ _ => by rw [fr 0 (by omega) (by omega)], fun a ha => fr a (by omega) (by omega), fun _ _ => by rw [fr 124 (by omega) (by omega)], fun _ _ => by rw [fr 171 (by omega) (by omega)], fun _ _ => by rw [fr 183 (by omega) (by omega)]⟩, ?_⟩
  unfold Rst Tp
  rw [fr 0 (by omega) (by omega), fr 171 (by omega) (by omega), fr 1 (by omega) (by omega), fr 186 (by omega) (by omega), fr 188 (by omega) (by omega)]
  refine ⟨s1, t1, fun i hi => ?_, r2, r3⟩
  by_cases e : i = k
  · subst e
    unfold refM refC
    rw [zup_hit, zup_ne (show (187 : Nat) ≠ 170 by omega), zup_ne (show (170 : Nat) ≠ 187 by omega), zup_hit, r1 i hi]
  · unfold refM refC
    rw [zup_miss e, zup_ne (show (187 : Nat) ≠ 170 by omega), zup_ne (show (170 : Nat) ≠ 187 by omega), zup_miss e, r1 i hi]
theorem ref_c {σ : Sg} {k : Nat} (hk : k < 6) : CK_refuse σ (nI k) = some (-1, refC σ k) := by
  unfold CK_refuse refC
  simp (disch := omega) only [zgt_e, zpt_e, zlt_e, zrd_e, zwr_e, zelr_e, znz_e, zcp_e, zlit, nI_add, nI_mul, nI_sub, nI_div, ↓irem_f, irem_e, Nat.zero_add, Nat.add_zero, obs, zb_t, zb_f, nI_eqt, nI_eqf, nI_let, nI_lef, nI_ltt, nI_ltf, nI_m1, nI_n1, ↓reduceIte, zup_ne, zup_miss, zup_hit, zbo_1, zbo_0, reduceCtorEq, sel_l, sel_r, Nat.reduceAdd, Nat.reduceSub, Nat.reduceMul]
theorem ref_m {σ : Sg} {k : Nat} (hk : k < 6) : M_refuses σ (nI k) = some (-1, refM σ k) := by
  unfold M_refuses refM
  simp (disch := omega) only [zgt_e, zpt_e, zlt_e, zrd_e, zwr_e, zelr_e, znz_e, zcp_e, zlit, nI_add, nI_mul, nI_sub, nI_div, ↓irem_f, irem_e, Nat.zero_add, Nat.add_zero, obs, zb_t, zb_f, nI_eqt, nI_eqf, nI_let, nI_lef, nI_ltt, nI_ltf, nI_m1, nI_n1, ↓reduceIte, zup_ne, zup_miss, zup_hit, zbo_1, zbo_0, reduceCtorEq, sel_l, sel_r, Nat.reduceAdd, Nat.reduceSub, Nat.reduceMul]
theorem den_c {σ : Sg} {k : Nat} (hk : k < 6) : CK_deny σ (nI k) = some (false, refC σ k) := by
  unfold CK_deny refC
  simp (disch := omega) only [zgt_e, zpt_e, zlt_e, zrd_e, zwr_e, zelr_e, znz_e, zcp_e, zlit, nI_add, nI_mul, nI_sub, nI_div, ↓irem_f, irem_e, Nat.zero_add, Nat.add_zero, obs, zb_t, zb_f, nI_eqt, nI_eqf, nI_let, nI_lef, nI_ltt, nI_ltf, nI_m1, nI_n1, ↓reduceIte, zup_ne, zup_miss, zup_hit, zbo_1, zbo_0, reduceCtorEq, sel_l, sel_r, Nat.reduceAdd, Nat.reduceSub, Nat.reduceMul]
theorem den_m {σ : Sg} {k : Nat} (hk : k < 6) : M_isRefused σ (nI k) = some (false, refM σ k) := by
  unfold M_isRefused refM
  simp (disch := omega) only [zgt_e, zpt_e, zlt_e, zrd_e, zwr_e, zelr_e, znz_e, zcp_e, zlit, nI_add, nI_mul, nI_sub, nI_div, ↓irem_f, irem_e, Nat.zero_add, Nat.add_zero, obs, zb_t, zb_f, nI_eqt, nI_eqf, nI_let, nI_lef, nI_ltt, nI_ltf, nI_m1, nI_n1, ↓reduceIte, zup_ne, zup_miss, zup_hit, zbo_1, zbo_0, reduceCtorEq, sel_l, sel_r, Nat.reduceAdd, Nat.reduceSub, Nat.reduceMul]
theorem refC_ne {σ : Sg} {k a : Nat} (h : a ≠ 170) : refC σ k a = σ a := zup_ne h
theorem acts_no {σ : Sg} {n k : Nat} {c : Option ((Int32 × Sg) × Nat)} {m : Sg → Option (Int32 × Sg)} (h : Rel σ n) (hk : k < 6) (h1 : c = (CK_refuse σ (nI k)).bind fun r => some ((r.1, r.2), n)) (h2 : m (refC σ k) = (M_refuses (refC σ k) (nI k)).bind fun r => some (r.1, r.2)) : Acts n c m := by
  rw [ref_c hk, obs] at h1
  rw [ref_m hk, obs] at h2
  have := h.le
  exact ⟨-1, refC σ k, refM (refC σ k) k, n, h1, h2, rel_ref h hk, Or.inl rfl, by omega⟩
theorem acts_nob {σ : Sg} {n k : Nat} {c : Option ((Bool × Sg) × Nat)} {m : Sg → Option (Bool × Sg)} (h : Rel σ n) (hk : k < 6) (h1 : c = (CK_deny σ (nI k)).bind fun r => some ((r.1, r.2), n)) (h2 : m (refC σ k) = (M_isRefused (refC σ k) (nI k)).bind fun r => some (r.1, r.2)) : Acts n c m := by
  rw [den_c hk, obs] at h1
  rw [den_m hk, obs] at h2
  have := h.le
  exact ⟨false, refC σ k, refM (refC σ k) k, n, h1, h2, rel_ref h hk, Or.inl rfl, by omega⟩
theorem isIn_c (x : Int32) {a b : Nat} (ha : a ≤ b) (hb : b < 2147483648) : (M_isIn x (nI a) (nI b) = some false ∧ (x < nI a ∨ nI b < x)) ∨ ∃ j, a ≤ j ∧ j ≤ b ∧ x = nI j ∧ M_isIn x (nI a) (nI b) = some true := by
  unfold M_isIn
  by_cases c : x < nI a
  · rw [if_pos c]; exact Or.inl ⟨rfl, Or.inl c⟩
  · rw [if_neg c]
    by_cases c2 : nI b < x
    · rw [if_pos c2]; exact Or.inl ⟨rfl, Or.inr c2⟩
    · rw [if_neg c2]
      have c0 : ¬ x < nI 0 := fun e => c (Int32.lt_of_lt_of_le e (nI_le (by omega) (by omega)))
      obtain ⟨j, hj, rfl⟩ := nI_of2 (n := b) (nI_toInt hb) c0 (Int32.not_lt.mp c2)
      refine Or.inr ⟨j, ?_, hj, rfl, rfl⟩
      rcases Nat.lt_or_ge j a with e | e
      · exact absurd (nI_lt e (by omega)) c
      · exact e
theorem rem_n {σ τ : Sg} {n n1 : Nat} (h : CK_remember n σ = some (τ, n1)) : n1 = n ∨ n1 = n + 25 := by
  unfold CK_remember zrd at h
  rw [zgt_e] at h
  split at h
  · cases h
  · dsimp only at h
    by_cases e : σ 80 (σ 0 10).toNatClampNeg = 0
    · rw [if_pos e, zgt_e] at h
      by_cases e2 : (n - 198) % 25 = 0 ∧ n + 25 ≤ 90000
      · rw [if_pos e2] at h
        unfold zwr at h
        split at h
        · cases h
        · obtain ⟨o, _, h2⟩ := Option.bind_eq_some_iff.mp h
          exact Or.inr (Prod.mk.inj (Option.some.inj h2)).2.symm
      · rw [if_neg e2] at h
        cases h
    · rw [if_neg e] at h
      obtain ⟨o, _, h2⟩ := Option.bind_eq_some_iff.mp h
      exact Or.inl (Prod.mk.inj (Option.some.inj h2)).2.symm
/-- what the reference's remembering leaves -/
def RemM (τ ρ : Sg) (c : Nat) : Prop := (∀ a, a ≠ 171 → a ≠ 185 → ρ a = τ a) ∧ (∀ k, k ≠ 23 → ρ 171 k = τ 171 k) ∧ ρ 171 23 = nI (min (c + 1) 20) ∧ (∀ i k, i + 1 < min (c + 1) 20 → k < 1607 → ρ 185 (1607 * i + k) = τ 185 (1607 * (i + (c + 1 - min (c + 1) 20)) + k)) ∧ ∀ k, k < 1607 → ρ 185 (1607 * (min (c + 1) 20 - 1) + k) = τ 183 k
theorem Mom.zr {σ μ : Sg} {m : Nat} (h : Mom σ m μ) : Zr μ := fun p hp k h1 h2 => (h.1.2.1 p hp).2 k h1 h2
theorem pre_go {σ τ μ : Sg} {p1 m : Nat} (hB : Base σ p1) (hg : Gain σ) (f0 : ∀ k, k ≠ 10 → k ≠ 11 → τ 0 k = σ 0 k) (fa : ∀ a, a ≠ 0 → a ≠ 80 → a < 198 → τ a = σ a) (me : MEq σ μ) (hq : μ 171 26 = nI 0) (hm : m ≤ 200) :
    ∃ τ1, Schedule_plan τ p1 73 (nI (stp σ)) (nI m) = some τ1 ∧ Fr 103 123 τ τ1 ∧ StS τ1 p1 μ (stp σ) m := by
  have hW := base_W hB hg
  obtain ⟨⟨⟨hp1, e3, e4⟩, hR, hK, hM⟩, _, _⟩ := hB
  have hT2 := hK.2.2.1.2
  have hRμ : RepK τ p1 μ := (me.e_RepK hR).rows (by rw [me.e_nT]; exact hT2) (fun a h1 h2 => fa a (by omega) (by omega) (by omega))
  have hMμ : Mom τ 55 μ := (me.e_Mom hM).rows (fun a h1 h2 h3 => fa a (by omega) (by omega) (by omega))
  have hs := hM.2.2.2.2.1.2
  obtain ⟨τ1, a1, a2, a3⟩ := Schedule_plan_ok (σ := τ) (μ := μ) (w := 73) (s := stp σ) (n := m) hp1 (Or.inl rfl) hRμ hMμ.2.1 (me.e_InvK hK) hMμ.2.2.2.1 (by omega) hm
  exact ⟨τ1, a1, a2, hp1, by rw [a2 0 (by omega), f0 3 (by omega) (by omega)]; exact e3, hRμ.fr a2 (by rw [me.e_nT]; exact hT2) (by omega), a3, hMμ.1.fr a2 (by omega), hMμ.2.2.1.fr a2 (by omega), me.e_InvW hW, hMμ.2.2.2.2.2.1, hq⟩
theorem act_go {σ τ τ2 ρ υ : Sg} {n n1 p1 K K1 t c R q b l g L g' : Nat} {s : Nat → Nat} (h : Cor σ n p1 K t c R q s) (hr : Rst σ g L) (ht : σ 171 25 = nI 1) (hrem : RemC σ τ n1 K1 t c)
    (f0 : ∀ k, k ≠ 10 → k ≠ 11 → τ 0 k = σ 0 k) (fa : ∀ a, a ≠ 0 → a ≠ 80 → a < 198 → τ a = σ a)
    (d0 : ∀ k, k ≠ 14 → τ2 0 k = τ 0 k) (da : ∀ a, a ≠ 0 → a < 56 ∨ (72 < a ∧ a < 77) ∨ (79 < a ∧ a < 103) ∨ 123 < a → τ2 a = τ a)
    (hρ : RemM τ2 ρ c) (fT : FrT ρ υ) (hS : StS τ2 p1 υ b l) (hs : stp υ ≤ 9999) (hR : InvR υ) (hz : Zhi υ) (hsd : υ 0 14 = nI g' ∧ υ 171 24 = nI g' ∧ g' < 2147483648) : Rel υ n1 := by
  obtain ⟨m1, m2, m3, m4, m5⟩ := hρ
  obtain ⟨w1, w2, w3⟩ := fT
  obtain ⟨hp1, _, _, _, hV, hL, hW, hWs, _⟩ := hS
  have lo : ∀ a, a < 171 ∨ 197 < a → υ a = τ2 a := fun a ha => by rw [w1 a (by omega) (by omega) (by omega), m1 a (by omega) (by omega)]
  have mid : ∀ a, a ≠ 171 → a ≠ 183 → a ≠ 185 → 171 ≤ a → a < 189 ∨ (193 < a ∧ a < 198) → υ a = σ a := fun a h1 h2 h3 h4 h5 => by
    rw [w1 a h1 h2 (by omega), m1 a h1 h3, da a (by omega) (by omega), fa a (by omega) (by omega) (by omega)]
  have r171 : ∀ k, k ≠ 23 → k ≠ 24 → υ 171 k = σ 171 k := fun k h1 h2 => by rw [w2 k h2, m2 k h1, da 171 (by omega) (by omega), fa 171 (by omega) (by omega) (by omega)]
  have e185 : υ 185 = ρ 185 := w1 185 (by omega) (by omega) (by omega)
  have o183 : ∀ k, (148 ≤ k ∧ k < 196) ∨ (197 ≤ k ∧ k < 200) → υ 183 k = σ 183 k := fun k hk => by rw [w3 k hk, m1 183 (by omega) (by omega), da 183 (by omega) (by omega), fa 183 (by omega) (by omega) (by omega)]
  have eC : nC υ = nC σ := by unfold nC; rw [o183 199 (by omega)]
  have hC16 := h.1.1.2.2.2.2.2.2.1.2.1
  have or73 : ∀ a, 72 < a → a < 77 → υ a = σ a := fun a h1 h2 => by rw [lo a (by omega), da a (by omega) (by omega), fa a (by omega) (by omega) (by omega)]
  have hMυ : Mom υ 55 υ := by
    have : Mom τ2 55 υ := by
      refine ⟨hV, ?_, hL, hW.1.2.1, ⟨hW.1.2.2.1.1, hs⟩, hWs, hR⟩
      obtain ⟨o1, o2⟩ := h.1.1.2.2.2.2.1
      refine ⟨?_, fun k hk => ?_⟩
      · show τ2 73 0 = _
        rw [← lo 73 (by omega), or73 73 (by omega) (by omega), o183 199 (by omega)]; exact o1
      · rw [eC] at hk
        show τ2 74 k = _ ∧ τ2 75 k = _ ∧ τ2 76 k = _
        rw [← lo 74 (by omega), ← lo 75 (by omega), ← lo 76 (by omega), or73 74 (by omega) (by omega), or73 75 (by omega) (by omega), or73 76 (by omega) (by omega), o183 _ (by omega), o183 _ (by omega), o183 _ (by omega)]
        exact o2 k hk
    exact this.rows (fun a h1 h2 h3 => lo a (by omega))
  have hgυ : Gain υ := hW.1.2.2.2
  have hrn : n1 = n1 := rfl
  refine ⟨p1, K1, (t + 1) % 20, min (c + 1) 20, R, q, s, g', L, act_core h ht hrem f0 fa (fun k hk => ?_) (fun a ha => ?_) (fun k hk => r171 k (by omega) (by omega)) ?_ ?_ ?_ hMυ hgυ hz, hr.keep hsd (fun k hk => ?_) (fun k hk => r171 k (by omega) (by omega)) (fun a ha => ?_)⟩
  · rw [lo 0 (by omega), d0 k (by omega)]
  · rcases Nat.lt_or_ge a 171 with x | x
    · rw [lo a (by omega), da a (by omega) (by omega)]
    · rcases Nat.lt_or_ge 197 a with y | y
      · rw [lo a (by omega), da a (by omega) (by omega)]
      · rw [mid a (by omega) (by omega) (by omega) (by omega) (by omega), fa a (by omega) (by omega) (by omega)]
  · rw [w2 23 (by omega)]; exact m3
  · intro i k hi hk
    rw [e185, m4 i k hi hk, da 185 (by omega) (by omega), fa 185 (by omega) (by omega) (by omega)]
  · intro k hk
    rw [e185, m5 k hk, da 183 (by omega) (by omega), fa 183 (by omega) (by omega) (by omega)]
  · rw [lo 0 (by omega), d0 k (by omega), f0 k (by omega) (by omega)]
  · rcases Nat.lt_or_ge a 171 with x | x
    · rw [lo a (by omega), da a (by omega) (by omega), fa a (by omega) (by omega) (by omega)]
    · exact mid a (by omega) (by omega) (by omega) (by omega) (by omega)
