/-! moments kept and taken back -/
theorem RepLg.fr {σ τ μ : Sg} {lg lo hi : Nat} (f : Fr lo hi σ τ) (h : RepLg σ lg μ) (hd : lg + 2 < lo ∨ hi < lg) : RepLg τ lg μ := by
  obtain ⟨kept, h1, h2, h3, h4, h5, h6⟩ := h
  refine ⟨kept, by rw [f lg (by omega)]; exact h1, h2, h3, ?_, h5, ?_⟩
  · intro k hk j hj
    rw [f (lg + 1) (by omega)]; exact h4 k hk j hj
  · intro k hk p hp j hj
    rw [f (lg + 2) (by omega)]; exact h6 k hk p hp j hj
theorem Mom.fr {σ τ μ : Sg} {m lo hi : Nat} (f : Fr lo hi σ τ) (h : Mom σ m μ) (hd : m + 24 < lo ∨ hi < m + 1) : Mom τ m μ := by
  obtain ⟨h1, h2, h3, h4⟩ := h
  exact ⟨h1.fr f (by omega), h2.fr f (by omega), h3.fr f (by omega), h4⟩
theorem Log_copy_ok {σ : Sg} {w v : Nat} (hd : w + 2 < v ∨ v + 2 < w) : ∃ σ', Log_copyFrom σ v w = some σ' ∧ Fr v (v + 2) σ σ' ∧ σ' v 0 = σ w 0 ∧ (∀ k, k < 120 → σ' (v + 1) k = σ (w + 1) k) ∧ ∀ k, k < 1280 → σ' (v + 2) k = σ (w + 2) k := by
  unfold Log_copyFrom
  simp only [zgt_e, zpt_e, zcp_e]
  refine ⟨_, rfl, ?_, ?_, ?_, ?_⟩
  · intro a ha
    simp (disch := omega) only [zrow_ne, zup_ne]
  · simp (disch := omega) only [zrow_ne, zup_hit]
  · intro k hk
    simp (disch := omega) only [zrow_ne, zrow_hit, zup_ne, cpy0_in]
  · intro k hk
    simp (disch := omega) only [zrow_ne, zrow_hit, zup_ne, cpy0_in]
theorem RepLg.copy {σ σ' μ : Sg} {w v : Nat} (h : RepLg σ w μ) (hP8 : nP μ ≤ 8) (h0 : σ' v 0 = σ w 0) (h1 : ∀ k, k < 120 → σ' (v + 1) k = σ (w + 1) k) (h2 : ∀ k, k < 1280 → σ' (v + 2) k = σ (w + 2) k) : RepLg σ' v μ := by
  obtain ⟨kept, g1, g2, g3, g4, g5, g6⟩ := h
  refine ⟨kept, by rw [h0]; exact g1, g2, g3, ?_, g5, ?_⟩
  · intro k hk j hj
    have hm : (kept - min kept 40 + k) % 40 < 40 := Nat.mod_lt _ (by omega)
    rw [h1 _ (by omega)]; exact g4 k hk j hj
  · intro k hk p hp j hj
    have hm : (stp μ - 1 - k) % 40 < 40 := Nat.mod_lt _ (by omega)
    rw [h2 _ (by omega)]; exact g6 k hk p hp j hj
theorem Moment_copy_ok {σ : Sg} {w v : Nat} (hd : w + 24 < v ∨ v + 24 < w) : ∃ σ', Moment_copyFrom σ v w = some σ' ∧ Fr (v + 1) (v + 24) σ σ' ∧ ∀ μ, InvK μ → Mom σ w μ → Mom σ' v μ := by
  obtain ⟨σ1, a1, a2, a3, a4, a5, a6, a7⟩ := Water_copy_ok (σ := σ) (w := w + 1) (v := v + 1) (by omega)
  obtain ⟨σ2, b1, b2, b3, b4⟩ := Orders_copy_ok (σ := σ1) (w := w + 18) (v := v + 18) (by omega)
  obtain ⟨σ3, c1, c2, c3, c4, c5⟩ := Log_copy_ok (σ := σ2) (w := w + 22) (v := v + 22) (by omega)
  refine ⟨σ3, ?_, ?_, ?_⟩
  · unfold Moment_copyFrom
    rw [a1, obs, b1, obs, c1, obs]
  · intro a ha
    rw [c2 a (by omega), b2 a (by omega), a2 a (by omega)]
  · rintro μ hK ⟨m1, m2, m3, m4⟩
    have hO := m4.1
    have e1 : ∀ a, w + 18 ≤ a → a < w + 25 → σ1 a = σ a := fun a h1 h2 => a2 a (by omega)
    refine ⟨?_, ?_, ?_, m4⟩
    · have r1 : RepW σ1 (v + 1) μ := m1.copy hK a3 a4 a5 a6 a7
      exact (r1.fr b2 (by omega)).fr c2 (by omega)
    · have r2 : RepOr σ2 (v + 18) μ := by
        refine ⟨?_, fun k hk => ?_⟩
        · rw [b3, e1 _ (by omega) (by omega)]; exact m2.1
        · have := hO.2.1
          obtain ⟨d1, d2, d3⟩ := b4 k (by omega)
          rw [d1, d2, d3, e1 _ (by omega) (by omega), e1 _ (by omega) (by omega), e1 _ (by omega) (by omega)]
          exact m2.2 k hk
      exact r2.fr c2 (by omega)
    · refine RepLg.copy (σ := σ2) (w := w + 22) ?_ hK.1.2 c3 c4 c5
      exact (m3.fr a2 (by omega)).fr b2 (by omega)
/-- the reference's kept state i -/
def snp (σ : Sg) (i : Nat) : Sg := zrow σ 183 (fun k => if k < 1607 then σ 185 (1607 * i + k) else 0)
def Zhi (σ : Sg) : Prop := ∀ k, 1607 ≤ k → σ 183 k = 0
/-- the ring of moments -/
def Ring (σ : Sg) (n K t c : Nat) : Prop := n = 198 + 25 * K ∧ K ≤ 20 ∧ t < 20 ∧ t ≤ K ∧ c ≤ 20 ∧ (K < 20 → c ≤ t) ∧ (σ 0 10 = nI t ∧ σ 0 11 = nI c ∧ σ 171 23 = nI c) ∧ (∀ j, j < K → σ 80 j = nI (198 + 25 * j + 1)) ∧ (∀ j, K ≤ j → j < 20 → σ 80 j = nI 0) ∧
  ∀ i, i < c → Mom σ (198 + 25 * ((t + 20 - c + i) % 20)) (snp σ i) ∧ Gain (snp σ i)
theorem zmm_e {α : Type} {n j : Nat} {k : Nat → Option α} (h : 198 + 25 * j + 25 ≤ n) (hj : j < 20) : zmm n (nI (198 + 25 * j + 1)) k = k (198 + 25 * j) := by
  unfold zmm
  rw [nI_clamp (by omega), Nat.add_sub_cancel, if_pos]
  refine ⟨rfl, by omega, ?_, h, by omega⟩
  rw [Nat.add_sub_cancel_left]
  exact Nat.mul_mod_right 25 j
