/-! taking back, both sides: the moment that stands afterwards -/
theorem undo_mom {σ τ υ : Sg} {n K t c : Nat} (hR : Ring σ n K t c) (h0 : 0 < c) (hK : InvK σ) (hz : Zhi σ)
    (hτ : ∀ μ, InvK μ → Mom σ (198 + 25 * ((t + 19) % 20)) μ → Mom τ 55 μ) (f : ∀ a, 55 ≤ a → a < 80 → υ a = τ a)
    (h1 : υ 171 0 = σ 171 0 ∧ υ 171 1 = σ 171 1 ∧ υ 171 2 = σ 171 2) (h2 : υ 172 = σ 172 ∧ υ 173 = σ 173 ∧ υ 174 = σ 174) (h3 : ∀ k, υ 183 k = if k < 1607 then σ 185 (1607 * (c - 1) + k) else σ 183 k) :
    Mom υ 55 υ ∧ Gain υ ∧ InvK υ ∧ Zhi υ := by
  obtain ⟨hn, hK20, ht, htK, hc, hct, _, _, _, hm⟩ := hR
  obtain ⟨m1, m2⟩ := hm (c - 1) (by omega)
  have ex : (t + 20 - c + (c - 1)) % 20 = (t + 19) % 20 := by omega
  rw [ex] at m1
  have hKs : InvK (snp σ (c - 1)) := by
    unfold InvK nP nO nT tl opl tk ev sz at hK ⊢
    unfold snp
    simp (disch := omega) only [zrow_ne]
    exact hK
  have me : MEq (snp σ (c - 1)) υ := by
    unfold snp
    refine ⟨?_, ?_, ?_⟩
    · rw [zrow_ne (by omega)]; exact h1
    · rw [zrow_ne (by omega), zrow_ne (by omega), zrow_ne (by omega)]; exact h2
    · rw [zrow_hit]
      funext k
      rw [h3 k]
      by_cases q : k < 1607
      · rw [if_pos q, if_pos q]
      · rw [if_neg q, if_neg q, hz k (by omega)]
  have mt := hτ _ hKs m1
  obtain ⟨g1, g2, g3, g4⟩ := mt
  refine ⟨me.e_Mom ⟨?_, ?_, ?_, g4⟩, me.e_Gain m2, me.e_InvK hKs, fun k hk => by rw [h3 k, if_neg (by omega)]; exact hz k hk⟩
  · unfold RepW RepV WayA WayZ at g1 ⊢
    simp only [Nat.reduceAdd] at g1 ⊢
    rw [f 56 (by omega) (by omega), f 57 (by omega) (by omega), f 58 (by omega) (by omega), f 59 (by omega) (by omega), f 60 (by omega) (by omega), f 61 (by omega) (by omega), f 62 (by omega) (by omega), f 63 (by omega) (by omega), f 64 (by omega) (by omega)]
    exact g1
  · unfold RepOr at g2 ⊢
    simp only [Nat.reduceAdd] at g2 ⊢
    rw [f 73 (by omega) (by omega), f 74 (by omega) (by omega), f 75 (by omega) (by omega), f 76 (by omega) (by omega)]
    exact g2
  · unfold RepLg at g3 ⊢
    simp only [Nat.reduceAdd] at g3 ⊢
    rw [f 77 (by omega) (by omega), f 78 (by omega) (by omega), f 79 (by omega) (by omega)]
    exact g3
