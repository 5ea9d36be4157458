/-! the log after a step -/
theorem notC_keep {ν ω : Sg} (k : Keep ν ω) {i : Nat} (hi : i < 32) : notC ω i = notC ν i := by
  unfold notC
  rw [k.2.2 189 (by omega), k.2.2 190 (by omega), k.2.2 191 (by omega), k.2.1 (120 + i / 4) (by omega)]
theorem fin_at {ω : Sg} {s : Nat} (h : ω 183 196 = nI s) (i : Nat) : bump (notS ω) 183 i = if i = 196 then nI (s + 1) else notF ω i := by
  have e : notS ω 183 = notF ω := zrow_hit
  have e2 : notF ω 196 = nI s := by
    unfold notF
    rw [if_neg (by omega), if_neg (by omega), if_neg (by omega), h]
  unfold bump
  rw [e, e2]
  by_cases c : i = 196
  · subst c
    rw [zup_hit, if_pos rfl, show (1 : Int32) = nI 1 from rfl, nI_add]
  · rw [zup_miss c, if_neg c, e]
theorem al_of {σ μ ν : Sg} (hL : RepLg σ 77 μ) (hst : stp μ = stp ν) (hhi : ∀ i, 205 ≤ i → ν 183 i = μ 183 i) : ∃ kept, AlR σ 77 ν kept ∧ kept ≤ 8 * stp ν := by
  obtain ⟨kept, g1, g2, g3, g4, _, _⟩ := hL
  refine ⟨kept, ⟨g1, by rw [hhi 205 (by omega)]; exact g3, fun k hk j hj => ?_⟩, by omega⟩
  rw [hhi _ (by omega)]
  exact g4 k hk j hj
theorem log_step {σ τ μ ν : Sg} (hT : InvT ν) (hP : nP μ = nP ν) (hst : stp μ = stp ν) (hst9 : stp ν ≤ 9999) (hL : RepLg σ 77 μ) (hhi : ∀ i, 205 ≤ i → ν 183 i = μ 183 i) (hI : LgI σ ν τ (nP ν)) :
    RepLg τ 77 (bump (notS (itS watS (nP ν) ν))) ∧ InvWs (bump (notS (itS watS (nP ν) ν))) := by
  obtain ⟨f, ⟨kept, hA, hk⟩, h1, h2, h3, h4, h5, h6⟩ := hI
  obtain ⟨_, _, _, _, _, l5, l6⟩ := hL
  have hP8 := hT.1.1.2
  generalize hω : itS watS (nP ν) ν = ω at hA h3 h4 h5 h6 ⊢
  have w196 : ω 183 196 = nI (stp ν) := by rw [h3.2.1 196 (by omega)]; exact hT.2.2.1.1
  have at' := fin_at w196
  have ρr : ∀ a, a ≠ 183 → bump (notS ω) a = ν a := by
    intro a ha
    unfold bump notS
    rw [zup_ne ha, zrow_ne ha, h3.2.2 a ha]
  have ρP : nP (bump (notS ω)) = nP ν := by unfold nP; rw [ρr 171 (by omega)]
  have ρs : stp (bump (notS ω)) = stp ν + 1 := by
    unfold stp
    rw [at', if_pos rfl, nI_clamp (by omega)]
    rfl
  have low : ∀ i, i ≠ 196 → i ≠ 206 → i < 327 → bump (notS ω) 183 i = ω 183 i := by
    intro i c1 c2 c3
    rw [at', if_neg c1]
    unfold notF
    rw [if_neg c2, if_neg (by omega), if_neg (by omega)]
  have fst : ∀ i, i < 32 → bump (notS ω) 183 (327 + i) = notC ν i := by
    intro i hi
    rw [at', if_neg (by omega)]
    unfold notF
    rw [if_neg (by omega), if_pos (by omega), Nat.add_sub_cancel_left, notC_keep h3 hi]
  refine ⟨⟨kept, hA.1, by omega, ?_, ?_, ?_, ?_⟩, ?_⟩
  · rw [low 205 (by omega) (by omega) (by omega)]; exact hA.2.1
  · intro k hk2 j hj
    rw [low _ (by omega) (by omega) (by omega)]
    exact hA.2.2 k hk2 j hj
  · rw [ρs, at', if_neg (by omega)]
    unfold notF
    rw [if_pos rfl, h6 206 (by omega), hhi 206 (by omega), l5, hst, show (1 : Int32) = nI 1 from rfl, nI_add, show (40 : Int32) = nI 40 from rfl, mn_nI (by omega) (by omega)]
    congr 1
    omega
  · rw [ρs, ρP]
    intro k hk2 p hp j hj
    by_cases c : k = 0
    · subst c
      have e1 : stp ν + 1 - 1 - 0 = stp ν := by omega
      have e2 : 327 + 32 * 0 + 4 * p + j = 327 + (4 * p + j) := by omega
      rw [e1, e2, fst _ (by omega)]
      exact h1 p hp j hj
    · have e1 : stp ν + 1 - 1 - k = stp ν - 1 - (k - 1) := by omega
      have e2 : (stp ν - 1 - (k - 1)) % 40 ≠ stp ν % 40 := by omega
      have e3 : (stp ν - 1 - (k - 1)) % 40 < 40 := Nat.mod_lt _ (by omega)
      have e4 : bump (notS ω) 183 (327 + 32 * k + 4 * p + j) = μ 183 (327 + 32 * (k - 1) + 4 * p + j) := by
        rw [at', if_neg (by omega)]
        unfold notF
        have e5 : 327 + 32 * k + 4 * p + j - 32 = 327 + 32 * (k - 1) + 4 * p + j := by omega
        rw [if_neg (by omega), if_neg (by omega), if_pos (by omega), e5, h6 _ (by omega), hhi _ (by omega)]
      rw [e1, e4, h2 _ (by omega)]
      have := l6 (k - 1) (by omega) p (by omega) j hj
      rw [hst] at this
      exact this
  · intro p hp
    rw [ρP] at hp
    rw [ρs, if_neg (by omega), if_neg (by omega)]
    refine ⟨?_, ?_⟩
    · rw [low _ (by omega) (by omega) (by omega), h4 p hp]
      unfold stnd
      rw [ρr 172 (by omega), low p (by omega) (by omega) (by omega), h3.2.1 p (by omega)]
    · rw [low _ (by omega) (by omega) (by omega), h3.2.1 (120 + p) (by omega), Nat.add_assoc, fst _ (by omega)]
      unfold notC
      rw [if_neg (by omega), if_neg (by omega), if_neg (by omega), show (4 * p + 3) / 4 = p from by omega]
