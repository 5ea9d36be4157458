/-! one cell changed on both sides, the moment that stands -/
theorem RepW.u1 {τ κ : Sg} {g : Int32} (h : RepW τ 56 κ) (hK : InvK κ) : RepW (zup τ 56 1 g) 56 (zup κ 183 197 g) := by
  obtain ⟨⟨v1, v2, v3, v4, v5, v6, v7⟩, hA, hZ⟩ := h
  have hP8 := hK.1.2
  have hO10 := hK.2.1.2
  refine ⟨⟨fun p hp => ?_, fun o ho => ?_, fun i hi => ?_, ?_, ?_, ?_, ?_⟩, fun p hp => ?_, fun p hp i hi hi9 => ?_⟩
  · have hp' : p < nP κ := hp
    have := v1 p hp'
    simp (disch := omega) only [zup_ne, zup_miss]; exact this
  · have ho' : o < nO κ := ho
    have := v2 o ho'
    simp (disch := omega) only [zup_ne, zup_miss]; exact this
  · have := v3 i hi
    simp (disch := omega) only [zup_ne, zup_miss]; exact this
  · show zup τ 56 1 g (56 + 8) 6 = sm (fun o => zup κ 183 197 g 183 (138 + o)) (nO κ)
    rw [zup_ne (by omega), v4]
    exact sm_congr (fun o ho => by rw [zup_miss (by omega)])
  · simp (disch := omega) only [zup_miss]; exact v5
  · rw [zup_hit, zup_hit]
  · simp (disch := omega) only [zup_miss]; exact v7
  · have hp' : p < nP κ := hp
    exact (hA p hp').eq (zup_ne (by omega)) rfl (fun k hk => zup_miss (by omega)) (hK.2.2.2.2.1 p hp').1
  · rw [zup_ne (by omega)]
    exact hZ p hp i hi hi9
theorem RepW.u2 {τ κ : Sg} {g : Int32} (h : RepW τ 56 κ) (hK : InvK κ) : RepW (zup τ 56 2 g) 56 (zup κ 183 198 g) := by
  obtain ⟨⟨v1, v2, v3, v4, v5, v6, v7⟩, hA, hZ⟩ := h
  have hP8 := hK.1.2
  have hO10 := hK.2.1.2
  refine ⟨⟨fun p hp => ?_, fun o ho => ?_, fun i hi => ?_, ?_, ?_, ?_, ?_⟩, fun p hp => ?_, fun p hp i hi hi9 => ?_⟩
  · have hp' : p < nP κ := hp
    have := v1 p hp'
    simp (disch := omega) only [zup_ne, zup_miss]; exact this
  · have ho' : o < nO κ := ho
    have := v2 o ho'
    simp (disch := omega) only [zup_ne, zup_miss]; exact this
  · have := v3 i hi
    simp (disch := omega) only [zup_ne, zup_miss]; exact this
  · show zup τ 56 2 g (56 + 8) 6 = sm (fun o => zup κ 183 198 g 183 (138 + o)) (nO κ)
    rw [zup_ne (by omega), v4]
    exact sm_congr (fun o ho => by rw [zup_miss (by omega)])
  · simp (disch := omega) only [zup_miss]; exact v5
  · simp (disch := omega) only [zup_miss]; exact v6
  · rw [zup_hit, zup_hit]
  · have hp' : p < nP κ := hp
    exact (hA p hp').eq (zup_ne (by omega)) rfl (fun k hk => zup_miss (by omega)) (hK.2.2.2.2.1 p hp').1
  · rw [zup_ne (by omega)]
    exact hZ p hp i hi hi9
theorem RepW.u4 {τ κ : Sg} {g : Nat} {v : Int32} (h : RepW τ 56 κ) (hK : InvK κ) (hg : g < 8) : RepW (zup τ 60 g v) 56 (zup κ 183 (16 + g) v) := by
  obtain ⟨⟨v1, v2, v3, v4, v5, v6, v7⟩, hA, hZ⟩ := h
  have hP8 := hK.1.2
  have hO10 := hK.2.1.2
  have hs : stp (zup κ 183 (16 + g) v) = stp κ := by unfold stp; rw [zup_miss (by omega)]
  refine ⟨⟨fun p hp => ?_, fun o ho => ?_, fun i hi => ?_, ?_, ?_, ?_, ?_⟩, fun p hp => ?_, fun p hp i hi hi9 => ?_⟩
  · have hp' : p < nP κ := hp
    have := v1 p hp'
    simp only [Nat.reduceAdd] at this ⊢
    by_cases e : p = g
    · subst e
      simp (disch := omega) only [zup_ne, zup_miss, zup_hit]; exact ⟨this.1, this.2.1, this.2.2.1, trivial⟩
    · simp (disch := omega) only [zup_ne, zup_miss]; exact this
  · have ho' : o < nO κ := ho
    have := v2 o ho'
    simp only [Nat.reduceAdd] at this ⊢
    simp (disch := omega) only [zup_ne, zup_miss]; exact this
  · have := v3 i hi
    simp only [Nat.reduceAdd] at this ⊢
    simp (disch := omega) only [zup_ne, zup_miss]; exact this
  · show zup τ 60 g v (56 + 8) 6 = sm (fun o => zup κ 183 (16 + g) v 183 (138 + o)) (nO κ)
    rw [zup_ne (by omega), v4]
    exact sm_congr (fun o ho => by rw [zup_miss (by omega)])
  · simp (disch := omega) only [zup_ne, zup_miss]; exact v5
  · simp (disch := omega) only [zup_ne, zup_miss]; exact v6
  · simp (disch := omega) only [zup_ne, zup_miss]; exact v7
  · have hp' : p < nP κ := hp
    rw [hs]
    exact (hA p hp').eq (zup_ne (by omega)) rfl (fun k hk => zup_miss (by omega)) (hK.2.2.2.2.1 p hp').1
  · rw [zup_ne (by omega)]
    exact hZ p hp i hi hi9
theorem RepW.u3 {τ κ : Sg} {g : Nat} {v : Int32} (h : RepW τ 56 κ) (hK : InvK κ) (hg : g < 8) : RepW (zup τ 59 g v) 56 (zup κ 183 (24 + g) v) := by
  obtain ⟨⟨v1, v2, v3, v4, v5, v6, v7⟩, hA, hZ⟩ := h
  have hP8 := hK.1.2
  have hO10 := hK.2.1.2
  have hs : stp (zup κ 183 (24 + g) v) = stp κ := by unfold stp; rw [zup_miss (by omega)]
  refine ⟨⟨fun p hp => ?_, fun o ho => ?_, fun i hi => ?_, ?_, ?_, ?_, ?_⟩, fun p hp => ?_, fun p hp i hi hi9 => ?_⟩
  · have hp' : p < nP κ := hp
    have := v1 p hp'
    simp only [Nat.reduceAdd] at this ⊢
    by_cases e : p = g
    · subst e
      simp (disch := omega) only [zup_ne, zup_miss, zup_hit]; exact ⟨this.1, this.2.1, trivial, this.2.2.2⟩
    · simp (disch := omega) only [zup_ne, zup_miss]; exact this
  · have ho' : o < nO κ := ho
    have := v2 o ho'
    simp only [Nat.reduceAdd] at this ⊢
    simp (disch := omega) only [zup_ne, zup_miss]; exact this
  · have := v3 i hi
    simp only [Nat.reduceAdd] at this ⊢
    simp (disch := omega) only [zup_ne, zup_miss]; exact this
  · show zup τ 59 g v (56 + 8) 6 = sm (fun o => zup κ 183 (24 + g) v 183 (138 + o)) (nO κ)
    rw [zup_ne (by omega), v4]
    exact sm_congr (fun o ho => by rw [zup_miss (by omega)])
  · simp (disch := omega) only [zup_ne, zup_miss]; exact v5
  · simp (disch := omega) only [zup_ne, zup_miss]; exact v6
  · simp (disch := omega) only [zup_ne, zup_miss]; exact v7
  · have hp' : p < nP κ := hp
    rw [hs]
    exact (hA p hp').eq (zup_ne (by omega)) rfl (fun k hk => zup_miss (by omega)) (hK.2.2.2.2.1 p hp').1
  · rw [zup_ne (by omega)]
    exact hZ p hp i hi hi9
