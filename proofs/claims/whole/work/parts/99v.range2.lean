/-! ranges and far cells behind a step that is logged -/
theorem step_range {μ : Sg} (hW : InvW μ) (hR : InvR μ) (hz : Zr μ) : InvR (goS (begS μ)) ∧ Zr (goS (begS μ)) := by
  have s := begS_stat μ
  have h183 := begS_183 μ
  obtain ⟨g1, g2, _⟩ := goS_range (begW hW) (hR.toF hz).beg (fun p hp => by rw [s.e_nP] at hp; rw [h183, s.e_tl]; exact (hR.1 p hp).2.2.1) (fun o ho => by rw [s.e_nO] at ho; rw [h183, s.e_stp]; exact hR.2.2 o ho)
  have sq : StB μ (goS (begS μ)) := s.toB.trans (goS_stB (begW hW))
  refine ⟨g1, fun p hp k hk hk2 => ?_⟩
  rw [sq.e_nP] at hp
  rw [sq.e_tl] at hk
  exact g2 p (by rw [s.e_nP]; exact hp) k (by rw [s.e_tl]; exact hk) hk2
theorem watS_hi {ν : Sg} (hW : InvW ν) {p i : Nat} (hp : p < 8) (hi : 327 ≤ i) : watS p ν 183 i = ν 183 i := by
  have hWq := watQ_W hp hW
  have e0 : watQ p ν 183 i = ν 183 i := by
    unfold watQ
    rw [zup_miss (by omega)]
  unfold watS
  split
  · unfold watN
    split
    · exact e0
    · obtain ⟨hT, kc, hk, hk2⟩ := hWq
      have hk' : watQ p ν 183 205 = nI (min kc 40) := by rw [hk, Nat.min_eq_left hk2]
      rw [(kepS_at (p := p) hT hp hk').2.2.2 i (by omega), e0]
  · exact e0
theorem wat_hi {ν : Sg} (hW : InvW ν) {i : Nat} (hi : 327 ≤ i) : ∀ n, n ≤ 8 → InvW (itS watS n ν) ∧ itS watS n ν 183 i = ν 183 i
  | 0, _ => ⟨hW, rfl⟩
  | n + 1, hn => by
    obtain ⟨w1, w2⟩ := wat_hi hW hi n (by omega)
    exact ⟨(watS_W (p := n) (by omega) w1).2, (watS_hi w1 (by omega) hi).trans w2⟩
theorem goS_hi {ν : Sg} (hW : InvW ν) {i : Nat} (hi : 1607 ≤ i) : goS ν 183 i = ν 183 i := by
  have hP8 := hW.1.1.1.2
  have hg : InvW (goW ν) := InvW.stat (M_goes_e hW).2 hW (goW_205 hW).1
  have h1 := (wat_hi hg (i := i) (by omega) (nP ν) hP8).2
  have h2 : itS watS (nP ν) (goW ν) 183 i = ν 183 i := by rw [h1, (goW_205 hW).2 i (by omega)]
  unfold goS bump
  rw [zup_miss (by omega)]
  split
  · show zrow (itS watS (nP ν) (goW ν)) 183 (notF (itS watS (nP ν) (goW ν))) 183 i = _
    rw [zrow_hit]
    unfold notF
    rw [if_neg (by omega), if_neg (by omega), if_neg (by omega), h2]
  · exact h2
theorem step_Zhi {μ : Sg} (hW : InvW μ) (hz : Zhi μ) : Zhi (goS (begS μ)) := by
  intro k hk
  rw [goS_hi (begW hW) hk, begS_183]
  exact hz k hk
theorem rst_range {μ : Sg} {n : Nat} (hW : ∀ j, j < n → InvW (rst μ j)) (hR : InvR μ) (hz : Zr μ) (hh : Zhi μ) : InvR (rst μ n) ∧ Zr (rst μ n) ∧ Zhi (rst μ n) := by
  induction n with
  | zero => exact ⟨hR, hz, hh⟩
  | succ n ih =>
    obtain ⟨i1, i2, i3⟩ := ih (fun j hj => hW j (by omega))
    have hw := hW n (by omega)
    obtain ⟨g1, g2⟩ := step_range hw i1 i2
    exact ⟨g1, g2, step_Zhi hw i3⟩
