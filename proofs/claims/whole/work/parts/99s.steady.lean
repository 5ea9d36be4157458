/-! what the water of a step leaves alone -/
theorem goW_32 {ν : Sg} (hW : InvW ν) : ∀ i, 32 ≤ i ∧ i < 40 → goW ν 183 i = ν 183 i := by
  intro i hi
  have hP8 := hW.1.1.1.2
  have hO10 := hW.1.1.2.1.2
  have h1 : ∀ n, n ≤ nP ν → ∀ τ, Stat ν τ → itS arrS n τ 183 i = τ 183 i := by
    intro n
    induction n with
    | zero => intro _ τ _; rfl
    | succ n ih => intro hn τ s; rw [itS_succ, arrS_miss (by omega) (by omega) (by omega), ih (by omega) τ s]
  have h2 : ∀ n, n ≤ nP ν → ∀ τ, itS leakS n τ 183 i = τ 183 i := by
    intro n
    induction n with
    | zero => intro _ τ; rfl
    | succ n ih => intro hn τ; rw [itS_succ]; show leakS n _ 183 i = _; rw [show leakS n (itS leakS n τ) 183 i = itS leakS n τ 183 i from by unfold leakS; rw [zup_miss (by omega), zup_miss (by omega)], ih (by omega) τ]
  have h3 : ∀ n, n ≤ nO ν → ∀ τ, Stat ν τ → itS takS n τ 183 i = τ 183 i ∧ Stat ν (itS takS n τ) := by
    intro n
    induction n with
    | zero => intro _ τ s; exact ⟨rfl, s⟩
    | succ n ih =>
      intro hn τ s
      obtain ⟨e, s'⟩ := ih (by omega) τ s
      have hp : opl (itS takS n τ) n < 8 := by
        rw [s'.e_opl]
        have := (hW.1.1.2.2.2.2.2.1 n (by omega)).2.1
        omega
      refine ⟨?_, s'.trans (takS_stat (by omega) hp)⟩
      rw [← e]
      show takS n (itS takS n τ) 183 i = _
      generalize itS takS n τ = υ at hp
      unfold takS
      split
      · simp (disch := omega) only [zup_ne, zup_miss]
      · rfl
  have h4 : ∀ n, n ≤ nP ν → ∀ τ, Stat ν τ → itS pasS n τ 183 i = τ 183 i ∧ Stat ν (itS pasS n τ) := by
    intro n
    induction n with
    | zero => intro _ τ s; exact ⟨rfl, s⟩
    | succ n ih =>
      intro hn τ s
      obtain ⟨e, s'⟩ := ih (by omega) τ s
      have hd : tl (itS pasS n τ) n 3 ≤ 9 := by rw [s'.e_tl]; exact (hW.1.1.2.2.2.2.1 n (by omega)).1
      refine ⟨?_, s'.trans (pasS_stat (by omega) hd)⟩
      rw [← e]
      show pasS n (itS pasS n τ) 183 i = _
      rw [pasS_at (by omega) hd, if_neg (by omega), if_neg (by omega), if_neg (by omega), if_neg (by omega), if_neg (by omega)]
  have h5 : ∀ n, n ≤ nP ν → ∀ τ, Stat ν τ → itS ovrS n τ 183 i = τ 183 i ∧ Stat ν (itS ovrS n τ) := by
    intro n
    induction n with
    | zero => intro _ τ s; exact ⟨rfl, s⟩
    | succ n ih =>
      intro hn τ s
      obtain ⟨e, s'⟩ := ih (by omega) τ s
      have hp : nP (itS ovrS n τ) = nP ν := s'.e_nP
      refine ⟨?_, s'.trans (ovrS_stat (by omega) (by omega) (by omega))⟩
      rw [← e]
      exact ovrS_same (by omega) (by omega) (by omega) (by omega)
  have s1 : Stat ν (itS arrS (nP ν) ν) := Stat.it (fun j τ hj => arrS_stat (by omega) τ)
  have s2 : Stat ν (itS leakS (nP ν) (itS arrS (nP ν) ν)) := s1.trans (Stat.it (fun j τ hj => leakS_stat (by omega) τ))
  obtain ⟨e3, s3⟩ := h3 (nO ν) (Nat.le_refl _) _ s2
  obtain ⟨e4, s4⟩ := h4 (nP ν) (Nat.le_refl _) _ s3
  obtain ⟨e5, s5⟩ := h5 (nP ν) (Nat.le_refl _) _ s4
  have e6 := (movS_it (s5.e_InvK hW.1.1) (s5.e_InvO hW.1.2.1) (nP ν) (by rw [s5.e_nP]; exact Nat.le_refl _)).2.2 i
  unfold goW
  rw [e6, if_neg (by omega), e5, e4, e3, h2 _ (Nat.le_refl _), h1 _ (Nat.le_refl _) _ (Stat.refl ν)]

theorem it191 {f : Nat → Sg → Sg} (h : ∀ j τ, f j τ 191 = τ 191) : ∀ n τ, itS f n τ 191 = τ 191
  | 0, τ => rfl
  | n + 1, τ => by rw [itS_succ, h, it191 h n τ]
theorem goW_191 (ν : Sg) : goW ν 191 = ν 191 := by
  unfold goW
  rw [it191 (f := movS) (fun j τ => by unfold movS; rw [zup_ne (by omega)]),
    it191 (f := ovrS) (fun j τ => by unfold ovrS; split <;> simp (disch := omega) only [zup_ne]),
    it191 (f := pasS) (fun j τ => by
      have hA : pasA j τ 191 = τ 191 := by unfold pasA; simp (disch := omega) only [zup_ne]
      have hB : pasB j τ 191 = τ 191 := by unfold pasB; split <;> simp (disch := omega) only [zup_ne, hA]
      unfold pasS
      split <;> simp (disch := omega) only [zup_ne, hB]),
    it191 (f := takS) (fun j τ => by unfold takS; split <;> simp (disch := omega) only [zup_ne]),
    it191 (f := leakS) (fun j τ => by unfold leakS; simp (disch := omega) only [zup_ne]),
    it191 (f := arrS) (fun j τ => by
      unfold arrS
      rw [zup_ne (by omega), it191 (f := shiftS (40 + 10 * j)) (fun k υ => by unfold shiftS; rw [zup_ne (by omega)])]
      simp (disch := omega) only [zup_ne])]
