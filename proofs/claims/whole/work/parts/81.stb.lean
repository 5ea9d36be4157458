/-! static but for the step's count -/
def StB (σ σ' : Sg) : Prop := (∀ a, a ≠ 183 → a ≠ 189 → a ≠ 190 → a ≠ 191 → a ≠ 192 → a ≠ 193 → σ' a = σ a) ∧ ∀ k, (16 ≤ k ∧ k < 32) ∨ (148 ≤ k ∧ k < 196) ∨ (197 ≤ k ∧ k < 200) → σ' 183 k = σ 183 k
theorem StB.refl (σ : Sg) : StB σ σ := ⟨fun _ _ _ _ _ _ _ => rfl, fun _ _ => rfl⟩
theorem StB.trans {σ τ υ : Sg} (h : StB σ τ) (g : StB τ υ) : StB σ υ := ⟨fun a h1 h2 h3 h4 h5 h6 => (g.1 a h1 h2 h3 h4 h5 h6).trans (h.1 a h1 h2 h3 h4 h5 h6), fun k hk => (g.2 k hk).trans (h.2 k hk)⟩
theorem Stat.toB {σ τ : Sg} (h : Stat σ τ) : StB σ τ := ⟨h.1, fun k hk => h.2 k (by omega)⟩
theorem StB.bump (σ : Sg) : StB σ (zup σ 183 196 (σ 183 196 + 1)) := ⟨fun a h _ _ _ _ _ => zup_ne h, fun k hk => zup_miss (by omega)⟩
theorem StB.e_nP {σ τ : Sg} (h : StB σ τ) : nP τ = nP σ := by unfold nP; rw [h.1 171 (by decide) (by decide) (by decide) (by decide) (by decide) (by decide)]
theorem StB.e_nO {σ τ : Sg} (h : StB σ τ) : nO τ = nO σ := by unfold nO; rw [h.1 171 (by decide) (by decide) (by decide) (by decide) (by decide) (by decide)]
theorem StB.e_nT {σ τ : Sg} (h : StB σ τ) : nT τ = nT σ := by unfold nT; rw [h.1 171 (by decide) (by decide) (by decide) (by decide) (by decide) (by decide)]
theorem StB.e_tl {σ τ : Sg} (h : StB σ τ) : tl τ = tl σ := by funext p j; unfold tl; rw [h.1 172 (by decide) (by decide) (by decide) (by decide) (by decide) (by decide)]
theorem StB.e_opl {σ τ : Sg} (h : StB σ τ) : opl τ = opl σ := by funext p; unfold opl; rw [h.1 173 (by decide) (by decide) (by decide) (by decide) (by decide) (by decide)]
theorem StB.e_tk {σ τ : Sg} (h : StB σ τ) : tk τ = tk σ := by funext p; unfold tk; rw [h.1 173 (by decide) (by decide) (by decide) (by decide) (by decide) (by decide)]
theorem StB.e_ev {σ τ : Sg} (h : StB σ τ) : ev τ = ev σ := by funext p; unfold ev; rw [h.1 174 (by decide) (by decide) (by decide) (by decide) (by decide) (by decide)]
theorem StB.e_sz {σ τ : Sg} (h : StB σ τ) : sz τ = sz σ := by funext p; unfold sz; rw [h.1 174 (by decide) (by decide) (by decide) (by decide) (by decide) (by decide)]
theorem StB.e_nC {σ τ : Sg} (h : StB σ τ) : nC τ = nC σ := by unfold nC; rw [h.2 199 (by omega)]
theorem StB.r171 {σ τ : Sg} (h : StB σ τ) : τ 171 = σ 171 := h.1 171 (by decide) (by decide) (by decide) (by decide) (by decide) (by decide)
theorem StB.r172 {σ τ : Sg} (h : StB σ τ) : τ 172 = σ 172 := h.1 172 (by decide) (by decide) (by decide) (by decide) (by decide) (by decide)
theorem StB.r173 {σ τ : Sg} (h : StB σ τ) : τ 173 = σ 173 := h.1 173 (by decide) (by decide) (by decide) (by decide) (by decide) (by decide)
theorem StB.r174 {σ τ : Sg} (h : StB σ τ) : τ 174 = σ 174 := h.1 174 (by decide) (by decide) (by decide) (by decide) (by decide) (by decide)
theorem StB.e_InvK {σ τ : Sg} (h : StB σ τ) (hK : InvK σ) : InvK τ := by
  unfold InvK at hK ⊢
  rw [h.e_nP, h.e_nO, h.e_nT, h.e_tl, h.e_opl, h.e_tk, h.e_ev, h.e_sz, h.r171, h.r172, h.r173, h.r174]
  exact hK
theorem StB.e_oo {σ τ : Sg} (h : StB σ τ) {k : Nat} (hk : k < 16) : oo τ k = oo σ k := by unfold oo; rw [h.2 _ (by omega)]
theorem StB.e_ofr {σ τ : Sg} (h : StB σ τ) {k : Nat} (hk : k < 16) : ofr τ k = ofr σ k := by unfold ofr; rw [h.2 _ (by omega)]
theorem StB.e_oma {σ τ : Sg} (h : StB σ τ) {k : Nat} (hk : k < 16) : oma τ k = oma σ k := by unfold oma; rw [h.2 _ (by omega)]
theorem StB.e_InvO {σ τ : Sg} (h : StB σ τ) (hO : InvO σ) : InvO τ := by
  obtain ⟨h1, h2, h3⟩ := hO
  unfold InvO
  rw [h.e_nC, h.2 199 (by omega), h.e_nO]
  refine ⟨h1, h2, fun k hk => ?_⟩
  rw [h.e_oo (by omega), h.e_ofr (by omega), h.e_oma (by omega), h.2 _ (by omega), h.2 _ (by omega), h.2 _ (by omega)]
  exact h3 k hk
theorem StB.e_opn {σ τ : Sg} (h : StB σ τ) (hO : InvO σ) (o t : Nat) : opn τ o t = opn σ o t := by
  have h16 := hO.2.1
  unfold opn
  rw [h.e_nC, h.e_nT]
  congr 1
  · refine anyB_congr (fun j hj => ?_)
    unfold opO
    rw [h.e_oo (by omega), h.e_ofr (by omega), h.e_oma (by omega)]
  · refine anyB_congr (fun j hj => ?_)
    unfold opT
    rw [h.e_ev, h.e_sz, h.r174]
theorem StB.e_nd {σ τ : Sg} (h : StB σ τ) (g : Nat) : ∀ j : Nat, nd τ g j = nd σ g j
  | 0 => rfl
  | j + 1 => by rw [nd_succ, nd_succ, StB.e_nd h g j, h.e_tl]
theorem StB.e_ldS {σ τ : Sg} (h : StB σ τ) (hK : InvK σ) (hO : InvO σ) (g t : Nat) : ldS τ g t = ldS σ g t := by
  have hP := hK.1.2
  unfold ldS ldL ldD
  rw [h.e_nP, h.e_nO]
  congr 1
  · refine sm_congr (fun i hi => ?_)
    rw [h.2 _ (by omega)]
  · refine sm_congr (fun i hi => ?_)
    rw [h.e_opl, h.e_nd, h.e_opn hO, h.r173]
theorem StB.e_mid {σ τ : Sg} (h : StB σ τ) (p : Nat) : mid τ p = mid σ p := by unfold mid; rw [h.r172]
theorem StB.e_hld {σ τ : Sg} (h : StB σ τ) (p : Nat) (x : Int32) : hld τ p x = hld σ p x := by unfold hld; rw [h.r172]
theorem RepK.stB {σ μ ν : Sg} {p1 : Nat} (s : StB μ ν) (h : RepK σ p1 μ) : RepK σ p1 ν := by
  obtain ⟨h1, h2, h3, h4⟩ := h
  refine ⟨?_, ?_, ?_, ?_⟩
  · rw [s.r171]; exact h1
  · intro p hp; rw [s.e_nP] at hp; rw [s.r172, s.e_mid]; exact h2 p hp
  · intro o ho; rw [s.e_nO] at ho; rw [s.r173]; exact h3 o ho
  · intro t ht; rw [s.e_nT] at ht; rw [s.r174, s.e_sz]; exact h4 t ht
theorem RepOr.stB {σ μ ν : Sg} {w : Nat} (s : StB μ ν) (hC : nC μ ≤ 16) (h : RepOr σ w μ) : RepOr σ w ν := by
  obtain ⟨h1, h2⟩ := h
  refine ⟨?_, ?_⟩
  · rw [s.2 199 (by omega)]; exact h1
  · intro k hk
    rw [s.e_nC] at hk
    rw [s.2 _ (by omega), s.2 _ (by omega), s.2 _ (by omega)]
    exact h2 k hk
theorem RepSc.stB {σ μ ν : Sg} {b l : Nat} (s : StB μ ν) (hO : InvO μ) (h : RepSc σ μ b l) : RepSc σ ν b l := by
  obtain ⟨h1, h2, h3⟩ := h
  have hl : ∀ g t, ldD ν g t = ldD μ g t := by
    intro g t
    unfold ldD
    rw [s.e_nO]
    refine sm_congr (fun i hi => ?_)
    rw [s.e_opl, s.e_nd, s.e_opn hO, s.r173]
  refine ⟨?_, ?_, ?_⟩
  · rw [s.e_nd, s.e_nP]; exact h1
  · intro o ho i hi
    rw [s.e_nO] at ho
    rw [s.e_nd, s.e_nP] at hi
    rw [s.e_opn hO]
    exact h2 o ho i hi
  · intro g hg i hi
    rw [s.e_nP] at hg
    rw [hl]
    exact h3 g hg i hi
theorem goQ_stat {ν : Sg} (hW : InvW ν) : Stat ν (goQ ν) := (M_goes_e hW).2.trans (goQ_keep hW.1.1.1.2).1
theorem goS_stB {ν : Sg} (hW : InvW ν) : StB ν (goS ν) := (goQ_stat hW).toB.trans (StB.bump _)
theorem goS_step {ν : Sg} (hW : InvW ν) : goS ν 183 196 = nI (stp ν + 1) := by
  rw [goS_e]
  unfold bump
  rw [zup_hit, (goQ_stat hW).2 196 (by omega), hW.1.2.2.1.1]
  exact nI_1 _
theorem goS_stp {ν : Sg} (hW : InvW ν) : stp (goS ν) = stp ν + 1 := by
  have h2 := hW.1.2.2.1.2
  show (goS ν 183 196).toNatClampNeg = _
  rw [goS_step hW, nI_clamp (by omega)]
theorem goS_T {ν : Sg} (hW : InvW ν) (hs : stp ν + 1 ≤ 20000) : InvT (goS ν) := by
  have s := goS_stB hW
  obtain ⟨hK, hO, _, g, hg, hg1, hg2⟩ := hW.1
  refine ⟨s.e_InvK hK, s.e_InvO hO, ?_, g, ?_, hg1, hg2⟩
  · rw [goS_stp hW, goS_step hW]
    exact ⟨rfl, hs⟩
  · rw [s.2 198 (by omega), hg]
theorem watS_205 {σ : Sg} (hq : ¬ σ 171 26 = 0) {p : Nat} (hp : p < 8) : watS p σ 183 205 = σ 183 205 ∧ watS p σ 171 = σ 171 ∧ watS p σ = watQ p σ := by
  unfold watS
  rw [if_neg hq]
  unfold watQ
  exact ⟨zup_miss (by omega), zup_ne (by omega), rfl⟩
theorem goW_205 {ν : Sg} (hW : InvW ν) : goW ν 183 205 = ν 183 205 ∧ ∀ i, 205 ≤ i → goW ν 183 i = ν 183 i := by
  have key : ∀ i, 205 ≤ i → goW ν 183 i = ν 183 i := by
    intro i hi
    have hP8 := hW.1.1.1.2
    have hO10 := hW.1.1.2.1.2
    have h1 : ∀ n, n ≤ nP ν → ∀ τ, Stat ν τ → itS arrS n τ 183 i = τ 183 i := by
      intro n
      induction n with
      | zero => intro _ τ _; rfl
      | succ n ih => intro hn τ s; rw [itS_succ, arrS_miss (by omega) (by omega) (by omega), ih (by omega) τ s]
    have h2 : ∀ n, n ≤ nP ν → ∀ τ, itS leakS n τ 183 i = τ 183 i := by
      intro n
      induction n with
      | zero => intro _ τ; rfl
      | succ n ih => intro hn τ; rw [itS_succ]; show leakS n _ 183 i = _; rw [show leakS n (itS leakS n τ) 183 i = itS leakS n τ 183 i from by unfold leakS; rw [zup_miss (by omega), zup_miss (by omega)], ih (by omega) τ]
    have h3 : ∀ n, n ≤ nO ν → ∀ τ, Stat ν τ → itS takS n τ 183 i = τ 183 i ∧ Stat ν (itS takS n τ) := by
      intro n
      induction n with
      | zero => intro _ τ s; exact ⟨rfl, s⟩
      | succ n ih =>
        intro hn τ s
        obtain ⟨e, s'⟩ := ih (by omega) τ s
        have hp : opl (itS takS n τ) n < 8 := by
          rw [s'.e_opl]
          have := (hW.1.1.2.2.2.2.2.1 n (by omega)).2.1
          omega
        refine ⟨?_, s'.trans (takS_stat (by omega) hp)⟩
        rw [← e]
        show takS n (itS takS n τ) 183 i = _
        generalize itS takS n τ = υ at hp
        unfold takS
        split
        · simp (disch := omega) only [zup_ne, zup_miss]
        · rfl
    have h4 : ∀ n, n ≤ nP ν → ∀ τ, Stat ν τ → itS pasS n τ 183 i = τ 183 i ∧ Stat ν (itS pasS n τ) := by
      intro n
      induction n with
      | zero => intro _ τ s; exact ⟨rfl, s⟩
      | succ n ih =>
        intro hn τ s
        obtain ⟨e, s'⟩ := ih (by omega) τ s
        have hd : tl (itS pasS n τ) n 3 ≤ 9 := by rw [s'.e_tl]; exact (hW.1.1.2.2.2.2.1 n (by omega)).1
        refine ⟨?_, s'.trans (pasS_stat (by omega) hd)⟩
        rw [← e]
        show pasS n (itS pasS n τ) 183 i = _
        rw [pasS_at (by omega) hd, if_neg (by omega), if_neg (by omega), if_neg (by omega), if_neg (by omega), if_neg (by omega)]
    have h5 : ∀ n, n ≤ nP ν → ∀ τ, Stat ν τ → itS ovrS n τ 183 i = τ 183 i ∧ Stat ν (itS ovrS n τ) := by
      intro n
      induction n with
      | zero => intro _ τ s; exact ⟨rfl, s⟩
      | succ n ih =>
        intro hn τ s
        obtain ⟨e, s'⟩ := ih (by omega) τ s
        have hp : nP (itS ovrS n τ) = nP ν := s'.e_nP
        refine ⟨?_, s'.trans (ovrS_stat (by omega) (by omega) (by omega))⟩
        rw [← e]
        exact ovrS_same (by omega) (by omega) (by omega) (by omega)
    have s1 : Stat ν (itS arrS (nP ν) ν) := Stat.it (fun j τ hj => arrS_stat (by omega) τ)
    have s2 : Stat ν (itS leakS (nP ν) (itS arrS (nP ν) ν)) := s1.trans (Stat.it (fun j τ hj => leakS_stat (by omega) τ))
    obtain ⟨e3, s3⟩ := h3 (nO ν) (Nat.le_refl _) _ s2
    obtain ⟨e4, s4⟩ := h4 (nP ν) (Nat.le_refl _) _ s3
    obtain ⟨e5, s5⟩ := h5 (nP ν) (Nat.le_refl _) _ s4
    have e6 := (movS_it (s5.e_InvK hW.1.1) (s5.e_InvO hW.1.2.1) (nP ν) (by rw [s5.e_nP]; exact Nat.le_refl _)).2.2 i
    unfold goW
    rw [e6, if_neg (by omega), e5, e4, e3, h2 _ (Nat.le_refl _), h1 _ (Nat.le_refl _) _ (Stat.refl ν)]
  exact ⟨key 205 (Nat.le_refl _), key⟩
