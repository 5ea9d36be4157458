/-! steps with rain, one after the other; the acts steps and chance -/
theorem chS_all {μ : Sg} {g : Nat} (hW : InvW μ) (hR : InvR μ) (hz : Zr μ) (hh : Zhi μ) (hP0 : 0 < nP μ) (hst : stp μ ≤ 9999) :
    InvW (chS μ g) ∧ stp (chS μ g) = stp μ + 1 ∧ StB (sdS μ g) (chS μ g) ∧ InvR (chS μ g) ∧ Zr (chS μ g) ∧ Zhi (chS μ g) := by
  have me := sdS_M μ g
  have hP8 := hW.1.1.1.2
  have hO10 := hW.1.1.2.1.2
  have st := rnB_stat (g := g) hP8 hP0
  have hWν := rnB_W (g := g) hW hP0
  have eP : nP (rnB μ g) = nP μ := st.e_nP.trans me.e_nP
  have eO : nO (rnB μ g) = nO μ := st.e_nO.trans me.e_nO
  have eT : tl (rnB μ g) = tl μ := st.e_tl.trans me.e_tl
  have eS : stp (rnB μ g) = stp μ := st.e_stp.trans me.e_stp
  have hi : ∀ i, 8 ≤ i → i ≠ 204 → rnB μ g 183 i = μ 183 i := fun i h1 h2 => rnB_hi hP8 hP0 h1 h2
  have hqP : rnP μ g < nP μ := Nat.mod_lt _ hP0
  have hr : rnR g < 20 := Nat.mod_lt _ (by omega)
  have hb183 : begS (sdS μ g) 183 = μ 183 := by rw [begS_183]; exact me.2.2
  have hF : InvF (rnB μ g) := by
    refine ⟨fun p hp => ?_, fun p hp k hk => ?_, fun p hp k hk hk2 => ?_, fun p hp => ?_, ?_⟩
    · rw [eP] at hp
      obtain ⟨v, hv, hv2⟩ := (hR.1 p hp).1
      by_cases e : p = rnP μ g
      · refine ⟨v + rnR g, ?_, by dsimp only; omega⟩
        rw [e]
        unfold rnB
        rw [rnS_p (by omega), hb183, ← e, hv, nI_add]
      · refine ⟨v, ?_, by dsimp only; omega⟩
        unfold rnB
        rw [rnS_at e (by omega), hb183, hv]
    · rw [eP] at hp
      rw [hi _ (by omega) (by omega)]
      exact (hR.1 p hp).2.2.2.2 k hk
    · rw [eP] at hp
      rw [eT] at hk
      rw [hi _ (by omega) (by omega)]
      exact hz p hp k hk hk2
    · rw [eP] at hp
      rw [hi _ (by omega) (by omega), hi _ (by omega) (by omega), eT]
      exact ⟨(hR.1 p hp).2.1, (hR.1 p hp).2.2.2.1⟩
    · rw [hi _ (by omega) (by omega)]
      exact hR.2.1
  obtain ⟨g1, g2, _⟩ := goS_range hWν hF (fun p hp => by rw [eP] at hp; rw [hi _ (by omega) (by omega), eT]; exact (hR.1 p hp).2.2.1) (fun o ho => by rw [eO] at ho; rw [hi _ (by omega) (by omega), eS]; exact hR.2.2 o ho)
  have sB : StB (sdS μ g) (chS μ g) := st.toB.trans (goS_stB hWν)
  refine ⟨goS_W hWν (by omega), ?_, sB, g1, fun p hp k hk hk2 => ?_, fun k hk => ?_⟩
  · show stp (goS (rnB μ g)) = _
    rw [goS_stp hWν, eS]
  · have e2 : nP (chS μ g) = nP (rnB μ g) := sB.e_nP.trans (me.e_nP.trans eP.symm)
    have e3 : tl (chS μ g) = tl (rnB μ g) := sB.e_tl.trans (me.e_tl.trans eT.symm)
    rw [e2] at hp
    rw [e3] at hk
    exact g2 p hp k hk hk2
  · show goS (rnB μ g) 183 k = 0
    rw [goS_hi hWν hk, hi _ (by omega) (by omega)]
    exact hh k hk
def chR (μ : Sg) (g : Nat) : Nat → Sg × Nat
  | 0 => (μ, g)
  | n + 1 => (chS (chR μ g n).1 (chR μ g n).2, nxD (nxD (chR μ g n).2))
theorem chR_s (μ : Sg) (g n : Nat) : chR μ g (n + 1) = (chS (chR μ g n).1 (chR μ g n).2, nxD (nxD (chR μ g n).2)) := rfl
/-- what steps leave of the reference's rows -/
def FrT (μ ν : Sg) : Prop := (∀ a, a ≠ 171 → a ≠ 183 → a < 189 ∨ 193 < a → ν a = μ a) ∧ (∀ k, k ≠ 24 → ν 171 k = μ 171 k) ∧ ∀ k, (148 ≤ k ∧ k < 196) ∨ (197 ≤ k ∧ k < 200) → ν 183 k = μ 183 k
theorem StB.toT {μ ν : Sg} (h : StB μ ν) : FrT μ ν := ⟨fun a _ h2 h3 => h.1 a h2 (by omega) (by omega) (by omega) (by omega) (by omega), fun k _ => by rw [h.r171], fun k hk => h.2 k (by omega)⟩
theorem FrT.trans {σ τ υ : Sg} (h : FrT σ τ) (g : FrT τ υ) : FrT σ υ := ⟨fun a h1 h2 h3 => (g.1 a h1 h2 h3).trans (h.1 a h1 h2 h3), fun k hk => (g.2.1 k hk).trans (h.2.1 k hk), fun k hk => (g.2.2 k hk).trans (h.2.2 k hk)⟩
theorem chR_all {μ : Sg} {g : Nat} (hW : InvW μ) (hR : InvR μ) (hz : Zr μ) (hh : Zhi μ) (hP0 : 0 < nP μ) (h24 : μ 171 24 = nI g) (hg : g < 2147483648) : ∀ n, stp μ + n ≤ 10000 →
    InvW (chR μ g n).1 ∧ stp (chR μ g n).1 = stp μ + n ∧ FrT μ (chR μ g n).1 ∧ InvR (chR μ g n).1 ∧ Zr (chR μ g n).1 ∧ Zhi (chR μ g n).1 ∧ (chR μ g n).1 171 24 = nI (chR μ g n).2 ∧ (chR μ g n).2 < 2147483648 ∧ nP (chR μ g n).1 = nP μ
  | 0, _ => ⟨hW, rfl, ⟨fun _ _ _ _ => rfl, fun _ _ => rfl, fun _ _ => rfl⟩, hR, hz, hh, h24, hg, rfl⟩
  | n + 1, hn => by
    obtain ⟨i1, i2, i3, i4, i5, i6, i7, i8, i9⟩ := chR_all hW hR hz hh hP0 h24 hg n (by omega)
    obtain ⟨j1, j2, j3, j4, j5, j6⟩ := chS_all (g := (chR μ g n).2) i1 i4 i5 i6 (by omega) (by omega)
    rw [chR_s]
    refine ⟨j1, by dsimp only; omega, i3.trans (FrT.trans ⟨fun a h1 _ _ => zup_ne h1, fun k hk => zup_miss hk, fun k _ => congrFun (zup_ne (by omega)) k⟩ j3.toT), j4, j5, j6, ?_, nxD_lt _, ?_⟩
    · show chS (chR μ g n).1 (chR μ g n).2 171 24 = nI (nxD (nxD (chR μ g n).2))
      rw [j3.r171]
      exact zup_hit
    · rw [← i9]
      exact j3.e_nP.trans (sdS_M _ _).e_nP
theorem rst_T {μ : Sg} (hW : InvW μ) : ∀ n, stp μ + n ≤ 10000 → FrT μ (rst μ n)
  | 0, _ => ⟨fun _ _ _ _ => rfl, fun _ _ => rfl, fun _ _ => rfl⟩
  | n + 1, hn => by
    have hw := (rst_W hW n (by omega)).1
    exact (rst_T hW n (by omega)).trans ((begS_stat _).toB.trans (goS_stB (begW hw))).toT
/-- steps of the class, with rain -/
theorem c_steps1 {τ μ : Sg} {p1 b n g : Nat} (h : StS τ p1 μ b n) (h14 : τ 0 14 = nI g) (hR : InvR μ) (hz : Zr μ) (hh : Zhi μ) (hP0 : 0 < nP μ) (h24 : μ 171 24 = nI g) (hg : g < 2147483648) (hb : b = stp μ) (hst : stp μ + n ≤ 9999) (hn : n ≤ 1000) :
    ∃ τ', zit (fun (s : (Sg × Int32)) => CK_goSteps_l41 s.1 (nI n) (nI 1) s.2) zFU (τ, nI 0) = some (τ', nI n) ∧ FrD τ τ' ∧ StS τ' p1 (chR μ g n).1 b n ∧ τ' 0 14 = nI (chR μ g n).2 := by
  have al := chR_all h.2.2.2.2.2.2.1 hR hz hh hP0 h24 hg
  have hl := zit_cnt (b := fun (s : (Sg × Int32)) => CK_goSteps_l41 s.1 (nI n) (nI 1) s.2) (fun j υ => FrD τ υ ∧ StS υ p1 (chR μ g j).1 b n ∧ υ 0 14 = nI (chR μ g j).2) nI n (σ := τ) (by omega)
    ⟨FrD.refl τ, h, h14⟩ (by
    rintro j υ hj ⟨i1, i2, i3⟩
    obtain ⟨_, a2, _, _, _, _, _, a8, a9⟩ := al j (by omega)
    obtain ⟨τ', d1, d2, d3, d4⟩ := c_step1 (n := n) (j := j) i2 i3 a8 (by omega) (by omega) (by omega) (by omega) hj hn
    exact ⟨τ', d1, i1.trans d2, d4, d3⟩) (by
    intro υ _
    show CK_goSteps_l41 υ (nI n) (nI 1) (nI n) = _
    unfold CK_goSteps_l41
    rw [if_pos (nI_le (Nat.le_refl _) (by omega))])
  obtain ⟨τ', e, i1, i2, i3⟩ := hl
  exact ⟨τ', e, i1, i2, i3⟩
theorem m_steps1 {μ : Sg} {n g : Nat} (hW : InvW μ) (hR : InvR μ) (hz : Zr μ) (hh : Zhi μ) (hP0 : 0 < nP μ) (h24 : μ 171 24 = nI g) (hg : g < 2147483648) (hst : stp μ + n ≤ 9999) (hn : n ≤ 1000) : zit (fun (s : (Sg × Int32)) => M_chance_l45 s.1 (nI n) s.2) zFU (μ, nI 0) = some ((chR μ g n).1, nI n) := by
  have al := chR_all hW hR hz hh hP0 h24 hg
  refine zit_eq (b := fun (s : (Sg × Int32)) => M_chance_l45 s.1 (nI n) s.2) (fun j => ((chR μ g j).1, nI j)) _ n 0 (by omega) ?_ ?_ zFU 0 (by rw [zFU_e]; omega) (by omega) (by omega)
  · intro j _ hj
    obtain ⟨a1, a2, _, _, _, _, a7, a8, a9⟩ := al j (by omega)
    show M_chance_l45 (chR μ g j).1 (nI n) (nI j) = _
    rw [m_step1 a1 a7 a8 (by omega) hj hn, chR_s]
  · show M_chance_l45 (chR μ g n).1 (nI n) (nI n) = _
    unfold M_chance_l45
    rw [if_pos (nI_le (Nat.le_refl _) (by omega))]
