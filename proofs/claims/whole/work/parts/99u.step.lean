/-- how the class stands between two steps of an act -/
def StS (τ : Sg) (p1 : Nat) (μ : Sg) (b l : Nat) : Prop := (p1 = 3 ∨ p1 = 29) ∧ τ 0 3 = nI (p1 + 1) ∧ RepK τ p1 μ ∧ RepSc τ μ b l ∧ RepW τ 56 μ ∧ RepLg τ 77 μ ∧ InvW μ ∧ InvWs μ ∧ μ 171 26 = nI 0
theorem StS.next {τ τ2 μ ν : Sg} {p1 b l : Nat} (h : StS τ p1 μ b l) (f : Fr 56 79 τ τ2) (hs : Stat μ ν) (hW : InvW ν) (hst : stp ν ≤ 9999) (h1 : RepW τ2 56 (goS ν)) (h2 : RepLg τ2 77 (goS ν)) (h3 : InvWs (goS ν)) : StS τ2 p1 (goS ν) b l := by
  obtain ⟨hp1, e3, hR, hS, hV, hL, hWμ, hWs, hq⟩ := h
  have sB : StB μ (goS ν) := hs.toB.trans (goS_stB hW)
  refine ⟨hp1, by rw [f 0 (by omega)]; exact e3, (hR.fr f hWμ.1.1.2.2.1.2 (by omega)).stB sB, (hS.fr f hWμ.1.1 (by omega)).stB sB hWμ.1.2.1, h1, h2, ⟨goS_T hW (by omega), ?_⟩, h3, by rw [sB.r171]; exact hq⟩
  obtain ⟨kept, _, _, g, _⟩ := h2
  exact ⟨min kept 40, g, Nat.min_le_right _ _⟩
theorem c_step0 {τ μ : Sg} {p1 b l n j : Nat} (h : StS τ p1 μ b l) (hb : b ≤ stp μ) (hb2 : stp μ + 1 ≤ b + l) (hst : stp μ ≤ 9999) (hj : j < n) (hn : n ≤ 1000) :
    ∃ τ', CK_goSteps_l41 τ (nI n) (nI 0) (nI j) = some (.inl (τ', nI (j + 1))) ∧ Fr 56 79 τ τ' ∧ StS τ' p1 (goS (begS μ)) b l ∧ ∀ a, 72 < a → a < 77 → τ' a = τ a := by
  have hSt := h
  obtain ⟨hp1, e3, hR, hS, hV, hL, hW, hWs, hq⟩ := h
  obtain ⟨hP, hP8⟩ := hW.1.1.1
  have hT2 := hW.1.1.2.2.1.2
  obtain ⟨σ1, a1, a2, a3, a4⟩ := Water_beginStep_ok (w := 56) (by omega) hP8 hV
  have a2' : Fr 56 72 τ σ1 := a2
  have sb := begS_stat μ
  have hIb := begW hW
  have hbs : stp (begS μ) = stp μ := sb.e_stp
  have hbp : nP (begS μ) = nP μ := sb.e_nP
  obtain ⟨τ1, τ2, c1, c2, c3, c4, c5, c6, c7, c8⟩ := tail_ok (τ := σ1) (μ := μ) (ν := begS μ) (b := b) (l := l) hp1 ((hR.fr a2' hT2 (by omega)).stat sb) ((hS.fr a2' hW.1.1 (by omega)).stat sb hW.1.2.1) hIb a3 a4 (fun q hq2 => ((begS_it μ 8).2.2 q (by omega)).2.2.2.1) (by omega) (by omega) (by rw [sb.r171]; exact hq) (by omega) sb hW.1.1 (hR.fr a2' hT2 (by omega)) (fun i _ => by rw [begS_183]) (fun p _ => by rw [begS_183]) (fun p hp => ((begS_it μ 8).2.2 p (by omega)).2.2.1) hWs (hL.fr a2' (by omega))
  have f2 : Fr 56 79 τ τ2 := (a2'.wide (by omega) (by omega)).trans c4
  refine ⟨τ2, ?_, f2, hSt.next f2 sb hIb (by omega) c5 c6 c7, fun a h1 h2 => (c8 a h1 h2).trans (a2' a (by omega))⟩
  have x1 : σ1 0 3 = nI (p1 + 1) := by rw [a2' 0 (by omega), e3]
  have x2 : τ1 0 3 = nI (p1 + 1) := by rw [c2 0 (by omega), x1]
  have x3 : τ p1 3 = nI (nP μ) := hR.1.1.trans hP
  unfold CK_goSteps_l41 CK_goSteps_j41_99
  rw [if_neg (nI_ge hj (by omega)), e3, zmr2_e rfl hp1, zgt_e, x3, a1, obs, if_pos (show nI 0 = 0 from rfl), x1, zmr2_e rfl hp1, c1, obs, x2, zmr2_e rfl hp1, c3, obs, zlt_e, show (1 : Int32) = nI 1 from rfl, nI_add]
def rst (μ : Sg) : Nat → Sg
  | 0 => μ
  | n + 1 => goS (begS (rst μ n))
/-- steps of the class, no rain -/
theorem c_steps0 {τ μ : Sg} {p1 b n : Nat} (h : StS τ p1 μ b n) (hb : b = stp μ) (hst : stp μ + n ≤ 9999) (hn : n ≤ 1000) :
    ∃ τ', zit (fun (s : (Sg × Int32)) => CK_goSteps_l41 s.1 (nI n) (nI 0) s.2) zFU (τ, nI 0) = some (τ', nI n) ∧ Fr 56 79 τ τ' ∧ StS τ' p1 (rst μ n) b n ∧ stp (rst μ n) = stp μ + n ∧ ∀ a, 72 < a → a < 77 → τ' a = τ a := by
  have hl := zit_cnt (b := fun (s : (Sg × Int32)) => CK_goSteps_l41 s.1 (nI n) (nI 0) s.2) (fun j υ => Fr 56 79 τ υ ∧ StS υ p1 (rst μ j) b n ∧ stp (rst μ j) = stp μ + j ∧ ∀ a, 72 < a → a < 77 → υ a = τ a) nI n (σ := τ) (by omega)
    ⟨Fr.refl τ, h, rfl, fun _ _ _ => rfl⟩ (by
    rintro j υ hj ⟨i1, i2, i3, i4⟩
    obtain ⟨τ', d1, d2, d3, d4⟩ := c_step0 (n := n) (j := j) i2 (by omega) (by omega) (by omega) hj hn
    refine ⟨τ', d1, i1.trans d2, d3, ?_, fun a h1 h2 => (d4 a h1 h2).trans (i4 a h1 h2)⟩
    show stp (goS (begS (rst μ j))) = _
    rw [goS_stp (begW i2.2.2.2.2.2.2.1), (begS_stat (rst μ j)).e_stp, i3]
    rfl) (by
    intro υ _
    show CK_goSteps_l41 υ (nI n) (nI 0) (nI n) = _
    unfold CK_goSteps_l41
    rw [if_pos (nI_le (Nat.le_refl _) (by omega))])
  obtain ⟨τ', e, i1, i2, i3, i4⟩ := hl
  exact ⟨τ', e, i1, i2, i3, i4⟩
/-- the reference's steps, no rain -/
theorem m_steps0 {μ : Sg} {n : Nat} (hn : n ≤ 1000) (hW : ∀ j, j < n → InvW (rst μ j)) : zit (fun (s : (Sg × Int32)) => M_steps_l45 s.1 (nI n) s.2) zFU (μ, nI 0) = some (rst μ n, nI n) := by
  refine zit_eq (b := fun (s : (Sg × Int32)) => M_steps_l45 s.1 (nI n) s.2) (fun j => (rst μ j, nI j)) _ n 0 (by omega) ?_ ?_ zFU 0 (by rw [zFU_e]; omega) (by omega) (by omega)
  · intro j _ hj
    show M_steps_l45 (rst μ j) (nI n) (nI j) = _
    unfold M_steps_l45
    rw [if_neg (nI_ge hj (by omega)), M_stepsOn_e (hW j hj), obs, zlt_e, show (1 : Int32) = nI 1 from rfl, nI_add]
    rfl
  · show M_steps_l45 (rst μ n) (nI n) (nI n) = _
    unfold M_steps_l45
    rw [if_pos (nI_le (Nat.le_refl _) (by omega))]
