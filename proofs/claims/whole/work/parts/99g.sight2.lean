theorem c_findFits {σ : Sg} {p1 R q : Nat} {s : Nat → Nat} (hB : Base σ p1) (hg : Gain σ) (hS : Seen σ R q s) (hR : 0 < R) :
    ∃ τ, Sight_findFits σ p1 55 = some τ ∧ FrS σ τ ∧ τ 124 4 = nI (nct (fitL σ q R s) 41) ∧ ∀ i, i < 41 → fitL σ q R s i = true → τ 127 (nct (fitL σ q R s) i) = nI i ∧ ∀ k, 1 ≤ k → k ≤ 40 → τ (129 + nct (fitL σ q R s) i) k = volL σ q i k := by
  have hW := base_W hB hg
  have hK := hW.1.1
  have hP8 := hK.1.2
  have hKq := (quiet_M σ).e_InvK hK
  obtain ⟨hR10, h0, _, hS4⟩ := hS
  obtain ⟨hq, hq1, _, hS5⟩ := hS4 hR
  obtain ⟨σ1, a1, a2, a3, _⟩ := c_look hB hg (n := 40) (by omega)
  have s0 : SgS σ (zup σ1 124 4 (nI 0)) p1 := ⟨((FrS.refl σ).fr a2 (by omega)).up4, a3.far hKq ((Fr.refl σ1).up (lo := 124) (hi := 124) (by omega) (by omega)) (by omega)⟩
  have hl := zit_cnt (b := fun (s : (Sg × Int32)) => Sight_findFits_l16 s.1 s.2) (fun l τ => SgS σ τ p1 ∧ τ 124 4 = nI (nct (fitL σ q R s) l) ∧ ∀ i, i < l → fitL σ q R s i = true → τ 127 (nct (fitL σ q R s) i) = nI i ∧ ∀ k, 1 ≤ k → k ≤ 40 → τ (129 + nct (fitL σ q R s) i) k = volL σ q i k) nI 41 (σ := zup σ1 124 4 (nI 0)) (by omega)
    ⟨s0, zup_hit, fun i h => absurd h (by omega)⟩ (by
    rintro l τ hl ⟨i1, i2, i3⟩
    have hn := nct_le (fitL σ q R s) l
    obtain ⟨τ0, υ, b1, b2, b3, b4, b5, b6⟩ := fits_in (l := l) hB hg hq (by omega) i1 i2 hq1
    have as := isAsSeen_ok (τ := υ) (a := 129 + nct (fitL σ q R s) l) (R := R) (s := s) (v := fun j => volL σ q l (s j)) (w := σ 126) hR10 (by rw [b3.1.2 0 (by omega), h0]) (by
      intro j hj
      obtain ⟨d1, _, d3, d4, _⟩ := hS5 j hj
      exact ⟨by rw [b3.1.1 125 (by omega) (by omega), d1], d4, b5 _ d3 d4, by rw [b3.1.1 126 (by omega) (by omega)]⟩)
    have as' : Sight_isAsSeen υ (129 + nct (fitL σ q R s) l) 41 = some (fitL σ q R s l) := as
    have e4 : υ 124 4 = nI (nct (fitL σ q R s) l) := by rw [b4 124 (by omega) (by omega), i2]
    have old : ∀ i, i < l → fitL σ q R s i = true → υ 127 (nct (fitL σ q R s) i) = nI i ∧ ∀ k, 1 ≤ k → k ≤ 40 → υ (129 + nct (fitL σ q R s) i) k = volL σ q i k := by
      intro i hi hf
      have hlt := nct_lt hi hf
      obtain ⟨o1, o2⟩ := i3 i hi hf
      refine ⟨by rw [b4 127 (by omega) (by omega)]; exact o1, fun k h1 h2 => ?_⟩
      rw [b4 _ (by omega) (by omega)]
      exact o2 k h1 h2
    by_cases cf : fitL σ q R s l = true
    · rw [cf] at as'
      refine ⟨zup (zup υ 127 (nct (fitL σ q R s) l) (nI l)) 124 4 (nI (nct (fitL σ q R s) l + 1)), ?_, ⟨?_, ?_⟩, ?_, ?_⟩
      · show Sight_findFits_l16 τ (nI l) = _
        unfold Sight_findFits_l16 Sight_findFits_j16_85
        simp (disch := omega) only [zgt_e, zpt_e, zlt_e, zrd_e, zwr_e, zelr_e, znz_e, zcp_e, zlit, nI_add, nI_mul, nI_sub, nI_div, ↓irem_f, irem_e, Nat.zero_add, Nat.add_zero, obs, zb_t, zb_f, nI_eqt, nI_eqf, nI_let, nI_lef, nI_ltt, nI_ltf, nI_m1, nI_n1, ↓reduceIte, zup_ne, zup_miss, zup_hit, zbo_1, zbo_0, reduceCtorEq, sel_l, sel_r, Nat.reduceAdd, Nat.reduceSub, Nat.reduceMul, b1, b6, b2, e4, as']
      · exact (b3.1.fr (lo := 127) (hi := 127) ((Fr.refl υ).up (by omega) (by omega)) (by omega)).up4
      · exact b3.2.far (lo := 124) (hi := 127) hKq (((Fr.refl υ).up (by omega) (by omega)).up (by omega) (by omega)) (by omega)
      · rw [zup_hit, nct_t cf]
      · intro i hi hf
        by_cases ci : i = l
        · subst ci
          refine ⟨by rw [zup_ne (by omega), zup_hit], fun k h1 h2 => ?_⟩
          rw [zup_ne (by omega), zup_ne (by omega)]
          exact b5 k h1 h2
        · have hlt := nct_lt (show i < l by omega) hf
          obtain ⟨o1, o2⟩ := old i (by omega) hf
          refine ⟨by rw [zup_ne (by omega), zup_miss (by omega)]; exact o1, fun k h1 h2 => ?_⟩
          rw [zup_ne (by omega), zup_ne (by omega)]
          exact o2 k h1 h2
    · have cf' : fitL σ q R s l = false := by simpa using cf
      rw [cf'] at as'
      refine ⟨υ, ?_, b3, ?_, ?_⟩
      · show Sight_findFits_l16 τ (nI l) = _
        unfold Sight_findFits_l16 Sight_findFits_j16_85
        simp (disch := omega) only [zgt_e, zpt_e, zlt_e, zrd_e, zwr_e, zelr_e, znz_e, zcp_e, zlit, nI_add, nI_mul, nI_sub, nI_div, ↓irem_f, irem_e, Nat.zero_add, Nat.add_zero, obs, zb_t, zb_f, nI_eqt, nI_eqf, nI_let, nI_lef, nI_ltt, nI_ltf, nI_m1, nI_n1, ↓reduceIte, zup_ne, zup_miss, zup_hit, zbo_1, zbo_0, reduceCtorEq, sel_l, sel_r, Nat.reduceAdd, Nat.reduceSub, Nat.reduceMul, b1, b6, b2, e4, as']
      · rw [nct_f cf']; exact e4
      · intro i hi hf
        by_cases ci : i = l
        · subst ci
          exact absurd hf cf
        · exact old i (by omega) hf) (by
    intro τ _
    show Sight_findFits_l16 τ (nI 41) = _
    unfold Sight_findFits_l16
    simp (disch := omega) only [zgt_e, zpt_e, zlt_e, zrd_e, zwr_e, zelr_e, znz_e, zcp_e, zlit, nI_add, nI_mul, nI_sub, nI_div, ↓irem_f, irem_e, Nat.zero_add, Nat.add_zero, obs, zb_t, zb_f, nI_eqt, nI_eqf, nI_let, nI_lef, nI_ltt, nI_ltf, nI_m1, nI_n1, ↓reduceIte, zup_ne, zup_miss, zup_hit, zbo_1, zbo_0, reduceCtorEq, sel_l, sel_r, Nat.reduceAdd, Nat.reduceSub, Nat.reduceMul])
  obtain ⟨τ, e, i1, i2, i3⟩ := hl
  refine ⟨τ, ?_, i1.1, i2, i3⟩
  unfold Sight_findFits
  rw [show (40 : Int32) = nI 40 from rfl, a1, obs, zpt_e, zlt_e, show (0 : Int32) = nI 0 from rfl, e, obs]
/-! the reference's side -/
theorem InvQ.eqm {μ μ' : Sg} (h : InvQ μ) (e : EqM 5000 μ μ') : InvQ μ' := ⟨e.e_InvW (by unfold okE; omega) h.1, by rw [e.1.2.2.2]; exact h.2⟩
/-- what the reference's look for fits leaves alone, but for one cell -/
def MdV (σ ν : Sg) (k : Nat) : Prop := (∀ a, a ≠ 183 → a ≠ 184 → a < 189 ∨ a = 194 ∨ a = 195 ∨ 197 < a → ν a = σ a) ∧ ∀ i, i ≠ k → ν 183 i = σ 183 i
theorem kapL_eq {σ σ1 ν : Sg} {q l : Nat} (f : Fr 81 169 σ σ1) (h : MdV σ1 ν (24 + q)) (hv : ν 183 (24 + q) = nI l) : EqM 5000 (kapL σ q l) (quiet ν) := by
  obtain ⟨e1, e2, e3⟩ := quiet_E (σ := σ)
  obtain ⟨d1, d2, d3⟩ := quiet_E (σ := ν)
  have r : ∀ a, a ≠ 183 → a ≠ 184 → a < 81 ∨ (169 < a ∧ a < 189) → ν a = σ a := fun a q1 q2 q3 => by rw [h.1 a q1 q2 (by omega), f a (by omega)]
  unfold kapL
  refine ⟨⟨?_, ?_, ?_, ?_⟩, ⟨?_, ?_, ?_⟩, fun i _ => ?_⟩
  · rw [zup_ne (by omega), e1.1, d1.1, r 171 (by omega) (by omega) (by omega)]
  · rw [zup_ne (by omega), e1.2.1, d1.2.1, r 171 (by omega) (by omega) (by omega)]
  · rw [zup_ne (by omega), e1.2.2, d1.2.2, r 171 (by omega) (by omega) (by omega)]
  · rw [zup_ne (by omega), e2, d2]
  · rw [zup_ne (by omega), e3 _ (by omega), d3 _ (by omega), r _ (by omega) (by omega) (by omega)]
  · rw [zup_ne (by omega), e3 _ (by omega), d3 _ (by omega), r _ (by omega) (by omega) (by omega)]
  · rw [zup_ne (by omega), e3 _ (by omega), d3 _ (by omega), r _ (by omega) (by omega) (by omega)]
  · rw [d3 _ (by omega)]
    by_cases c : i = 24 + q
    · subst c; rw [zup_hit, hv]
    · rw [zup_miss c, e3 _ (by omega), h.2 i c, f 183 (by omega)]
