/-! reading: the text whole -/
theorem SR.fail {q : Nat} {B : Nat → Nat} {L a p k : Nat} {τ ν τ' ν' : Sg} {c : Option (Bool × Sg)} {m : Option Sg} (hk : 1 ≤ k ∧ k ≤ 5) (h1 : c = some (false, zup (zup τ' 2 6 (nI k)) 2 7 (nI p))) (h2 : m = some (zup (zup ν' 171 35 (nI k)) 171 36 (nI p))) (h3 : CW q τ τ') (h4 : MW ν ν') : SR q B L a τ ν c m :=
  SR.bad h1 h2 (h3.trans (c_failF _ _).w) (h4.trans (m_faultF _ _).w) ⟨k, p, hk, by rw [zup_miss (by omega), zup_hit], zup_hit, f35, f36⟩
/-- the reference's part of a statement, its word read -/
def rS (σ : Sg) (s0 : Int32) : Option Sg :=
  if s0 = 2 then ((M_number σ 1 99).bind fun r103 => zpt r103.2 171 13 r103.1 fun σ106 => M_endsWell σ106) else
  if s0 = 3 then ((M_readsPool σ).bind fun r118 => M_endsWell r118) else
  if s0 = 13 then ((M_readsOutlet σ).bind fun r131 => M_endsWell r131) else
  if s0 = 16 then ((M_readsOrder σ).bind fun r144 => M_endsWell r144) else
  if s0 = 19 then ((M_readsTurns σ).bind fun r157 => M_endsWell r157) else
  (zgt σ 171 34 fun v166 => (M_faults σ 1 v166).bind fun r169 => M_endsWell r169)
theorem readsAll_j {σ : Sg} (x1 s0 : Int32) (h : M_goesWell σ = some true) : M_readsAll_j49_83 σ x1 s0 = (rS σ s0).bind fun r => some (.inl (r, x1 + 1)) := by
  unfold M_readsAll_j49_83 rS
  rw [h, bt]
  by_cases c2 : s0 = 2
  · rw [if_pos c2, if_pos c2]
    cases M_number σ 1 99 with
    | none => rfl
    | some r => rw [obs, obs, zpt_e, zpt_e]; rfl
  · rw [if_neg c2, if_neg c2]
    by_cases c3 : s0 = 3
    · rw [if_pos c3, if_pos c3]
      cases M_readsPool σ with
      | none => rfl
      | some r => rw [obs, obs]; rfl
    · rw [if_neg c3, if_neg c3]
      by_cases c13 : s0 = 13
      · rw [if_pos c13, if_pos c13]
        cases M_readsOutlet σ with
        | none => rfl
        | some r => rw [obs, obs]; rfl
      · rw [if_neg c13, if_neg c13]
        by_cases c16 : s0 = 16
        · rw [if_pos c16, if_pos c16]
          cases M_readsOrder σ with
          | none => rfl
          | some r => rw [obs, obs]; rfl
        · rw [if_neg c16, if_neg c16]
          by_cases c19 : s0 = 19
          · rw [if_pos c19, if_pos c19]
            cases M_readsTurns σ with
            | none => rfl
            | some r => rw [obs, obs]; rfl
          · rw [if_neg c19, if_neg c19, zgt_e, zgt_e]
            cases M_faults σ 1 (σ 171 34) with
            | none => rfl
            | some r => rw [obs, obs]; rfl
theorem Mf.j18 {ν : Sg} (h : Mf ν) : M_readsPool_j18 ν = some ν ∧ M_readsOutlet_j18 ν = some ν ∧ M_readsOrder_j18 ν = some ν ∧ M_readsTurns_j17 ν = some ν := by
  unfold M_readsPool_j18 M_readsOutlet_j18 M_readsOrder_j18 M_readsTurns_j17
  rw [h.well, bf, bf, bf, bf]
  exact ⟨rfl, rfl, rfl, rfl⟩
/-- a statement behind the first -/
theorem stm_any {τ ν : Sg} {q : Nat} {B : Nat → Nat} {L a P O T C n : Nat} (hq : q = 3 ∨ q = 29) (h : Lx τ ν B L a) (ht : tg B a = 0) (hs : sk B L a = a) (h5 : τ 2 5 = nI (q + 1)) (hD : DR τ ν q P O T C) (hn : τ q 0 = nI n) (hn1 : 1 ≤ n) (hn2 : n ≤ 1601) :
    ∃ ν1, M_word ν = some ν1 ∧ ((Mf ν1 ∧ SR q B L a τ ν (Reader_readStatement τ) (some ν1)) ∨ (M_goesWell ν1 = some true ∧ ∃ s0, M_own ν1 = some s0 ∧ SR q B L a τ ν (Reader_readStatement τ) (rS ν1 s0))) := by
  have hL := h.1.1
  obtain ⟨t1, t2⟩ := we_le (B := B) hL.1
  obtain ⟨ν1, a1, a2, a3⟩ := m_word h.2
  rw [hs] at a3
  obtain ⟨b2, s2, e2⟩ := c_stands (x := 2) h.1 (by omega)
  obtain ⟨b3, s3, e3⟩ := c_stands (x := 3) h.1 (by omega)
  obtain ⟨b13, s13, e13⟩ := c_stands (x := 13) h.1 (by omega)
  obtain ⟨b16, s16, e16⟩ := c_stands (x := 16) h.1 (by omega)
  obtain ⟨b19, s19, e19⟩ := c_stands (x := 19) h.1 (by omega)
  have s2' : Reader_stands τ 2 = some b2 := s2
  have s3' : Reader_stands τ 3 = some b3 := s3
  have s13' : Reader_stands τ 14 = some b13 := s13
  have s16' : Reader_stands τ 17 = some b16 := s16
  have s19' : Reader_stands τ 20 = some b19 := s19
  have hD0 := hD
  obtain ⟨⟨⟨hp1, hp2, hp3⟩, ⟨ho1, ho2, ho3⟩, ⟨ht1, ht2, ht3⟩, ⟨hc1, hc2, hc3⟩⟩, _, _⟩ := hD0
  have head : Reader_readStatement τ = if (zb b2) = 0 then (if (zb b3) = 0 then (if (zb b13) = 0 then (if (zb b16) = 0 then (if (zb b19) = 0 then (zgt τ 2 2 fun v189 => (Reader_fail τ 1 v189).bind fun r192 => some (r192.1, r192.2)) else (if 2 ≤ nI T then (zgt τ 2 2 fun v179 => (Reader_fail τ 5 v179).bind fun r182 => some (r182.1, r182.2)) else ((Reader_readTurns τ).bind fun r170 => some (r170.1, r170.2)))) else (if 16 ≤ nI C then (zgt τ 2 2 fun v139 => (Reader_fail τ 5 v139).bind fun r142 => some (r142.1, r142.2)) else ((Reader_readOrder τ).bind fun r130 => some (r130.1, r130.2)))) else (if 10 ≤ nI O then (zgt τ 2 2 fun v98 => (Reader_fail τ 5 v98).bind fun r101 => some (r101.1, r101.2)) else ((Reader_readOutlet τ).bind fun r89 => some (r89.1, r89.2)))) else (if 8 ≤ nI P then (zgt τ 2 2 fun v60 => (Reader_fail τ 5 v60).bind fun r63 => some (r63.1, r63.2)) else ((Reader_readPool τ).bind fun r51 => some (r51.1, r51.2)))) else ((Reader_readKeep τ).bind fun r25 => some (r25.1, r25.2)) := by
    unfold Reader_readStatement
    rw [h5, zmr2_e rfl hq, zgt_e, hn, if_neg (nI_ne0 (by omega) (by omega)), s2', obs, s3', obs, s13', obs, s16', obs, s19', obs, zmr2_e rfl hq, zmr2_e rfl hq, zmr2_e rfl hq, zmr2_e rfl hq]
    simp only [zgt_e, hp1, ho1, ht1, hc1]
  have eta : ∀ x : Option (Bool × Sg), (x.bind fun r => some (r.1, r.2)) = x := fun x => by
    cases x with
    | none => rfl
    | some r => rfl
  have other : ∀ (ν' : Sg), (∀ x, x = 2 ∨ x = 3 ∨ x = 13 ∨ x = 16 ∨ x = 19 → ¬ isW B a (we B L a) x) → Reader_readStatement τ = some (false, zup (zup τ 2 6 (nI 1)) 2 7 (nI a)) := fun _ no => by
    have x2 : b2 = false := by
      cases b2
      · rfl
      · exact absurd (e2.mp rfl) (no 2 (by omega))
    have x3 : b3 = false := by
      cases b3
      · rfl
      · exact absurd (e3.mp rfl) (no 3 (by omega))
    have x13 : b13 = false := by
      cases b13
      · rfl
      · exact absurd (e13.mp rfl) (no 13 (by omega))
    have x16 : b16 = false := by
      cases b16
      · rfl
      · exact absurd (e16.mp rfl) (no 16 (by omega))
    have x19 : b19 = false := by
      cases b19
      · rfl
      · exact absurd (e19.mp rfl) (no 19 (by omega))
    rw [head, x2, x3, x13, x16, x19]
    rw [if_pos (show zb false = 0 from rfl), if_pos (show zb false = 0 from rfl), if_pos (show zb false = 0 from rfl), if_pos (show zb false = 0 from rfl), if_pos (show zb false = 0 from rfl), zgt_e, h.1.2.2.2.2.1, c_fail, obs]
    rfl
  refine ⟨ν1, a1, ?_⟩
  rcases a3 with ⟨_, q1, hm, h34⟩ | ⟨n1, f1, f2⟩
  · right
    obtain ⟨s0, o1, o2⟩ := m_own hm h34 t1 (fun i x y => we_in x y)
    refine ⟨m_well hm, s0, o1, ?_⟩
    have mkS : ∀ x, x < 20 → isW B a (we B L a) x → Sta τ ν1 q B L a x := fun x hx hw => ⟨h.1, ht, hs, hw, hm, h34, h5, hx⟩
    have hD1 : DR τ ν1 q P O T C := hD.cf hq (CF.refl τ) a2
    have tr : ∀ {c : Option (Bool × Sg)} {m : Option Sg}, SR q B L a τ ν1 c m → SR q B L a τ ν c m := fun ⟨ok, τ', ν', k1, k2, k3, k4, k5⟩ => ⟨ok, τ', ν', k1, k2, k3, a2.w.trans k4, k5⟩
    have uq : ∀ x y, x < 20 → y < 20 → isW B a (we B L a) x → isW B a (we B L a) y → x = y := fun x y hx hy h1 h2 => isW_u hx hy h1 h2
    rcases o2 with ⟨x, hx, hw, rfl⟩ | ⟨rfl, no⟩
    · have bx : ∀ y b, y < 20 → (b = true ↔ isW B a (we B L a) y) → b = decide (x = y) := fun y b hy e => by
        by_cases c : x = y
        · subst c; rw [decide_eq_true rfl]; exact e.mpr hw
        · rw [decide_eq_false c]
          cases b
          · rfl
          · exact absurd (uq x y hx hy hw (e.mp rfl)) c
      have nx : ∀ y : Nat, y < 20 → (nI x = nI y) = (x = y) := fun y hy => propext ⟨fun z => (nI_eq (by omega) (by omega)).mp z, fun z => congrArg nI z⟩
      rw [bx 2 b2 (by omega) e2, bx 3 b3 (by omega) e3, bx 13 b13 (by omega) e13, bx 16 b16 (by omega) e16, bx 19 b19 (by omega) e19] at head
      by_cases c2 : x = 2
      · subst c2
        have : Reader_readStatement τ = Reader_readKeep τ := by
          rw [head, if_neg (by decide), eta]
        rw [this]
        exact tr (stm_keep hq (mkS 2 hx hw) hD1)
      · by_cases c3 : x = 3
        · subst c3
          rcases Nat.lt_or_ge P 8 with y | y
          · have : Reader_readStatement τ = Reader_readPool τ := by
              rw [head, if_pos (by decide), if_neg (by decide), show (8 : Int32) = nI 8 from rfl, if_neg (nI_ge y (by omega)), eta]
            have m : rS ν1 (nI 3) = (M_readsPool_j18 ν1).bind fun r => M_endsWell r := by
              unfold rS M_readsPool
              rw [if_neg (by decide), if_pos (show nI 3 = 3 from rfl), zgt_e, hD1.1.1.2.1, if_neg (show ¬ nI P = 8 from fun z => by have := (nI_eq (b := 8) (by omega) (by omega)).mp z; omega)]
            rw [this, m]
            exact tr (stm_pool hq (mkS 3 hx hw) hD1 y)
          · have eP : P = 8 := by omega
            subst eP
            have : Reader_readStatement τ = (zgt τ 2 2 fun v60 => (Reader_fail τ 5 v60).bind fun r63 => some (r63.1, r63.2)) := by
              rw [head, if_pos (by decide), if_neg (by decide), if_pos (show (8 : Int32) ≤ nI 8 by decide)]
            have m : rS ν1 (nI 3) = (zgt ν1 171 34 fun v12 => (M_faults ν1 5 v12).bind fun r15 => M_readsPool_j18 r15).bind fun r => M_endsWell r := by
              unfold rS M_readsPool
              rw [if_neg (by decide), if_pos (show nI 3 = 3 from rfl), zgt_e, hD1.1.1.2.1, if_pos (show nI 8 = 8 from rfl)]
            rw [this, m]
            exact tr (stm_many (mkS 3 hx hw) (fun r => M_readsPool_j18 r) (fun ν' hf => hf.j18.1))
        · by_cases c13 : x = 13
          · subst c13
            rcases Nat.lt_or_ge O 10 with y | y
            · have : Reader_readStatement τ = Reader_readOutlet τ := by
                rw [head, if_pos (by decide), if_pos (by decide), if_neg (by decide), show (10 : Int32) = nI 10 from rfl, if_neg (nI_ge y (by omega)), eta]
              have m : rS ν1 (nI 13) = (M_readsOutlet_j18 ν1).bind fun r => M_endsWell r := by
                unfold rS M_readsOutlet
                rw [if_neg (by decide), if_neg (by decide), if_pos (show nI 13 = 13 from rfl), zgt_e, hD1.1.2.1.2.1, if_neg (show ¬ nI O = 10 from fun z => by have := (nI_eq (b := 10) (by omega) (by omega)).mp z; omega)]
              rw [this, m]
              exact tr (stm_outlet hq (mkS 13 hx hw) hD1 y)
            · have eO : O = 10 := by omega
              subst eO
              have : Reader_readStatement τ = (zgt τ 2 2 fun v60 => (Reader_fail τ 5 v60).bind fun r63 => some (r63.1, r63.2)) := by
                rw [head, if_pos (by decide), if_pos (by decide), if_neg (by decide), if_pos (show (10 : Int32) ≤ nI 10 by decide)]
              have m : rS ν1 (nI 13) = (zgt ν1 171 34 fun v12 => (M_faults ν1 5 v12).bind fun r15 => M_readsOutlet_j18 r15).bind fun r => M_endsWell r := by
                unfold rS M_readsOutlet
                rw [if_neg (by decide), if_neg (by decide), if_pos (show nI 13 = 13 from rfl), zgt_e, hD1.1.2.1.2.1, if_pos (show nI 10 = 10 from rfl)]
              rw [this, m]
              exact tr (stm_many (mkS 13 hx hw) (fun r => M_readsOutlet_j18 r) (fun ν' hf => hf.j18.2.1))
          · by_cases c16 : x = 16
            · subst c16
              rcases Nat.lt_or_ge C 16 with y | y
              · have : Reader_readStatement τ = Reader_readOrder τ := by
                  rw [head, if_pos (by decide), if_pos (by decide), if_pos (by decide), if_neg (by decide), show (16 : Int32) = nI 16 from rfl, if_neg (nI_ge y (by omega)), eta]
                have m : rS ν1 (nI 16) = (M_readsOrder_j18 ν1).bind fun r => M_endsWell r := by
                  unfold rS M_readsOrder
                  rw [if_neg (by decide), if_neg (by decide), if_neg (by decide), if_pos (show nI 16 = 16 from rfl), zgt_e, hD1.1.2.2.2.2.1, if_neg (show ¬ nI C = 16 from fun z => by have := (nI_eq (b := 16) (by omega) (by omega)).mp z; omega)]
                rw [this, m]
                exact tr (stm_order hq (mkS 16 hx hw) hD1 y)
              · have eC : C = 16 := by omega
                subst eC
                have : Reader_readStatement τ = (zgt τ 2 2 fun v60 => (Reader_fail τ 5 v60).bind fun r63 => some (r63.1, r63.2)) := by
                  rw [head, if_pos (by decide), if_pos (by decide), if_pos (by decide), if_neg (by decide), if_pos (show (16 : Int32) ≤ nI 16 by decide)]
                have m : rS ν1 (nI 16) = (zgt ν1 171 34 fun v12 => (M_faults ν1 5 v12).bind fun r15 => M_readsOrder_j18 r15).bind fun r => M_endsWell r := by
                  unfold rS M_readsOrder
                  rw [if_neg (by decide), if_neg (by decide), if_neg (by decide), if_pos (show nI 16 = 16 from rfl), zgt_e, hD1.1.2.2.2.2.1, if_pos (show nI 16 = 16 from rfl)]
                rw [this, m]
                exact tr (stm_many (mkS 16 hx hw) (fun r => M_readsOrder_j18 r) (fun ν' hf => hf.j18.2.2.1))
            · by_cases c19 : x = 19
              · subst c19
                rcases Nat.lt_or_ge T 2 with y | y
                · have : Reader_readStatement τ = Reader_readTurns τ := by
                    rw [head, if_pos (by decide), if_pos (by decide), if_pos (by decide), if_pos (by decide), if_neg (by decide), show (2 : Int32) = nI 2 from rfl, if_neg (nI_ge y (by omega)), eta]
                  have m : rS ν1 (nI 19) = (M_readsTurns_j17 ν1).bind fun r => M_endsWell r := by
                    unfold rS M_readsTurns
                    rw [if_neg (by decide), if_neg (by decide), if_neg (by decide), if_neg (by decide), if_pos (show nI 19 = 19 from rfl), zgt_e, hD1.1.2.2.1.2.1, if_neg (show ¬ nI T = 2 from fun z => by have := (nI_eq (b := 2) (by omega) (by omega)).mp z; omega)]
                  rw [this, m]
                  exact tr (stm_turns hq (mkS 19 hx hw) hD1 y)
                · have eT : T = 2 := by omega
                  subst eT
                  have : Reader_readStatement τ = (zgt τ 2 2 fun v60 => (Reader_fail τ 5 v60).bind fun r63 => some (r63.1, r63.2)) := by
                    rw [head, if_pos (by decide), if_pos (by decide), if_pos (by decide), if_pos (by decide), if_neg (by decide), if_pos (show (2 : Int32) ≤ nI 2 by decide)]
                  have m : rS ν1 (nI 19) = (zgt ν1 171 34 fun v12 => (M_faults ν1 5 v12).bind fun r15 => M_readsTurns_j17 r15).bind fun r => M_endsWell r := by
                    unfold rS M_readsTurns
                    rw [if_neg (by decide), if_neg (by decide), if_neg (by decide), if_neg (by decide), if_pos (show nI 19 = 19 from rfl), zgt_e, hD1.1.2.2.1.2.1, if_pos (show nI 2 = 2 from rfl)]
                  rw [this, m]
                  exact tr (stm_many (mkS 19 hx hw) (fun r => M_readsTurns_j17 r) (fun ν' hf => hf.j18.2.2.2))
              · have hmf : Mf (zup (zup ν1 171 35 (nI 1)) 171 36 (nI a)) := ⟨1, by omega, by omega, f35⟩
                refine SR.fail (k := 1) (p := a) (by omega) (other ν1 (fun y hy hz => ?_)) ?_ (CW.refl q τ) a2.w
                · have := uq x y hx (by omega) hw hz
                  omega
                · unfold rS
                  rw [if_neg (show ¬ nI x = 2 from fun z => c2 ((nI_eq (b := 2) (by omega) (by omega)).mp z)), if_neg (show ¬ nI x = 3 from fun z => c3 ((nI_eq (b := 3) (by omega) (by omega)).mp z)), if_neg (show ¬ nI x = 13 from fun z => c13 ((nI_eq (b := 13) (by omega) (by omega)).mp z)), if_neg (show ¬ nI x = 16 from fun z => c16 ((nI_eq (b := 16) (by omega) (by omega)).mp z)), if_neg (show ¬ nI x = 19 from fun z => c19 ((nI_eq (b := 19) (by omega) (by omega)).mp z)), zgt_e, h34, m_fault hm, obs]
                  exact hmf.ends
    · have hmf : Mf (zup (zup ν1 171 35 (nI 1)) 171 36 (nI a)) := ⟨1, by omega, by omega, f35⟩
      refine SR.fail (k := 1) (p := a) (by omega) (other ν1 (fun y hy hz => no y (by omega) hz)) ?_ (CW.refl q τ) a2.w
      unfold rS
      rw [if_neg (by decide), if_neg (by decide), if_neg (by decide), if_neg (by decide), if_neg (by decide), zgt_e, h34, m_fault hm, obs]
      exact hmf.ends
  · left
    have hwe : we B L a = a := by
      rcases Nat.lt_or_ge a (we B L a) with y | y
      · exact absurd ⟨ht, y⟩ n1
      · omega
    refine ⟨⟨1, by omega, by omega, f1⟩, SR.bad (other ν1 (fun y hy hz => ?_)) rfl ((CW.refl q τ).trans (c_failF _ _).w) a2.w ⟨1, a, by omega, by rw [zup_miss (by omega), zup_hit], zup_hit, f1, f2⟩⟩
    have := hz.1
    have := (w_tab (x := y) (by omega)).2.2.2.1
    omega
