theorem chance_yes {σ : Sg} {n m : Nat} (h : Rel σ n) (hP0 : 0 < nP σ) (ht : σ 171 25 = nI 1) (h1 : 1 ≤ m) (h2 : m ≤ 60) (h3 : stp σ + m ≤ 9999) : Acts n (CK_chance n σ (nI m)) (fun τ => M_chance τ (nI m)) := by
  obtain ⟨p1, K, t, c, R, q, s, g, L, hC, hr⟩ := h
  have hC0 := hC
  obtain ⟨hB, hT, hz, hNm, hRg, hSn⟩ := hC
  have hg := hB.2.2 (Or.inr ht)
  have hS0 := hB.1.2.2.2.2.2.2.2.1
  have hs0 : σ 56 0 = nI (stp σ) := hB.1.2.2.2.1.1.2.2.2.2.1.trans hS0.1
  have hR0 := hB.1.2.2.2.2.2.2.2.2.2
  have hp1 := hB.1.1.1
  have hPe := hB.1.2.2.1.1.1
  have hP8 := hB.1.2.2.1.1.2
  obtain ⟨z1, z2, z3⟩ := hr.1
  obtain ⟨τ, n1, K1, r0, r1, r2, r3, r4, f0, fa, r7, r8⟩ := c_remember hRg
  have hrem : RemC σ τ n1 K1 t c := ⟨r1, r2, r3, r4, r7, r8⟩
  obtain ⟨τ1, a1, a2, a3⟩ := pre_go (μ := σ) (m := m) hB hg f0 fa ⟨⟨rfl, rfl, rfl⟩, ⟨rfl, rfl, rfl⟩, rfl⟩ hB.2.1 (by omega)
  have y14 : τ1 0 14 = nI g := by rw [a2 0 (by omega), f0 14 (by omega) (by omega)]; exact z1
  obtain ⟨τ2, b1, b2, b3, b4⟩ := c_steps1 a3 y14 hR0 hB.1.2.2.2.zr hz hP0 z2 z3 rfl h3 (by omega)
  have d0 : ∀ k, k ≠ 14 → τ2 0 k = τ 0 k := fun k hk => by rw [b2.2 k hk, a2 0 (by omega)]
  have da : ∀ a, a ≠ 0 → a < 56 ∨ (72 < a ∧ a < 77) ∨ (79 < a ∧ a < 103) ∨ 123 < a → τ2 a = τ a := fun a h0 ha => by
    rw [b2.1 a h0 (by omega), a2 a (by omega)]
  have das : ∀ a, 170 < a → a < 198 → τ2 a = σ a := fun a x y => by rw [da a (by omega) (by omega), fa a (by omega) (by omega) y]
  obtain ⟨ρ, m0, m1, m2, m3, m4, m5⟩ := m_remembers (σ := τ2) (c := c) (by rw [das 171 (by omega) (by omega)]; exact hRg.2.2.2.2.2.2.1.2.2) hRg.2.2.2.2.1
  have me : MEq σ ρ := by
    refine ⟨⟨?_, ?_, ?_⟩, ⟨?_, ?_, ?_⟩, ?_⟩
    · rw [m2 0 (by omega), das 171 (by omega) (by omega)]
    · rw [m2 1 (by omega), das 171 (by omega) (by omega)]
    · rw [m2 2 (by omega), das 171 (by omega) (by omega)]
    · rw [m1 _ (by omega) (by omega), das _ (by omega) (by omega)]
    · rw [m1 _ (by omega) (by omega), das _ (by omega) (by omega)]
    · rw [m1 _ (by omega) (by omega), das _ (by omega) (by omega)]
    · rw [m1 _ (by omega) (by omega), das _ (by omega) (by omega)]
  have hqρ : ρ 171 26 = nI 0 := by rw [m2 26 (by omega), das 171 (by omega) (by omega)]; exact hB.2.1
  have h24ρ : ρ 171 24 = nI g := by rw [m2 24 (by omega), das 171 (by omega) (by omega)]; exact z2
  obtain ⟨τ1', a1', a2', a3'⟩ := pre_go (μ := ρ) (m := m) hB hg f0 fa me hqρ (by omega)
  have e1 : τ1' = τ1 := Option.some.inj (a1'.symm.trans a1)
  subst e1
  have hzρ : Zhi ρ := fun k hk => by rw [me.2.2]; exact hz k hk
  have esρ : stp ρ = stp σ := me.e_stp
  have hP0ρ : 0 < nP ρ := by rw [me.e_nP]; exact hP0
  obtain ⟨τ2', b1', b2', b3', b4'⟩ := c_steps1 a3' y14 (me.e_InvR hR0) (me.e_Mom hB.1.2.2.2).zr hzρ hP0ρ h24ρ z3 me.e_stp.symm (by rw [me.e_stp]; exact h3) (by omega)
  have e2 : τ2' = τ2 := some_inj2 b1' b1
  subst e2
  have hWρ := me.e_InvW (base_W hB hg)
  obtain ⟨w1, w2, fT, g1, g2, g3, w7, w8, w9⟩ := chR_all (μ := ρ) (g := g) hWρ (me.e_InvR hR0) (me.e_Mom hB.1.2.2.2).zr hzρ hP0ρ h24ρ z3 m (by omega)
  have hn1 := rem_n r0
  have hle : n1 ≤ 90000 := by have := r1.1; have := r1.2.1; omega
  have sd : (chR ρ g m).1 0 14 = nI (chR ρ g m).2 ∧ (chR ρ g m).1 171 24 = nI (chR ρ g m).2 ∧ (chR ρ g m).2 < 2147483648 := by
    refine ⟨?_, w7, w8⟩
    rw [fT.1 0 (by omega) (by omega) (by omega), m1 0 (by omega) (by omega)]; exact b4'
  refine ⟨nI (stp σ + m), τ2', (chR ρ g m).1, n1, ?_, ?_, act_go hC0 hr ht hrem f0 fa d0 da ⟨m1, m2, m3, m4, m5⟩ fT b3' (by omega) g1 g3 sd, hn1, hle⟩
  · have y1 : τ 0 3 = nI (p1 + 1) := by rw [f0 3 (by omega) (by omega)]; exact hB.1.1.2.1
    have y2 : τ 56 0 = nI (stp σ) := by rw [fa 56 (by omega) (by omega) (by omega)]; exact hs0
    have y3 : τ2' 56 0 = nI (stp σ + m) := by rw [b3'.2.2.2.2.1.1.2.2.2.2.1, w1.1.2.2.1.1, w2, esρ]
    have x3 : σ p1 3 = nI (nP σ) := hB.1.2.1.1.1.trans hPe
    unfold CK_chance CK_chance_p51
    rw [ptr_e hB.1.1, zgt_e, x3, if_neg (nI_ne0 hP0 (by omega)), show (1 : Int32) = nI 1 from rfl, show (60 : Int32) = nI 60 from rfl, show (9999 : Int32) = nI 9999 from rfl, if_neg (nI_nlt h1 (by omega)), if_neg (nI_nlt h2 (by omega)), zgt_e, hs0, nI_add, if_pos (nI_le h3 (by omega))]
    unfold CK_goSteps CK_goSteps_p4
    rw [r0, obs]
    dsimp only
    rw [y1, zmr2_e rfl hp1, zgt_e, y2, a1, obs, zlt_e, show (0 : Int32) = nI 0 from rfl, b1, obs]
    dsimp only
    rw [zgt_e, y3, obs, obs]
    rfl
  · have t0 : τ2' 171 0 = nI (nP σ) := by rw [das 171 (by omega) (by omega)]; exact hPe
    have t196 : τ2' 183 196 = nI (stp σ) := by rw [das 183 (by omega) (by omega)]; exact hS0.1
    have u196 : (chR ρ g m).1 183 196 = nI (stp σ + m) := by rw [w1.1.2.2.1.1, w2, esρ]
    have hl := m_steps1 (μ := ρ) (n := m) (g := g) hWρ (me.e_InvR hR0) (me.e_Mom hB.1.2.2.2).zr hzρ hP0ρ h24ρ z3 (by omega) (by omega)
    show M_chance τ2' (nI m) = _
    unfold M_chance
    rw [zgt_e, t0, if_neg (nI_ne0 hP0 (by omega)), show (1 : Int32) = nI 1 from rfl, show (60 : Int32) = nI 60 from rfl, show (9999 : Int32) = nI 9999 from rfl, M_isIn_e (by omega) (by omega) (by omega), show decide (1 ≤ m ∧ m ≤ 60) = true from decide_eq_true ⟨h1, h2⟩, bt, show (196 : Int32) = nI 196 from rfl, zrd_e (by omega) (by omega), t196, nI_add, if_pos (nI_le h3 (by omega)), m0, obs, zlt_e, show (0 : Int32) = nI 0 from rfl, hl, obs]
    dsimp only
    rw [zrd_e (by omega) (by omega), u196]
theorem a_chance {σ : Sg} {n : Nat} (h : Rel σ n) (x : Int32) : Acts n (CK_chance n σ x) (fun τ => M_chance τ x) := by
  have h0 := h
  obtain ⟨p1, K, t, c, R, q, s, g, L, ⟨hB, hT, _⟩, _⟩ := h0
  have hS0 := hB.1.2.2.2.2.2.2.2.1
  have hs0 : σ 56 0 = nI (stp σ) := hB.1.2.2.2.1.1.2.2.2.2.1.trans hS0.1
  have hPe := hB.1.2.2.1.1.1
  have hP8 := hB.1.2.2.1.1.2
  have x3 : σ p1 3 = nI (nP σ) := hB.1.2.1.1.1.trans hPe
  rcases Nat.eq_zero_or_pos (nP σ) with hP0 | hP0
  · refine acts_no (k := 2) h (by omega) ?_ ?_
    · unfold CK_chance
      rw [ptr_e hB.1.1, zgt_e, x3, hP0, if_pos (show nI 0 = 0 from rfl)]
      rfl
    · show M_chance (refC σ 2) x = _
      unfold M_chance
      rw [zgt_e, refC_ne (by omega), hPe, hP0, if_pos (show nI 0 = 0 from rfl)]
      rfl
  · have t1 : σ 171 25 = nI 1 := by
      rcases hT.2 with ⟨t1, _⟩ | ⟨_, t2, _⟩
      · exact t1
      · omega
    rcases isIn_c x (a := 1) (b := 60) (by omega) (by omega) with ⟨e, o⟩ | ⟨m, h1, h2, rfl, e⟩
    · refine acts_no (k := 2) h (by omega) ?_ ?_
      · unfold CK_chance
        rw [ptr_e hB.1.1, zgt_e, x3, if_neg (nI_ne0 hP0 (by omega)), show (1 : Int32) = nI 1 from rfl, show (60 : Int32) = nI 60 from rfl]
        by_cases o1 : x < nI 1
        · rw [if_pos o1]; rfl
        · rw [if_neg o1, if_pos (o.resolve_left o1)]; rfl
      · show M_chance (refC σ 2) x = _
        unfold M_chance
        rw [zgt_e, refC_ne (by omega), hPe, if_neg (nI_ne0 hP0 (by omega)), show (1 : Int32) = nI 1 from rfl, show (60 : Int32) = nI 60 from rfl, e, bf]
        rfl
    · by_cases h3 : stp σ + m ≤ 9999
      · exact chance_yes h hP0 t1 h1 h2 h3
      · have hs9 := hS0.2
        refine acts_no (k := 2) h (by omega) ?_ ?_
        · unfold CK_chance
          rw [ptr_e hB.1.1, zgt_e, x3, if_neg (nI_ne0 hP0 (by omega)), show (1 : Int32) = nI 1 from rfl, show (60 : Int32) = nI 60 from rfl, show (9999 : Int32) = nI 9999 from rfl, if_neg (nI_nlt h1 (by omega)), if_neg (nI_nlt h2 (by omega)), zgt_e, hs0, nI_add, if_neg (nI_ge (by omega) (by omega))]
          rfl
        · show M_chance (refC σ 2) (nI m) = _
          unfold M_chance
          rw [zgt_e, refC_ne (by omega), hPe, if_neg (nI_ne0 hP0 (by omega)), show (1 : Int32) = nI 1 from rfl, show (60 : Int32) = nI 60 from rfl, show (9999 : Int32) = nI 9999 from rfl, e, bt, show (196 : Int32) = nI 196 from rfl, zrd_e (by omega) (by omega), refC_ne (by omega), hS0.1, nI_add, if_neg (nI_ge (by omega) (by omega))]
          rfl
