/-! steps and chance -/
theorem some_inj2 {α β : Type} {a : Option (α × β)} {x y : α} {u v : β} (h1 : a = some (x, u)) (h2 : a = some (y, v)) : x = y := (Prod.mk.inj (Option.some.inj (h1.symm.trans h2))).1
theorem steps_yes {σ : Sg} {n m : Nat} (h : Rel σ n) (ht : σ 171 25 = nI 1) (h1 : 1 ≤ m) (h2 : m ≤ 100) (h3 : stp σ + m ≤ 9999) : Acts n (CK_steps n σ (nI m)) (fun τ => M_steps τ (nI m)) := by
  obtain ⟨p1, K, t, c, R, q, s, g, L, hC, hr⟩ := h
  have hC0 := hC
  obtain ⟨hB, hT, hz, hNm, hRg, hSn⟩ := hC
  have hg := hB.2.2 (Or.inr ht)
  have hS0 := hB.1.2.2.2.2.2.2.2.1
  have hs0 : σ 56 0 = nI (stp σ) := hB.1.2.2.2.1.1.2.2.2.2.1.trans hS0.1
  have hR0 := hB.1.2.2.2.2.2.2.2.2.2
  have hp1 := hB.1.1.1
  obtain ⟨τ, n1, K1, r0, r1, r2, r3, r4, f0, fa, r7, r8⟩ := c_remember hRg
  have hrem : RemC σ τ n1 K1 t c := ⟨r1, r2, r3, r4, r7, r8⟩
  obtain ⟨τ1, a1, a2, a3⟩ := pre_go (μ := σ) (m := m) hB hg f0 fa ⟨⟨rfl, rfl, rfl⟩, ⟨rfl, rfl, rfl⟩, rfl⟩ hB.2.1 (by omega)
  obtain ⟨τ2, b1, b2, b3, b4, b5⟩ := c_steps0 a3 rfl h3 (by omega)
  have d0 : ∀ k, k ≠ 14 → τ2 0 k = τ 0 k := fun k _ => by rw [b2 0 (by omega), a2 0 (by omega)]
  have da : ∀ a, a ≠ 0 → a < 56 ∨ (72 < a ∧ a < 77) ∨ (79 < a ∧ a < 103) ∨ 123 < a → τ2 a = τ a := fun a h0 ha => by
    rcases Nat.lt_or_ge 72 a with x | x
    · rcases Nat.lt_or_ge a 77 with y | y
      · rw [b5 a x y, a2 a (by omega)]
      · rw [b2 a (by omega), a2 a (by omega)]
    · rw [b2 a (by omega), a2 a (by omega)]
  have das : ∀ a, 170 < a → a < 198 → τ2 a = σ a := fun a x y => by rw [da a (by omega) (by omega), fa a (by omega) (by omega) y]
  obtain ⟨ρ, m0, m1, m2, m3, m4, m5⟩ := m_remembers (σ := τ2) (c := c) (by rw [das 171 (by omega) (by omega)]; exact hRg.2.2.2.2.2.2.1.2.2) hRg.2.2.2.2.1
  have me : MEq σ ρ := by
    refine ⟨⟨?_, ?_, ?_⟩, ⟨?_, ?_, ?_⟩, ?_⟩
    · rw [m2 0 (by omega), das 171 (by omega) (by omega)]
    · rw [m2 1 (by omega), das 171 (by omega) (by omega)]
    · rw [m2 2 (by omega), das 171 (by omega) (by omega)]
    · rw [m1 _ (by omega) (by omega), das _ (by omega) (by omega)]
    · rw [m1 _ (by omega) (by omega), das _ (by omega) (by omega)]
    · rw [m1 _ (by omega) (by omega), das _ (by omega) (by omega)]
    · rw [m1 _ (by omega) (by omega), das _ (by omega) (by omega)]
  have hqρ : ρ 171 26 = nI 0 := by rw [m2 26 (by omega), das 171 (by omega) (by omega)]; exact hB.2.1
  obtain ⟨τ1', a1', a2', a3'⟩ := pre_go (μ := ρ) (m := m) hB hg f0 fa me hqρ (by omega)
  have e1 : τ1' = τ1 := Option.some.inj (a1'.symm.trans a1)
  subst e1
  obtain ⟨τ2', b1', b2', b3', b4', b5'⟩ := c_steps0 a3' me.e_stp.symm (by rw [me.e_stp]; exact h3) (by omega)
  have e2 : τ2' = τ2 := some_inj2 b1' b1
  subst e2
  have hWρ := me.e_InvW (base_W hB hg)
  have esρ : stp ρ = stp σ := me.e_stp
  obtain ⟨w1, w2⟩ := rst_W hWρ m (by omega)
  have hzρ : Zhi ρ := fun k hk => by rw [me.2.2]; exact hz k hk
  obtain ⟨g1, g2, g3⟩ := rst_range (n := m) (fun j hj => (rst_W hWρ j (by omega)).1) (me.e_InvR hR0) ((me.e_Mom hB.1.2.2.2).zr) hzρ
  have fT := rst_T hWρ m (by omega)
  have hn1 := rem_n r0
  have hle : n1 ≤ 90000 := by have := r1.1; have := r1.2.1; omega
  have sd : (rst ρ m) 0 14 = nI g ∧ (rst ρ m) 171 24 = nI g ∧ g < 2147483648 := by
    obtain ⟨z1, z2, z3⟩ := hr.1
    refine ⟨?_, ?_, z3⟩
    · rw [fT.1 0 (by omega) (by omega) (by omega), m1 0 (by omega) (by omega), b2 0 (by omega), a2 0 (by omega), f0 14 (by omega) (by omega)]; exact z1
    · have : rst ρ m 171 = ρ 171 := by
        clear fT g1 g2 g3 w1 w2 b3' b4' b3 b4
        have : ∀ j, j ≤ m → rst ρ j 171 = ρ 171 := by
          intro j
          induction j with
          | zero => intro _; rfl
          | succ j ih =>
            intro hj
            have hw := (rst_W hWρ j (by omega)).1
            rw [← ih (by omega)]
            exact ((begS_stat _).toB.trans (goS_stB (begW hw))).r171
        exact this m (Nat.le_refl _)
      rw [this, m2 24 (by omega), das 171 (by omega) (by omega)]; exact z2
  refine ⟨nI (stp σ + m), τ2', rst ρ m, n1, ?_, ?_, act_go hC0 hr ht hrem f0 fa d0 da ⟨m1, m2, m3, m4, m5⟩ fT b3' (by omega) g1 g3 sd, hn1, hle⟩
  · have t5 : σ 0 5 = nI 1 := hT.1.trans ht
    have y1 : τ 0 3 = nI (p1 + 1) := by rw [f0 3 (by omega) (by omega)]; exact hB.1.1.2.1
    have y2 : τ 56 0 = nI (stp σ) := by rw [fa 56 (by omega) (by omega) (by omega)]; exact hs0
    have y3 : τ2' 56 0 = nI (stp σ + m) := by rw [b3'.2.2.2.2.1.1.2.2.2.2.1, w1.1.2.2.1.1, w2, esρ]
    unfold CK_steps CK_steps_p48
    rw [zgt_e, t5, if_neg (show ¬ nI 1 = 0 by decide), show (1 : Int32) = nI 1 from rfl, show (100 : Int32) = nI 100 from rfl, show (9999 : Int32) = nI 9999 from rfl, if_neg (nI_nlt h1 (by omega)), if_neg (nI_nlt h2 (by omega)), zgt_e, hs0, nI_add, if_pos (nI_le h3 (by omega))]
    unfold CK_goSteps CK_goSteps_p4
    rw [r0, obs]
    dsimp only
    rw [y1, zmr2_e rfl hp1, zgt_e, y2, a1, obs, zlt_e, show (0 : Int32) = nI 0 from rfl, b1, obs]
    dsimp only
    rw [zgt_e, y3, obs, obs]
    rfl
  · have t25 : τ2' 171 25 = nI 1 := by rw [das 171 (by omega) (by omega)]; exact ht
    have t196 : τ2' 183 196 = nI (stp σ) := by rw [das 183 (by omega) (by omega)]; exact hS0.1
    have u196 : rst ρ m 183 196 = nI (stp σ + m) := by rw [w1.1.2.2.1.1, w2, esρ]
    have hl := m_steps0 (μ := ρ) (n := m) (by omega) (fun j hj => (rst_W hWρ j (by omega)).1)
    show M_steps τ2' (nI m) = _
    unfold M_steps
    rw [zgt_e, t25, if_neg (show ¬ nI 1 = 0 by decide), show (1 : Int32) = nI 1 from rfl, show (100 : Int32) = nI 100 from rfl, show (9999 : Int32) = nI 9999 from rfl, M_isIn_e (by omega) (by omega) (by omega), show decide (1 ≤ m ∧ m ≤ 100) = true from decide_eq_true ⟨h1, h2⟩, bt, show (196 : Int32) = nI 196 from rfl, zrd_e (by omega) (by omega), t196, nI_add, if_pos (nI_le h3 (by omega)), m0, obs, zlt_e, show (0 : Int32) = nI 0 from rfl, hl, obs]
    dsimp only
    rw [zrd_e (by omega) (by omega), u196]
theorem a_steps {σ : Sg} {n : Nat} (h : Rel σ n) (x : Int32) : Acts n (CK_steps n σ x) (fun τ => M_steps τ x) := by
  have h0 := h
  obtain ⟨p1, K, t, c, R, q, s, g, L, ⟨hB, hT, _⟩, _⟩ := h0
  have hS0 := hB.1.2.2.2.2.2.2.2.1
  have hs0 : σ 56 0 = nI (stp σ) := hB.1.2.2.2.1.1.2.2.2.2.1.trans hS0.1
  rcases hT.2 with ⟨t1, _⟩ | ⟨t1, _⟩
  · have t5 : σ 0 5 = nI 1 := hT.1.trans t1
    rcases isIn_c x (a := 1) (b := 100) (by omega) (by omega) with ⟨e, o⟩ | ⟨m, h1, h2, rfl, e⟩
    · refine acts_no (k := 2) h (by omega) ?_ ?_
      · unfold CK_steps
        rw [zgt_e, t5, if_neg (show ¬ nI 1 = 0 by decide), show (1 : Int32) = nI 1 from rfl, show (100 : Int32) = nI 100 from rfl]
        by_cases o1 : x < nI 1
        · rw [if_pos o1]; rfl
        · rw [if_neg o1, if_pos (o.resolve_left o1)]; rfl
      · show M_steps (refC σ 2) x = _
        unfold M_steps
        rw [zgt_e, refC_ne (by omega), t1, if_neg (show ¬ nI 1 = 0 by decide), show (1 : Int32) = nI 1 from rfl, show (100 : Int32) = nI 100 from rfl, e, bf]
        rfl
    · by_cases h3 : stp σ + m ≤ 9999
      · exact steps_yes h t1 h1 h2 h3
      · have hs9 := hS0.2
        refine acts_no (k := 2) h (by omega) ?_ ?_
        · unfold CK_steps
          rw [zgt_e, t5, if_neg (show ¬ nI 1 = 0 by decide), show (1 : Int32) = nI 1 from rfl, show (100 : Int32) = nI 100 from rfl, show (9999 : Int32) = nI 9999 from rfl, if_neg (nI_nlt h1 (by omega)), if_neg (nI_nlt h2 (by omega)), zgt_e, hs0, nI_add, if_neg (nI_ge (by omega) (by omega))]
          rfl
        · show M_steps (refC σ 2) (nI m) = _
          unfold M_steps
          rw [zgt_e, refC_ne (by omega), t1, if_neg (show ¬ nI 1 = 0 by decide), show (1 : Int32) = nI 1 from rfl, show (100 : Int32) = nI 100 from rfl, show (9999 : Int32) = nI 9999 from rfl, e, bt, show (196 : Int32) = nI 196 from rfl, zrd_e (by omega) (by omega), refC_ne (by omega), hS0.1, nI_add, if_neg (nI_ge (by omega) (by omega))]
          rfl
  · have t5 : σ 0 5 = nI 0 := hT.1.trans t1
    refine acts_no (k := 2) h (by omega) ?_ ?_
    · unfold CK_steps
      rw [zgt_e, t5, if_pos (show nI 0 = 0 from rfl)]
      rfl
    · show M_steps (refC σ 2) x = _
      unfold M_steps
      rw [zgt_e, refC_ne (by omega), t1, if_pos (show nI 0 = 0 from rfl)]
      rfl
