/-! feed -/
theorem put_c {σ : Sg} {l : Nat} (x : Int32) (h : σ 0 1 = nI l) (hl : l + 4 ≤ 1600) : ∃ τ, CK_putNumber σ x = some τ ∧ (∀ a, a ≠ 0 → a ≠ 1 → τ a = σ a) ∧ (∀ k, k ≠ 1 → τ 0 k = σ 0 k) ∧ τ 0 1 = nI (l + 4) ∧ (∀ i, i < l → τ 1 i = σ 1 i) ∧ ∀ i, i < 4 → τ 1 (l + i) = vp_nar .byte ((Int32.toInt8 (x >>> nI (24 - 8 * i))).toInt32) := by
  have hl := zit_cnt (b := fun (s : (Sg × Int32)) => CK_putNumber_l3 s.1 x s.2) (fun j τ => (∀ a, a ≠ 0 → a ≠ 1 → τ a = σ a) ∧ (∀ k, k ≠ 1 → τ 0 k = σ 0 k) ∧ τ 0 1 = nI (l + j) ∧ (∀ i, i < l → τ 1 i = σ 1 i) ∧ ∀ i, i < j → τ 1 (l + i) = vp_nar .byte ((Int32.toInt8 (x >>> nI (24 - 8 * i))).toInt32)) (fun j => nI 24 - nI (8 * j)) 4 (σ := σ) (by omega)
    ⟨fun _ _ _ => rfl, fun _ _ => rfl, h, fun _ _ => rfl, fun i hi => by omega⟩ (by
    rintro j υ hj ⟨i1, i2, i3, i4, i5⟩
    have e1 : nI 24 - nI (8 * j) = nI (24 - 8 * j) := nI_sub (by omega)
    have e2 : nI (24 - 8 * j) &&& 31 = nI (24 - 8 * j) := by rw [and31 (by omega), Nat.mod_eq_of_lt (by omega)]
    have e3 : nI (24 - 8 * j) + (-8) = nI 24 - nI (8 * (j + 1)) := by
      rcases j with _ | _ | _ | _ | j
      · decide
      · decide
      · decide
      · decide
      · omega
    refine ⟨zup (zup υ 1 (l + j) (vp_nar .byte ((Int32.toInt8 (x >>> nI (24 - 8 * j))).toInt32))) 0 1 (nI (l + (j + 1))), ?_, fun a h1 h2 => by rw [zup_ne h1, zup_ne h2]; exact i1 a h1 h2, fun k hk => by rw [zup_miss hk, zup_ne (by omega)]; exact i2 k hk, zup_hit, fun i hi => by rw [zup_ne (by omega), zup_miss (by omega)]; exact i4 i hi, fun i hi => ?_⟩
    · show CK_putNumber_l3 υ x (nI 24 - nI (8 * j)) = _
      unfold CK_putNumber_l3
      rw [e1, if_neg (show ¬ nI (24 - 8 * j) < 0 from nI_nlt (a := 24 - 8 * j) (b := 0) (by omega) (by omega)), zgt_e, i3, show (1600 : Int32) = nI 1600 from rfl, if_neg (nI_ge (by omega) (by omega)), zgt_e, i3, zwr_e (by omega) (by omega), e2, zgt_e, zup_ne (by omega), i3, zpt_e, show (1 : Int32) = nI 1 from rfl, nI_add, zlt_e, e3]
      rfl
    · by_cases e : i = j
      · subst e; rw [zup_ne (by omega), zup_hit]
      · rw [zup_ne (by omega), zup_miss (by omega)]; exact i5 i (by omega)) (by
    rintro υ _
    show CK_putNumber_l3 υ x (nI 24 - nI (8 * 4)) = _
    unfold CK_putNumber_l3
    exact if_pos (by decide))
  obtain ⟨τ, e, i1, i2, i3, i4, i5⟩ := hl
  refine ⟨τ, ?_, i1, i2, i3, i4, i5⟩
  have e' : zit (fun (s : (Sg × Int32)) => CK_putNumber_l3 s.1 x s.2) zFU (σ, nI 24) = some (τ, nI 24 - nI (8 * 4)) := e
  unfold CK_putNumber
  rw [zlt_e, show (24 : Int32) = nI 24 from rfl, e', obs]
theorem lay_m {σ : Sg} {l : Nat} (x : Int32) (h : σ 171 28 = nI l) (hl : l + 4 ≤ 1600) : ∃ τ, M_lays σ x = some τ ∧ (∀ a, a ≠ 171 → a ≠ 186 → τ a = σ a) ∧ (∀ k, k ≠ 28 → τ 171 k = σ 171 k) ∧ τ 171 28 = nI (l + 4) ∧ (∀ i, i < l → τ 186 i = σ 186 i) ∧ ∀ i, i < 4 → τ 186 (l + i) = (x >>> nI (24 - 8 * i)) &&& 255 := by
  have hl := zit_cnt (b := fun (s : (Sg × Int32)) => M_lays_l2 s.1 x s.2) (fun j τ => (∀ a, a ≠ 186 → τ a = σ a) ∧ (∀ i, i < l → τ 186 i = σ 186 i) ∧ ∀ i, i < j → τ 186 (l + i) = (x >>> nI (24 - 8 * i)) &&& 255) nI 4 (σ := σ) (by omega)
    ⟨fun _ _ => rfl, fun _ _ => rfl, fun i hi => by omega⟩ (by
    rintro j υ hj ⟨i1, i2, i3⟩
    have e28 : υ 171 28 = nI l := by rw [i1 171 (by omega)]; exact h
    have e2 : nI (24 - 8 * j) &&& 31 = nI (24 - 8 * j) := by rw [and31 (by omega), Nat.mod_eq_of_lt (by omega)]
    refine ⟨zup υ 186 (l + j) ((x >>> nI (24 - 8 * j)) &&& 255), ?_, fun a ha => by rw [zup_ne ha]; exact i1 a ha, fun i hi => by rw [zup_miss (by omega)]; exact i2 i hi, fun i hi => ?_⟩
    · show M_lays_l2 υ x (nI j) = _
      unfold M_lays_l2
      rw [if_neg (show ¬ (4 : Int32) ≤ nI j from (nI_ge hj (by omega) : ¬ nI 4 ≤ nI j)), zgt_e, e28, nI_add, zwr_e (by omega) (by omega), show (24 : Int32) = nI 24 from rfl, show (8 : Int32) = nI 8 from rfl, nI_mul, nI_sub (by omega), e2, zlt_e, show nI j + 1 = nI (j + 1) from nI_add j 1]
    · by_cases e : i = j
      · subst e; rw [zup_hit]
      · rw [zup_miss (by omega)]; exact i3 i (by omega)) (by
    rintro υ _
    show M_lays_l2 υ x (nI 4) = _
    unfold M_lays_l2
    exact if_pos (by decide))
  obtain ⟨τ, e, i1, i2, i3⟩ := hl
  have e28 : τ 171 28 = nI l := by rw [i1 171 (by omega)]; exact h
  refine ⟨zup τ 171 28 (nI (l + 4)), ?_, fun a h1 h2 => by rw [zup_ne h1]; exact i1 a h2, fun k hk => by rw [zup_miss hk, i1 171 (by omega)], zup_hit, fun i hi => by rw [zup_ne (by omega)]; exact i2 i hi, fun i hi => by rw [zup_ne (by omega)]; exact i3 i hi⟩
  unfold M_lays
  rw [zlt_e, show (0 : Int32) = nI 0 from rfl, e, obs]
  dsimp only
  rw [zgt_e, e28, zpt_e, show (4 : Int32) = nI 4 from rfl, nI_add]
theorem a_feed {σ : Sg} {n : Nat} (h : Rel σ n) (x1 x2 x3 x4 x5 : Int32) : Calls n (CK_feed σ x1 x2 x3 x4 x5) (fun τ => M_feed τ x1 x2 x3 x4 x5) := by
  have h0 := h
  obtain ⟨p1, K, t, c, R, q, s, g, L, hC, ⟨s1, ⟨t1, t2, t3, t4⟩, s3, s4, s5⟩⟩ := h0
  by_cases hL : L + 20 ≤ 1600
  · obtain ⟨τ1, a1, a2, a3, a4, a5, a6⟩ := put_c x1 t2 (by omega)
    obtain ⟨τ2, b1, b2, b3, b4, b5, b6⟩ := put_c x2 a4 (by omega)
    obtain ⟨τ3, c1, c2, c3, c4, c5, c6⟩ := put_c x3 b4 (by omega)
    obtain ⟨τ4, d1, d2, d3, d4, d5, d6⟩ := put_c x4 c4 (by omega)
    obtain ⟨τ5, e1, e2, e3, e4, e5, e6⟩ := put_c x5 d4 (by omega)
    have ct : ∀ a, a ≠ 0 → a ≠ 1 → τ5 a = σ a := fun a h1 h2 => by rw [e2 a h1 h2, d2 a h1 h2, c2 a h1 h2, b2 a h1 h2, a2 a h1 h2]
    have c0 : ∀ k, k ≠ 1 → τ5 0 k = σ 0 k := fun k hk => by rw [e3 k hk, d3 k hk, c3 k hk, b3 k hk, a3 k hk]
    have l0 : τ5 171 28 = nI L := by rw [ct 171 (by omega) (by omega)]; exact t3
    obtain ⟨u1, f1, f2, f3, f4, f5, f6⟩ := lay_m x1 l0 (by omega)
    obtain ⟨u2, g1, g2, g3, g4, g5, g6⟩ := lay_m x2 f4 (by omega)
    obtain ⟨u3, i1, i2, i3, i4, i5, i6⟩ := lay_m x3 g4 (by omega)
    obtain ⟨u4, j1, j2, j3, j4, j5, j6⟩ := lay_m x4 i4 (by omega)
    obtain ⟨u5, k1, k2, k3, k4, k5, k6⟩ := lay_m x5 j4 (by omega)
    have um : ∀ a, a ≠ 171 → a ≠ 186 → u5 a = τ5 a := fun a h1 h2 => by rw [k2 a h1 h2, j2 a h1 h2, i2 a h1 h2, g2 a h1 h2, f2 a h1 h2]
    have u0 : ∀ k, k ≠ 28 → u5 171 k = σ 171 k := fun k hk => by rw [k3 k hk, j3 k hk, i3 k hk, g3 k hk, f3 k hk, ct 171 (by omega) (by omega)]
    have fb : ∀ a, a ≠ 0 → a ≠ 1 → a ≠ 171 → a ≠ 186 → u5 a = σ a := fun a h1 h2 h3 h4 => by rw [um a h3 h4, ct a h1 h2]
    have r0 : ∀ k, k ≠ 1 → u5 0 k = σ 0 k := fun k hk => by rw [um 0 (by omega) (by omega), c0 k hk]
    refine ⟨nI (L + 20), τ5, u5, ?_, ?_, ⟨p1, K, t, c, R, q, s, g, L + 20, hC.keep ⟨fun k hk => r0 k (by omega), fun a ha => fb a (by omega) (by omega) (by omega) (by omega), fun k hk => by rw [fb 124 (by omega) (by omega) (by omega) (by omega)], fun k hk => u0 k (by omega), fun i hi => by rw [fb 183 (by omega) (by omega) (by omega) (by omega)]⟩, ?_, ⟨hL, ?_, ?_, fun i hi => ?_⟩, fun i hi => ?_, ?_, ?_⟩⟩
    · unfold CK_feed
      rw [zgt_e, t2, show (20 : Int32) = nI 20 from rfl, nI_add, show (1600 : Int32) = nI 1600 from rfl, if_pos (nI_le hL (by omega)), a1, obs, b1, obs, c1, obs, d1, obs, e1, obs, zgt_e, e4]
    · show M_feed τ5 x1 x2 x3 x4 x5 = _
      unfold M_feed
      rw [zgt_e, l0, show (20 : Int32) = nI 20 from rfl, nI_add, show (1600 : Int32) = nI 1600 from rfl, if_pos (nI_le hL (by omega)), f1, obs, g1, obs, i1, obs, j1, obs, k1, obs, zgt_e, k4]
    · rw [r0 14 (by omega), u0 24 (by omega)]; exact s1
    · rw [um 0 (by omega) (by omega)]; exact e4
    · exact k4
    · rw [um 1 (by omega) (by omega)]
      rcases Nat.lt_or_ge i L with y | y
      · rw [e5 i (by omega), d5 i (by omega), c5 i (by omega), b5 i (by omega), a5 i y, k5 i (by omega), j5 i (by omega), i5 i (by omega), g5 i (by omega), f5 i y, ct 186 (by omega) (by omega)]
        exact t4 i y
      · rcases Nat.lt_or_ge i (L + 4) with z | z
        · obtain ⟨w, rfl⟩ : ∃ w, i = L + w := ⟨i - L, by omega⟩
          rw [e5 _ (by omega), d5 _ (by omega), c5 _ (by omega), b5 _ (by omega), a6 w (by omega), k5 _ (by omega), j5 _ (by omega), i5 _ (by omega), g5 _ (by omega), f6 w (by omega)]
          exact tb_of _
        · rcases Nat.lt_or_ge i (L + 4 + 4) with z | z
          · obtain ⟨w, rfl⟩ : ∃ w, i = L + 4 + w := ⟨i - (L + 4), by omega⟩
            rw [e5 _ (by omega), d5 _ (by omega), c5 _ (by omega), b6 w (by omega), k5 _ (by omega), j5 _ (by omega), i5 _ (by omega), g6 w (by omega)]
            exact tb_of _
          · rcases Nat.lt_or_ge i (L + 4 + 4 + 4) with z | z
            · obtain ⟨w, rfl⟩ : ∃ w, i = L + 4 + 4 + w := ⟨i - (L + 4 + 4), by omega⟩
              rw [e5 _ (by omega), d5 _ (by omega), c6 w (by omega), k5 _ (by omega), j5 _ (by omega), i6 w (by omega)]
              exact tb_of _
            · rcases Nat.lt_or_ge i (L + 4 + 4 + 4 + 4) with z | z
              · obtain ⟨w, rfl⟩ : ∃ w, i = L + 4 + 4 + 4 + w := ⟨i - (L + 4 + 4 + 4), by omega⟩
                rw [e5 _ (by omega), d6 w (by omega), k5 _ (by omega), j6 w (by omega)]
                exact tb_of _
              · obtain ⟨w, rfl⟩ : ∃ w, i = L + 4 + 4 + 4 + 4 + w := ⟨i - (L + 4 + 4 + 4 + 4), by omega⟩
                rw [e6 w (by omega), k6 w (by omega)]
                exact tb_of _
    · rw [fb 187 (by omega) (by omega) (by omega) (by omega), fb 170 (by omega) (by omega) (by omega) (by omega)]; exact s3 i hi
    · rw [r0 6 (by omega), r0 7 (by omega), u0 30 (by omega), u0 31 (by omega)]; exact s4
    · rw [fb 188 (by omega) (by omega) (by omega) (by omega)]; exact s5
  · refine calls_no (k := 0) h (by omega) ?_ ?_
    · unfold CK_feed
      rw [zgt_e, t2, show (20 : Int32) = nI 20 from rfl, nI_add, show (1600 : Int32) = nI 1600 from rfl, if_neg (nI_ge (by omega) (by omega))]; rfl
    · show M_feed (refC σ 0) x1 x2 x3 x4 x5 = _
      unfold M_feed
      rw [zgt_e, refC_ne (by omega), t3, show (20 : Int32) = nI 20 from rfl, nI_add, show (1600 : Int32) = nI 1600 from rfl, if_neg (nI_ge (by omega) (by omega))]; rfl
