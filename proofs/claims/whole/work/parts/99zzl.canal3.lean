/-- the class's reader, made ready -/
def prC (σ : Sg) (q L : Nat) : Sg := zup (zup (zup (zup (zup (zup (zup (zup (zup (zup (zup (zup (zup (zup σ 2 0 (nI 2)) 2 1 (nI L)) 2 5 (nI (q + 1))) q 0 0) q 1 0) q 2 4) q 3 0) q 7 0) (q + 16) 0 0) (q + 20) 0 0) 2 2 0) 2 3 0) 2 6 0) 2 7 (-1)
theorem readText_e {σ : Sg} {q L : Nat} (hq : q = 3 ∨ q = 29) : Reader_readText σ 1 1600 (nI L) q = cT zFU (prC σ q L, nI 0) := by
  unfold Reader_readText Works_clear
  rw [zpt_e, zpt_e, zpt_e, zup_hit, zmr2_e rfl hq]
  simp only [zpt_e, obs]
  rw [zbl0, zlt_e]
  rfl
theorem prC_ne {σ : Sg} {q L b : Nat} (h1 : b ≠ 2) (h2 : b ≠ q) (h3 : b ≠ q + 16) (h4 : b ≠ q + 20) : prC σ q L b = σ b := by
  unfold prC
  rw [zup_ne h1, zup_ne h1, zup_ne h1, zup_ne h1, zup_ne h4, zup_ne h3, zup_ne h2, zup_ne h2, zup_ne h2, zup_ne h2, zup_ne h2, zup_ne h1, zup_ne h1, zup_ne h1]
/-- the reference, made ready -/
def prM (ω : Sg) (L : Nat) : Sg := zup (zup (zup (zup (zup (zup (zup (zup (zup (zup ω 171 28 0) 171 32 (nI L)) 171 33 0) 171 35 0) 171 36 (-1)) 171 8 0) 171 9 0) 171 10 0) 171 11 0) 171 13 4
theorem prM_ne {ω : Sg} {L b : Nat} (h : b ≠ 171) : prM ω L b = ω b := by
  unfold prM
  rw [zup_ne h, zup_ne h, zup_ne h, zup_ne h, zup_ne h, zup_ne h, zup_ne h, zup_ne h, zup_ne h, zup_ne h]
theorem prM_k {ω : Sg} {L k : Nat} (h : k ≠ 28 ∧ k ≠ 32 ∧ k ≠ 33 ∧ k ≠ 35 ∧ k ≠ 36 ∧ k ≠ 8 ∧ k ≠ 9 ∧ k ≠ 10 ∧ k ≠ 11 ∧ k ≠ 13) : prM ω L 171 k = ω 171 k := by
  unfold prM
  rw [zup_miss (by omega), zup_miss (by omega), zup_miss (by omega), zup_miss (by omega), zup_miss (by omega), zup_miss (by omega), zup_miss (by omega), zup_miss (by omega), zup_miss (by omega), zup_miss (by omega)]
theorem canal_m {ω : Sg} {L : Nat} (h : ω 171 28 = nI L) : M_canal ω = ((rX (prM ω L)).bind fun r44 => mT zFU (r44, 1)).bind fun r24 => if r24.2 171 35 = 0 then mtail (zup (zup r24.2 171 30 (r24.2 171 35)) 171 31 (r24.2 171 36)) r24.1 else (M_refuses (zup (zup r24.2 171 30 (r24.2 171 35)) 171 31 (r24.2 171 36)) 1).bind fun r53 => some (r53.1, r53.2) := by
  unfold M_canal M_taken
  rw [zgt_e, h, zpt_e, obs]
  dsimp only
  rw [zpt_e, zpt_e, zpt_e, zpt_e, readsAll_e]
  show ((rX (prM ω L)).bind fun r44 => mT zFU (r44, 1)).bind _ = _
  congr 1
theorem prep_L {σ ω : Sg} {q L : Nat} (hq : q = 3 ∨ q = 29) (hT : Tp σ L) (h186 : ω 186 = σ 186) (h188 : ω 188 = lw_s0 188) : Lx (prC σ q L) (prM ω L) (tbN σ) L 0 ∧ prC σ q L 2 5 = nI (q + 1) ∧ D0 (prC σ q L) (prM ω L) q := by
  have t0 : tg (tbN σ) 0 = 0 := if_neg (by omega)
  refine ⟨⟨⟨⟨by omega, hT.1⟩, fun i hi => ?_, ?_, ?_, ?_, ?_, ?_, ?_⟩, ⟨by omega, hT.1⟩, fun i hi => ?_, ?_, ?_, ⟨?_, ?_⟩, ?_⟩, ?_, ?_, ?_, ?_, ?_, ?_, ?_, ?_, ?_, ?_, ?_, ?_⟩
  · obtain ⟨_, x2, _, x4⟩ := hT.at hi
    rw [prC_ne (by omega) (by omega) (by omega) (by omega)]
    exact ⟨x4, x2⟩
  · unfold prC; simp (disch := omega) only [zup_ne, zup_miss, zup_hit]
  · unfold prC; simp (disch := omega) only [zup_ne, zup_miss, zup_hit]
  · unfold prC; simp (disch := omega) only [zup_ne, zup_miss, zup_hit]; rfl
  · rw [t0]; unfold prC; simp (disch := omega) only [zup_ne, zup_miss, zup_hit]; rfl
  · unfold prC; simp (disch := omega) only [zup_ne, zup_miss, zup_hit]; rfl
  · unfold prC; simp (disch := omega) only [zup_ne, zup_miss, zup_hit]
  · obtain ⟨x1, x2, _⟩ := hT.at hi
    rw [prM_ne (by omega), h186]
    exact ⟨x1, x2⟩
  · unfold prM; simp (disch := omega) only [zup_ne, zup_miss, zup_hit]
  · unfold prM; simp (disch := omega) only [zup_ne, zup_miss, zup_hit]; rfl
  · unfold prM; simp (disch := omega) only [zup_ne, zup_miss, zup_hit]; rfl
  · unfold prM; simp (disch := omega) only [zup_ne, zup_miss, zup_hit]
  · rw [prM_ne (by omega)]; exact h188
  · unfold prC; simp (disch := omega) only [zup_ne, zup_miss, zup_hit]
  · unfold prC; simp (disch := omega) only [zup_ne, zup_miss, zup_hit]; rfl
  · unfold prC; simp (disch := omega) only [zup_ne, zup_miss, zup_hit]; rfl
  · unfold prC; simp (disch := omega) only [zup_ne, zup_miss, zup_hit]; rfl
  · unfold prC; simp (disch := omega) only [zup_ne, zup_miss, zup_hit]; rfl
  · unfold prC; simp (disch := omega) only [zup_ne, zup_miss, zup_hit]; rfl
  · unfold prC; simp (disch := omega) only [zup_ne, zup_miss, zup_hit]; rfl
  · unfold prM; simp (disch := omega) only [zup_ne, zup_miss, zup_hit]; rfl
  · unfold prM; simp (disch := omega) only [zup_ne, zup_miss, zup_hit]; rfl
  · unfold prM; simp (disch := omega) only [zup_ne, zup_miss, zup_hit]; rfl
  · unfold prM; simp (disch := omega) only [zup_ne, zup_miss, zup_hit]; rfl
  · unfold prM; simp (disch := omega) only [zup_ne, zup_miss, zup_hit]; rfl
theorem a_canal {σ : Sg} {n : Nat} (h : Rel σ n) : Calls n (CK_canal σ) (fun τ => M_canal τ) := by
  obtain ⟨p1, K, t, c, R, q', s, g, L, hC, hr⟩ := h
  have hC0 := hC
  obtain ⟨hB, hT, hz, hNm, hRg, hSn⟩ := hC
  obtain ⟨s1, hTp, s3, s4, s5⟩ := hr
  have hp1 := hB.1.1.1
  generalize hqd : 32 - p1 = q
  have hq : q = 3 ∨ q = 29 := by omega
  have hpq : p1 + 1 = 32 - q + 1 := by omega
  have e4 : σ 0 4 = nI (q + 1) := by rw [← hqd]; exact hB.1.1.2.2
  have e3 : σ 0 3 = nI (p1 + 1) := hB.1.1.2.1
  obtain ⟨l1, l2, l3⟩ := prep_L (ω := σ) hq hTp rfl s5
  obtain ⟨ok, τe, x0, νe0, k1, _, k3, _, k5⟩ := read_all hq l1 l2 l3
  have ke : ∀ b, b ≠ 2 → b < q ∨ q + 25 < b → τe b = σ b := fun b x y => by rw [k3.1 b x y, prC_ne x (by omega) (by omega) (by omega)]
  -- the second look, with the reference's own state
  have again : ∀ ω : Sg, ω 186 = σ 186 → ω 188 = lw_s0 188 → ∃ x νe, ((rX (prM ω L)).bind fun r44 => mT zFU (r44, 1)) = some (x, νe) ∧ MW (prM ω L) νe ∧ ((ok = true ∧ τe q 0 = x ∧ (∃ a, Lx τe νe (tbN σ) L a) ∧ ∃ P O T C, DR τe νe q P O T C) ∨ (ok = false ∧ Fx τe νe)) := by
    intro ω w1 w2
    obtain ⟨m1, m2, m3⟩ := prep_L (σ := σ) hq hTp w1 w2
    obtain ⟨ok', τe', x, νe, j1, j2, j3, j4, j5⟩ := read_all hq m1 m2 m3
    have e := Option.some.inj (j1.symm.trans k1)
    have e1 : ok' = ok := (Prod.mk.inj e).1
    have e2 : τe' = τe := (Prod.mk.inj e).2
    subst e1 e2
    exact ⟨x, νe, j2, j4, j5⟩
  generalize hτ1 : zup (zup (zup τe 0 1 0) 0 6 (τe 2 6)) 0 7 (τe 2 7) = τ1
  have t1r : ∀ b, b ≠ 0 → τ1 b = τe b := fun b hb => by rw [← hτ1, zup_ne hb, zup_ne hb, zup_ne hb]
  have t1k : ∀ k, k ≠ 1 → k ≠ 6 → k ≠ 7 → τ1 0 k = σ 0 k := fun k x y z => by rw [← hτ1, zup_miss z, zup_miss y, zup_miss x, ke 0 (by omega) (by omega)]
  have t11 : τ1 0 1 = nI 0 := by rw [← hτ1, zup_miss (by omega), zup_miss (by omega), zup_hit]; rfl
  have t16 : τ1 0 6 = τe 2 6 := by rw [← hτ1, zup_miss (by omega), zup_hit]
  have t17 : τ1 0 7 = τe 2 7 := by rw [← hτ1, zup_hit]
  have head : CK_canal σ = if zb ok = 0 then ((CK_refuse τ1 1).bind fun r53 => some (r53.1, r53.2)) else (zmr2 3 29 (τ1 0 3) fun q58 => zmr2 3 29 (τ1 0 4) fun q64 => zpt τ1 0 3 (nI (q64 + 1)) fun σ67 => zpt σ67 0 4 (nI (q58 + 1)) fun σ72 => zbo 1 <| zpt σ72 0 5 1 fun σ77 => zmr2 3 29 (σ77 0 3) fun q85 => (Moment_beginWith σ77 55 q85).bind fun r88 => zpt r88 124 0 0 fun σ96 => zpt σ96 0 11 0 fun σ101 => zmr2 3 29 (σ101 0 3) fun q105 => zgt σ101 q105 0 fun v108 => some (v108, σ101)) := by
    unfold CK_canal
    rw [zgt_e, hTp.2.1, e4, zmr2_e rfl hq, readText_e hq, k1, obs]
    dsimp only
    rw [zlt_e, zpt_e, zgt_e, zup_ne (by omega), zpt_e, zgt_e, zup_ne (by omega), zup_ne (by omega), zpt_e, hτ1]
  have low : ∀ ω υ : Sg, True := fun _ _ => trivial
  cases ok
  · -- refused
    have cf : CK_canal σ = some (-1, refC τ1 1) := by
      rw [head, if_pos (show zb false = 0 from rfl), show CK_refuse τ1 1 = some (-1, refC τ1 1) from ref_c (k := 1) (by omega), obs]
    have o28 : refC τ1 1 171 28 = nI L := by rw [refC_ne (by omega), t1r 171 (by omega), ke 171 (by omega) (by omega)]; exact hTp.2.2.1
    obtain ⟨x, νe, y1, y2, y3⟩ := again (refC τ1 1) (by rw [refC_ne (by omega), t1r 186 (by omega), ke 186 (by omega) (by omega)]) (by rw [refC_ne (by omega), t1r 188 (by omega), ke 188 (by omega) (by omega)]; exact s5)
    rcases y3 with ⟨y, _⟩ | ⟨_, hF⟩
    · exact absurd y (by decide)
    · obtain ⟨kk, pp, z1, z2, z3, z4, z5⟩ := hF
      generalize hν2 : zup (zup νe 171 30 (νe 171 35)) 171 31 (νe 171 36) = ν2
      have cm : M_canal (refC τ1 1) = some (-1, refM ν2 1) := by
        rw [canal_m o28, y1, obs]
        dsimp only
        rw [if_neg (show ¬ νe 171 35 = 0 by rw [z4]; exact nI_ne0 (by omega) (by omega)), hν2, show M_refuses ν2 1 = some (-1, refM ν2 1) from ref_m (k := 1) (by omega), obs]
      refine ⟨-1, refC τ1 1, refM ν2 1, cf, cm, ?_⟩
      have u1 : ∀ b, b ≠ 187 → b ≠ 171 → b < 177 ∨ 182 < b → refM ν2 1 b = refC τ1 1 b := fun b w1 w2 w3 => by
        unfold refM
        rw [zup_ne w1, ← hν2, zup_ne w2, zup_ne w2, y2.1 b w2 w3, prM_ne w2]
      have u2 : ∀ b, b ≠ 187 → b ≠ 170 → b ≠ 171 → b ≠ 0 → b ≠ 2 → b < 177 ∨ 182 < b → b < q ∨ q + 25 < b → refM ν2 1 b = σ b := fun b w1 w2 w3 w4 w5 w6 w7 => by
        rw [u1 b w1 w3 w6, refC_ne w2, t1r b w4, ke b w5 w7]
      have u0 : ∀ k, k ≠ 1 → k ≠ 6 → k ≠ 7 → refM ν2 1 0 k = σ 0 k := fun k w1 w2 w3 => by rw [u1 0 (by omega) (by omega) (by omega), refC_ne (by omega), t1k k w1 w2 w3]
      have u171 : ∀ k, k < 8 ∨ (13 < k ∧ k < 28) ∨ 36 < k → refM ν2 1 171 k = σ 171 k := fun k w => by
        unfold refM
        rw [zup_ne (by omega), ← hν2, zup_miss (by omega), zup_miss (by omega), y2.2 k (by omega), prM_k (by omega), refC_ne (by omega), t1r 171 (by omega), ke 171 (by omega) (by omega)]
      have m28 : refM ν2 1 171 28 = nI 0 := by
        unfold refM
        rw [zup_ne (by omega), ← hν2, zup_miss (by omega), zup_miss (by omega), y2.2 28 (by omega)]
        unfold prM
        simp (disch := omega) only [zup_miss, zup_hit]
        rfl
      have m30 : refM ν2 1 171 30 = nI kk := by
        unfold refM
        rw [zup_ne (by omega), ← hν2, zup_miss (by omega), zup_hit]; exact z4
      have m31 : refM ν2 1 171 31 = nI pp := by
        unfold refM
        rw [zup_ne (by omega), ← hν2, zup_hit]; exact z5
      refine ⟨p1, K, t, c, R, q', s, g, 0, hC0.keep2 ⟨fun k hk => u0 k (by omega) (by omega) (by omega), fun a ha => u2 a (by omega) (by omega) (by omega) (by omega) (by omega) (by omega) (by omega), fun k _ => by rw [u2 124 (by omega) (by omega) (by omega) (by omega) (by omega) (by omega) (by omega)], fun k hk => u171 k (by omega), fun i _ => by rw [u2 183 (by omega) (by omega) (by omega) (by omega) (by omega) (by omega) (by omega)]⟩, ?_, ⟨by omega, ?_, m28, fun i hi => by omega⟩, fun i hi => ?_, ⟨?_, ?_⟩, ?_⟩
      · rw [u0 14 (by omega) (by omega) (by omega), u171 24 (by omega)]; exact s1
      · rw [u1 0 (by omega) (by omega) (by omega), refC_ne (by omega)]; exact t11
      · have e170 : refM ν2 1 170 = refC τ1 1 170 := u1 170 (by omega) (by omega) (by omega)
        have n187 : ν2 187 = σ 187 := by rw [← hν2, zup_ne (by omega), zup_ne (by omega), y2.1 187 (by omega) (by omega), prM_ne (by omega), refC_ne (by omega), t1r 187 (by omega), ke 187 (by omega) (by omega)]
        have t170 : τ1 170 = σ 170 := by rw [t1r 170 (by omega), ke 170 (by omega) (by omega)]
        rw [e170]
        unfold refM refC
        by_cases e : i = 1
        · subst e
          rw [zup_hit, zup_hit, n187, t170, s3 1 (by omega)]
        · rw [zup_miss e, zup_miss e, n187, t170]; exact s3 i hi
      · rw [m30, u1 0 (by omega) (by omega) (by omega), refC_ne (by omega), t16, z2]
      · rw [m31, u1 0 (by omega) (by omega) (by omega), refC_ne (by omega), t17, z3]
      · rw [u2 188 (by omega) (by omega) (by omega) (by omega) (by omega) (by omega) (by omega)]; exact s5
  · -- read
    generalize hτ2 : zup (zup (zup τ1 0 3 (nI (q + 1))) 0 4 (nI (p1 + 1))) 0 5 1 = τ2
    have t2r : ∀ b, b ≠ 0 → τ2 b = τe b := fun b hb => by rw [← hτ2, zup_ne hb, zup_ne hb, zup_ne hb, t1r b hb]
    have t2k : ∀ k, k ≠ 3 → k ≠ 4 → k ≠ 5 → τ2 0 k = τ1 0 k := fun k x y z => by rw [← hτ2, zup_miss z, zup_miss y, zup_miss x]
    have t23 : τ2 0 3 = nI (q + 1) := by rw [← hτ2, zup_miss (by omega), zup_miss (by omega), zup_hit]
    have t24 : τ2 0 4 = nI (p1 + 1) := by rw [← hτ2, zup_miss (by omega), zup_hit]
    have t25 : τ2 0 5 = nI 1 := by rw [← hτ2, zup_hit]; rfl
    obtain ⟨τb, b1, b2, b3, b4, b5, b6, b7, b8, b9, b10⟩ := beg_c (τ := τ2) (q := q) hq
    generalize hτf : zup (zup τb 124 0 0) 0 11 0 = τf
    have tfr : ∀ b, b ≠ 0 → b ≠ 124 → τf b = τb b := fun b x y => by rw [← hτf, zup_ne x, zup_ne y]
    have tf0 : ∀ k, k ≠ 11 → τf 0 k = τ2 0 k := fun k hk => by rw [← hτf, zup_miss hk, zup_ne (by omega), b2 0 (by omega)]
    have tf11 : τf 0 11 = nI 0 := by rw [← hτf, zup_hit]; rfl
    have tf124 : ∀ k, k ≠ 0 → τf 124 k = σ 124 k := fun k hk => by rw [← hτf, zup_ne (by omega), zup_miss hk, b2 124 (by omega), t2r 124 (by omega), ke 124 (by omega) (by omega)]
    have tf1240 : τf 124 0 = nI 0 := by rw [← hτf, zup_ne (by omega), zup_hit]; rfl
    have tfs : ∀ b, b ≠ 0 → b ≠ 2 → b ≠ 124 → b < 56 ∨ (64 < b ∧ b < 73) ∨ 77 < b → b < q ∨ q + 25 < b → τf b = σ b := fun b w1 w2 w3 w4 w5 => by rw [tfr b w1 w3, b2 b w4, t2r b w1, ke b w2 w5]
    have tfq : ∀ b, q ≤ b → b ≤ q + 25 → τf b = τe b := fun b w1 w2 => by rw [tfr b (by omega) (by omega), b2 b (by omega), t2r b (by omega)]
    have cf : CK_canal σ = some (τe q 0, τf) := by
      rw [head, if_neg (show ¬ zb true = 0 by decide), t1k 3 (by omega) (by omega) (by omega), e3, zmr2_e rfl hp1, t1k 4 (by omega) (by omega) (by omega), e4, zmr2_e rfl hq, zpt_e, zpt_e, zbl1, zpt_e, hτ2, t23, zmr2_e rfl hq, b1, obs, zpt_e, zpt_e, hτf, tf0 3 (by omega), t23, zmr2_e rfl hq, zgt_e, tfq q (by omega) (by omega)]
    have o28 : τf 171 28 = nI L := by rw [tfs 171 (by omega) (by omega) (by omega) (by omega) (by omega)]; exact hTp.2.2.1
    obtain ⟨x, νe, y1, y2, y3⟩ := again τf (tfs 186 (by omega) (by omega) (by omega) (by omega) (by omega)) (by rw [tfs 188 (by omega) (by omega) (by omega) (by omega) (by omega)]; exact s5)
    rcases y3 with ⟨_, y4, ⟨a, y5⟩, P, O, T, C, y6⟩ | ⟨y, _⟩
    · have n35 : νe 171 35 = nI 0 := y5.2.2.2.2.2.1.1
      have n36 : νe 171 36 = -1 := y5.2.2.2.2.2.1.2
      have c6 : τe 2 6 = nI 0 := y5.1.2.2.2.2.2.2.1
      have c7 : τe 2 7 = -1 := y5.1.2.2.2.2.2.2.2
      generalize hν2 : zup (zup νe 171 30 (νe 171 35)) 171 31 (νe 171 36) = ν2
      have n2r : ∀ b, b ≠ 171 → ν2 b = νe b := fun b hb => by rw [← hν2, zup_ne hb, zup_ne hb]
      have n2k : ∀ k, k ≠ 30 → k ≠ 31 → ν2 171 k = νe 171 k := fun k w1 w2 => by rw [← hν2, zup_miss w2, zup_miss w1]
      have hD2 : DR τe ν2 q P O T C := y6.keep ⟨⟨rfl, rfl, rfl, rfl, rfl, rfl⟩, fun _ _ => ⟨rfl, fun _ _ => rfl⟩, fun _ _ => ⟨rfl, rfl, rfl⟩, fun _ _ => ⟨rfl, rfl, rfl⟩, fun _ _ => ⟨rfl, rfl, fun _ _ => rfl⟩, fun k w1 w2 => n2k k (by omega) (by omega), fun i _ => by rw [n2r 177 (by omega)], fun i _ => by rw [n2r 178 (by omega)], fun i _ => by rw [n2r 179 (by omega)], fun i _ => by rw [n2r 180 (by omega)], fun i _ => by rw [n2r 181 (by omega)], fun i _ => by rw [n2r 182 (by omega)]⟩
      obtain ⟨υ, v1, v2, v3, ⟨v4, v5, v6, v7, v8, v9⟩, v10, v11, v12, v13, v14, v15, v16, v17, v18, v19⟩ := can_m (ν := ν2) (O := O) (v := x) hD2.1.1.2.1 hD2.1.1.2.2 hD2.1.2.2.2.2.1 hD2.1.2.2.2.2.2
      have cm : M_canal τf = some (x, υ) := by
        rw [canal_m o28, y1, obs]
        dsimp only
        rw [if_pos (show νe 171 35 = 0 from n35), hν2, v1]
      have ur : ∀ b, b < 171 ∨ (182 < b ∧ b ≠ 183) → υ b = τf b := fun b w => by rw [v2 b (by omega), n2r b (by omega), y2.1 b (by omega) (by omega), prM_ne (by omega)]
      have u171 : ∀ k, (2 < k ∧ k < 8) ∨ (13 < k ∧ k < 28) ∨ 36 < k → k ≠ 23 → k ≠ 25 → k ≠ 43 → υ 171 k = σ 171 k := fun k w1 w2 w3 w4 => by
        rw [v3 k (by omega) (by omega) (by omega) w2 w3 w4, n2k k (by omega) (by omega), y2.2 k (by omega), prM_k (by omega), tfs 171 (by omega) (by omega) (by omega) (by omega) (by omega)]
      have m28 : υ 171 28 = nI 0 := by
        rw [v3 28 (by omega) (by omega) (by omega) (by omega) (by omega) (by omega), n2k 28 (by omega) (by omega), y2.2 28 (by omega)]
        unfold prM
        simp (disch := omega) only [zup_miss, zup_hit]
        rfl
      have m30 : υ 171 30 = nI 0 := by rw [v3 30 (by omega) (by omega) (by omega) (by omega) (by omega) (by omega), ← hν2, zup_miss (by omega), zup_hit]; exact n35
      have m31 : υ 171 31 = -1 := by rw [v3 31 (by omega) (by omega) (by omega) (by omega) (by omega) (by omega), ← hν2, zup_hit]; exact n36
      have hi : ∀ i, 1607 ≤ i → υ 183 i = 0 := fun i w => by rw [v19 i w, n2r 183 (by omega), y2.1 183 (by omega) (by omega), prM_ne (by omega), tfs 183 (by omega) (by omega) (by omega) (by omega) (by omega)]; exact hz i w
      have ub : ∀ b, 56 ≤ b → b < 78 → υ b = τb b := fun b w1 w2 => by rw [ur b (by omega), tfr b (by omega) (by omega)]
      have e2q : ∀ b, 0 < b → τ2 b = τe b := fun b w => t2r b (by omega)
      have cr := canal_rel (υ := υ) hq hD2 (fun b w1 w2 => by rw [ur b (by omega), tfq b w1 w2]) (by rw [ur 0 (by omega), tf0 3 (by omega)]; exact t23) (by rw [ur 0 (by omega), tf0 4 (by omega), t24, hpq]) (by rw [ur 0 (by omega), tf0 5 (by omega)]; exact t25) (by rw [u171 26 (by omega) (by omega) (by omega) (by omega)]; exact hB.2.1) ⟨v4, v5, v6⟩ v8 v10 v11 v12 v13 v14 v15 v16 v17 v18 hi
        (by rw [ub 56 (by omega) (by omega), b3.1, b3.2.1, b3.2.2, e2q q (by omega)]; exact ⟨rfl, rfl, rfl⟩)
        (fun p hp => by rw [ub 57 (by omega) (by omega), ub 58 (by omega) (by omega), ub 59 (by omega) (by omega), ub 60 (by omega) (by omega), ← e2q (q + 3) (by omega), ← e2q (q + 11) (by omega), ← e2q (q + 8) (by omega)]; exact b4 p hp)
        (fun i hi => by rw [ub 61 (by omega) (by omega)]; exact b5 i hi) (fun o ho => by rw [ub 62 (by omega) (by omega), ub 63 (by omega) (by omega)]; exact b6 o ho) (fun i hi => by rw [ub 64 (by omega) (by omega)]; exact b7 i hi)
        (by rw [ub 73 (by omega) (by omega), b8, e2q _ (by omega)])
        (fun k hk => by rw [ub 74 (by omega) (by omega), ub 75 (by omega) (by omega), ub 76 (by omega) (by omega), ← e2q (q + 17) (by omega), ← e2q (q + 18) (by omega), ← e2q (q + 19) (by omega)]; exact b9 k hk)
        (by rw [ub 77 (by omega) (by omega)]; exact b10)
      obtain ⟨cr1, cr2, cr3, cr4⟩ := cr
      refine ⟨x, τf, υ, by rw [cf, y4], cm, q, K, t, 0, 0, 0, s, g, 0, ⟨cr1, cr2, cr3, cr4, ?_, ?_⟩, ?_, ⟨by omega, ?_, m28, fun i hi => by omega⟩, fun i hi => ?_, ⟨?_, ?_⟩, ?_⟩
      · obtain ⟨w1, w2, w3, w4, w5, w6, ⟨w7, w8, w9⟩, w10, w11, w12⟩ := hRg
        refine ⟨w1, w2, w3, w4, by omega, fun _ => by omega, ⟨?_, ?_, v7⟩, ?_, ?_, fun i hi => by omega⟩
        · rw [ur 0 (by omega), tf0 10 (by omega), t2k 10 (by omega) (by omega) (by omega), t1k 10 (by omega) (by omega) (by omega)]; exact w7
        · rw [ur 0 (by omega)]; exact tf11
        · rw [ur 80 (by omega), tfs 80 (by omega) (by omega) (by omega) (by omega) (by omega)]; exact w10
        · rw [ur 80 (by omega), tfs 80 (by omega) (by omega) (by omega) (by omega) (by omega)]; exact w11
      · exact ⟨by omega, by rw [ur 124 (by omega)]; exact tf1240, v9, fun w => by omega⟩
      · rw [ur 0 (by omega), tf0 14 (by omega), t2k 14 (by omega) (by omega) (by omega), t1k 14 (by omega) (by omega) (by omega), u171 24 (by omega) (by omega) (by omega) (by omega)]; exact s1
      · rw [ur 0 (by omega), tf0 1 (by omega), t2k 1 (by omega) (by omega) (by omega)]; exact t11
      · rw [ur 187 (by omega), ur 170 (by omega), tfs 187 (by omega) (by omega) (by omega) (by omega) (by omega), tfs 170 (by omega) (by omega) (by omega) (by omega) (by omega)]; exact s3 i hi
      · rw [m30, ur 0 (by omega), tf0 6 (by omega), t2k 6 (by omega) (by omega) (by omega), t16, c6]
      · rw [m31, ur 0 (by omega), tf0 7 (by omega), t2k 7 (by omega) (by omega) (by omega), t17, c7]
      · rw [ur 188 (by omega), tfs 188 (by omega) (by omega) (by omega) (by omega) (by omega)]; exact s5
    · exact absurd y (by decide)
