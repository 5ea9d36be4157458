/-! canal whole -/
theorem canal_rel {τe ν υ : Sg} {q P O T C : Nat} (hq : q = 3 ∨ q = 29) (hD : DR τe ν q P O T C) (rq : ∀ b, q ≤ b → b ≤ q + 25 → υ b = τe b) (c3 : υ 0 3 = nI (q + 1)) (c4 : υ 0 4 = nI (32 - q + 1)) (c5 : υ 0 5 = nI 1)
    (m26 : υ 171 26 = nI 0) (m0 : υ 171 0 = ν 171 8 ∧ υ 171 1 = ν 171 9 ∧ υ 171 2 = ν 171 10) (m25 : υ 171 25 = nI 1)
    (m172 : ∀ i, i < 72 → υ 172 i = ν 177 i) (m173 : ∀ i, i < 20 → υ 173 i = ν 178 i) (m174 : ∀ i, i < 16 → υ 174 i = ν 179 i) (m175 : ∀ i, i < 48 → υ 175 i = ν 181 i) (m176 : ∀ i, i < 60 → υ 176 i = ν 182 i)
    (m183 : ∀ p, p < P → υ 183 p = ν 177 (9 * p + 6) ∧ υ 183 (8 + p) = ν 177 (9 * p + 8) ∧ υ 183 (16 + p) = -1 ∧ υ 183 (24 + p) = ν 177 (9 * p + 7)) (m148 : ∀ i, i < 3 * C → υ 183 (148 + i) = ν 180 i) (m199 : υ 183 199 = ν 171 11 ∧ υ 183 197 = ν 171 12 ∧ υ 183 198 = ν 171 13) (mz : ∀ i, 32 ≤ i → i < 1607 → i < 148 ∨ 148 + 3 * C ≤ i → i ≠ 197 → i ≠ 198 → i ≠ 199 → υ 183 i = 0) (mhi : ∀ i, 1607 ≤ i → υ 183 i = 0)
    (w56 : υ 56 0 = nI 0 ∧ υ 56 1 = τe q 1 ∧ υ 56 2 = τe q 2) (w57 : ∀ p, p < 8 → υ 57 p = τe (q + 3) p ∧ υ 58 p = τe (q + 11) p ∧ υ 59 p = τe (q + 8) p ∧ υ 60 p = -1) (w61 : ∀ i, i < 72 → υ 61 i = 0) (w62 : ∀ o, o < 10 → υ 62 o = 0 ∧ υ 63 o = 0) (w64 : ∀ i, i < 7 → υ 64 i = 0) (w73 : υ 73 0 = τe (q + 16) 0) (w74 : ∀ k, k < 16 → υ 74 k = τe (q + 17) k ∧ υ 75 k = τe (q + 18) k ∧ υ 76 k = τe (q + 19) k) (w77 : υ 77 0 = nI 0) :
    Base υ q ∧ Told υ ∧ Zhi υ ∧ RepNm υ q := by
  obtain ⟨⟨⟨hp1, hp2, hp3⟩, ⟨ho1, ho2, ho3⟩, ⟨ht1, ht2, ht3⟩, ⟨hc1, hc2, hc3⟩⟩, ⟨⟨gv, gv1, gv2, gv3⟩, ⟨gn, gn1, gn2, gn3, gn4⟩⟩, r1, r2, r3, r4, n1, n2⟩ := hD
  have eP : nP υ = P := by unfold nP; rw [m0.1, hp2, nI_clamp (by omega)]
  have eO : nO υ = O := by unfold nO; rw [m0.2.1, ho2, nI_clamp (by omega)]
  have eT : nT υ = T := by unfold nT; rw [m0.2.2, ht2, nI_clamp (by omega)]
  have eC : nC υ = C := by unfold nC; rw [m199.1, hc2, nI_clamp (by omega)]
  have e196 : υ 183 196 = 0 := mz 196 (by omega) (by omega) (by omega) (by omega) (by omega) (by omega)
  have es : stp υ = 0 := by unfold stp; rw [e196]; rfl
  have pool : ∀ p, p < P → ∃ t : Nat → Nat, (∀ j, j < 9 → υ 172 (9 * p + j) = nI (t j)) ∧ (∀ j, j < 9 → tl υ p j = t j) ∧ (∀ j, j < 9 → ν 177 (9 * p + j) = nI (t j)) ∧ (∀ j, j < 9 → t j ≤ 9999) ∧ (t 3 ≤ 9 ∧ 1 ≤ t 5 ∧ t 0 ≤ t 1 ∧ t 1 ≤ t 2 ∧ t 2 ≤ 9999 ∧ t 4 ≤ 999 ∧ t 5 ≤ 999 ∧ t 7 ≤ 99 ∧ t 8 ≤ t 4 ∧ t 6 ≤ 9999) ∧ (τe (q + 3) p = nI (t 6) ∧ τe (q + 4) p = nI (t 0) ∧ τe (q + 5) p = nI (t 1) ∧ τe (q + 6) p = nI (t 2) ∧ τe (q + 7) p = nI (t 3)) ∧ τe (q + 8) p = nI (t 7) ∧ τe (q + 9) p = nI (t 4) ∧ τe (q + 10) p = nI (t 5) ∧ τe (q + 11) p = nI (t 8) ∧ τe (q + 12) p = (nI (t 0) + nI (t 1)) / 2 := by
    intro p hp
    obtain ⟨t, t1, t2, t3⟩ := r1 p hp
    have hb : ∀ j, j < 9 → t j ≤ 9999 := by
      intro j hj
      rcases j with _ | _ | _ | _ | _ | _ | _ | _ | _ | j
      · show t 0 ≤ 9999; omega
      · show t 1 ≤ 9999; omega
      · show t 2 ≤ 9999; omega
      · show t 3 ≤ 9999; omega
      · show t 4 ≤ 9999; omega
      · show t 5 ≤ 9999; omega
      · show t 6 ≤ 9999; omega
      · show t 7 ≤ 9999; omega
      · show t 8 ≤ 9999; omega
      · omega
    have e : ∀ j, j < 9 → υ 172 (9 * p + j) = nI (t j) := fun j hj => by rw [m172 _ (by omega)]; exact t1 j hj
    exact ⟨t, e, fun j hj => by have := hb j hj; unfold tl; rw [e j hj, nI_clamp (by omega)], t1, hb, t2, t3⟩
  have hK : InvK υ := by
    unfold InvK
    rw [eP, eO, eT]
    refine ⟨⟨by rw [m0.1]; exact hp2, hp3⟩, ⟨by rw [m0.2.1]; exact ho2, ho3⟩, ⟨by rw [m0.2.2]; exact ht2, ht3⟩, fun p hp j hj => ?_, fun p hp => ?_, fun o ho => ?_, fun t ht => ?_⟩
    · obtain ⟨t, x1, x2, _, x3, _⟩ := pool p hp
      rw [x2 j hj]; exact ⟨x1 j hj, x3 j hj⟩
    · obtain ⟨t, x1, x2, _, x3, ⟨y1, y2, y3, y4, y5, y6, y7, y8, y9, y10⟩, _⟩ := pool p hp
      rw [x2 3 (by omega), x2 5 (by omega), x2 0 (by omega), x2 1 (by omega), x2 2 (by omega), x2 4 (by omega), x2 7 (by omega), x2 8 (by omega)]
      exact ⟨y1, y2, y3, y4, y6, y7, y8, y9⟩
    · obtain ⟨l, k, x1, x2, x3, x4, x5, _⟩ := r2 o ho
      have e1 : υ 173 (2 * o) = nI l := by rw [m173 _ (by omega)]; exact x4
      have e2 : υ 173 (2 * o + 1) = nI k := by rw [m173 _ (by omega)]; exact x5
      unfold opl tk
      rw [e1, e2, nI_clamp (by omega), nI_clamp (by omega)]
      exact ⟨rfl, x1, rfl, x2, x3⟩
    · obtain ⟨e, s, x1, x2, x3, x4, x5, x6, _⟩ := r4 t ht
      have e1 : υ 174 (8 * t) = nI e := by rw [m174 _ (by omega)]; exact x5
      have e2 : υ 174 (8 * t + 1) = nI s := by rw [m174 _ (by omega)]; exact x6
      unfold ev sz
      rw [e1, e2, nI_clamp (by omega), nI_clamp (by omega)]
      exact ⟨rfl, x1, x2, rfl, x3, x4⟩
  have hR : RepK υ q υ := by
    unfold RepK
    rw [eP, eO, eT]
    refine ⟨⟨?_, ?_, ?_⟩, fun p hp => ?_, fun o ho => ?_, fun t ht => ?_⟩
    · rw [rq q (by omega) (by omega), m0.1, hp2]; exact hp1
    · rw [rq q (by omega) (by omega), m0.2.1, ho2]; exact ho1
    · rw [rq (q + 20) (by omega) (by omega), m0.2.2, ht2]; exact ht1
    · obtain ⟨t, x1, x2, _, x3, _, ⟨z0, z1, z2, z3, z4⟩, z5, z6, z7, z8, z9⟩ := pool p hp
      have e0 := x1 0 (by omega)
      rw [Nat.add_zero] at e0
      unfold mid
      rw [rq (q + 3) (by omega) (by omega), rq (q + 4) (by omega) (by omega), rq (q + 5) (by omega) (by omega), rq (q + 6) (by omega) (by omega), rq (q + 7) (by omega) (by omega), rq (q + 8) (by omega) (by omega), rq (q + 9) (by omega) (by omega), rq (q + 10) (by omega) (by omega), rq (q + 11) (by omega) (by omega), rq (q + 12) (by omega) (by omega), x1 6 (by omega), e0, x1 1 (by omega), x1 2 (by omega), x1 3 (by omega), x1 7 (by omega), x1 4 (by omega), x1 5 (by omega), x1 8 (by omega)]
      exact ⟨⟨z0, z1, z2, z3, z4⟩, z5, z6, z7, z8, z9⟩
    · obtain ⟨l, k, x1, x2, x3, x4, x5, x6, x7⟩ := r2 o ho
      rw [rq (q + 14) (by omega) (by omega), rq (q + 15) (by omega) (by omega), m173 _ (by omega), m173 _ (by omega), x4, x5]
      exact ⟨x6, x7⟩
    · obtain ⟨e, s, x1, x2, x3, x4, x5, x6, x7, x8, x9⟩ := r4 t ht
      have e2 : υ 174 (8 * t + 1) = nI s := by rw [m174 _ (by omega)]; exact x6
      have esz : sz υ t = s := by unfold sz; rw [e2, nI_clamp (by omega)]
      rw [rq (q + 21) (by omega) (by omega), rq (q + 22) (by omega) (by omega), rq (q + 24 + t) (by omega) (by omega), m174 _ (by omega), m174 _ (by omega), x5, x6, esz]
      exact ⟨x7, x8, fun i hi => by rw [m174 _ (by omega)]; exact x9 i hi⟩
  have ord : ∀ k, k < C → ∃ o f m : Nat, o < O ∧ f ≤ 999 ∧ 1 ≤ m ∧ m ≤ 99 ∧ υ 183 (148 + 3 * k) = nI o ∧ υ 183 (149 + 3 * k) = nI f ∧ υ 183 (150 + 3 * k) = nI m ∧ τe (q + 17) k = nI o ∧ τe (q + 18) k = nI f ∧ τe (q + 19) k = nI m := by
    intro k hk
    obtain ⟨o, f, m, x1, x2, x3, x4, x5, x6, x7, x8⟩ := r3 k hk
    refine ⟨o, f, m, x1, x2, x3, x4, ?_, ?_, ?_, x8⟩
    · rw [m148 (3 * k) (by omega)]; exact x5
    · rw [show 149 + 3 * k = 148 + (3 * k + 1) from by omega, m148 _ (by omega)]; exact x6
    · rw [show 150 + 3 * k = 148 + (3 * k + 2) from by omega, m148 _ (by omega)]; exact x7
  have zc : ∀ i, 32 ≤ i → i < 148 → υ 183 i = 0 := fun i x y => mz i x (by omega) (by omega) (by omega) (by omega) (by omega)
  have zd : ∀ i, 200 ≤ i → i < 1607 → υ 183 i = 0 := fun i x y => mz i (by omega) y (by omega) (by omega) (by omega) (by omega)
  have hM : Mom υ 55 υ := by
    refine ⟨⟨⟨fun p hp => ?_, fun o ho => ?_, fun i hi => ?_, ?_, ?_, ?_, ?_⟩, fun p hp => ⟨fun k hk => ?_, fun k _ hk2 => ?_⟩, fun p hp i _ hi9 => ?_⟩, ⟨?_, fun k hk => ?_⟩, ⟨0, w77, by omega, ?_, fun k hk => by omega, ?_, fun k hk => by omega⟩, ⟨?_, by rw [eC]; exact hc3, fun k hk => ?_⟩, ⟨by rw [es, e196]; rfl, by rw [es]; omega⟩, fun p hp => ?_, fun p hp => ?_, ?_, fun o ho => ?_⟩
    · rw [eP] at hp
      show υ 57 p = _ ∧ υ 58 p = _ ∧ υ 59 p = _ ∧ υ 60 p = _
      obtain ⟨t, _, _, x3, _, _, ⟨z0, _⟩, z5, _, _, z8, _⟩ := pool p hp
      obtain ⟨y1, y2, y3, y4⟩ := m183 p hp
      obtain ⟨v1, v2, v3, v4⟩ := w57 p (by omega)
      rw [v1, v2, v3, v4, y1, y2, y3, y4, z0, z8, z5, x3 6 (by omega), x3 8 (by omega), x3 7 (by omega)]
      exact ⟨rfl, rfl, rfl, rfl⟩
    · rw [eO] at ho
      show υ 62 o = _ ∧ υ 63 o = _
      rw [(w62 o (by omega)).1, (w62 o (by omega)).2, zc _ (by omega) (by omega), zc _ (by omega) (by omega)]
      exact ⟨rfl, rfl⟩
    · show υ 64 i = _
      rw [w64 i (by omega), zd _ (by omega) (by omega)]
    · show υ 64 6 = _
      rw [w64 6 (by omega), eO]
      have : ∀ n, n ≤ 10 → sm (fun o => υ 183 (138 + o)) n = 0 := by
        intro n
        induction n with
        | zero => intro _; rfl
        | succ n ih =>
          intro hn
          rw [sm_succ, ih (by omega), zc _ (by omega) (by omega)]
          rfl
      exact (this O ho3).symm
    · rw [w56.1, e196]; rfl
    · rw [w56.2.1, m199.2.1, gv3]; exact gv2
    · rw [w56.2.2, m199.2.2, gn4]; exact gn3
    · rw [eP] at hp
      show υ 61 _ = _
      have hd : tl υ p 3 ≤ 9 := (hK.2.2.2.2.1 p (by rw [eP]; exact hp)).1
      have hmod : (stp υ + k) % tl υ p 3 < tl υ p 3 := Nat.mod_lt _ (by omega)
      rw [w61 _ (by omega), zc _ (by omega) (by omega)]
    · rw [eP] at hp
      exact zc _ (by omega) (by omega)
    · rw [eP] at hp
      show υ 61 _ = 0
      exact w61 _ (by omega)
    · show υ 73 0 = _
      rw [w73, m199.1, hc2]; exact hc1
    · rw [eC] at hk
      show υ 74 k = _ ∧ υ 75 k = _ ∧ υ 76 k = _
      obtain ⟨o, f, m, _, _, _, _, x5, x6, x7, x8, x9, x10⟩ := ord k hk
      obtain ⟨v1, v2, v3⟩ := w74 k (by omega)
      rw [v1, v2, v3, x5, x6, x7]
      exact ⟨x8, x9, x10⟩
    · rw [zd 205 (by omega) (by omega)]; rfl
    · rw [zd 206 (by omega) (by omega), es]; rfl
    · rw [eC, m199.1]; exact hc2
    · rw [eC] at hk
      obtain ⟨o, f, m, x1, x2, x3, x4, x5, x6, x7, _⟩ := ord k hk
      unfold oo ofr oma
      rw [x5, x6, x7, nI_clamp (by omega), nI_clamp (by omega), nI_clamp (by omega), eO]
      exact ⟨rfl, x1, rfl, by omega, rfl, x3, x4⟩
    · rw [eP] at hp
      rw [es, if_pos rfl, if_pos rfl, zc _ (by omega) (by omega), zc _ (by omega) (by omega)]
      exact ⟨rfl, rfl⟩
    · rw [eP] at hp
      obtain ⟨t, _, x2, x3, x4, ⟨_, _, _, _, _, y6, _, y8, y9, y10⟩, _⟩ := pool p hp
      obtain ⟨y1, y2, y3, y4⟩ := m183 p hp
      rw [y1, y2, y3, y4, x3 6 (by omega), x3 8 (by omega), x3 7 (by omega), x2 4 (by omega)]
      exact ⟨⟨_, rfl, y10⟩, ⟨_, rfl, y9⟩, Or.inl rfl, ⟨_, rfl, y8⟩, fun k hk => ⟨0, by rw [zc _ (by omega) (by omega)]; rfl, by omega⟩⟩
    · rw [m199.2.1]; exact ⟨gv, gv3, gv1⟩
    · rw [eO] at ho
      exact ⟨0, by rw [zc _ (by omega) (by omega)]; rfl, by omega⟩
  have hg : Gain υ := ⟨gn, by rw [m199.2.2]; exact gn4, gn1, gn2⟩
  refine ⟨⟨⟨⟨hq, c3, c4⟩, hR, hK, hM⟩, m26, fun _ => hg⟩, ⟨by rw [c5, m25], Or.inl ⟨m25, hg⟩⟩, mhi, ?_, ?_⟩
  · rw [eP]
    intro p hp
    obtain ⟨f, f1, f2⟩ := n1 p hp
    exact ⟨f, fun k hk => by rw [m175 _ (by omega)]; exact f1 k hk, by rw [rq (q + 1) (by omega) (by omega)]; exact f2⟩
  · rw [eO]
    intro p hp
    obtain ⟨f, f1, f2⟩ := n2 p hp
    exact ⟨f, fun k hk => by rw [m176 _ (by omega)]; exact f1 k hk, by rw [rq (q + 13) (by omega) (by omega)]; exact f2⟩
