/-! ranges over a step of the reference -/
theorem itI {f : Nat → Sg → Sg} (I : Nat → Sg → Prop) {μ : Sg} (h0 : I 0 μ) : ∀ n, (∀ j τ, j < n → I j τ → I (j + 1) (f j τ)) → I n (itS f n μ)
  | 0, _ => h0
  | n + 1, hs => hs n _ (by omega) (itI I h0 n (fun j τ hj => hs j τ (by omega)))
def Vb (τ : Sg) (P : Nat) (B : Nat → Nat) : Prop := ∀ p, p < P → ∃ v, τ 183 p = nI v ∧ v ≤ B p
def Wb (τ : Sg) (P : Nat) : Prop := ∀ p, p < P → ∀ k, k < 10 → ∃ v, τ 183 (40 + 10 * p + k) = nI v ∧ v ≤ 999
/-- a state ahead of a step's arrivals -/
def InvF (ν : Sg) : Prop := Vb ν (nP ν) (fun _ => 10200) ∧ Wb ν (nP ν) ∧ (∀ p, p < nP ν → ∀ k, tl ν p 3 ≤ k → k < 10 → ν 183 (40 + 10 * p + k) = 0) ∧ (∀ p, p < nP ν → (∃ v, ν 183 (8 + p) = nI v ∧ v ≤ tl ν p 4) ∧ ∃ v, ν 183 (24 + p) = nI v ∧ v ≤ 99) ∧ ∃ v, ν 183 197 = nI v ∧ v ≤ 999
theorem hld_nI {τ : Sg} {p M : Nat} (hM : τ 172 (9 * p + 4) = nI M) (hM9 : M ≤ 999) (x : Int32) : ∃ w, hld τ p x = nI w ∧ w ≤ M := by
  unfold hld
  rw [hM]
  by_cases c : x < 0
  · refine ⟨0, ?_, by omega⟩
    have e : mn (nI M) x = x := by
      unfold mn
      rw [if_pos (Int32.le_of_lt (Int32.lt_of_lt_of_le c (nI_pos' (by omega))))]
    rw [e]
    unfold mx
    rw [if_neg (Int32.not_le.mpr c)]
    rfl
  · obtain ⟨j, hj, rfl⟩ := nI_of c
    refine ⟨min M j, ?_, Nat.min_le_left _ _⟩
    rw [mn_nI (by omega) hj, mx0_nI (by have := Nat.min_le_left M j; omega)]
theorem mx_gen {a b : Nat} (ha : a < 1000000) (hb : b < 1000000) : mx (-(nI a)) (-(nI b)) = -(nI (min a b)) := by
  unfold mx
  rcases Nat.lt_or_ge a b with h | h
  · rw [if_neg, Nat.min_eq_left (by omega)]
    rw [Int32.le_iff_toInt_le, neg_nI (by omega), neg_nI (by omega)]
    omega
  · rw [if_pos, Nat.min_eq_right h]
    rw [Int32.le_iff_toInt_le, neg_nI (by omega), neg_nI (by omega)]
    omega
theorem move_nI {op w b M : Nat} (hop : op ≤ M) (hw : w ≤ M) (hM : M ≤ 999) (hb : b ≤ 999) : ∃ v, nI op + mx (-(nI b)) (mn (nI b) (nI w - nI op)) = nI v ∧ v ≤ M := by
  rcases Nat.lt_or_ge w op with h | h
  · have e1 : nI w - nI op = -(nI (op - w)) := by
      rw [← nI_sub (by omega)]
      generalize nI w = x
      generalize nI op = y
      grind
    have e2 : mn (nI b) (-(nI (op - w))) = -(nI (op - w)) := by
      unfold mn
      rw [if_pos]
      rw [Int32.le_iff_toInt_le, neg_nI (by omega), nI_toInt (by omega)]
      omega
    refine ⟨op - min b (op - w), ?_, by omega⟩
    rw [e1, e2, mx_gen (by omega) (by omega), ← Int32.sub_eq_add_neg, nI_sub (by have := Nat.min_le_right b (op - w); omega)]
  · refine ⟨op + min b (w - op), ?_, ?_⟩
    · rw [nI_sub h, mn_nI (by omega) (by omega), mx_neg (by omega) (by have := Nat.min_le_left b (w - op); omega), nI_add]
    · have := Nat.min_le_right b (w - op)
      omega
/-- the step's phases keep the ranges; what is short grows by what an outlet takes at the most -/
theorem goW_range {ν : Sg} (hT : InvT ν) (hF : InvF ν) :
    Vb (goW ν) (nP ν) (fun p => tl ν p 2) ∧ Wb (goW ν) (nP ν) ∧ (∀ p, p < nP ν → ∀ k, tl ν p 3 ≤ k → k < 10 → goW ν 183 (40 + 10 * p + k) = 0) ∧ (∀ p, p < nP ν → ∃ v, goW ν 183 (8 + p) = nI v ∧ v ≤ tl ν p 4) ∧ (∀ o, o < nO ν → ∃ d, goW ν 183 (138 + o) = ν 183 (138 + o) + nI d ∧ d ≤ 99) := by
  have hK := hT.1
  have hO := hT.2.1
  have hP8 := hK.1.2
  have hO10 := hK.2.1.2
  obtain ⟨f1, f2, f3, f4, gv, f5, f6⟩ := hF
  have hdl : ∀ p, p < nP ν → tl ν p 3 ≤ 9 := fun p hp => (hK.2.2.2.2.1 p hp).1
  unfold goW
  -- arrivals
  have a1 := itI (f := arrS) (fun j τ => Stat ν τ ∧ Vb τ (nP ν) (fun p => if p < j then 11200 else 10200) ∧ Wb τ (nP ν) ∧ (∀ p, p < nP ν → ∀ k, (if p < j then tl ν p 3 ≤ k + 1 else tl ν p 3 ≤ k) → k < 10 → τ 183 (40 + 10 * p + k) = 0) ∧ ∀ i, (8 ≤ i ∧ i < 16) ∨ (138 ≤ i ∧ i < 148) → τ 183 i = ν 183 i) (μ := ν)
    ⟨Stat.refl ν, fun p hp => by simpa using f1 p hp, f2, fun p hp k hk => by rw [if_neg (by omega)] at hk; exact f3 p hp k hk, fun _ _ => rfl⟩ (nP ν) (by
    rintro j τ hj ⟨s, v, w, z, u⟩
    refine ⟨s.trans (arrS_stat (by omega) τ), fun p hp => ?_, fun p hp k hk => ?_, fun p hp k hk hk2 => ?_, fun i hi => ?_⟩
    · obtain ⟨a, ha, hb⟩ := v p hp
      dsimp only at hb ⊢
      by_cases c : p = j
      · subst c
        obtain ⟨x, hx, hx2⟩ := w p hp 0 (by omega)
        rw [Nat.add_zero] at hx
        have hb' : a ≤ 10200 := by simpa using hb
        refine ⟨a + x, by rw [arrS_hit _ (by omega), ha, hx, nI_add], ?_⟩
        rw [if_pos (by omega)]; omega
      · refine ⟨a, by rw [arrS_miss (by omega) c (by omega), ha], ?_⟩
        by_cases c2 : p < j
        · rw [if_pos c2] at hb; rw [if_pos (by omega)]; exact hb
        · rw [if_neg c2] at hb; rw [if_neg (by omega)]; exact hb
    · by_cases c : p = j
      · subst c
        rw [arrS_183 _ _ (by omega), if_neg (by omega)]
        by_cases c9 : k < 9
        · rw [if_pos (by omega)]
          exact w p hp (k + 1) (by omega)
        · rw [if_neg (by omega), if_pos (by omega)]
          exact ⟨0, rfl, by omega⟩
      · rw [arrS_miss (by omega) (by omega) (by omega)]
        exact w p hp k hk
    · by_cases c : p = j
      · subst c
        rw [if_pos (by omega)] at hk
        rw [arrS_183 _ _ (by omega), if_neg (by omega)]
        by_cases c9 : k < 9
        · rw [if_pos (by omega)]
          exact z p hp (k + 1) (by rw [if_neg (by omega)]; exact hk) (by omega)
        · rw [if_neg (by omega), if_pos (by omega)]
      · rw [arrS_miss (by omega) (by omega) (by omega)]
        refine z p hp k ?_ hk2
        by_cases c2 : p < j
        · rw [if_pos c2]; rw [if_pos (by omega)] at hk; exact hk
        · rw [if_neg c2]; rw [if_neg (by omega)] at hk; exact hk
    · rw [arrS_miss (by omega) (by omega) (by omega)]
      exact u i hi)
  obtain ⟨s1, v1, w1, z1, u1⟩ := a1
  -- leaks
  have a2 := itI (f := leakS) (fun j τ => Stat ν τ ∧ Vb τ (nP ν) (fun _ => 11200) ∧ ∀ i, (8 ≤ i ∧ i < 202) → τ 183 i = itS arrS (nP ν) ν 183 i) (μ := itS arrS (nP ν) ν)
    ⟨s1, fun p hp => by obtain ⟨a, ha, hb⟩ := v1 p hp; dsimp only at hb; rw [if_pos hp] at hb; exact ⟨a, ha, hb⟩, fun _ _ => rfl⟩ (nP ν) (by
    rintro j τ hj ⟨s, v, u⟩
    refine ⟨s.trans (leakS_stat (by omega) τ), fun p hp => ?_, fun i hi => ?_⟩
    · obtain ⟨a, ha, hb⟩ := v p hp
      dsimp only at hb ⊢
      by_cases c : p = j
      · subst c
        obtain ⟨l, hl, hl2⟩ := (f4 p hp).2
        have hl' : τ 183 (24 + p) = nI l := by rw [s.2 _ (by omega)]; exact hl
        refine ⟨a - min l a, ?_, by omega⟩
        unfold leakS
        rw [zup_miss (by omega), zup_hit, ha, hl', mn_nI (by omega) (by omega), nI_sub (Nat.min_le_right _ _)]
      · refine ⟨a, ?_, hb⟩
        unfold leakS
        rw [zup_miss (by omega), zup_miss c, ha]
    · unfold leakS
      rw [zup_miss (by omega), zup_miss (by omega)]
      exact u i hi)
  obtain ⟨s2, v2, u2⟩ := a2
  -- outlets
  have a3 := itI (f := takS) (fun j τ => Stat ν τ ∧ Vb τ (nP ν) (fun _ => 11200) ∧ (∀ i, (8 ≤ i ∧ i < 128) → τ 183 i = itS arrS (nP ν) ν 183 i) ∧ ∀ o, o < nO ν → ∃ d, τ 183 (138 + o) = ν 183 (138 + o) + nI d ∧ d ≤ if o < j then 99 else 0) (μ := itS leakS (nP ν) (itS arrS (nP ν) ν))
    ⟨s2, v2, fun i hi => u2 i (by omega), fun o ho => ⟨0, by rw [u2 _ (by omega), u1 _ (by omega)]; simp [nI_0], by simp⟩⟩ (nO ν) (by
    rintro j τ hj ⟨s, v, u, sh⟩
    obtain ⟨o1, o2, o3, o4, o5⟩ := hK.2.2.2.2.2.1 j hj
    have hpl : opl τ j = opl ν j := by rw [s.e_opl]
    have h173 : τ 173 (2 * j + 1) = nI (tk ν j) := by rw [s.r173]; exact o3
    refine ⟨s.trans (takS_stat (by omega) (by omega)), fun p hp => ?_, fun i hi => ?_, fun o ho => ?_⟩
    · obtain ⟨a, ha, hb⟩ := v p hp
      dsimp only at hb ⊢
      unfold takS
      split
      · by_cases c : p = opl τ j
        · refine ⟨a - min (tk ν j) a, ?_, by omega⟩
          unfold takN
          rw [zup_miss (by omega), zup_miss (by omega), zup_miss (by omega), zup_ne (by omega), c, zup_hit, ← c, ha, h173, mn_nI (by omega) (by omega), nI_sub (Nat.min_le_right _ _)]
        · refine ⟨a, ?_, hb⟩
          rw [zup_miss (by omega), zup_miss (by omega), zup_miss (by omega), zup_ne (by omega), zup_miss c, ha]
      · exact ⟨a, ha, hb⟩
    · rw [takS_way (by omega) (by omega) i hi.1 hi.2]
      exact u i hi
    · obtain ⟨d, hd, hd2⟩ := sh o ho
      unfold takS
      split
      · by_cases c : o = j
        · subst c
          rw [if_neg (by omega)] at hd2
          obtain ⟨a, ha, hb⟩ := v (opl τ o) (by omega)
          dsimp only at hb
          refine ⟨tk ν o - min (tk ν o) a, ?_, ?_⟩
          · unfold takN
            rw [zup_hit, hd, h173, ha, mn_nI (by omega) (by omega), nI_sub (Nat.min_le_left _ _), show d = 0 from by omega]
            simp [nI_0]
          · rw [if_pos (by omega)]; omega
        · refine ⟨d, ?_, ?_⟩
          · rw [zup_miss (by omega), zup_miss (by omega), zup_miss (by omega), zup_ne (by omega), zup_miss (by omega), hd]
          · by_cases c2 : o < j
            · rw [if_pos c2] at hd2; rw [if_pos (by omega)]; exact hd2
            · rw [if_neg c2] at hd2; rw [if_neg (by omega)]; exact hd2
      · refine ⟨d, hd, ?_⟩
        by_cases c2 : o < j
        · rw [if_pos c2] at hd2; rw [if_pos (by omega)]; exact hd2
        · rw [if_neg c2] at hd2
          split <;> omega)
  obtain ⟨s3, v3, u3, sh3⟩ := a3
  have w3 : Wb (itS takS (nO ν) (itS leakS (nP ν) (itS arrS (nP ν) ν))) (nP ν) := fun p hp k hk => by rw [u3 _ (by omega)]; exact w1 p hp k hk
  have z3 : ∀ p, p < nP ν → ∀ k, tl ν p 3 ≤ k + 1 → k < 10 → itS takS (nO ν) (itS leakS (nP ν) (itS arrS (nP ν) ν)) 183 (40 + 10 * p + k) = 0 := fun p hp k hk hk2 => by rw [u3 _ (by omega)]; exact z1 p hp k (by rw [if_pos hp]; exact hk) hk2
  have op3 : ∀ p, p < nP ν → itS takS (nO ν) (itS leakS (nP ν) (itS arrS (nP ν) ν)) 183 (8 + p) = ν 183 (8 + p) := fun p hp => by rw [u3 _ (by omega), u1 _ (by omega)]
  generalize itS takS (nO ν) (itS leakS (nP ν) (itS arrS (nP ν) ν)) = τ3 at s3 v3 sh3 w3 z3 op3 ⊢
  -- gates
  have a4 := itI (f := pasS) (fun j τ => Stat ν τ ∧ Vb τ (nP ν) (fun p => if p < j then 12200 else 11200) ∧ Wb τ (nP ν) ∧ (∀ p, p < nP ν → ∀ k, (if p < j then tl ν p 3 ≤ k else tl ν p 3 ≤ k + 1) → k < 10 → τ 183 (40 + 10 * p + k) = 0) ∧ (∀ p, p < nP ν → τ 183 (8 + p) = ν 183 (8 + p)) ∧ ∀ o, o < nO ν → τ 183 (138 + o) = τ3 183 (138 + o)) (μ := τ3)
    ⟨s3, fun p hp => by simpa using v3 p hp, w3, fun p hp k hk => by rw [if_neg (by omega)] at hk; exact z3 p hp k hk, op3, fun _ _ => rfl⟩ (nP ν) (by
    rintro j τ hj ⟨s, v, w, z, u, sh⟩
    have hd := hdl j hj
    have ht : tl τ = tl ν := s.e_tl
    have hd' : tl τ j 3 ≤ 9 := by rw [ht]; exact hd
    have hat := pasS_at (ν := τ) (j := j) (by omega) hd'
    rw [ht] at hat
    obtain ⟨op, hop, hop2⟩ := (f4 j hj).1
    have h4 := (hK.2.2.2.2.1 j hj).2.2.2.2.1
    have hop' : τ 183 (8 + j) = nI op := by rw [u j hj]; exact hop
    have hN : ∃ m, pasN j τ = nI m ∧ m ≤ 999 ∧ (0 < j → ∃ x, τ 183 (j - 1) = nI x ∧ m ≤ x ∧ x ≤ 12200) := by
      unfold pasN
      rw [hop']
      by_cases c : j = 0
      · rw [if_pos c, s.2 197 (by omega), f5, mn_nI (by omega) (by omega)]
        exact ⟨_, rfl, by have := Nat.min_le_left op gv; omega, fun h => by omega⟩
      · obtain ⟨x, hx, hx2⟩ := v (j - 1) (by omega)
        dsimp only at hx2
        rw [if_pos (by omega)] at hx2
        rw [if_neg c, hx, mn_nI (by omega) (by omega)]
        exact ⟨_, rfl, by have := Nat.min_le_left op x; omega, fun _ => ⟨x, rfl, Nat.min_le_right _ _, hx2⟩⟩
    obtain ⟨m, hm, hm9, hmx⟩ := hN
    rw [hm] at hat
    refine ⟨s.trans (pasS_stat (by omega) hd'), fun p hp => ?_, fun p hp k hk => ?_, fun p hp k hk hk2 => ?_, fun p hp => ?_, fun o ho => ?_⟩
    · obtain ⟨a, ha, hb⟩ := v p hp
      dsimp only at hb ⊢
      rw [hat p, if_neg (by omega), if_neg (by omega)]
      by_cases c1 : 0 < j ∧ p + 1 = j
      · obtain ⟨x, hx, hx2, hx3⟩ := hmx c1.1
        have : p = j - 1 := by omega
        rw [← this, ha] at hx
        have hax : a = x := by
          have hb2 : a < 2147483648 := by split at hb <;> omega
          exact (nI_eq hb2 (by omega)).mp hx
        refine ⟨a - m, by rw [if_pos c1, ha, nI_sub (by omega)], ?_⟩
        rw [if_pos (by omega)] at hb
        rw [if_pos (by omega)]
        omega
      · rw [if_neg c1]
        by_cases c2 : tl ν j 3 = 0 ∧ p = j
        · obtain ⟨c3, rfl⟩ := c2
          rw [if_neg (by omega)] at hb
          refine ⟨a + m, by rw [if_pos ⟨c3, rfl⟩, ha, nI_add], ?_⟩
          rw [if_pos (by omega)]
          omega
        · refine ⟨a, by rw [if_neg c2, if_neg (by omega), ha], ?_⟩
          by_cases c3 : p < j
          · rw [if_pos c3] at hb; rw [if_pos (by omega)]; exact hb
          · rw [if_neg c3] at hb
            split <;> omega
    · rw [hat, if_neg (by omega), if_neg (by omega), if_neg (by omega), if_neg (by omega)]
      by_cases c : 0 < tl ν j 3 ∧ 40 + 10 * p + k + 1 = 40 + 10 * j + tl ν j 3
      · have hpj : p = j := by omega
        subst hpj
        rw [if_pos c, z p hp k (by rw [if_neg (by omega)]; omega) hk]
        exact ⟨m, by simp, hm9⟩
      · rw [if_neg c]
        exact w p hp k hk
    · rw [hat, if_neg (by omega), if_neg (by omega), if_neg (by omega), if_neg (by omega)]
      by_cases c : p = j
      · subst c
        rw [if_pos (by omega)] at hk
        rw [if_neg (by omega)]
        exact z p hp k (by rw [if_neg (by omega)]; omega) hk2
      · rw [if_neg (by omega)]
        refine z p hp k ?_ hk2
        by_cases c2 : p < j
        · rw [if_pos c2]; rw [if_pos (by omega)] at hk; exact hk
        · rw [if_neg c2]; rw [if_neg (by omega)] at hk; exact hk
    · rw [hat, if_neg (by omega), if_neg (by omega), if_neg (by omega), if_neg (by omega), if_neg (by omega)]
      exact u p hp
    · rw [hat, if_neg (by omega), if_neg (by omega), if_neg (by omega), if_neg (by omega), if_neg (by omega)]
      exact sh o ho)
  obtain ⟨s4, v4, w4, z4, op4, sh4⟩ := a4
  generalize itS pasS (nP ν) τ3 = τ4 at s4 v4 w4 z4 op4 sh4 ⊢
  -- what goes over
  have a5 := itI (f := ovrS) (fun j τ => Stat ν τ ∧ Vb τ (nP ν) (fun p => if p < j then tl ν p 2 else if p = j then 12200 * (j + 1) else 12200) ∧ ∀ i, 8 ≤ i → i ≠ 203 → τ 183 i = τ4 183 i) (μ := τ4)
    ⟨s4, fun p hp => by
      obtain ⟨a, ha, hb⟩ := v4 p hp
      dsimp only at hb ⊢
      rw [if_pos hp] at hb
      refine ⟨a, ha, ?_⟩
      rw [if_neg (by omega)]
      split <;> omega, fun _ _ _ => rfl⟩ (nP ν) (by
    rintro j τ hj ⟨s, v, u⟩
    have hnp : nP τ = nP ν := s.e_nP
    have hc := (hK.2.2.2.1 j hj 2 (by omega))
    have hc' : τ 172 (9 * j + 2) = nI (tl ν j 2) := by rw [s.r172]; exact hc.1
    obtain ⟨x, hx, hx2⟩ := v j hj
    dsimp only at hx2
    rw [if_neg (by omega), if_pos rfl] at hx2
    have hx3 : x ≤ 12200 * 8 := Nat.le_trans hx2 (Nat.mul_le_mul_left _ (by omega))
    have hn : ovrN j τ = nI (x - tl ν j 2) := by
      unfold ovrN
      rw [hx, hc']
      rcases Nat.lt_or_ge x (tl ν j 2) with c | c
      · rw [ovr_zero, show x - tl ν j 2 = 0 from by omega]
        · rfl
        · exact Int32.le_of_lt (pk_sneg (by omega) c)
      · rw [nI_sub c, mx0_nI (by omega)]
    refine ⟨s.trans (ovrS_stat (by omega) (by omega) (by omega)), fun p hp => ?_, fun i h1 h2 => (ovrS_same (by omega) (by omega) h1 h2).trans (u i h1 h2)⟩
    obtain ⟨a, ha, hb⟩ := v p hp
    dsimp only at hb ⊢
    by_cases c1 : p = j
    · subst c1
      refine ⟨x - (x - tl ν p 2), ?_, by rw [if_pos (by omega)]; omega⟩
      unfold ovrS
      rw [hn]
      split
      · rw [zup_miss (by omega), zup_ne (by omega), zup_hit, hx, nI_sub (by omega)]
      · rw [zup_ne (by omega), zup_ne (by omega), zup_miss (by omega), zup_ne (by omega), zup_hit, hx, nI_sub (by omega)]
    · by_cases c2 : p = j + 1
      · subst c2
        rw [if_neg (by omega), if_neg (by omega)] at hb
        refine ⟨a + (x - tl ν j 2), ?_, by rw [if_neg (by omega), if_pos rfl]; omega⟩
        unfold ovrS
        rw [if_neg (by omega), hn, zup_ne (by omega), zup_ne (by omega), zup_hit, ha, nI_add]
      · refine ⟨a, ?_, ?_⟩
        · unfold ovrS
          split
          · rw [zup_miss (by omega), zup_ne (by omega), zup_miss c1, ha]
          · rw [zup_ne (by omega), zup_ne (by omega), zup_miss c2, zup_ne (by omega), zup_miss c1, ha]
        · by_cases c3 : p < j
          · rw [if_pos c3] at hb; rw [if_pos (by omega)]; exact hb
          · rw [if_neg c3, if_neg c1] at hb
            rw [if_neg (by omega), if_neg c2]; exact hb)
  obtain ⟨s5, v5, u5⟩ := a5
  generalize itS ovrS (nP ν) τ4 = τ5 at s5 v5 u5 ⊢
  obtain ⟨_, _, m2⟩ := movS_it (s5.e_InvK hK) (s5.e_InvO hO) (nP ν) (by rw [s5.e_nP]; exact Nat.le_refl _)
  refine ⟨fun p hp => ?_, fun p hp k hk => ?_, fun p hp k hk hk2 => ?_, fun p hp => ?_, fun o ho => ?_⟩
  · obtain ⟨a, ha, hb⟩ := v5 p hp
    dsimp only at hb ⊢
    rw [if_pos hp] at hb
    exact ⟨a, by rw [m2, if_neg (by omega), ha], hb⟩
  · rw [m2, if_neg (by omega), u5 _ (by omega) (by omega)]
    exact w4 p hp k hk
  · rw [m2, if_neg (by omega), u5 _ (by omega) (by omega)]
    exact z4 p hp k (by rw [if_pos hp]; exact hk) hk2
  · obtain ⟨op, hop, hop2⟩ := (f4 p hp).1
    obtain ⟨_, k5, _, _, k4, k59, _⟩ := hK.2.2.2.2.1 p hp
    have t4 := (hK.2.2.2.1 p hp 4 (by omega)).1
    have t5 := (hK.2.2.2.1 p hp 5 (by omega)).1
    obtain ⟨w, hw, hw2⟩ := hld_nI (τ := τ5) (p := p) (M := tl ν p 4) (by rw [s5.r172]; exact t4) k4 (wsh τ5 p (stp τ5 + 1))
    obtain ⟨v, hv, hv2⟩ := move_nI (op := op) (w := w) (b := tl ν p 5) hop2 hw2 k4 k59
    refine ⟨v, ?_, hv2⟩
    rw [m2, if_pos (by omega), show 8 + p - 8 = p from by omega, u5 _ (by omega) (by omega), op4 p hp, hop]
    unfold mvN
    rw [hw, s5.r172, t5, u5 _ (by omega) (by omega), op4 p hp, hop]
    exact hv
  · obtain ⟨d, hd, hd2⟩ := sh3 o ho
    rw [if_pos ho] at hd2
    exact ⟨d, by rw [m2, if_neg (by omega), u5 _ (by omega) (by omega), sh4 o ho, hd], hd2⟩
/-- the ranges behind a step -/
theorem goS_range {ν : Sg} (hW : InvW ν) (hF : InvF ν) (hh : ∀ p, p < nP ν → ν 183 (16 + p) = -1 ∨ ∃ v, ν 183 (16 + p) = nI v ∧ v ≤ tl ν p 4) (hsh : ∀ o, o < nO ν → ∃ v, ν 183 (138 + o) = nI v ∧ v ≤ 99 * stp ν) :
    InvR (goS ν) ∧ (∀ p, p < nP ν → ∀ k, tl ν p 3 ≤ k → k < 10 → goS ν 183 (40 + 10 * p + k) = 0) ∧ ∀ o, o < nO ν → ∃ v d, ν 183 (138 + o) = nI v ∧ goS ν 183 (138 + o) = nI (v + d) ∧ d ≤ 99 ∧ v ≤ 99 * stp ν := by
  have hP8 := hW.1.1.1.2
  have hO10 := hW.1.1.2.1.2
  obtain ⟨r1, r2, r3, r4, r5⟩ := goW_range hW.1 hF
  have hk := goQ_keep (σ := ν) hP8
  have sB := goS_stB hW
  have hcell : ∀ i, (i < 32 ∨ (40 ≤ i ∧ i < 205)) → i ≠ 196 → goS ν 183 i = goW ν 183 i := fun i hi h => by
    rw [goS_e]
    unfold bump
    rw [zup_miss h, hk.2.1 i hi]
  have hcr : ∀ p, p < nP ν → tl ν p 2 ≤ 9999 := fun p hp => (hW.1.1.2.2.2.1 p hp 2 (by omega)).2
  have hshort : ∀ o, o < nO ν → ∃ v d, ν 183 (138 + o) = nI v ∧ goS ν 183 (138 + o) = nI (v + d) ∧ d ≤ 99 ∧ v ≤ 99 * stp ν := by
    intro o ho
    obtain ⟨d, hd, hd2⟩ := r5 o ho
    obtain ⟨v, hv, hv2⟩ := hsh o ho
    exact ⟨v, d, hv, by rw [hcell _ (by omega) (by omega), hd, hv, nI_add], hd2, hv2⟩
  refine ⟨⟨fun p hp => ?_, ?_, fun o ho => ?_⟩, fun p hp k hk hk2 => ?_, hshort⟩
  · rw [sB.e_nP] at hp
    rw [sB.e_tl]
    refine ⟨?_, ?_, ?_, ?_, fun k hk => ?_⟩
    · obtain ⟨v, hv, hv2⟩ := r1 p hp
      have := hcr p hp
      exact ⟨v, by rw [hcell _ (by omega) (by omega), hv], by dsimp only at hv2; omega⟩
    · obtain ⟨v, hv, hv2⟩ := r4 p hp
      exact ⟨v, by rw [hcell _ (by omega) (by omega), hv], hv2⟩
    · rw [sB.2 _ (by omega)]; exact hh p hp
    · rw [sB.2 _ (by omega)]; exact (hF.2.2.2.1 p hp).2
    · rw [hcell _ (by omega) (by omega)]; exact r2 p hp k hk
  · rw [sB.2 _ (by omega)]; exact hF.2.2.2.2
  · rw [sB.e_nO] at ho
    obtain ⟨v, d, _, h2, h3, h4⟩ := hshort o ho
    exact ⟨v + d, h2, by rw [goS_stp hW]; omega⟩
  · rw [hcell _ (by omega) (by omega)]; exact r3 p hp k hk hk2
