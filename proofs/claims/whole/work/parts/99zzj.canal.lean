/-! canal: what is read begins -/
theorem beg_c {τ : Sg} {q : Nat} (hq : q = 3 ∨ q = 29) : ∃ τ', Moment_beginWith τ 55 q = some τ' ∧ (∀ b, b < 56 ∨ (64 < b ∧ b < 73) ∨ 77 < b → τ' b = τ b) ∧ (τ' 56 0 = nI 0 ∧ τ' 56 1 = τ q 1 ∧ τ' 56 2 = τ q 2) ∧ (∀ p, p < 8 → τ' 57 p = τ (q + 3) p ∧ τ' 58 p = τ (q + 11) p ∧ τ' 59 p = τ (q + 8) p ∧ τ' 60 p = -1) ∧ (∀ i, i < 72 → τ' 61 i = 0) ∧ (∀ o, o < 10 → τ' 62 o = 0 ∧ τ' 63 o = 0) ∧ (∀ i, i < 7 → τ' 64 i = 0) ∧ τ' 73 0 = τ (q + 16) 0 ∧ (∀ k, k < 16 → τ' 74 k = τ (q + 17) k ∧ τ' 75 k = τ (q + 18) k ∧ τ' 76 k = τ (q + 19) k) ∧ τ' 77 0 = nI 0 := by
  generalize hσ0 : zrow (zrow (zrow (zup (zup (zup τ 56 0 0) 56 1 (τ q 1)) 56 2 (τ q 2)) 57 (va_cpy (τ (q + 3)) (τ 57) 0 0 8)) 58 (va_cpy (τ (q + 11)) (τ 58) 0 0 8)) 59 (va_cpy (τ (q + 8)) (τ 59) 0 0 8) = σ0
  obtain ⟨σ1, a1, a2, a3⟩ := fill_e (σ := σ0) (a := 60) (n := 8) (v := -1) (by omega)
  obtain ⟨σ2, b1, b2, b3⟩ := fill_e (σ := σ1) (a := 61) (n := 72) (v := 0) (by omega)
  obtain ⟨σ3, c1, c2, c3⟩ := fill_e (σ := σ2) (a := 62) (n := 10) (v := 0) (by omega)
  obtain ⟨σ4, d1, d2, d3⟩ := fill_e (σ := σ3) (a := 63) (n := 10) (v := 0) (by omega)
  obtain ⟨σ5, e1, e2, e3⟩ := fill_e (σ := σ4) (a := 64) (n := 7) (v := 0) (by omega)
  have r5 : ∀ b, b < 60 ∨ 64 < b → σ5 b = σ0 b := fun b hb => by rw [e2 b (by omega), d2 b (by omega), c2 b (by omega), b2 b (by omega), a2 b (by omega)]
  have r0 : ∀ b, b < 56 ∨ 59 < b → σ0 b = τ b := fun b hb => by rw [← hσ0, zrow_ne (by omega), zrow_ne (by omega), zrow_ne (by omega), zup_ne (by omega), zup_ne (by omega), zup_ne (by omega)]
  have w : Water_beginWith τ 56 q = some σ5 := by
    unfold Water_beginWith
    simp only [Nat.reduceAdd]
    rw [zpt_e, zgt_e, zup_ne (by omega), zpt_e, zgt_e, zup_ne (by omega), zup_ne (by omega), zpt_e, zcp_e, zcp_e, zcp_e]
    have x1 : zup (zup (zup τ 56 0 0) 56 1 (τ q 1)) 56 2 (τ q 2) (q + 3) = τ (q + 3) := by rw [zup_ne (by omega), zup_ne (by omega), zup_ne (by omega)]
    have x2 : zup (zup (zup τ 56 0 0) 56 1 (τ q 1)) 56 2 (τ q 2) 57 = τ 57 := by rw [zup_ne (by omega), zup_ne (by omega), zup_ne (by omega)]
    have x3 : zup (zup (zup τ 56 0 0) 56 1 (τ q 1)) 56 2 (τ q 2) (q + 11) = τ (q + 11) := by rw [zup_ne (by omega), zup_ne (by omega), zup_ne (by omega)]
    have x4 : zup (zup (zup τ 56 0 0) 56 1 (τ q 1)) 56 2 (τ q 2) 58 = τ 58 := by rw [zup_ne (by omega), zup_ne (by omega), zup_ne (by omega)]
    have x5 : zup (zup (zup τ 56 0 0) 56 1 (τ q 1)) 56 2 (τ q 2) (q + 8) = τ (q + 8) := by rw [zup_ne (by omega), zup_ne (by omega), zup_ne (by omega)]
    have x6 : zup (zup (zup τ 56 0 0) 56 1 (τ q 1)) 56 2 (τ q 2) 59 = τ 59 := by rw [zup_ne (by omega), zup_ne (by omega), zup_ne (by omega)]
    simp (disch := omega) only [zrow_ne, x1, x2, x3, x4, x5, x6]
    rw [hσ0, a1, obs, b1, obs, c1, obs, d1, obs, e1, obs]
  obtain ⟨σ6, f1, f2, f3, f4⟩ := Orders_copy_ok (σ := σ5) (w := q + 16) (v := 73) (by omega)
  have rq : ∀ b, b < 56 → σ5 b = τ b := fun b hb => by rw [r5 b (by omega), r0 b (by omega)]
  have s6 : ∀ b, b < 73 ∨ 76 < b → σ6 b = σ5 b := fun b hb => f2 b (by omega)
  refine ⟨zup σ6 77 0 0, ?_, fun b hb => ?_, ⟨?_, ?_, ?_⟩, fun p hp => ⟨?_, ?_, ?_, ?_⟩, fun i hi => ?_, fun o ho => ⟨?_, ?_⟩, fun i hi => ?_, ?_, fun k hk => ?_, zup_hit⟩
  · unfold Moment_beginWith
    simp only [Nat.reduceAdd]
    rw [w, obs, f1, obs, zpt_e]
  · rw [zup_ne (by omega), s6 b (by omega), r5 b (by omega), r0 b (by omega)]
  · rw [zup_ne (by omega), s6 56 (by omega), r5 56 (by omega), ← hσ0, zrow_ne (by omega), zrow_ne (by omega), zrow_ne (by omega), zup_miss (by omega), zup_miss (by omega), zup_hit]; rfl
  · rw [zup_ne (by omega), s6 56 (by omega), r5 56 (by omega), ← hσ0, zrow_ne (by omega), zrow_ne (by omega), zrow_ne (by omega), zup_miss (by omega), zup_hit]
  · rw [zup_ne (by omega), s6 56 (by omega), r5 56 (by omega), ← hσ0, zrow_ne (by omega), zrow_ne (by omega), zrow_ne (by omega), zup_hit]
  · rw [zup_ne (by omega), s6 57 (by omega), r5 57 (by omega), ← hσ0, zrow_ne (by omega), zrow_ne (by omega), zrow_hit, cpy0_in hp]
  · rw [zup_ne (by omega), s6 58 (by omega), r5 58 (by omega), ← hσ0, zrow_ne (by omega), zrow_hit, cpy0_in hp]
  · rw [zup_ne (by omega), s6 59 (by omega), r5 59 (by omega), ← hσ0, zrow_hit, cpy0_in hp]
  · rw [zup_ne (by omega), s6 60 (by omega), e2 60 (by omega), d2 60 (by omega), c2 60 (by omega), b2 60 (by omega)]; exact a3 p hp
  · rw [zup_ne (by omega), s6 61 (by omega), e2 61 (by omega), d2 61 (by omega), c2 61 (by omega)]; exact b3 i hi
  · rw [zup_ne (by omega), s6 62 (by omega), e2 62 (by omega), d2 62 (by omega)]; exact c3 o ho
  · rw [zup_ne (by omega), s6 63 (by omega), e2 63 (by omega)]; exact d3 o ho
  · rw [zup_ne (by omega), s6 64 (by omega)]; exact e3 i hi
  · rw [zup_ne (by omega), f3, rq _ (by omega)]
  · obtain ⟨g1, g2, g3⟩ := f4 k hk
    rw [zup_ne (by omega), zup_ne (by omega), zup_ne (by omega), g1, g2, g3, rq _ (by omega), rq _ (by omega), rq _ (by omega)]
    exact ⟨rfl, rfl, rfl⟩
def mtail (σ41 : Sg) (v27 : Int32) : Option (Int32 × Sg) :=
  zgt σ41 171 8 fun v59 =>
  zpt σ41 171 0 v59 fun σ62 =>
  zgt σ62 171 9 fun v67 =>
  zpt σ62 171 1 v67 fun σ70 =>
  zgt σ70 171 10 fun v75 =>
  zpt σ70 171 2 v75 fun σ78 =>
  zlt 0 fun v82 =>
  (zit (fun (s : (Sg × Int32)) => M_canal_l83 s.1 v27 s.2) zFU (σ78, v82)).bind fun r =>
  M_canal_j107 r.1 v27
theorem can_m {ν : Sg} {P O C : Nat} {v : Int32} (hP : ν 171 8 = nI P) (hP8 : P ≤ 8) (hC : ν 171 11 = nI C) (hC16 : C ≤ 16) :
    ∃ υ, mtail ν v = some (v, υ) ∧ (∀ b, b < 171 ∨ (176 < b ∧ b ≠ 183) → υ b = ν b) ∧ (∀ k, k ≠ 0 → k ≠ 1 → k ≠ 2 → k ≠ 23 → k ≠ 25 → k ≠ 43 → υ 171 k = ν 171 k) ∧ (υ 171 0 = ν 171 8 ∧ υ 171 1 = ν 171 9 ∧ υ 171 2 = ν 171 10 ∧ υ 171 23 = nI 0 ∧ υ 171 25 = nI 1 ∧ υ 171 43 = nI 0) ∧
      (∀ i, i < 72 → υ 172 i = ν 177 i) ∧ (∀ i, i < 20 → υ 173 i = ν 178 i) ∧ (∀ i, i < 16 → υ 174 i = ν 179 i) ∧ (∀ i, i < 48 → υ 175 i = ν 181 i) ∧ (∀ i, i < 60 → υ 176 i = ν 182 i) ∧
      (∀ p, p < P → υ 183 p = ν 177 (9 * p + 6) ∧ υ 183 (8 + p) = ν 177 (9 * p + 8) ∧ υ 183 (16 + p) = -1 ∧ υ 183 (24 + p) = ν 177 (9 * p + 7)) ∧ (∀ i, i < 3 * C → υ 183 (148 + i) = ν 180 i) ∧ (υ 183 199 = ν 171 11 ∧ υ 183 197 = ν 171 12 ∧ υ 183 198 = ν 171 13) ∧ (∀ i, 32 ≤ i → i < 1607 → i < 148 ∨ 148 + 3 * C ≤ i → i ≠ 197 → i ≠ 198 → i ≠ 199 → υ 183 i = 0) ∧ ∀ i, 1607 ≤ i → υ 183 i = ν 183 i := by
  generalize hσ0 : zup (zup (zup ν 171 0 (ν 171 8)) 171 1 (ν 171 9)) 171 2 (ν 171 10) = σ0
  have r0 : ∀ b, b ≠ 171 → σ0 b = ν b := fun b hb => by rw [← hσ0, zup_ne hb, zup_ne hb, zup_ne hb]
  have k0 : ∀ k, k ≠ 0 → k ≠ 1 → k ≠ 2 → σ0 171 k = ν 171 k := fun k x y z => by rw [← hσ0, zup_miss z, zup_miss y, zup_miss x]
  have k00 : σ0 171 0 = ν 171 8 := by rw [← hσ0, zup_miss (by omega), zup_miss (by omega), zup_hit]
  have k01 : σ0 171 1 = ν 171 9 := by rw [← hσ0, zup_miss (by omega), zup_hit]
  have k02 : σ0 171 2 = ν 171 10 := by rw [← hσ0, zup_hit]
  obtain ⟨s1, a1, a2, a3⟩ := copy_m (σ := σ0) (a := 177) (b := 172) (n := 72) (by omega) (fun s x => M_canal_l83 s v x) (by omega) (fun υ j hj => by
    unfold M_canal_l83
    rw [if_neg (show ¬ (72 : Int32) ≤ nI j from (nI_ge hj (by omega) : ¬ nI 72 ≤ nI j)), zrd_e (by omega) (by omega), zwr_e (by omega) (by omega), zlt_e, show nI j + 1 = nI (j + 1) from nI_add _ 1]) (fun υ => by
    unfold M_canal_l83
    exact if_pos (by decide))
  obtain ⟨s2, b1, b2, b3⟩ := copy_m (σ := s1) (a := 178) (b := 173) (n := 20) (by omega) (fun s x => M_canal_l109 s v x) (by omega) (fun υ j hj => by
    unfold M_canal_l109
    rw [if_neg (show ¬ (20 : Int32) ≤ nI j from (nI_ge hj (by omega) : ¬ nI 20 ≤ nI j)), zrd_e (by omega) (by omega), zwr_e (by omega) (by omega), zlt_e, show nI j + 1 = nI (j + 1) from nI_add _ 1]) (fun υ => by
    unfold M_canal_l109
    exact if_pos (by decide))
  obtain ⟨s3, c1, c2, c3⟩ := copy_m (σ := s2) (a := 179) (b := 174) (n := 16) (by omega) (fun s x => M_canal_l135 s v x) (by omega) (fun υ j hj => by
    unfold M_canal_l135
    rw [if_neg (show ¬ (16 : Int32) ≤ nI j from (nI_ge hj (by omega) : ¬ nI 16 ≤ nI j)), zrd_e (by omega) (by omega), zwr_e (by omega) (by omega), zlt_e, show nI j + 1 = nI (j + 1) from nI_add _ 1]) (fun υ => by
    unfold M_canal_l135
    exact if_pos (by decide))
  obtain ⟨s4, d1, d2, d3⟩ := copy_m (σ := s3) (a := 181) (b := 175) (n := 48) (by omega) (fun s x => M_canal_l161 s v x) (by omega) (fun υ j hj => by
    unfold M_canal_l161
    rw [if_neg (show ¬ (48 : Int32) ≤ nI j from (nI_ge hj (by omega) : ¬ nI 48 ≤ nI j)), zrd_e (by omega) (by omega), zwr_e (by omega) (by omega), zlt_e, show nI j + 1 = nI (j + 1) from nI_add _ 1]) (fun υ => by
    unfold M_canal_l161
    exact if_pos (by decide))
  obtain ⟨s5, e1, e2, e3⟩ := copy_m (σ := s4) (a := 182) (b := 176) (n := 60) (by omega) (fun s x => M_canal_l187 s v x) (by omega) (fun υ j hj => by
    unfold M_canal_l187
    rw [if_neg (show ¬ (60 : Int32) ≤ nI j from (nI_ge hj (by omega) : ¬ nI 60 ≤ nI j)), zrd_e (by omega) (by omega), zwr_e (by omega) (by omega), zlt_e, show nI j + 1 = nI (j + 1) from nI_add _ 1]) (fun υ => by
    unfold M_canal_l187
    exact if_pos (by decide))
  have z := zit_cnt (b := fun (s : (Sg × Int32)) => M_canal_l213 s.1 v s.2) (fun j υ => (∀ c, c ≠ 183 → υ c = s5 c) ∧ (∀ i, i < j → υ 183 i = 0) ∧ ∀ i, j ≤ i → υ 183 i = s5 183 i) nI 1607 (σ := s5) (by omega)
    ⟨fun _ _ => rfl, fun i hi => by omega, fun _ _ => rfl⟩ (by
    rintro j υ hj ⟨i1, i2, i3⟩
    refine ⟨zup υ 183 j 0, ?_, fun c hc => by rw [zup_ne hc]; exact i1 c hc, fun i hi => ?_, fun i hi => by rw [zup_miss (by omega)]; exact i3 i (by omega)⟩
    · show M_canal_l213 υ v (nI j) = _
      unfold M_canal_l213
      rw [if_neg (show ¬ (1607 : Int32) ≤ nI j from (nI_ge hj (by omega) : ¬ nI 1607 ≤ nI j)), zwr_e (by omega) (by omega), zlt_e, show nI j + 1 = nI (j + 1) from nI_add _ 1]
    · by_cases e : i = j
      · subst e; rw [zup_hit]
      · rw [zup_miss e]; exact i2 i (by omega)) (by
    rintro υ _
    show M_canal_l213 υ v (nI 1607) = _
    unfold M_canal_l213
    exact if_pos (by decide))
  obtain ⟨s6, f1, f2, f3, f4⟩ := z
  have r171 : ∀ k, s6 171 k = σ0 171 k := fun k => by rw [f2 171 (by omega), e2 171 (by omega), d2 171 (by omega), c2 171 (by omega), b2 171 (by omega), a2 171 (by omega)]
  have r172 : ∀ i, i < 72 → s6 172 i = ν 177 i := fun i hi => by rw [f2 172 (by omega), e2 172 (by omega), d2 172 (by omega), c2 172 (by omega), b2 172 (by omega), a3 i hi, r0 177 (by omega)]
  have w := zit_cnt (b := fun (s : (Sg × Int32)) => M_canal_l235 s.1 v s.2) (fun j υ => (∀ c, c ≠ 183 → υ c = s6 c) ∧ (∀ p, p < j → υ 183 p = ν 177 (9 * p + 6) ∧ υ 183 (8 + p) = ν 177 (9 * p + 8) ∧ υ 183 (16 + p) = -1 ∧ υ 183 (24 + p) = ν 177 (9 * p + 7)) ∧ ∀ i, 32 ≤ i → υ 183 i = s6 183 i) nI P (σ := s6) (by omega)
    ⟨fun _ _ => rfl, fun i hi => by omega, fun _ _ => rfl⟩ (by
    rintro j υ hj ⟨i1, i2, i3⟩
    have p0 : υ 171 0 = nI P := by rw [i1 171 (by omega), r171, k00]; exact hP
    have e172 : ∀ i, i < 72 → υ 172 i = ν 177 i := fun i hi => by rw [i1 172 (by omega)]; exact r172 i hi
    have t6 : ∀ (σ : Sg), σ 172 = υ 172 → M_toldOf σ (nI j) 6 = some (ν 177 (9 * j + 6)) := fun σ e => by
      rw [show (6 : Int32) = nI 6 from rfl, M_toldOf_e (by omega) (by omega), e, e172 _ (by omega)]
    have t8 : ∀ (σ : Sg), σ 172 = υ 172 → M_toldOf σ (nI j) 8 = some (ν 177 (9 * j + 8)) := fun σ e => by
      rw [show (8 : Int32) = nI 8 from rfl, M_toldOf_e (by omega) (by omega), e, e172 _ (by omega)]
    have t7 : ∀ (σ : Sg), σ 172 = υ 172 → M_toldOf σ (nI j) 7 = some (ν 177 (9 * j + 7)) := fun σ e => by
      rw [show (7 : Int32) = nI 7 from rfl, M_toldOf_e (by omega) (by omega), e, e172 _ (by omega)]
    refine ⟨zup (zup (zup (zup υ 183 (0 + j) (ν 177 (9 * j + 6))) 183 (8 + j) (ν 177 (9 * j + 8))) 183 (16 + j) (-1)) 183 (24 + j) (ν 177 (9 * j + 7)), ?_, fun c hc => by rw [zup_ne hc, zup_ne hc, zup_ne hc, zup_ne hc]; exact i1 c hc, fun p hp => ?_, fun i hi => by rw [zup_miss (by omega), zup_miss (by omega), zup_miss (by omega), zup_miss (by omega)]; exact i3 i hi⟩
    · show M_canal_l235 υ v (nI j) = _
      unfold M_canal_l235
      rw [zgt_e, p0, if_neg (nI_ge hj (by omega)), t6 υ rfl, obs, show (0 : Int32) + nI j = nI (0 + j) from nI_add 0 j, zwr_e (by omega) (by omega), t8 _ (zup_ne (by omega)), obs, show (8 : Int32) + nI j = nI (8 + j) from nI_add 8 j, zwr_e (by omega) (by omega), show (16 : Int32) + nI j = nI (16 + j) from nI_add 16 j, zwr_e (by omega) (by omega), t7 _ (by rw [zup_ne (by omega), zup_ne (by omega), zup_ne (by omega)]), obs, show (24 : Int32) + nI j = nI (24 + j) from nI_add 24 j, zwr_e (by omega) (by omega), zlt_e, show nI j + 1 = nI (j + 1) from nI_add _ 1]
    · by_cases e : p = j
      · subst e
        refine ⟨?_, ?_, ?_, zup_hit⟩
        · rw [zup_miss (by omega), zup_miss (by omega), zup_miss (by omega), zup_at, if_pos ⟨rfl, by omega⟩]
        · rw [zup_miss (by omega), zup_miss (by omega), zup_hit]
        · rw [zup_miss (by omega), zup_hit]
      · obtain ⟨x1, x2, x3, x4⟩ := i2 p (by omega)
        refine ⟨?_, ?_, ?_, ?_⟩
        · rw [zup_miss (by omega), zup_miss (by omega), zup_miss (by omega), zup_miss (by omega)]; exact x1
        · rw [zup_miss (by omega), zup_miss (by omega), zup_miss (by omega), zup_miss (by omega)]; exact x2
        · rw [zup_miss (by omega), zup_miss (by omega), zup_miss (by omega), zup_miss (by omega)]; exact x3
        · rw [zup_miss (by omega), zup_miss (by omega), zup_miss (by omega), zup_miss (by omega)]; exact x4) (by
    rintro υ ⟨i1, _⟩
    have p0 : υ 171 0 = nI P := by rw [i1 171 (by omega), r171, k00]; exact hP
    show M_canal_l235 υ v (nI P) = _
    unfold M_canal_l235
    rw [zgt_e, p0, if_pos (nI_le (Nat.le_refl _) (by omega))])
  obtain ⟨s7, g1, g2, g3, g4⟩ := w
  have r180 : ∀ i, s7 180 i = ν 180 i := fun i => by rw [g2 180 (by omega), f2 180 (by omega), e2 180 (by omega), d2 180 (by omega), c2 180 (by omega), b2 180 (by omega), a2 180 (by omega), r0 180 (by omega)]
  have x := zit_cnt (b := fun (s : (Sg × Int32)) => M_canal_l308 s.1 v s.2) (fun j υ => (∀ c, c ≠ 183 → υ c = s7 c) ∧ (∀ i, i < j → υ 183 (148 + i) = ν 180 i) ∧ ∀ i, i < 148 ∨ 148 + j ≤ i → υ 183 i = s7 183 i) nI (3 * C) (σ := s7) (by omega)
    ⟨fun _ _ => rfl, fun i hi => by omega, fun _ _ => rfl⟩ (by
    rintro j υ hj ⟨i1, i2, i3⟩
    have c11 : υ 171 11 = nI C := by rw [i1 171 (by omega), g2 171 (by omega), r171, k0 11 (by omega) (by omega) (by omega)]; exact hC
    have e180 : υ 180 j = ν 180 j := by rw [i1 180 (by omega)]; exact r180 j
    refine ⟨zup υ 183 (148 + j) (ν 180 j), ?_, fun c hc => by rw [zup_ne hc]; exact i1 c hc, fun i hi => ?_, fun i hi => by rw [zup_miss (by omega)]; exact i3 i (by omega)⟩
    · show M_canal_l308 υ v (nI j) = _
      unfold M_canal_l308
      rw [zgt_e, c11, show (3 : Int32) = nI 3 from rfl, nI_mul, if_neg (nI_ge hj (by omega)), zrd_e (by omega) (by omega), e180, show (148 : Int32) + nI j = nI (148 + j) from nI_add 148 j, zwr_e (by omega) (by omega), zlt_e, show nI j + 1 = nI (j + 1) from nI_add _ 1]
    · by_cases e : i = j
      · subst e; rw [zup_hit]
      · rw [zup_miss (by omega)]; exact i2 i (by omega)) (by
    rintro υ ⟨i1, _⟩
    have c11 : υ 171 11 = nI C := by rw [i1 171 (by omega), g2 171 (by omega), r171, k0 11 (by omega) (by omega) (by omega)]; exact hC
    show M_canal_l308 υ v (nI (3 * C)) = _
    unfold M_canal_l308
    rw [zgt_e, c11, show (3 : Int32) = nI 3 from rfl, nI_mul, if_pos (nI_le (Nat.le_refl _) (by omega))])
  obtain ⟨s8, h1, h2, h3, h4⟩ := x
  have s171 : ∀ k, s8 171 k = σ0 171 k := fun k => by rw [h2 171 (by omega), g2 171 (by omega), r171]
  have srow : ∀ b, b < 171 ∨ (176 < b ∧ b ≠ 183) → s8 b = ν b := fun b hb => by rw [h2 b (by omega), g2 b (by omega), f2 b (by omega), e2 b (by omega), d2 b (by omega), c2 b (by omega), b2 b (by omega), a2 b (by omega), r0 b (by omega)]
  generalize hυ : zup (zup (zup (zup (zup (zup s8 183 199 (ν 171 11)) 183 197 (ν 171 12)) 183 198 (ν 171 13)) 171 25 (nI 1)) 171 23 (nI 0)) 171 43 (nI 0) = υ
  have u183 : ∀ i, i ≠ 197 → i ≠ 198 → i ≠ 199 → υ 183 i = s8 183 i := fun i y1 y2 y3 => by rw [← hυ, zup_ne (by omega), zup_ne (by omega), zup_ne (by omega), zup_miss y2, zup_miss y1, zup_miss y3]
  have urow : ∀ b, b ≠ 171 → b ≠ 183 → υ b = s8 b := fun b y1 y2 => by rw [← hυ, zup_ne y1, zup_ne y1, zup_ne y1, zup_ne y2, zup_ne y2, zup_ne y2]
  have u171 : ∀ k, k ≠ 23 → k ≠ 25 → k ≠ 43 → υ 171 k = σ0 171 k := fun k y1 y2 y3 => by rw [← hυ, zup_miss y3, zup_miss y1, zup_miss y2, zup_ne (by omega), zup_ne (by omega), zup_ne (by omega), s171]
  refine ⟨υ, ?_, fun b hb => ?_, fun k y1 y2 y3 y4 y5 y6 => ?_, ⟨?_, ?_, ?_, ?_, ?_, ?_⟩, fun i hi => ?_, fun i hi => ?_, fun i hi => ?_, fun i hi => ?_, fun i hi => ?_, fun p hp => ?_, fun i hi => ?_, ⟨?_, ?_, ?_⟩, fun i y1 y2 y3 y4 y5 y6 => ?_, fun i hi => ?_⟩
  · have m11 : s8 171 11 = ν 171 11 := by rw [s171, k0 11 (by omega) (by omega) (by omega)]
    have m12 : s8 171 12 = ν 171 12 := by rw [s171, k0 12 (by omega) (by omega) (by omega)]
    have m13 : s8 171 13 = ν 171 13 := by rw [s171, k0 13 (by omega) (by omega) (by omega)]
    unfold mtail
    rw [zgt_e, zpt_e, zgt_e, zup_miss (by omega), zpt_e, zgt_e, zup_miss (by omega), zup_miss (by omega), zpt_e, hσ0, zlt_e, show (0 : Int32) = nI 0 from rfl, a1, obs]
    dsimp only
    unfold M_canal_j107
    rw [zlt_e, show (0 : Int32) = nI 0 from rfl, b1, obs]
    dsimp only
    unfold M_canal_j133
    rw [zlt_e, show (0 : Int32) = nI 0 from rfl, c1, obs]
    dsimp only
    unfold M_canal_j159
    rw [zlt_e, show (0 : Int32) = nI 0 from rfl, d1, obs]
    dsimp only
    unfold M_canal_j185
    rw [zlt_e, show (0 : Int32) = nI 0 from rfl, e1, obs]
    dsimp only
    unfold M_canal_j211
    rw [zlt_e, show (0 : Int32) = nI 0 from rfl, f1, obs]
    dsimp only
    unfold M_canal_j233
    rw [zlt_e, show (0 : Int32) = nI 0 from rfl, g1, obs]
    dsimp only
    unfold M_canal_j306
    rw [zlt_e, show (0 : Int32) = nI 0 from rfl, h1, obs]
    dsimp only
    unfold M_canal_j340
    rw [zgt_e, m11, show (199 : Int32) = nI 199 from rfl, zwr_e (by omega) (by omega), zgt_e, zup_ne (by omega), m12, show (197 : Int32) = nI 197 from rfl, zwr_e (by omega) (by omega), zgt_e, zup_ne (by omega), zup_ne (by omega), m13, show (198 : Int32) = nI 198 from rfl, zwr_e (by omega) (by omega), zbl1, zpt_e, zpt_e, zpt_e, show (1 : Int32) = nI 1 from rfl, show (0 : Int32) = nI 0 from rfl, hυ]
  · rw [urow b (by omega) (by omega)]; exact srow b hb
  · rw [u171 k y4 y5 y6, k0 k y1 y2 y3]
  · rw [u171 0 (by omega) (by omega) (by omega)]; exact k00
  · rw [u171 1 (by omega) (by omega) (by omega)]; exact k01
  · rw [u171 2 (by omega) (by omega) (by omega)]; exact k02
  · rw [← hυ, zup_miss (by omega), zup_hit]
  · rw [← hυ, zup_miss (by omega), zup_miss (by omega), zup_hit]
  · rw [← hυ, zup_hit]
  · rw [urow 172 (by omega) (by omega), h2 172 (by omega), g2 172 (by omega)]; exact r172 i hi
  · rw [urow 173 (by omega) (by omega), h2 173 (by omega), g2 173 (by omega), f2 173 (by omega), e2 173 (by omega), d2 173 (by omega), c2 173 (by omega), b3 i hi, a2 178 (by omega), r0 178 (by omega)]
  · rw [urow 174 (by omega) (by omega), h2 174 (by omega), g2 174 (by omega), f2 174 (by omega), e2 174 (by omega), d2 174 (by omega), c3 i hi, b2 179 (by omega), a2 179 (by omega), r0 179 (by omega)]
  · rw [urow 175 (by omega) (by omega), h2 175 (by omega), g2 175 (by omega), f2 175 (by omega), e2 175 (by omega), d3 i hi, c2 181 (by omega), b2 181 (by omega), a2 181 (by omega), r0 181 (by omega)]
  · rw [urow 176 (by omega) (by omega), h2 176 (by omega), g2 176 (by omega), f2 176 (by omega), e3 i hi, d2 182 (by omega), c2 182 (by omega), b2 182 (by omega), a2 182 (by omega), r0 182 (by omega)]
  · rw [u183 p (by omega) (by omega) (by omega), u183 (8 + p) (by omega) (by omega) (by omega), u183 (16 + p) (by omega) (by omega) (by omega), u183 (24 + p) (by omega) (by omega) (by omega), h4 p (by omega), h4 (8 + p) (by omega), h4 (16 + p) (by omega), h4 (24 + p) (by omega)]
    exact g3 p hp
  · rw [u183 (148 + i) (by omega) (by omega) (by omega)]; exact h3 i hi
  · rw [← hυ, zup_ne (by omega), zup_ne (by omega), zup_ne (by omega), zup_miss (by omega), zup_miss (by omega), zup_hit]
  · rw [← hυ, zup_ne (by omega), zup_ne (by omega), zup_ne (by omega), zup_miss (by omega), zup_hit]
  · rw [← hυ, zup_ne (by omega), zup_ne (by omega), zup_ne (by omega), zup_hit]
  · rw [u183 i y4 y5 y6, h4 i y3, g4 i y1, f3 i y2]
  · rw [u183 i (by omega) (by omega) (by omega), h4 i (by omega), g4 i (by omega), f4 i hi, e2 183 (by omega), d2 183 (by omega), c2 183 (by omega), b2 183 (by omega), a2 183 (by omega), r0 183 (by omega)]
