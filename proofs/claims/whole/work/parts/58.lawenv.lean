theorem lw_m2 : ∀ i, i < 21 → ∀ j, j < zSlen.getD i 0 → Cond.eq (.elem (.field (lw_tm i) "java/lang/String" "value" "[B") (.int (Int32.ofNat j))) (.int ((zSbyt.getD i []).getD j 0)) ∈ lw_fl := by
  intro i hi
  rcases (show i = 0 ∨ i = 1 ∨ i = 2 ∨ i = 3 ∨ i = 4 ∨ i = 5 ∨ i = 6 ∨ i = 7 ∨ i = 8 ∨ i = 9 ∨ i = 10 ∨ i = 11 ∨ i = 12 ∨ i = 13 ∨ i = 14 ∨ i = 15 ∨ i = 16 ∨ i = 17 ∨ i = 18 ∨ i = 19 ∨ i = 20 by omega) with rfl | rfl | rfl | rfl | rfl | rfl | rfl | rfl | rfl | rfl | rfl | rfl | rfl | rfl | rfl | rfl | rfl | rfl | rfl | rfl | rfl
  · exact lw_m2_0
  · exact lw_m2_1
  · exact lw_m2_2
  · exact lw_m2_3
  · exact lw_m2_4
  · exact lw_m2_5
  · exact lw_m2_6
  · exact lw_m2_7
  · exact lw_m2_8
  · exact lw_m2_9
  · exact lw_m2_10
  · exact lw_m2_11
  · exact lw_m2_12
  · exact lw_m2_13
  · exact lw_m2_14
  · exact lw_m2_15
  · exact lw_m2_16
  · exact lw_m2_17
  · exact lw_m2_18
  · exact lw_m2_19
  · exact lw_m2_20
theorem lw_m3 : ∀ i, i < 21 → ∀ j, j < 21 → i ≠ j → Cond.not (Cond.eq (lw_tm i) (lw_tm j)) ∈ lw_fl ∨ Cond.not (Cond.eq (lw_tm j) (lw_tm i)) ∈ lw_fl := by
  intro i hi
  rcases (show i = 0 ∨ i = 1 ∨ i = 2 ∨ i = 3 ∨ i = 4 ∨ i = 5 ∨ i = 6 ∨ i = 7 ∨ i = 8 ∨ i = 9 ∨ i = 10 ∨ i = 11 ∨ i = 12 ∨ i = 13 ∨ i = 14 ∨ i = 15 ∨ i = 16 ∨ i = 17 ∨ i = 18 ∨ i = 19 ∨ i = 20 by omega) with rfl | rfl | rfl | rfl | rfl | rfl | rfl | rfl | rfl | rfl | rfl | rfl | rfl | rfl | rfl | rfl | rfl | rfl | rfl | rfl | rfl
  · exact lw_m3_0
  · exact lw_m3_1
  · exact lw_m3_2
  · exact lw_m3_3
  · exact lw_m3_4
  · exact lw_m3_5
  · exact lw_m3_6
  · exact lw_m3_7
  · exact lw_m3_8
  · exact lw_m3_9
  · exact lw_m3_10
  · exact lw_m3_11
  · exact lw_m3_12
  · exact lw_m3_13
  · exact lw_m3_14
  · exact lw_m3_15
  · exact lw_m3_16
  · exact lw_m3_17
  · exact lw_m3_18
  · exact lw_m3_19
  · exact lw_m3_20
set_option maxRecDepth 100000 in
theorem lw_m1 : ∀ i, i < 21 → Cond.exactly (lw_tm i) "java/lang/String" ∈ lw_fl ∧ Cond.eq (.field (lw_tm i) "java/lang/String" "coder" "B") (.int 0) ∈ lw_fl ∧ Cond.arrayOf (.field (lw_tm i) "java/lang/String" "value" "[B") .byte ∈ lw_fl ∧ Cond.eq (.length (.field (lw_tm i) "java/lang/String" "value" "[B")) (.int (Int32.ofNat (zSlen.getD i 0))) ∈ lw_fl := by decide +kernel
set_option maxRecDepth 100000 in
theorem lw_m4 : Cond.eq (.static "java/lang/String" "COMPACT_STRINGS" "Z") (.int 1) ∈ lw_fl ∧ Cond.isRef (.static "jdk/internal/util/Preconditions" "SIOOBE_FORMATTER" "Ljava/util/function/BiFunction;") ∈ lw_fl ∧ Cond.arrayOf (.static "CanalKeeper" "POOL_LEAST" "[I") .int ∈ lw_fl ∧ Cond.eq (.length (.static "CanalKeeper" "POOL_LEAST" "[I")) (.int 9) ∈ lw_fl ∧ Cond.arrayOf (.static "CanalKeeper" "POOL_MOST" "[I") .int ∈ lw_fl ∧ Cond.eq (.length (.static "CanalKeeper" "POOL_MOST" "[I")) (.int 9) ∈ lw_fl := by decide +kernel
set_option maxRecDepth 100000 in
theorem lw_m5 : ∀ j, j < 9 → Cond.eq (.elem (.static "CanalKeeper" "POOL_LEAST" "[I") (.int (Int32.ofNat j))) (.int (zLeast.getD j 0)) ∈ lw_fl ∧ Cond.eq (.elem (.static "CanalKeeper" "POOL_MOST" "[I") (.int (Int32.ofNat j))) (.int (zMost.getD j 0)) ∈ lw_fl := by decide +kernel
set_option maxRecDepth 100000 in
theorem lw_m6 : (∀ q ∈ zSix, Cond.stringRef "CanalKeeper$Reader" q.1 q.2 ∈ tables_1) ∧ (∀ q ∈ zNM, Cond.methodLinkNest q.1 q.2.1 q.2.2.1 q.2.2.2 ∈ tables_1) := by decide +kernel
set_option maxRecDepth 100000 in
theorem lw_m7 : ∀ w ∈ ([.laysStatic "java/lang/String" "COMPACT_STRINGS" "Z", .initialized "java/lang/String", .laysStatic "jdk/internal/util/Preconditions" "SIOOBE_FORMATTER" "Ljava/util/function/BiFunction;", .initialized "jdk/internal/util/Preconditions", .laysStatic "CanalKeeper" "POOL_LEAST" "[I", .initialized "CanalKeeper", .laysStatic "CanalKeeper" "POOL_MOST" "[I", .fieldLinkNest "CanalKeeper$Reader" 179 "CanalKeeper" "POOL_LEAST" "[I" "CanalKeeper", .fieldLinkNest "CanalKeeper$Reader" 182 "CanalKeeper" "POOL_MOST" "[I" "CanalKeeper", .arrayOver (.array .int), .arrayOver (.array .byte), .arrayOver (.object "CanalKeeper$Moment"), .arrayClass .int, .arrayClass .byte] : List Cond), w ∈ tables_1 := by decide +kernel
theorem lw_env {s : State} {b : Nat} (hts : ∀ w ∈ tables_1, w.before #[Value.ref b] s = true) (hgv : (Jvm.Cond.and given_1 narrow_1).before #[Value.ref b] s = true) : ∃ u : Nat → Nat, ∀ ad : Nat → Nat, (∀ i, 1000000 ≤ i → ad i = u i) → Zev ad (fun q => s.heap.size ≤ q) s s.heap := by
  have hs := flat_of_before _ hgv
  have hA : ∀ a : Nat, a < s.heap.size → ¬ (fun q => s.heap.size ≤ q) a := fun a h => Nat.not_le.mpr h
  have w7 := fun w hw => hts w (lw_m7 w hw)
  obtain ⟨adK, adV, hS, hT⟩ := vk_Sof (args := #[Value.ref b]) (s := s) (N := 21) (tm := lw_tm) (len := zSlen) (byt := zSbyt) (A := fun q => s.heap.size ≤ q) (by decide) (fun i hi => hs _ (lw_m1 i hi).1) (fun i hi => hs _ (lw_m1 i hi).2.1) (fun i hi => hs _ (lw_m1 i hi).2.2.1) (fun i hi => hs _ (lw_m1 i hi).2.2.2) (fun i hi j hj => hs _ (lw_m2 i hi j hj)) (fun i j hi hj hij => (lw_m3 i hi j hj hij).imp (fun h => hs _ h) (fun h => hs _ h)) hA
  obtain ⟨t1, ht1, hT1⟩ := va_Tof (args := #[Value.ref b]) (s := s) (N := 9) (f := fun j => .int (zLeast.getD j 0)) (A := fun q => s.heap.size ≤ q) (by decide) (hs _ lw_m4.2.2.1) (va_eqt (hs _ lw_m4.2.2.2.1)) (fun j hj => va_eqt (hs _ (lw_m5 j hj).1)) hA
  obtain ⟨t2, ht2, hT2⟩ := va_Tof (args := #[Value.ref b]) (s := s) (N := 9) (f := fun j => .int (zMost.getD j 0)) (A := fun q => s.heap.size ≤ q) (by decide) (hs _ lw_m4.2.2.2.2.1) (va_eqt (hs _ lw_m4.2.2.2.2.2)) (fun j hj => va_eqt (hs _ (lw_m5 j hj).2)) hA
  refine ⟨fun i => if i < 1000100 then adK (i - 1000000) else if i < 1000200 then adV (i - 1000100) else if i = 1000200 then t1 else t2, fun ad had => ?_⟩
  have e1 : ad 1000200 = t1 := by rw [had _ (by omega)]; rfl
  have e2 : ad 1000201 = t2 := by rw [had _ (by omega)]; rfl
  have eK : ∀ i, i < 21 → ad (1000000 + i) = adK i := fun i hi => by
    rw [had _ (by omega)]
    show (if 1000000 + i < 1000100 then adK (1000000 + i - 1000000) else _) = _
    rw [if_pos (by omega), show 1000000 + i - 1000000 = i by omega]
  have eV : ∀ i, i < 21 → ad (1000100 + i) = adV i := fun i hi => by
    rw [had _ (by omega)]
    show (if 1000100 + i < 1000100 then _ else if 1000100 + i < 1000200 then adV (1000100 + i - 1000100) else _) = _
    rw [if_neg (by omega), if_pos (by omega), show 1000100 + i - 1000100 = i by omega]
  refine ⟨⟨fun i hi => ?_, fun i j hi hj e => ?_⟩, fun i q hq => ?_, ?_, ?_, ?_, ?_, ?_, ?_, ?_, ?_, ?_⟩
  · have h := hS.1 i hi
    rw [← eK i hi, ← eV i hi] at h
    exact h
  · have e9 : ad (1000000 + i) = ad (1000000 + j) := e
    rw [eK i hi, eK j hj] at e9
    exact hS.2 i j hi hj e9
  · have hi : i < 21 := (List.getElem?_eq_some_iff.mp hq).1
    rw [eK i hi]
    have h9 := hT i hi
    have e9 : zSix.getD i (0, "") = q := by rw [List.getD_eq_getElem?_getD, hq]; rfl
    unfold lw_tm at h9
    rw [e9] at h9
    exact vk_R.of (hts _ (lw_m6.1 q (List.mem_of_getElem? hq))) h9
  · exact va_Zof (w7 (.laysStatic "java/lang/String" "COMPACT_STRINGS" "Z") (by simp)) (w7 (.initialized "java/lang/String") (by simp)) (va_eqt (hs _ lw_m4.1)) hA
  · exact va_Zqof (w7 (.laysStatic "jdk/internal/util/Preconditions" "SIOOBE_FORMATTER" "Ljava/util/function/BiFunction;") (by simp)) (w7 (.initialized "jdk/internal/util/Preconditions") (by simp)) (hs _ lw_m4.2.1) hA
  · rw [e1]; exact va_Zof (w7 (.laysStatic "CanalKeeper" "POOL_LEAST" "[I") (by simp)) (w7 (.initialized "CanalKeeper") (by simp)) ht1 hA
  · rw [e1]; exact hT1
  · rw [e2]; exact va_Zof (w7 (.laysStatic "CanalKeeper" "POOL_MOST" "[I") (by simp)) (w7 (.initialized "CanalKeeper") (by simp)) ht2 hA
  · rw [e2]; exact hT2
  · exact va_tabs rfl rfl (w7 (.fieldLinkNest "CanalKeeper$Reader" 179 "CanalKeeper" "POOL_LEAST" "[I" "CanalKeeper") (by simp))
  · exact va_tabs rfl rfl (w7 (.fieldLinkNest "CanalKeeper$Reader" 182 "CanalKeeper" "POOL_MOST" "[I" "CanalKeeper") (by simp))
  · exact fun q hq => va_tabs rfl rfl (hts _ (lw_m6.2 q hq))
