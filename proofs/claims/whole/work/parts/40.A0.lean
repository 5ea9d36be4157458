theorem fl_11_400 : Cond.fieldLink RX11 400 (TX4 2).1 (TX4 2).2.1 (TX4 2).2.2.1 ∈ zT := zT_of (i := 517) (by decide +kernel) rfl
theorem ml_11_351 : Cond.methodLink RX11 351 yX11_goSteps ∈ zT := zT_of (i := 1292) (by decide +kernel) rfl
theorem ml_11_355 : Cond.methodLink RX11 355 yX11_remember ∈ zT := zT_of (i := 1296) (by decide +kernel) rfl
theorem ml_11_358 : Cond.methodLink RX11 358 yX3_add ∈ zT := zT_of (i := 1352) (by decide +kernel) rfl
theorem ml_11_361 : Cond.methodLink RX11 361 yX3_drop ∈ zT := zT_of (i := 1357) (by decide +kernel) rfl
theorem ml_11_364 : Cond.methodLink RX11 364 yX11_changeLeak ∈ zT := zT_of (i := 1369) (by decide +kernel) rfl
theorem ml_11_368 : Cond.methodLink RX11 368 yX11_changeGives ∈ zT := zT_of (i := 1373) (by decide +kernel) rfl
theorem ml_11_371 : Cond.methodLink RX11 371 yX11_changeGain ∈ zT := zT_of (i := 1377) (by decide +kernel) rfl
theorem ml_11_404 : Cond.methodLink RX11 404 yX6_plan ∈ zT := zT_of (i := 1311) (by decide +kernel) rfl
theorem ml_11_410 : Cond.methodLink RX11 410 yX9_beginStep ∈ zT := zT_of (i := 1312) (by decide +kernel) rfl
theorem ml_11_413 : Cond.methodLink RX11 413 yX11_draw ∈ zT := zT_of (i := 1313) (by decide +kernel) rfl
theorem ml_11_416 : Cond.methodLink RX11 416 yX9_rainOn ∈ zT := zT_of (i := 1320) (by decide +kernel) rfl
theorem ml_11_420 : Cond.methodLink RX11 420 yX9_goOn ∈ zT := zT_of (i := 1324) (by decide +kernel) rfl
theorem ml_11_424 : Cond.methodLink RX11 424 yX0_noteStep ∈ zT := zT_of (i := 1325) (by decide +kernel) rfl
theorem w_CK_ask : Cond.instanceMethod yX11_ask ∈ zT ∧ Cond.selects yX11_ask.cls yX11_ask yX11_ask ∈ zT ∧ Cond.initialized yX11_ask.cls ∈ zT ∧ Cond.code yX11_ask cX11_ask 5 (some .int) ∈ zT := ⟨zT_of (i := 1349) (by decide +kernel) rfl, zT_of (i := 1350) (by decide +kernel) rfl, zT_of (i := 123) (by decide +kernel) rfl, zT_of (i := 1351) (by decide +kernel) rfl⟩
theorem hy_CK_ask : yX11_ask.cls ≠ "java/lang/invoke/MethodHandle" ∧ yX11_ask.cls ≠ "java/lang/invoke/VarHandle" ∧ (parseMethodDescriptor yX11_ask.desc).map (fun d => d.parameters.length) = some 3 := by decide +kernel
theorem w_CK_cancel : Cond.instanceMethod yX11_cancel ∈ zT ∧ Cond.selects yX11_cancel.cls yX11_cancel yX11_cancel ∈ zT ∧ Cond.initialized yX11_cancel.cls ∈ zT ∧ Cond.code yX11_cancel cX11_cancel 2 (some .boolean) ∈ zT := ⟨zT_of (i := 1354) (by decide +kernel) rfl, zT_of (i := 1355) (by decide +kernel) rfl, zT_of (i := 123) (by decide +kernel) rfl, zT_of (i := 1356) (by decide +kernel) rfl⟩
theorem hy_CK_cancel : yX11_cancel.cls ≠ "java/lang/invoke/MethodHandle" ∧ yX11_cancel.cls ≠ "java/lang/invoke/VarHandle" ∧ (parseMethodDescriptor yX11_cancel.desc).map (fun d => d.parameters.length) = some 1 := by decide +kernel
theorem w_CK_chance : Cond.instanceMethod yX11_chance ∈ zT ∧ Cond.selects yX11_chance.cls yX11_chance yX11_chance ∈ zT ∧ Cond.initialized yX11_chance.cls ∈ zT ∧ Cond.code yX11_chance cX11_chance 2 (some .int) ∈ zT := ⟨zT_of (i := 1345) (by decide +kernel) rfl, zT_of (i := 1346) (by decide +kernel) rfl, zT_of (i := 123) (by decide +kernel) rfl, zT_of (i := 1347) (by decide +kernel) rfl⟩
theorem hy_CK_chance : yX11_chance.cls ≠ "java/lang/invoke/MethodHandle" ∧ yX11_chance.cls ≠ "java/lang/invoke/VarHandle" ∧ (parseMethodDescriptor yX11_chance.desc).map (fun d => d.parameters.length) = some 1 := by decide +kernel
theorem w_CK_changeGain : Cond.instanceMethod yX11_changeGain ∈ zT ∧ Cond.selects yX11_changeGain.cls yX11_changeGain yX11_changeGain ∈ zT ∧ Cond.initialized yX11_changeGain.cls ∈ zT ∧ Cond.code yX11_changeGain cX11_changeGain 2 (some .boolean) ∈ zT := ⟨zT_of (i := 1379) (by decide +kernel) rfl, zT_of (i := 54) (by decide +kernel) rfl, zT_of (i := 123) (by decide +kernel) rfl, zT_of (i := 1380) (by decide +kernel) rfl⟩
theorem hy_CK_changeGain : yX11_changeGain.cls ≠ "java/lang/invoke/MethodHandle" ∧ yX11_changeGain.cls ≠ "java/lang/invoke/VarHandle" ∧ (parseMethodDescriptor yX11_changeGain.desc).map (fun d => d.parameters.length) = some 1 := by decide +kernel
theorem w_CK_changeGives : Cond.instanceMethod yX11_changeGives ∈ zT ∧ Cond.selects yX11_changeGives.cls yX11_changeGives yX11_changeGives ∈ zT ∧ Cond.initialized yX11_changeGives.cls ∈ zT ∧ Cond.code yX11_changeGives cX11_changeGives 2 (some .boolean) ∈ zT := ⟨zT_of (i := 1375) (by decide +kernel) rfl, zT_of (i := 53) (by decide +kernel) rfl, zT_of (i := 123) (by decide +kernel) rfl, zT_of (i := 1376) (by decide +kernel) rfl⟩
theorem hy_CK_changeGives : yX11_changeGives.cls ≠ "java/lang/invoke/MethodHandle" ∧ yX11_changeGives.cls ≠ "java/lang/invoke/VarHandle" ∧ (parseMethodDescriptor yX11_changeGives.desc).map (fun d => d.parameters.length) = some 1 := by decide +kernel
theorem w_CK_changeLeak : Cond.instanceMethod yX11_changeLeak ∈ zT ∧ Cond.selects yX11_changeLeak.cls yX11_changeLeak yX11_changeLeak ∈ zT ∧ Cond.initialized yX11_changeLeak.cls ∈ zT ∧ Cond.code yX11_changeLeak cX11_changeLeak 3 (some .boolean) ∈ zT := ⟨zT_of (i := 1371) (by decide +kernel) rfl, zT_of (i := 52) (by decide +kernel) rfl, zT_of (i := 123) (by decide +kernel) rfl, zT_of (i := 1372) (by decide +kernel) rfl⟩
theorem hy_CK_changeLeak : yX11_changeLeak.cls ≠ "java/lang/invoke/MethodHandle" ∧ yX11_changeLeak.cls ≠ "java/lang/invoke/VarHandle" ∧ (parseMethodDescriptor yX11_changeLeak.desc).map (fun d => d.parameters.length) = some 2 := by decide +kernel
theorem w_CK_goSteps : Cond.instanceMethod yX11_goSteps ∈ zT ∧ Cond.selects yX11_goSteps.cls yX11_goSteps yX11_goSteps ∈ zT ∧ Cond.initialized yX11_goSteps.cls ∈ zT ∧ Cond.code yX11_goSteps cX11_goSteps 6 (some .int) ∈ zT := ⟨zT_of (i := 1294) (by decide +kernel) rfl, zT_of (i := 48) (by decide +kernel) rfl, zT_of (i := 123) (by decide +kernel) rfl, zT_of (i := 1295) (by decide +kernel) rfl⟩
theorem hy_CK_goSteps : yX11_goSteps.cls ≠ "java/lang/invoke/MethodHandle" ∧ yX11_goSteps.cls ≠ "java/lang/invoke/VarHandle" ∧ (parseMethodDescriptor yX11_goSteps.desc).map (fun d => d.parameters.length) = some 2 := by decide +kernel
theorem w_CK_hand : Cond.instanceMethod yX11_hand ∈ zT ∧ Cond.selects yX11_hand.cls yX11_hand yX11_hand ∈ zT ∧ Cond.initialized yX11_hand.cls ∈ zT ∧ Cond.code yX11_hand cX11_hand 3 (some .boolean) ∈ zT := ⟨zT_of (i := 1362) (by decide +kernel) rfl, zT_of (i := 1363) (by decide +kernel) rfl, zT_of (i := 123) (by decide +kernel) rfl, zT_of (i := 1364) (by decide +kernel) rfl⟩
theorem hy_CK_hand : yX11_hand.cls ≠ "java/lang/invoke/MethodHandle" ∧ yX11_hand.cls ≠ "java/lang/invoke/VarHandle" ∧ (parseMethodDescriptor yX11_hand.desc).map (fun d => d.parameters.length) = some 2 := by decide +kernel
theorem w_CK_set : Cond.instanceMethod yX11_set ∈ zT ∧ Cond.selects yX11_set.cls yX11_set yX11_set ∈ zT ∧ Cond.initialized yX11_set.cls ∈ zT ∧ Cond.code yX11_set cX11_set 5 (some .boolean) ∈ zT := ⟨zT_of (i := 1366) (by decide +kernel) rfl, zT_of (i := 1367) (by decide +kernel) rfl, zT_of (i := 123) (by decide +kernel) rfl, zT_of (i := 1368) (by decide +kernel) rfl⟩
theorem hy_CK_set : yX11_set.cls ≠ "java/lang/invoke/MethodHandle" ∧ yX11_set.cls ≠ "java/lang/invoke/VarHandle" ∧ (parseMethodDescriptor yX11_set.desc).map (fun d => d.parameters.length) = some 3 := by decide +kernel
theorem w_CK_steps : Cond.instanceMethod yX11_steps ∈ zT ∧ Cond.selects yX11_steps.cls yX11_steps yX11_steps ∈ zT ∧ Cond.initialized yX11_steps.cls ∈ zT ∧ Cond.code yX11_steps cX11_steps 2 (some .int) ∈ zT := ⟨zT_of (i := 1289) (by decide +kernel) rfl, zT_of (i := 1290) (by decide +kernel) rfl, zT_of (i := 123) (by decide +kernel) rfl, zT_of (i := 1291) (by decide +kernel) rfl⟩
theorem hy_CK_steps : yX11_steps.cls ≠ "java/lang/invoke/MethodHandle" ∧ yX11_steps.cls ≠ "java/lang/invoke/VarHandle" ∧ (parseMethodDescriptor yX11_steps.desc).map (fun d => d.parameters.length) = some 1 := by decide +kernel
theorem dX11_goSteps_0 : decode cX11_goSteps 0 = .ok (.aload_n 0, 1) := by decide +kernel
theorem dX11_goSteps_1 : decode cX11_goSteps 1 = .ok (.invokevirtual 355, 3) := by decide +kernel
theorem dX11_goSteps_4 : decode cX11_goSteps 4 = .ok (.aload_n 0, 1) := by decide +kernel
theorem dX11_goSteps_5 : decode cX11_goSteps 5 = .ok (.getfield 48, 3) := by decide +kernel
theorem dX11_goSteps_8 : decode cX11_goSteps 8 = .ok (.getfield 400, 3) := by decide +kernel
theorem dX11_goSteps_11 : decode cX11_goSteps 11 = .ok (.astore_n 3, 1) := by decide +kernel
theorem dX11_goSteps_12 : decode cX11_goSteps 12 = .ok (.aload_n 3, 1) := by decide +kernel
theorem dX11_goSteps_13 : decode cX11_goSteps 13 = .ok (.aload_n 0, 1) := by decide +kernel
theorem dX11_goSteps_14 : decode cX11_goSteps 14 = .ok (.getfield 23, 3) := by decide +kernel
theorem dX11_goSteps_17 : decode cX11_goSteps 17 = .ok (.aload_n 0, 1) := by decide +kernel
theorem dX11_goSteps_18 : decode cX11_goSteps 18 = .ok (.getfield 37, 3) := by decide +kernel
theorem dX11_goSteps_21 : decode cX11_goSteps 21 = .ok (.getfield 117, 3) := by decide +kernel
theorem dX11_goSteps_24 : decode cX11_goSteps 24 = .ok (.aload_n 0, 1) := by decide +kernel
theorem dX11_goSteps_25 : decode cX11_goSteps 25 = .ok (.getfield 37, 3) := by decide +kernel
theorem dX11_goSteps_28 : decode cX11_goSteps 28 = .ok (.getfield 126, 3) := by decide +kernel
theorem dX11_goSteps_31 : decode cX11_goSteps 31 = .ok (.getfield 130, 3) := by decide +kernel
theorem dX11_goSteps_34 : decode cX11_goSteps 34 = .ok (.iload_n 1, 1) := by decide +kernel
theorem dX11_goSteps_35 : decode cX11_goSteps 35 = .ok (.invokevirtual 404, 3) := by decide +kernel
theorem dX11_goSteps_38 : decode cX11_goSteps 38 = .ok (.iconst 0, 1) := by decide +kernel
theorem dX11_goSteps_39 : decode cX11_goSteps 39 = .ok (.istore 4, 2) := by decide +kernel
theorem dX11_goSteps_41 : decode cX11_goSteps 41 = .ok (.iload 4, 2) := by decide +kernel
theorem dX11_goSteps_43 : decode cX11_goSteps 43 = .ok (.iload_n 1, 1) := by decide +kernel
theorem dX11_goSteps_44 : decode cX11_goSteps 44 = .ok (.if_icmp .ge 97, 3) := by decide +kernel
theorem dX11_goSteps_47 : decode cX11_goSteps 47 = .ok (.aload_n 0, 1) := by decide +kernel
theorem dX11_goSteps_48 : decode cX11_goSteps 48 = .ok (.getfield 37, 3) := by decide +kernel
theorem dX11_goSteps_51 : decode cX11_goSteps 51 = .ok (.getfield 126, 3) := by decide +kernel
theorem dX11_goSteps_54 : decode cX11_goSteps 54 = .ok (.aload_n 0, 1) := by decide +kernel
theorem dX11_goSteps_55 : decode cX11_goSteps 55 = .ok (.getfield 23, 3) := by decide +kernel
theorem dX11_goSteps_58 : decode cX11_goSteps 58 = .ok (.getfield 111, 3) := by decide +kernel
theorem dX11_goSteps_61 : decode cX11_goSteps 61 = .ok (.invokevirtual 410, 3) := by decide +kernel
theorem dX11_goSteps_64 : decode cX11_goSteps 64 = .ok (.iload_n 2, 1) := by decide +kernel
theorem dX11_goSteps_65 : decode cX11_goSteps 65 = .ok (.ifCond .eq 34, 3) := by decide +kernel
theorem dX11_goSteps_68 : decode cX11_goSteps 68 = .ok (.aload_n 0, 1) := by decide +kernel
theorem dX11_goSteps_69 : decode cX11_goSteps 69 = .ok (.aload_n 0, 1) := by decide +kernel
theorem dX11_goSteps_70 : decode cX11_goSteps 70 = .ok (.getfield 23, 3) := by decide +kernel
theorem dX11_goSteps_73 : decode cX11_goSteps 73 = .ok (.getfield 111, 3) := by decide +kernel
theorem dX11_goSteps_76 : decode cX11_goSteps 76 = .ok (.invokevirtual 413, 3) := by decide +kernel
theorem dX11_goSteps_79 : decode cX11_goSteps 79 = .ok (.istore 5, 2) := by decide +kernel
theorem dX11_goSteps_81 : decode cX11_goSteps 81 = .ok (.aload_n 0, 1) := by decide +kernel
theorem dX11_goSteps_82 : decode cX11_goSteps 82 = .ok (.getfield 37, 3) := by decide +kernel
theorem dX11_goSteps_85 : decode cX11_goSteps 85 = .ok (.getfield 126, 3) := by decide +kernel
theorem dX11_goSteps_88 : decode cX11_goSteps 88 = .ok (.iload 5, 2) := by decide +kernel
theorem dX11_goSteps_90 : decode cX11_goSteps 90 = .ok (.aload_n 0, 1) := by decide +kernel
theorem dX11_goSteps_91 : decode cX11_goSteps 91 = .ok (.bipush 20, 2) := by decide +kernel
theorem dX11_goSteps_93 : decode cX11_goSteps 93 = .ok (.invokevirtual 413, 3) := by decide +kernel
theorem dX11_goSteps_96 : decode cX11_goSteps 96 = .ok (.invokevirtual 416, 3) := by decide +kernel
theorem dX11_goSteps_99 : decode cX11_goSteps 99 = .ok (.aload_n 0, 1) := by decide +kernel
theorem dX11_goSteps_100 : decode cX11_goSteps 100 = .ok (.getfield 37, 3) := by decide +kernel
theorem dX11_goSteps_103 : decode cX11_goSteps 103 = .ok (.getfield 126, 3) := by decide +kernel
theorem dX11_goSteps_106 : decode cX11_goSteps 106 = .ok (.aload_n 0, 1) := by decide +kernel
theorem dX11_goSteps_107 : decode cX11_goSteps 107 = .ok (.getfield 23, 3) := by decide +kernel
theorem dX11_goSteps_110 : decode cX11_goSteps 110 = .ok (.aload_n 3, 1) := by decide +kernel
theorem dX11_goSteps_111 : decode cX11_goSteps 111 = .ok (.invokevirtual 420, 3) := by decide +kernel
theorem dX11_goSteps_114 : decode cX11_goSteps 114 = .ok (.aload_n 0, 1) := by decide +kernel
theorem dX11_goSteps_115 : decode cX11_goSteps 115 = .ok (.getfield 37, 3) := by decide +kernel
theorem dX11_goSteps_118 : decode cX11_goSteps 118 = .ok (.getfield 141, 3) := by decide +kernel
theorem dX11_goSteps_121 : decode cX11_goSteps 121 = .ok (.aload_n 0, 1) := by decide +kernel
theorem dX11_goSteps_122 : decode cX11_goSteps 122 = .ok (.getfield 23, 3) := by decide +kernel
theorem dX11_goSteps_125 : decode cX11_goSteps 125 = .ok (.aload_n 0, 1) := by decide +kernel
theorem dX11_goSteps_126 : decode cX11_goSteps 126 = .ok (.getfield 37, 3) := by decide +kernel
theorem dX11_goSteps_129 : decode cX11_goSteps 129 = .ok (.getfield 126, 3) := by decide +kernel
theorem dX11_goSteps_132 : decode cX11_goSteps 132 = .ok (.invokevirtual 424, 3) := by decide +kernel
theorem dX11_goSteps_135 : decode cX11_goSteps 135 = .ok (.iinc 4 1, 3) := by decide +kernel
theorem dX11_goSteps_138 : decode cX11_goSteps 138 = .ok (.goto (-97), 3) := by decide +kernel
theorem dX11_goSteps_141 : decode cX11_goSteps 141 = .ok (.aload_n 0, 1) := by decide +kernel
theorem dX11_goSteps_142 : decode cX11_goSteps 142 = .ok (.getfield 37, 3) := by decide +kernel
theorem dX11_goSteps_145 : decode cX11_goSteps 145 = .ok (.getfield 126, 3) := by decide +kernel
theorem dX11_goSteps_148 : decode cX11_goSteps 148 = .ok (.getfield 130, 3) := by decide +kernel
theorem dX11_goSteps_151 : decode cX11_goSteps 151 = .ok (.ireturn, 1) := by decide +kernel
abbrev rm_CK_goSteps (d : Nat) : Room := rmA 5 122 d
def CK_goSteps_j41_99 (σ : Sg) (x1 : Int32) (x2 : Int32) (x4 : Int32) : Option ((Sg × Int32) ⊕ (Sg × Int32)) :=
  zmr2 3 29 (σ 0 3) fun q107 =>
  (Water_goOn σ 56 q107).bind fun r111 =>
  zmr2 3 29 (r111 0 3) fun q122 =>
  (Log_noteStep r111 77 q122 56).bind fun r132 =>
  zlt (x4 + 1) fun v135 =>
  some (.inl (r132, v135))
set_option maxRecDepth 20000 in
theorem t_CK_goSteps_j41_99 {X : Zx} {Q : State → Prop} {σ : Sg} {x1 : Int32} {x2 : Int32} {x4 : Int32} {k1 k2 d : Nat} (ok : Zok X cX11_goSteps RX11 (rm_CK_goSteps d) 198 6) (hkR : k1 ≤ d ∧ k2 ≤ zms d)  {out : ((Sg × Int32) ⊕ (Sg × Int32))} (hf : CK_goSteps_j41_99 σ x1 x2 x4 = some out) (hk : zout (fun (s : (Sg × Int32)) => ZAt X Q k1 k2 41 s.1 [(0, .ref (X.ad 0)), (1, .int x1), (2, .int x2), (3, .ref (X.ad 103)), (4, .int s.2)] []) (fun (s : (Sg × Int32)) => ZAt X Q k1 k2 141 s.1 [(0, .ref (X.ad 0))] []) out) : ZAt X Q k1 k2 99 σ [(0, .ref (X.ad 0)), (1, .int x1), (2, .int x2), (3, .ref (X.ad 103)), (4, .int x4)] [] := by
  unfold CK_goSteps_j41_99 at hf
  refine z_aload_n ok dX11_goSteps_99 0 rfl ?_
  refine z_getr (q := 55) ok kc_0 zc_11 hin_11 8 (by decide) fl_11_37 rfl dX11_goSteps_100 ?_
  refine z_getr (q := 56) ok kc_55 zc_1 hin_1 0 (by decide) fl_11_126 rfl dX11_goSteps_103 ?_
  refine z_aload_n ok dX11_goSteps_106 0 rfl ?_
  refine z_getm2 (p := 3) (q := 29) ok kc_0 zc_11 hin_11 3 (by decide) fl_11_23 rfl (by decide) (by decide) dX11_goSteps_107 hf (fun q107 e107 hf => ?_)
  have hq107 : zI_Works q107 198 := by rcases e107 with rfl | rfl; exact kI_Works_3; exact kI_Works_29
  obtain ⟨hq107_0, hq107_1, hq107_2, hq107_3, hq107_4, hq107_5, hq107_6, hq107_7, hq107_8, hq107_9, hq107_10, hq107_11, hq107_12, hq107_13, hq107_14, hq107_15, hq107_16, hq107_17, hq107_18, hq107_19, hq107_20, hq107_21, hq107_22, hq107_23, hq107_24, hq107_25⟩ := id hq107
  refine z_aload_n ok dX11_goSteps_110 3 rfl ?_
  refine z_call hf (fun r111 h111 hf => ?_)
  refine z_cVv (As := [.ref (X.ad q107), .ref (X.ad 103)]) (rest := []) (w := 56) ok kc_56 zc_9 (c_Water_goOn kI_Water_56 hq107 h111) rfl ⟨ml_11_420, w_Water_goOn⟩ hy_Water_goOn ⟨rfl, rfl⟩ ⟨Nat.le_of_ble_eq_true rfl, Nat.le_of_ble_eq_true rfl⟩ hkR rfl (Nat.le_of_ble_eq_true rfl) dX11_goSteps_111 ?_
  refine z_aload_n ok dX11_goSteps_114 0 rfl ?_
  refine z_getr (q := 55) ok kc_0 zc_11 hin_11 8 (by decide) fl_11_37 rfl dX11_goSteps_115 ?_
  refine z_getr (q := 77) ok kc_55 zc_1 hin_1 2 (by decide) fl_11_141 rfl dX11_goSteps_118 ?_
  refine z_aload_n ok dX11_goSteps_121 0 rfl ?_
  refine z_getm2 (p := 3) (q := 29) ok kc_0 zc_11 hin_11 3 (by decide) fl_11_23 rfl (by decide) (by decide) dX11_goSteps_122 hf (fun q122 e122 hf => ?_)
  have hq122 : zI_Works q122 198 := by rcases e122 with rfl | rfl; exact kI_Works_3; exact kI_Works_29
  obtain ⟨hq122_0, hq122_1, hq122_2, hq122_3, hq122_4, hq122_5, hq122_6, hq122_7, hq122_8, hq122_9, hq122_10, hq122_11, hq122_12, hq122_13, hq122_14, hq122_15, hq122_16, hq122_17, hq122_18, hq122_19, hq122_20, hq122_21, hq122_22, hq122_23, hq122_24, hq122_25⟩ := id hq122
  refine z_aload_n ok dX11_goSteps_125 0 rfl ?_
  refine z_getr (q := 55) ok kc_0 zc_11 hin_11 8 (by decide) fl_11_37 rfl dX11_goSteps_126 ?_
  refine z_getr (q := 56) ok kc_55 zc_1 hin_1 0 (by decide) fl_11_126 rfl dX11_goSteps_129 ?_
  refine z_call hf (fun r132 h132 hf => ?_)
  refine z_cVv (As := [.ref (X.ad q122), .ref (X.ad 56)]) (rest := []) (w := 77) ok kc_77 zc_0 (c_Log_noteStep kI_Log_77 hq122 kI_Water_56 h132) rfl ⟨ml_11_424, w_Log_noteStep⟩ hy_Log_noteStep ⟨rfl, rfl⟩ ⟨Nat.le_of_ble_eq_true rfl, Nat.le_of_ble_eq_true rfl⟩ hkR rfl (Nat.le_of_ble_eq_true rfl) dX11_goSteps_132 ?_
  refine z_iinc (w := 1) (lv' := fun v135 => [(4, .int v135), (0, .ref (X.ad 0)), (1, .int x1), (2, .int x2), (3, .ref (X.ad 103))]) ok dX11_goSteps_135 4 rfl (by decide) (by decide) (fun _ => rfl) hf (fun v135 hf => ?_)
  refine z_goto (tgt := 41) ok dX11_goSteps_138 (by decide) ?_
  obtain rfl := Option.some.inj hf
  exact z_sub [1, 2, 3, 4, 0] rfl hk
def CK_goSteps_l41 (σ : Sg) (x1 : Int32) (x2 : Int32) (x4 : Int32) : Option ((Sg × Int32) ⊕ (Sg × Int32)) :=
  if x1 ≤ x4 then (
    some (.inr (σ, x4))
  ) else (
    zmr2 3 29 (σ 0 3) fun q55 =>
    zgt σ q55 3 fun v58 =>
    (Water_beginStep σ 56 v58).bind fun r61 =>
    if x2 = 0 then (
      CK_goSteps_j41_99 r61 x1 x2 x4
    ) else (
      zmr2 3 29 (r61 0 3) fun q70 =>
      zgt r61 q70 3 fun v73 =>
      (CK_draw r61 v73).bind fun r76 =>
      zlt r76.1 fun v79 =>
      (CK_draw r76.2 20).bind fun r93 =>
      (Water_rainOn r93.2 56 v79 r93.1).bind fun r96 =>
      CK_goSteps_j41_99 r96 x1 x2 x4
    )
  )
set_option maxRecDepth 20000 in
theorem t_CK_goSteps_l41 {X : Zx} {Q : State → Prop} {σ : Sg} {x1 : Int32} {x2 : Int32} {x4 : Int32} {k1 k2 d : Nat} (ok : Zok X cX11_goSteps RX11 (rm_CK_goSteps d) 198 6) (hkR : k1 ≤ d ∧ k2 ≤ zms d)  {out : ((Sg × Int32) ⊕ (Sg × Int32))} (hf : CK_goSteps_l41 σ x1 x2 x4 = some out) (hk : zout (fun (s : (Sg × Int32)) => ZAt X Q k1 k2 41 s.1 [(0, .ref (X.ad 0)), (1, .int x1), (2, .int x2), (3, .ref (X.ad 103)), (4, .int s.2)] []) (fun (s : (Sg × Int32)) => ZAt X Q k1 k2 141 s.1 [(0, .ref (X.ad 0))] []) out) : ZAt X Q k1 k2 41 σ [(0, .ref (X.ad 0)), (1, .int x1), (2, .int x2), (3, .ref (X.ad 103)), (4, .int x4)] [] := by
  unfold CK_goSteps_l41 at hf
  refine z_iload ok dX11_goSteps_41 4 rfl ?_
  refine z_iload_n ok dX11_goSteps_43 1 rfl ?_
  refine z_icmp_ge (tgt := 141) ok dX11_goSteps_44 (by decide) hf (fun _ hf => ?_) (fun _ hf => ?_)
  · obtain rfl := Option.some.inj hf
    exact z_sub [0] rfl hk
  · refine z_aload_n ok dX11_goSteps_47 0 rfl ?_
    refine z_getr (q := 55) ok kc_0 zc_11 hin_11 8 (by decide) fl_11_37 rfl dX11_goSteps_48 ?_
    refine z_getr (q := 56) ok kc_55 zc_1 hin_1 0 (by decide) fl_11_126 rfl dX11_goSteps_51 ?_
    refine z_aload_n ok dX11_goSteps_54 0 rfl ?_
    refine z_getm2 (p := 3) (q := 29) ok kc_0 zc_11 hin_11 3 (by decide) fl_11_23 rfl (by decide) (by decide) dX11_goSteps_55 hf (fun q55 e55 hf => ?_)
    have hq55 : zI_Works q55 198 := by rcases e55 with rfl | rfl; exact kI_Works_3; exact kI_Works_29
    obtain ⟨hq55_0, hq55_1, hq55_2, hq55_3, hq55_4, hq55_5, hq55_6, hq55_7, hq55_8, hq55_9, hq55_10, hq55_11, hq55_12, hq55_13, hq55_14, hq55_15, hq55_16, hq55_17, hq55_18, hq55_19, hq55_20, hq55_21, hq55_22, hq55_23, hq55_24, hq55_25⟩ := id hq55
    refine z_geti ok hq55_0 zc_10 hin_10 3 (by decide) fl_11_111 rfl dX11_goSteps_58 hf (fun v58 hf => ?_)
    refine z_call hf (fun r61 h61 hf => ?_)
    refine z_cVv (As := [.int v58]) (rest := []) (w := 56) ok kc_56 zc_9 (c_Water_beginStep kI_Water_56 h61) rfl ⟨ml_11_410, w_Water_beginStep⟩ hy_Water_beginStep ⟨rfl, rfl⟩ ⟨Nat.le_of_ble_eq_true rfl, Nat.le_of_ble_eq_true rfl⟩ hkR rfl (Nat.le_of_ble_eq_true rfl) dX11_goSteps_61 ?_
    refine z_iload_n ok dX11_goSteps_64 2 rfl ?_
    refine z_if_eq (tgt := 99) ok dX11_goSteps_65 (by decide) hf (fun _ hf => ?_) (fun _ hf => ?_)
    · exact z_sub [0, 1, 2, 3, 4] rfl (t_CK_goSteps_j41_99 ok hkR hf hk)
    · refine z_aload_n ok dX11_goSteps_68 0 rfl ?_
      refine z_aload_n ok dX11_goSteps_69 0 rfl ?_
      refine z_getm2 (p := 3) (q := 29) ok kc_0 zc_11 hin_11 3 (by decide) fl_11_23 rfl (by decide) (by decide) dX11_goSteps_70 hf (fun q70 e70 hf => ?_)
      have hq70 : zI_Works q70 198 := by rcases e70 with rfl | rfl; exact kI_Works_3; exact kI_Works_29
      obtain ⟨hq70_0, hq70_1, hq70_2, hq70_3, hq70_4, hq70_5, hq70_6, hq70_7, hq70_8, hq70_9, hq70_10, hq70_11, hq70_12, hq70_13, hq70_14, hq70_15, hq70_16, hq70_17, hq70_18, hq70_19, hq70_20, hq70_21, hq70_22, hq70_23, hq70_24, hq70_25⟩ := id hq70
      refine z_geti ok hq70_0 zc_10 hin_10 3 (by decide) fl_11_111 rfl dX11_goSteps_73 hf (fun v73 hf => ?_)
      refine z_call hf (fun r76 h76 hf => ?_)
      refine z_cV (As := [.int v73]) (rest := []) (w := 0) ok kc_0 zc_11 (c_CK_draw h76) rfl ⟨ml_11_413, w_CK_draw⟩ hy_CK_draw ⟨rfl, rfl⟩ ⟨Nat.le_of_ble_eq_true rfl, Nat.le_of_ble_eq_true rfl⟩ hkR rfl (Nat.le_of_ble_eq_true rfl) dX11_goSteps_76 ?_
      refine z_nm hf (fun v79 hf => ?_)
      refine z_istore (lv' := [(5, .int v79), (0, .ref (X.ad 0)), (1, .int x1), (2, .int x2), (3, .ref (X.ad 103)), (4, .int x4)]) ok dX11_goSteps_79 (by decide) rfl ?_
      refine z_aload_n ok dX11_goSteps_81 1 rfl ?_
      refine z_getr (q := 55) ok kc_0 zc_11 hin_11 8 (by decide) fl_11_37 rfl dX11_goSteps_82 ?_
      refine z_getr (q := 56) ok kc_55 zc_1 hin_1 0 (by decide) fl_11_126 rfl dX11_goSteps_85 ?_
      refine z_iload ok dX11_goSteps_88 0 rfl ?_
      refine z_aload_n ok dX11_goSteps_90 1 rfl ?_
      refine z_bipush (v := 20) ok dX11_goSteps_91 (by decide) ?_
      refine z_call hf (fun r93 h93 hf => ?_)
      refine z_cV (As := [.int 20]) (rest := [.int v79, .ref (X.ad 56)]) (w := 0) ok kc_0 zc_11 (c_CK_draw h93) rfl ⟨ml_11_413, w_CK_draw⟩ hy_CK_draw ⟨rfl, rfl⟩ ⟨Nat.le_of_ble_eq_true rfl, Nat.le_of_ble_eq_true rfl⟩ hkR rfl (Nat.le_of_ble_eq_true rfl) dX11_goSteps_93 ?_
      refine z_call hf (fun r96 h96 hf => ?_)
      refine z_cVv (As := [.int v79, .int r93.1]) (rest := []) (w := 56) ok kc_56 zc_9 (c_Water_rainOn kI_Water_56 h96) rfl ⟨ml_11_416, w_Water_rainOn⟩ hy_Water_rainOn ⟨rfl, rfl⟩ ⟨Nat.le_of_ble_eq_true rfl, Nat.le_of_ble_eq_true rfl⟩ hkR rfl (Nat.le_of_ble_eq_true rfl) dX11_goSteps_96 ?_
      exact z_sub [1, 2, 3, 4, 5] rfl (t_CK_goSteps_j41_99 ok hkR hf hk)
def CK_goSteps_p4 (σ : Sg) (x1 : Int32) (x2 : Int32) : Option (Int32 × Sg) :=
  zmr2 3 29 (σ 0 3) fun q14 =>
  zgt σ 56 0 fun v31 =>
  (Schedule_plan σ q14 73 v31 x1).bind fun r35 =>
  zlt 0 fun v39 =>
  (zit (fun (s : (Sg × Int32)) => CK_goSteps_l41 s.1 x1 x2 s.2) zFU (r35, v39)).bind fun r =>
  zgt r.1 56 0 fun v148 =>
  some (v148, r.1)
set_option maxRecDepth 20000 in
theorem t_CK_goSteps_p4 {X : Zx} {Q : State → Prop} {σ : Sg} {x1 : Int32} {x2 : Int32} {k1 k2 d : Nat} (ok : Zok X cX11_goSteps RX11 (rm_CK_goSteps d) 198 6) (hkR : k1 ≤ d ∧ k2 ≤ zms d)  {out : (Int32 × Sg)} (hf : CK_goSteps_p4 σ x1 x2 = some out) (hk : ZrIk cX11_goSteps X Q k1 k2 out.1 out.2) : ZAt X Q k1 k2 4 σ [(0, .ref (X.ad 0)), (1, .int x1), (2, .int x2)] [] := by
  unfold CK_goSteps_p4 at hf
  refine z_aload_n ok dX11_goSteps_4 0 rfl ?_
  refine z_getr (q := 81) ok kc_0 zc_11 hin_11 12 (by decide) fl_11_48 rfl dX11_goSteps_5 ?_
  refine z_getr (q := 103) ok kc_81 zc_4 hin_4 2 (by decide) fl_11_400 rfl dX11_goSteps_8 ?_
  refine z_astore_n (lv' := [(3, .ref (X.ad 103)), (0, .ref (X.ad 0)), (1, .int x1), (2, .int x2)]) ok dX11_goSteps_11 (by decide) rfl ?_
  refine z_aload_n ok dX11_goSteps_12 0 rfl ?_
  refine z_aload_n ok dX11_goSteps_13 1 rfl ?_
  refine z_getm2 (p := 3) (q := 29) ok kc_0 zc_11 hin_11 3 (by decide) fl_11_23 rfl (by decide) (by decide) dX11_goSteps_14 hf (fun q14 e14 hf => ?_)
  have hq14 : zI_Works q14 198 := by rcases e14 with rfl | rfl; exact kI_Works_3; exact kI_Works_29
  obtain ⟨hq14_0, hq14_1, hq14_2, hq14_3, hq14_4, hq14_5, hq14_6, hq14_7, hq14_8, hq14_9, hq14_10, hq14_11, hq14_12, hq14_13, hq14_14, hq14_15, hq14_16, hq14_17, hq14_18, hq14_19, hq14_20, hq14_21, hq14_22, hq14_23, hq14_24, hq14_25⟩ := id hq14
  refine z_aload_n ok dX11_goSteps_17 1 rfl ?_
  refine z_getr (q := 55) ok kc_0 zc_11 hin_11 8 (by decide) fl_11_37 rfl dX11_goSteps_18 ?_
  refine z_getr (q := 73) ok kc_55 zc_1 hin_1 1 (by decide) fl_11_117 rfl dX11_goSteps_21 ?_
  refine z_aload_n ok dX11_goSteps_24 1 rfl ?_
  refine z_getr (q := 55) ok kc_0 zc_11 hin_11 8 (by decide) fl_11_37 rfl dX11_goSteps_25 ?_
  refine z_getr (q := 56) ok kc_55 zc_1 hin_1 0 (by decide) fl_11_126 rfl dX11_goSteps_28 ?_
  refine z_geti ok kc_56 zc_9 hin_9 0 (by decide) fl_11_130 rfl dX11_goSteps_31 hf (fun v31 hf => ?_)
  refine z_iload_n ok dX11_goSteps_34 2 rfl ?_
  refine z_call hf (fun r35 h35 hf => ?_)
  refine z_cVv (As := [.ref (X.ad q14), .ref (X.ad 73), .int v31, .int x1]) (rest := []) (w := 103) ok kc_103 zc_6 (c_Schedule_plan hq14 kI_Orders_73 h35) rfl ⟨ml_11_404, w_Schedule_plan⟩ hy_Schedule_plan ⟨rfl, rfl⟩ ⟨Nat.le_of_ble_eq_true rfl, Nat.le_of_ble_eq_true rfl⟩ hkR rfl (Nat.le_of_ble_eq_true rfl) dX11_goSteps_35 ?_
  refine z_iconst (v := 0) ok dX11_goSteps_38 (by decide) ?_
  refine z_nm hf (fun v39 hf => ?_)
  refine z_istore (lv' := [(4, .int v39), (3, .ref (X.ad 103)), (0, .ref (X.ad 0)), (1, .int x1), (2, .int x2)]) ok dX11_goSteps_39 (by decide) rfl ?_
  refine z_call hf (fun r hr hf => ?_)
  refine z_sub [2, 3, 4, 1, 0] rfl (z_iter (fun (s : (Sg × Int32)) => s.1) (fun (s : (Sg × Int32)) => [(0, .ref (X.ad 0)), (1, .int x1), (2, .int x2), (3, .ref (X.ad 103)), (4, .int s.2)]) (fun s o h1 h2 => t_CK_goSteps_l41 ok hkR h1 h2) _ _ _ hr ?_)
  show ZAt X Q k1 k2 141 r.1 [(0, .ref (X.ad 0))] []
  refine z_aload_n ok dX11_goSteps_141 0 rfl ?_
  refine z_getr (q := 55) ok kc_0 zc_11 hin_11 8 (by decide) fl_11_37 rfl dX11_goSteps_142 ?_
  refine z_getr (q := 56) ok kc_55 zc_1 hin_1 0 (by decide) fl_11_126 rfl dX11_goSteps_145 ?_
  refine z_geti ok kc_56 zc_9 hin_9 0 (by decide) fl_11_130 rfl dX11_goSteps_148 hf (fun v148 hf => ?_)
  obtain rfl := Option.some.inj hf
  exact hk _ _ dX11_goSteps_151
def CK_goSteps (n : Nat) (σ : Sg) (x1 : Int32) (x2 : Int32) : Option ((Int32 × Sg) × Nat) :=
  (CK_remember n σ).bind fun r1 =>
  (CK_goSteps_p4 r1.1 x1 x2).bind fun o => some (o, r1.2)
set_option maxRecDepth 20000 in
theorem t_CK_goSteps {X : Zx} {Q : State → Prop} {σ : Sg} {x1 : Int32} {x2 : Int32} {out : ((Int32 × Sg) × Nat)} (oka : Zoka X cX11_goSteps RX11 (rm_CK_goSteps (out.2 - X.2.2.1.2.2.2)) 198 6 0) (hnn : X.2.2.1.2.2.2 ≤ out.2 ∧ out.2 ≤ 900000)  (hf : CK_goSteps X.2.2.1.2.2.2 σ x1 x2 = some out) (hk : ZrIa cX11_goSteps X Q out.1.1 out.2 out.1.2) : ZAt X Q 0 0 0 σ [(0, .ref (X.ad 0)), (1, .int x1), (2, .int x2)] [] := by
  unfold CK_goSteps at hf
  have ok := oka.1
  refine z_aload_n ok dX11_goSteps_0 0 rfl ?_
  refine z_call hf (fun r1 h1 hf => ?_)
  obtain ⟨o, ho, hf⟩ := zbind hf
  obtain rfl := Option.some.inj hf
  refine z_aVv (n' := r1.2) (As := []) (rest := []) (w := 0) oka (by decide) hnn kc_0 zc_11 (c_CK_remember h1 hnn) rfl ⟨ml_11_355, w_CK_remember⟩ hy_CK_remember ⟨rfl, rfl⟩ ⟨Nat.le_of_ble_eq_true rfl, Nat.le_of_ble_eq_true rfl⟩ ⟨Nat.le_refl _, Nat.le_refl _⟩ rfl (Nat.le_of_ble_eq_true rfl) dX11_goSteps_1 (fun ok => ?_)
  exact z_sub [0, 1, 2] rfl (t_CK_goSteps_p4 ok ⟨Nat.le_refl _, Nat.le_refl _⟩ ho hk)
theorem c_CK_goSteps {n : Nat} {σ : Sg} {x1 : Int32} {x2 : Int32} {r : (Int32 × Sg) × Nat} (h : CK_goSteps n σ x1 x2 = some r) (hnn : n ≤ r.2 ∧ r.2 ≤ 900000) : ZaI yX11_goSteps cX11_goSteps 6 .int (rm_CK_goSteps (r.2 - n)) 198 (fun ad => [.ref (ad 0), .int x1, .int x2]) n σ r.1.1 r.2 r.1.2 :=
  zmetaI pn_11 rfl (fun _ => rfl) (fun _ => Nat.le_of_ble_eq_true rfl) rfl (by decide) hnn (fun X Q e oka hk => by subst e; exact t_CK_goSteps oka hnn h hk)
theorem dX11_steps_0 : decode cX11_steps 0 = .ok (.aload_n 0, 1) := by decide +kernel
theorem dX11_steps_1 : decode cX11_steps 1 = .ok (.getfield 94, 3) := by decide +kernel
theorem dX11_steps_4 : decode cX11_steps 4 = .ok (.ifCond .eq 32, 3) := by decide +kernel
theorem dX11_steps_7 : decode cX11_steps 7 = .ok (.iload_n 1, 1) := by decide +kernel
theorem dX11_steps_8 : decode cX11_steps 8 = .ok (.iconst 1, 1) := by decide +kernel
theorem dX11_steps_9 : decode cX11_steps 9 = .ok (.if_icmp .lt 27, 3) := by decide +kernel
theorem dX11_steps_12 : decode cX11_steps 12 = .ok (.iload_n 1, 1) := by decide +kernel
theorem dX11_steps_13 : decode cX11_steps 13 = .ok (.bipush 100, 2) := by decide +kernel
theorem dX11_steps_15 : decode cX11_steps 15 = .ok (.if_icmp .gt 21, 3) := by decide +kernel
theorem dX11_steps_18 : decode cX11_steps 18 = .ok (.aload_n 0, 1) := by decide +kernel
theorem dX11_steps_19 : decode cX11_steps 19 = .ok (.getfield 37, 3) := by decide +kernel
theorem dX11_steps_22 : decode cX11_steps 22 = .ok (.getfield 126, 3) := by decide +kernel
theorem dX11_steps_25 : decode cX11_steps 25 = .ok (.getfield 130, 3) := by decide +kernel
theorem dX11_steps_28 : decode cX11_steps 28 = .ok (.iload_n 1, 1) := by decide +kernel
theorem dX11_steps_29 : decode cX11_steps 29 = .ok (.iadd, 1) := by decide +kernel
theorem dX11_steps_30 : decode cX11_steps 30 = .ok (.sipush 9999, 3) := by decide +kernel
theorem dX11_steps_33 : decode cX11_steps 33 = .ok (.if_icmp .le 9, 3) := by decide +kernel
theorem dX11_steps_36 : decode cX11_steps 36 = .ok (.aload_n 0, 1) := by decide +kernel
theorem dX11_steps_37 : decode cX11_steps 37 = .ok (.iconst 2, 1) := by decide +kernel
theorem dX11_steps_38 : decode cX11_steps 38 = .ok (.invokevirtual 69, 3) := by decide +kernel
theorem dX11_steps_41 : decode cX11_steps 41 = .ok (.ireturn, 1) := by decide +kernel
theorem dX11_steps_42 : decode cX11_steps 42 = .ok (.aload_n 0, 1) := by decide +kernel
theorem dX11_steps_43 : decode cX11_steps 43 = .ok (.iload_n 1, 1) := by decide +kernel
theorem dX11_steps_44 : decode cX11_steps 44 = .ok (.iconst 0, 1) := by decide +kernel
theorem dX11_steps_45 : decode cX11_steps 45 = .ok (.invokevirtual 351, 3) := by decide +kernel
theorem dX11_steps_48 : decode cX11_steps 48 = .ok (.ireturn, 1) := by decide +kernel
abbrev rm_CK_steps (d : Nat) : Room := rmA 6 147 d
def CK_steps_p48 (σ : Sg) (s0 : Int32) : Option (Int32 × Sg) :=
  some (s0, σ)
set_option maxRecDepth 20000 in
theorem t_CK_steps_p48 {X : Zx} {Q : State → Prop} {σ : Sg} {s0 : Int32} {k1 k2 d : Nat} (ok : Zok X cX11_steps RX11 (rm_CK_steps d) 198 2) (hkR : k1 ≤ d ∧ k2 ≤ zms d)  {out : (Int32 × Sg)} (hf : CK_steps_p48 σ s0 = some out) (hk : ZrIk cX11_steps X Q k1 k2 out.1 out.2) : ZAt X Q k1 k2 48 σ [] [.int s0] := by
  unfold CK_steps_p48 at hf
  obtain rfl := Option.some.inj hf
  exact hk _ _ dX11_steps_48
def CK_steps (n : Nat) (σ : Sg) (x1 : Int32) : Option ((Int32 × Sg) × Nat) :=
  zgt σ 0 5 fun v1 =>
  if v1 = 0 then (
    (CK_refuse σ 2).bind fun r38 =>
    some ((r38.1, r38.2), n)
  ) else (
    if x1 < 1 then (
      (CK_refuse σ 2).bind fun r38 =>
      some ((r38.1, r38.2), n)
    ) else (
      if 100 < x1 then (
        (CK_refuse σ 2).bind fun r38 =>
        some ((r38.1, r38.2), n)
      ) else (
        zgt σ 56 0 fun v25 =>
        if (v25 + x1) ≤ 9999 then (
          (CK_goSteps n σ x1 0).bind fun r45 =>
          (CK_steps_p48 r45.1.2 r45.1.1).bind fun o => some (o, r45.2)
        ) else (
          (CK_refuse σ 2).bind fun r38 =>
          some ((r38.1, r38.2), n)
        )
      )
    )
  )
set_option maxRecDepth 20000 in
theorem t_CK_steps {X : Zx} {Q : State → Prop} {σ : Sg} {x1 : Int32} {out : ((Int32 × Sg) × Nat)} (oka : Zoka X cX11_steps RX11 (rm_CK_steps (out.2 - X.2.2.1.2.2.2)) 198 2 0) (hnn : X.2.2.1.2.2.2 ≤ out.2 ∧ out.2 ≤ 900000)  (hf : CK_steps X.2.2.1.2.2.2 σ x1 = some out) (hk : ZrIa cX11_steps X Q out.1.1 out.2 out.1.2) : ZAt X Q 0 0 0 σ [(0, .ref (X.ad 0)), (1, .int x1)] [] := by
  unfold CK_steps at hf
  have ok := oka.1
  refine z_aload_n ok dX11_steps_0 0 rfl ?_
  refine z_geti ok kc_0 zc_11 hin_11 5 (by decide) fl_11_94 rfl dX11_steps_1 hf (fun v1 hf => ?_)
  refine z_if_eq (tgt := 36) ok dX11_steps_4 (by decide) hf (fun _ hf => ?_) (fun _ hf => ?_)
  · refine z_aload_n ok dX11_steps_36 0 rfl ?_
    refine z_iconst (v := 2) ok dX11_steps_37 (by decide) ?_
    refine z_call hf (fun r38 h38 hf => ?_)
    refine z_cV (As := [.int 2]) (rest := []) (w := 0) ok kc_0 zc_11 (c_CK_refuse h38) rfl ⟨ml_11_69, w_CK_refuse⟩ hy_CK_refuse ⟨rfl, rfl⟩ ⟨Nat.le_of_ble_eq_true rfl, Nat.le_of_ble_eq_true rfl⟩ ⟨Nat.zero_le _, Nat.zero_le _⟩ rfl (Nat.le_of_ble_eq_true rfl) dX11_steps_38 ?_
    obtain rfl := Option.some.inj hf
    exact ZrIa.z hk _ _ dX11_steps_41
  · refine z_iload_n ok dX11_steps_7 1 rfl ?_
    refine z_iconst (v := 1) ok dX11_steps_8 (by decide) ?_
    refine z_icmp_lt (tgt := 36) ok dX11_steps_9 (by decide) hf (fun _ hf => ?_) (fun _ hf => ?_)
    · refine z_aload_n ok dX11_steps_36 0 rfl ?_
      refine z_iconst (v := 2) ok dX11_steps_37 (by decide) ?_
      refine z_call hf (fun r38 h38 hf => ?_)
      refine z_cV (As := [.int 2]) (rest := []) (w := 0) ok kc_0 zc_11 (c_CK_refuse h38) rfl ⟨ml_11_69, w_CK_refuse⟩ hy_CK_refuse ⟨rfl, rfl⟩ ⟨Nat.le_of_ble_eq_true rfl, Nat.le_of_ble_eq_true rfl⟩ ⟨Nat.zero_le _, Nat.zero_le _⟩ rfl (Nat.le_of_ble_eq_true rfl) dX11_steps_38 ?_
      obtain rfl := Option.some.inj hf
      exact ZrIa.z hk _ _ dX11_steps_41
    · refine z_iload_n ok dX11_steps_12 1 rfl ?_
      refine z_bipush (v := 100) ok dX11_steps_13 (by decide) ?_
      refine z_icmp_gt (tgt := 36) ok dX11_steps_15 (by decide) hf (fun _ hf => ?_) (fun _ hf => ?_)
      · refine z_aload_n ok dX11_steps_36 0 rfl ?_
        refine z_iconst (v := 2) ok dX11_steps_37 (by decide) ?_
        refine z_call hf (fun r38 h38 hf => ?_)
        refine z_cV (As := [.int 2]) (rest := []) (w := 0) ok kc_0 zc_11 (c_CK_refuse h38) rfl ⟨ml_11_69, w_CK_refuse⟩ hy_CK_refuse ⟨rfl, rfl⟩ ⟨Nat.le_of_ble_eq_true rfl, Nat.le_of_ble_eq_true rfl⟩ ⟨Nat.zero_le _, Nat.zero_le _⟩ rfl (Nat.le_of_ble_eq_true rfl) dX11_steps_38 ?_
        obtain rfl := Option.some.inj hf
        exact ZrIa.z hk _ _ dX11_steps_41
      · refine z_aload_n ok dX11_steps_18 0 rfl ?_
        refine z_getr (q := 55) ok kc_0 zc_11 hin_11 8 (by decide) fl_11_37 rfl dX11_steps_19 ?_
        refine z_getr (q := 56) ok kc_55 zc_1 hin_1 0 (by decide) fl_11_126 rfl dX11_steps_22 ?_
        refine z_geti ok kc_56 zc_9 hin_9 0 (by decide) fl_11_130 rfl dX11_steps_25 hf (fun v25 hf => ?_)
        refine z_iload_n ok dX11_steps_28 1 rfl ?_
        refine z_iadd ok dX11_steps_29 ?_
        refine z_sipush (v := 9999) ok dX11_steps_30 (by decide) ?_
        refine z_icmp_le (tgt := 42) ok dX11_steps_33 (by decide) hf (fun _ hf => ?_) (fun _ hf => ?_)
        · refine z_aload_n ok dX11_steps_42 0 rfl ?_
          refine z_iload_n ok dX11_steps_43 1 rfl ?_
          refine z_iconst (v := 0) ok dX11_steps_44 (by decide) ?_
          refine z_call hf (fun r45 h45 hf => ?_)
          obtain ⟨o, ho, hf⟩ := zbind hf
          obtain rfl := Option.some.inj hf
          refine z_aV (n' := r45.2) (As := [.int x1, .int 0]) (rest := []) (w := 0) oka (by decide) hnn kc_0 zc_11 (c_CK_goSteps h45 hnn) rfl ⟨ml_11_351, w_CK_goSteps⟩ hy_CK_goSteps ⟨rfl, rfl⟩ ⟨Nat.le_of_ble_eq_true rfl, Nat.le_of_ble_eq_true rfl⟩ ⟨Nat.le_refl _, Nat.le_refl _⟩ rfl (Nat.le_of_ble_eq_true rfl) dX11_steps_45 (fun ok => ?_)
          exact z_sub [] rfl (t_CK_steps_p48 ok ⟨Nat.le_refl _, Nat.le_refl _⟩ ho hk)
        · refine z_aload_n ok dX11_steps_36 0 rfl ?_
          refine z_iconst (v := 2) ok dX11_steps_37 (by decide) ?_
          refine z_call hf (fun r38 h38 hf => ?_)
          refine z_cV (As := [.int 2]) (rest := []) (w := 0) ok kc_0 zc_11 (c_CK_refuse h38) rfl ⟨ml_11_69, w_CK_refuse⟩ hy_CK_refuse ⟨rfl, rfl⟩ ⟨Nat.le_of_ble_eq_true rfl, Nat.le_of_ble_eq_true rfl⟩ ⟨Nat.zero_le _, Nat.zero_le _⟩ rfl (Nat.le_of_ble_eq_true rfl) dX11_steps_38 ?_
          obtain rfl := Option.some.inj hf
          exact ZrIa.z hk _ _ dX11_steps_41
theorem c_CK_steps {n : Nat} {σ : Sg} {x1 : Int32} {r : (Int32 × Sg) × Nat} (h : CK_steps n σ x1 = some r) (hnn : n ≤ r.2 ∧ r.2 ≤ 900000) : ZaI yX11_steps cX11_steps 2 .int (rm_CK_steps (r.2 - n)) 198 (fun ad => [.ref (ad 0), .int x1]) n σ r.1.1 r.2 r.1.2 :=
  zmetaI pn_11 rfl (fun _ => rfl) (fun _ => Nat.le_of_ble_eq_true rfl) rfl (by decide) hnn (fun X Q e oka hk => by subst e; exact t_CK_steps oka hnn h hk)
theorem dX11_chance_0 : decode cX11_chance 0 = .ok (.aload_n 0, 1) := by decide +kernel
theorem dX11_chance_1 : decode cX11_chance 1 = .ok (.getfield 23, 3) := by decide +kernel
theorem dX11_chance_4 : decode cX11_chance 4 = .ok (.getfield 111, 3) := by decide +kernel
theorem dX11_chance_7 : decode cX11_chance 7 = .ok (.ifCond .eq 32, 3) := by decide +kernel
theorem dX11_chance_10 : decode cX11_chance 10 = .ok (.iload_n 1, 1) := by decide +kernel
theorem dX11_chance_11 : decode cX11_chance 11 = .ok (.iconst 1, 1) := by decide +kernel
theorem dX11_chance_12 : decode cX11_chance 12 = .ok (.if_icmp .lt 27, 3) := by decide +kernel
theorem dX11_chance_15 : decode cX11_chance 15 = .ok (.iload_n 1, 1) := by decide +kernel
theorem dX11_chance_16 : decode cX11_chance 16 = .ok (.bipush 60, 2) := by decide +kernel
theorem dX11_chance_18 : decode cX11_chance 18 = .ok (.if_icmp .gt 21, 3) := by decide +kernel
theorem dX11_chance_21 : decode cX11_chance 21 = .ok (.aload_n 0, 1) := by decide +kernel
theorem dX11_chance_22 : decode cX11_chance 22 = .ok (.getfield 37, 3) := by decide +kernel
theorem dX11_chance_25 : decode cX11_chance 25 = .ok (.getfield 126, 3) := by decide +kernel
theorem dX11_chance_28 : decode cX11_chance 28 = .ok (.getfield 130, 3) := by decide +kernel
theorem dX11_chance_31 : decode cX11_chance 31 = .ok (.iload_n 1, 1) := by decide +kernel
theorem dX11_chance_32 : decode cX11_chance 32 = .ok (.iadd, 1) := by decide +kernel
theorem dX11_chance_33 : decode cX11_chance 33 = .ok (.sipush 9999, 3) := by decide +kernel
theorem dX11_chance_36 : decode cX11_chance 36 = .ok (.if_icmp .le 9, 3) := by decide +kernel
theorem dX11_chance_39 : decode cX11_chance 39 = .ok (.aload_n 0, 1) := by decide +kernel
theorem dX11_chance_40 : decode cX11_chance 40 = .ok (.iconst 2, 1) := by decide +kernel
theorem dX11_chance_41 : decode cX11_chance 41 = .ok (.invokevirtual 69, 3) := by decide +kernel
theorem dX11_chance_44 : decode cX11_chance 44 = .ok (.ireturn, 1) := by decide +kernel
theorem dX11_chance_45 : decode cX11_chance 45 = .ok (.aload_n 0, 1) := by decide +kernel
theorem dX11_chance_46 : decode cX11_chance 46 = .ok (.iload_n 1, 1) := by decide +kernel
theorem dX11_chance_47 : decode cX11_chance 47 = .ok (.iconst 1, 1) := by decide +kernel
theorem dX11_chance_48 : decode cX11_chance 48 = .ok (.invokevirtual 351, 3) := by decide +kernel
theorem dX11_chance_51 : decode cX11_chance 51 = .ok (.ireturn, 1) := by decide +kernel
abbrev rm_CK_chance (d : Nat) : Room := rmA 6 147 d
def CK_chance_p51 (σ : Sg) (s0 : Int32) : Option (Int32 × Sg) :=
  some (s0, σ)
set_option maxRecDepth 20000 in
theorem t_CK_chance_p51 {X : Zx} {Q : State → Prop} {σ : Sg} {s0 : Int32} {k1 k2 d : Nat} (ok : Zok X cX11_chance RX11 (rm_CK_chance d) 198 2) (hkR : k1 ≤ d ∧ k2 ≤ zms d)  {out : (Int32 × Sg)} (hf : CK_chance_p51 σ s0 = some out) (hk : ZrIk cX11_chance X Q k1 k2 out.1 out.2) : ZAt X Q k1 k2 51 σ [] [.int s0] := by
  unfold CK_chance_p51 at hf
  obtain rfl := Option.some.inj hf
  exact hk _ _ dX11_chance_51
def CK_chance (n : Nat) (σ : Sg) (x1 : Int32) : Option ((Int32 × Sg) × Nat) :=
  zmr2 3 29 (σ 0 3) fun q1 =>
  zgt σ q1 3 fun v4 =>
  if v4 = 0 then (
    (CK_refuse σ 2).bind fun r41 =>
    some ((r41.1, r41.2), n)
  ) else (
    if x1 < 1 then (
      (CK_refuse σ 2).bind fun r41 =>
      some ((r41.1, r41.2), n)
    ) else (
      if 60 < x1 then (
        (CK_refuse σ 2).bind fun r41 =>
        some ((r41.1, r41.2), n)
      ) else (
        zgt σ 56 0 fun v28 =>
        if (v28 + x1) ≤ 9999 then (
          (CK_goSteps n σ x1 1).bind fun r48 =>
          (CK_chance_p51 r48.1.2 r48.1.1).bind fun o => some (o, r48.2)
        ) else (
          (CK_refuse σ 2).bind fun r41 =>
          some ((r41.1, r41.2), n)
        )
      )
    )
  )
set_option maxRecDepth 20000 in
theorem t_CK_chance {X : Zx} {Q : State → Prop} {σ : Sg} {x1 : Int32} {out : ((Int32 × Sg) × Nat)} (oka : Zoka X cX11_chance RX11 (rm_CK_chance (out.2 - X.2.2.1.2.2.2)) 198 2 0) (hnn : X.2.2.1.2.2.2 ≤ out.2 ∧ out.2 ≤ 900000)  (hf : CK_chance X.2.2.1.2.2.2 σ x1 = some out) (hk : ZrIa cX11_chance X Q out.1.1 out.2 out.1.2) : ZAt X Q 0 0 0 σ [(0, .ref (X.ad 0)), (1, .int x1)] [] := by
  unfold CK_chance at hf
  have ok := oka.1
  refine z_aload_n ok dX11_chance_0 0 rfl ?_
  refine z_getm2 (p := 3) (q := 29) ok kc_0 zc_11 hin_11 3 (by decide) fl_11_23 rfl (by decide) (by decide) dX11_chance_1 hf (fun q1 e1 hf => ?_)
  have hq1 : zI_Works q1 198 := by rcases e1 with rfl | rfl; exact kI_Works_3; exact kI_Works_29
  obtain ⟨hq1_0, hq1_1, hq1_2, hq1_3, hq1_4, hq1_5, hq1_6, hq1_7, hq1_8, hq1_9, hq1_10, hq1_11, hq1_12, hq1_13, hq1_14, hq1_15, hq1_16, hq1_17, hq1_18, hq1_19, hq1_20, hq1_21, hq1_22, hq1_23, hq1_24, hq1_25⟩ := id hq1
  refine z_geti ok hq1_0 zc_10 hin_10 3 (by decide) fl_11_111 rfl dX11_chance_4 hf (fun v4 hf => ?_)
  refine z_if_eq (tgt := 39) ok dX11_chance_7 (by decide) hf (fun _ hf => ?_) (fun _ hf => ?_)
  · refine z_aload_n ok dX11_chance_39 0 rfl ?_
    refine z_iconst (v := 2) ok dX11_chance_40 (by decide) ?_
    refine z_call hf (fun r41 h41 hf => ?_)
    refine z_cV (As := [.int 2]) (rest := []) (w := 0) ok kc_0 zc_11 (c_CK_refuse h41) rfl ⟨ml_11_69, w_CK_refuse⟩ hy_CK_refuse ⟨rfl, rfl⟩ ⟨Nat.le_of_ble_eq_true rfl, Nat.le_of_ble_eq_true rfl⟩ ⟨Nat.zero_le _, Nat.zero_le _⟩ rfl (Nat.le_of_ble_eq_true rfl) dX11_chance_41 ?_
    obtain rfl := Option.some.inj hf
    exact ZrIa.z hk _ _ dX11_chance_44
  · refine z_iload_n ok dX11_chance_10 1 rfl ?_
    refine z_iconst (v := 1) ok dX11_chance_11 (by decide) ?_
    refine z_icmp_lt (tgt := 39) ok dX11_chance_12 (by decide) hf (fun _ hf => ?_) (fun _ hf => ?_)
    · refine z_aload_n ok dX11_chance_39 0 rfl ?_
      refine z_iconst (v := 2) ok dX11_chance_40 (by decide) ?_
      refine z_call hf (fun r41 h41 hf => ?_)
      refine z_cV (As := [.int 2]) (rest := []) (w := 0) ok kc_0 zc_11 (c_CK_refuse h41) rfl ⟨ml_11_69, w_CK_refuse⟩ hy_CK_refuse ⟨rfl, rfl⟩ ⟨Nat.le_of_ble_eq_true rfl, Nat.le_of_ble_eq_true rfl⟩ ⟨Nat.zero_le _, Nat.zero_le _⟩ rfl (Nat.le_of_ble_eq_true rfl) dX11_chance_41 ?_
      obtain rfl := Option.some.inj hf
      exact ZrIa.z hk _ _ dX11_chance_44
    · refine z_iload_n ok dX11_chance_15 1 rfl ?_
      refine z_bipush (v := 60) ok dX11_chance_16 (by decide) ?_
      refine z_icmp_gt (tgt := 39) ok dX11_chance_18 (by decide) hf (fun _ hf => ?_) (fun _ hf => ?_)
      · refine z_aload_n ok dX11_chance_39 0 rfl ?_
        refine z_iconst (v := 2) ok dX11_chance_40 (by decide) ?_
        refine z_call hf (fun r41 h41 hf => ?_)
        refine z_cV (As := [.int 2]) (rest := []) (w := 0) ok kc_0 zc_11 (c_CK_refuse h41) rfl ⟨ml_11_69, w_CK_refuse⟩ hy_CK_refuse ⟨rfl, rfl⟩ ⟨Nat.le_of_ble_eq_true rfl, Nat.le_of_ble_eq_true rfl⟩ ⟨Nat.zero_le _, Nat.zero_le _⟩ rfl (Nat.le_of_ble_eq_true rfl) dX11_chance_41 ?_
        obtain rfl := Option.some.inj hf
        exact ZrIa.z hk _ _ dX11_chance_44
      · refine z_aload_n ok dX11_chance_21 0 rfl ?_
        refine z_getr (q := 55) ok kc_0 zc_11 hin_11 8 (by decide) fl_11_37 rfl dX11_chance_22 ?_
        refine z_getr (q := 56) ok kc_55 zc_1 hin_1 0 (by decide) fl_11_126 rfl dX11_chance_25 ?_
        refine z_geti ok kc_56 zc_9 hin_9 0 (by decide) fl_11_130 rfl dX11_chance_28 hf (fun v28 hf => ?_)
        refine z_iload_n ok dX11_chance_31 1 rfl ?_
        refine z_iadd ok dX11_chance_32 ?_
        refine z_sipush (v := 9999) ok dX11_chance_33 (by decide) ?_
        refine z_icmp_le (tgt := 45) ok dX11_chance_36 (by decide) hf (fun _ hf => ?_) (fun _ hf => ?_)
        · refine z_aload_n ok dX11_chance_45 0 rfl ?_
          refine z_iload_n ok dX11_chance_46 1 rfl ?_
          refine z_iconst (v := 1) ok dX11_chance_47 (by decide) ?_
          refine z_call hf (fun r48 h48 hf => ?_)
          obtain ⟨o, ho, hf⟩ := zbind hf
          obtain rfl := Option.some.inj hf
          refine z_aV (n' := r48.2) (As := [.int x1, .int 1]) (rest := []) (w := 0) oka (by decide) hnn kc_0 zc_11 (c_CK_goSteps h48 hnn) rfl ⟨ml_11_351, w_CK_goSteps⟩ hy_CK_goSteps ⟨rfl, rfl⟩ ⟨Nat.le_of_ble_eq_true rfl, Nat.le_of_ble_eq_true rfl⟩ ⟨Nat.le_refl _, Nat.le_refl _⟩ rfl (Nat.le_of_ble_eq_true rfl) dX11_chance_48 (fun ok => ?_)
          exact z_sub [] rfl (t_CK_chance_p51 ok ⟨Nat.le_refl _, Nat.le_refl _⟩ ho hk)
        · refine z_aload_n ok dX11_chance_39 0 rfl ?_
          refine z_iconst (v := 2) ok dX11_chance_40 (by decide) ?_
          refine z_call hf (fun r41 h41 hf => ?_)
          refine z_cV (As := [.int 2]) (rest := []) (w := 0) ok kc_0 zc_11 (c_CK_refuse h41) rfl ⟨ml_11_69, w_CK_refuse⟩ hy_CK_refuse ⟨rfl, rfl⟩ ⟨Nat.le_of_ble_eq_true rfl, Nat.le_of_ble_eq_true rfl⟩ ⟨Nat.zero_le _, Nat.zero_le _⟩ rfl (Nat.le_of_ble_eq_true rfl) dX11_chance_41 ?_
          obtain rfl := Option.some.inj hf
          exact ZrIa.z hk _ _ dX11_chance_44
theorem c_CK_chance {n : Nat} {σ : Sg} {x1 : Int32} {r : (Int32 × Sg) × Nat} (h : CK_chance n σ x1 = some r) (hnn : n ≤ r.2 ∧ r.2 ≤ 900000) : ZaI yX11_chance cX11_chance 2 .int (rm_CK_chance (r.2 - n)) 198 (fun ad => [.ref (ad 0), .int x1]) n σ r.1.1 r.2 r.1.2 :=
  zmetaI pn_11 rfl (fun _ => rfl) (fun _ => Nat.le_of_ble_eq_true rfl) rfl (by decide) hnn (fun X Q e oka hk => by subst e; exact t_CK_chance oka hnn h hk)
theorem dX11_ask_0 : decode cX11_ask 0 = .ok (.iload_n 2, 1) := by decide +kernel
theorem dX11_ask_1 : decode cX11_ask 1 = .ok (.aload_n 0, 1) := by decide +kernel
theorem dX11_ask_2 : decode cX11_ask 2 = .ok (.getfield 37, 3) := by decide +kernel
theorem dX11_ask_5 : decode cX11_ask 5 = .ok (.getfield 126, 3) := by decide +kernel
theorem dX11_ask_8 : decode cX11_ask 8 = .ok (.getfield 130, 3) := by decide +kernel
theorem dX11_ask_11 : decode cX11_ask 11 = .ok (.if_icmp .lt 25, 3) := by decide +kernel
theorem dX11_ask_14 : decode cX11_ask 14 = .ok (.iload_n 2, 1) := by decide +kernel
theorem dX11_ask_15 : decode cX11_ask 15 = .ok (.sipush 9999, 3) := by decide +kernel
theorem dX11_ask_18 : decode cX11_ask 18 = .ok (.if_icmp .gt 18, 3) := by decide +kernel
theorem dX11_ask_21 : decode cX11_ask 21 = .ok (.iload_n 3, 1) := by decide +kernel
theorem dX11_ask_22 : decode cX11_ask 22 = .ok (.iconst 1, 1) := by decide +kernel
theorem dX11_ask_23 : decode cX11_ask 23 = .ok (.if_icmp .lt 13, 3) := by decide +kernel
theorem dX11_ask_26 : decode cX11_ask 26 = .ok (.iload_n 3, 1) := by decide +kernel
theorem dX11_ask_27 : decode cX11_ask 27 = .ok (.bipush 99, 2) := by decide +kernel
theorem dX11_ask_29 : decode cX11_ask 29 = .ok (.if_icmp .gt 7, 3) := by decide +kernel
theorem dX11_ask_32 : decode cX11_ask 32 = .ok (.iconst 1, 1) := by decide +kernel
theorem dX11_ask_33 : decode cX11_ask 33 = .ok (.goto 4, 3) := by decide +kernel
theorem dX11_ask_36 : decode cX11_ask 36 = .ok (.iconst 0, 1) := by decide +kernel
theorem dX11_ask_37 : decode cX11_ask 37 = .ok (.istore 4, 2) := by decide +kernel
theorem dX11_ask_39 : decode cX11_ask 39 = .ok (.aload_n 0, 1) := by decide +kernel
theorem dX11_ask_40 : decode cX11_ask 40 = .ok (.iload_n 1, 1) := by decide +kernel
theorem dX11_ask_41 : decode cX11_ask 41 = .ok (.invokevirtual 164, 3) := by decide +kernel
theorem dX11_ask_44 : decode cX11_ask 44 = .ok (.ifCond .eq 23, 3) := by decide +kernel
theorem dX11_ask_47 : decode cX11_ask 47 = .ok (.iload 4, 2) := by decide +kernel
theorem dX11_ask_49 : decode cX11_ask 49 = .ok (.ifCond .eq 18, 3) := by decide +kernel
theorem dX11_ask_52 : decode cX11_ask 52 = .ok (.aload_n 0, 1) := by decide +kernel
theorem dX11_ask_53 : decode cX11_ask 53 = .ok (.getfield 37, 3) := by decide +kernel
theorem dX11_ask_56 : decode cX11_ask 56 = .ok (.getfield 117, 3) := by decide +kernel
theorem dX11_ask_59 : decode cX11_ask 59 = .ok (.getfield 121, 3) := by decide +kernel
theorem dX11_ask_62 : decode cX11_ask 62 = .ok (.bipush 16, 2) := by decide +kernel
theorem dX11_ask_64 : decode cX11_ask 64 = .ok (.if_icmp .lt 9, 3) := by decide +kernel
theorem dX11_ask_67 : decode cX11_ask 67 = .ok (.aload_n 0, 1) := by decide +kernel
theorem dX11_ask_68 : decode cX11_ask 68 = .ok (.iconst 3, 1) := by decide +kernel
theorem dX11_ask_69 : decode cX11_ask 69 = .ok (.invokevirtual 69, 3) := by decide +kernel
theorem dX11_ask_72 : decode cX11_ask 72 = .ok (.ireturn, 1) := by decide +kernel
theorem dX11_ask_73 : decode cX11_ask 73 = .ok (.aload_n 0, 1) := by decide +kernel
theorem dX11_ask_74 : decode cX11_ask 74 = .ok (.invokevirtual 355, 3) := by decide +kernel
theorem dX11_ask_77 : decode cX11_ask 77 = .ok (.aload_n 0, 1) := by decide +kernel
theorem dX11_ask_78 : decode cX11_ask 78 = .ok (.getfield 37, 3) := by decide +kernel
theorem dX11_ask_81 : decode cX11_ask 81 = .ok (.getfield 117, 3) := by decide +kernel
theorem dX11_ask_84 : decode cX11_ask 84 = .ok (.iload_n 1, 1) := by decide +kernel
theorem dX11_ask_85 : decode cX11_ask 85 = .ok (.iload_n 2, 1) := by decide +kernel
theorem dX11_ask_86 : decode cX11_ask 86 = .ok (.iload_n 3, 1) := by decide +kernel
theorem dX11_ask_87 : decode cX11_ask 87 = .ok (.invokevirtual 358, 3) := by decide +kernel
theorem dX11_ask_90 : decode cX11_ask 90 = .ok (.ireturn, 1) := by decide +kernel
abbrev rm_CK_ask (d : Nat) : Room := rmA 5 122 d
def CK_ask_p77 (σ : Sg) (x1 : Int32) (x2 : Int32) (x3 : Int32) : Option (Int32 × Sg) :=
  (Orders_add σ 73 x1 x2 x3).bind fun r87 =>
  some (r87.1, r87.2)
set_option maxRecDepth 20000 in
theorem t_CK_ask_p77 {X : Zx} {Q : State → Prop} {σ : Sg} {x1 : Int32} {x2 : Int32} {x3 : Int32} {k1 k2 d : Nat} (ok : Zok X cX11_ask RX11 (rm_CK_ask d) 198 5) (hkR : k1 ≤ d ∧ k2 ≤ zms d)  {out : (Int32 × Sg)} (hf : CK_ask_p77 σ x1 x2 x3 = some out) (hk : ZrIk cX11_ask X Q k1 k2 out.1 out.2) : ZAt X Q k1 k2 77 σ [(0, .ref (X.ad 0)), (1, .int x1), (2, .int x2), (3, .int x3)] [] := by
  unfold CK_ask_p77 at hf
  refine z_aload_n ok dX11_ask_77 0 rfl ?_
  refine z_getr (q := 55) ok kc_0 zc_11 hin_11 8 (by decide) fl_11_37 rfl dX11_ask_78 ?_
  refine z_getr (q := 73) ok kc_55 zc_1 hin_1 1 (by decide) fl_11_117 rfl dX11_ask_81 ?_
  refine z_iload_n ok dX11_ask_84 1 rfl ?_
  refine z_iload_n ok dX11_ask_85 2 rfl ?_
  refine z_iload_n ok dX11_ask_86 3 rfl ?_
  refine z_call hf (fun r87 h87 hf => ?_)
  refine z_cV (As := [.int x1, .int x2, .int x3]) (rest := []) (w := 73) ok kc_73 zc_3 (c_Orders_add kI_Orders_73 h87) rfl ⟨ml_11_358, w_Orders_add⟩ hy_Orders_add ⟨rfl, rfl⟩ ⟨Nat.le_of_ble_eq_true rfl, Nat.le_of_ble_eq_true rfl⟩ hkR rfl (Nat.le_of_ble_eq_true rfl) dX11_ask_87 ?_
  obtain rfl := Option.some.inj hf
  exact hk _ _ dX11_ask_90
def CK_ask_j37 (n : Nat) (σ : Sg) (x1 : Int32) (x2 : Int32) (x3 : Int32) (s0 : Int32) : Option ((Int32 × Sg) × Nat) :=
  (CK_isOutlet σ x1).bind fun r41 =>
  if (zb r41) = 0 then (
    (CK_refuse σ 3).bind fun r69 =>
    some ((r69.1, r69.2), n)
  ) else (
    if s0 = 0 then (
      (CK_refuse σ 3).bind fun r69 =>
      some ((r69.1, r69.2), n)
    ) else (
      zgt σ 73 0 fun v59 =>
      if v59 < 16 then (
        (CK_remember n σ).bind fun r74 =>
        (CK_ask_p77 r74.1 x1 x2 x3).bind fun o => some (o, r74.2)
      ) else (
        (CK_refuse σ 3).bind fun r69 =>
        some ((r69.1, r69.2), n)
      )
    )
  )
set_option maxRecDepth 20000 in
theorem t_CK_ask_j37 {X : Zx} {Q : State → Prop} {σ : Sg} {x1 : Int32} {x2 : Int32} {x3 : Int32} {s0 : Int32} {out : ((Int32 × Sg) × Nat)} (oka : Zoka X cX11_ask RX11 (rm_CK_ask (out.2 - X.2.2.1.2.2.2)) 198 5 0) (hnn : X.2.2.1.2.2.2 ≤ out.2 ∧ out.2 ≤ 900000)  (hf : CK_ask_j37 X.2.2.1.2.2.2 σ x1 x2 x3 s0 = some out) (hk : ZrIa cX11_ask X Q out.1.1 out.2 out.1.2) : ZAt X Q 0 0 37 σ [(0, .ref (X.ad 0)), (1, .int x1), (2, .int x2), (3, .int x3)] [.int s0] := by
  unfold CK_ask_j37 at hf
  have ok := oka.1
  refine z_istore (lv' := [(4, .int s0), (0, .ref (X.ad 0)), (1, .int x1), (2, .int x2), (3, .int x3)]) ok dX11_ask_37 (by decide) rfl ?_
  refine z_aload_n ok dX11_ask_39 1 rfl ?_
  refine z_iload_n ok dX11_ask_40 2 rfl ?_
  refine z_call hf (fun r41 h41 hf => ?_)
  refine z_cV (As := [.int x1]) (rest := []) (w := 0) ok kc_0 zc_11 (c_CK_isOutlet h41) rfl ⟨ml_11_164, w_CK_isOutlet⟩ hy_CK_isOutlet ⟨rfl, rfl⟩ ⟨Nat.le_of_ble_eq_true rfl, Nat.le_of_ble_eq_true rfl⟩ ⟨Nat.zero_le _, Nat.zero_le _⟩ rfl (Nat.le_of_ble_eq_true rfl) dX11_ask_41 ?_
  refine z_if_eq (tgt := 67) ok dX11_ask_44 (by decide) hf (fun _ hf => ?_) (fun _ hf => ?_)
  · refine z_aload_n ok dX11_ask_67 1 rfl ?_
    refine z_iconst (v := 3) ok dX11_ask_68 (by decide) ?_
    refine z_call hf (fun r69 h69 hf => ?_)
    refine z_cV (As := [.int 3]) (rest := []) (w := 0) ok kc_0 zc_11 (c_CK_refuse h69) rfl ⟨ml_11_69, w_CK_refuse⟩ hy_CK_refuse ⟨rfl, rfl⟩ ⟨Nat.le_of_ble_eq_true rfl, Nat.le_of_ble_eq_true rfl⟩ ⟨Nat.zero_le _, Nat.zero_le _⟩ rfl (Nat.le_of_ble_eq_true rfl) dX11_ask_69 ?_
    obtain rfl := Option.some.inj hf
    exact ZrIa.z hk _ _ dX11_ask_72
  · refine z_iload ok dX11_ask_47 0 rfl ?_
    refine z_if_eq (tgt := 67) ok dX11_ask_49 (by decide) hf (fun _ hf => ?_) (fun _ hf => ?_)
    · refine z_aload_n ok dX11_ask_67 1 rfl ?_
      refine z_iconst (v := 3) ok dX11_ask_68 (by decide) ?_
      refine z_call hf (fun r69 h69 hf => ?_)
      refine z_cV (As := [.int 3]) (rest := []) (w := 0) ok kc_0 zc_11 (c_CK_refuse h69) rfl ⟨ml_11_69, w_CK_refuse⟩ hy_CK_refuse ⟨rfl, rfl⟩ ⟨Nat.le_of_ble_eq_true rfl, Nat.le_of_ble_eq_true rfl⟩ ⟨Nat.zero_le _, Nat.zero_le _⟩ rfl (Nat.le_of_ble_eq_true rfl) dX11_ask_69 ?_
      obtain rfl := Option.some.inj hf
      exact ZrIa.z hk _ _ dX11_ask_72
    · refine z_aload_n ok dX11_ask_52 1 rfl ?_
      refine z_getr (q := 55) ok kc_0 zc_11 hin_11 8 (by decide) fl_11_37 rfl dX11_ask_53 ?_
      refine z_getr (q := 73) ok kc_55 zc_1 hin_1 1 (by decide) fl_11_117 rfl dX11_ask_56 ?_
      refine z_geti ok kc_73 zc_3 hin_3 0 (by decide) fl_11_121 rfl dX11_ask_59 hf (fun v59 hf => ?_)
      refine z_bipush (v := 16) ok dX11_ask_62 (by decide) ?_
      refine z_icmp_lt (tgt := 73) ok dX11_ask_64 (by decide) hf (fun _ hf => ?_) (fun _ hf => ?_)
      · refine z_aload_n ok dX11_ask_73 1 rfl ?_
        refine z_call hf (fun r74 h74 hf => ?_)
        obtain ⟨o, ho, hf⟩ := zbind hf
        obtain rfl := Option.some.inj hf
        refine z_aVv (n' := r74.2) (As := []) (rest := []) (w := 0) oka (by decide) hnn kc_0 zc_11 (c_CK_remember h74 hnn) rfl ⟨ml_11_355, w_CK_remember⟩ hy_CK_remember ⟨rfl, rfl⟩ ⟨Nat.le_of_ble_eq_true rfl, Nat.le_of_ble_eq_true rfl⟩ ⟨Nat.le_refl _, Nat.le_refl _⟩ rfl (Nat.le_of_ble_eq_true rfl) dX11_ask_74 (fun ok => ?_)
        exact z_sub [1, 2, 3, 4] rfl (t_CK_ask_p77 ok ⟨Nat.le_refl _, Nat.le_refl _⟩ ho hk)
      · refine z_aload_n ok dX11_ask_67 1 rfl ?_
        refine z_iconst (v := 3) ok dX11_ask_68 (by decide) ?_
        refine z_call hf (fun r69 h69 hf => ?_)
        refine z_cV (As := [.int 3]) (rest := []) (w := 0) ok kc_0 zc_11 (c_CK_refuse h69) rfl ⟨ml_11_69, w_CK_refuse⟩ hy_CK_refuse ⟨rfl, rfl⟩ ⟨Nat.le_of_ble_eq_true rfl, Nat.le_of_ble_eq_true rfl⟩ ⟨Nat.zero_le _, Nat.zero_le _⟩ rfl (Nat.le_of_ble_eq_true rfl) dX11_ask_69 ?_
        obtain rfl := Option.some.inj hf
        exact ZrIa.z hk _ _ dX11_ask_72
def CK_ask_j36 (n : Nat) (σ : Sg) (x1 : Int32) (x2 : Int32) (x3 : Int32) : Option ((Int32 × Sg) × Nat) :=
  CK_ask_j37 n σ x1 x2 x3 0
set_option maxRecDepth 20000 in
theorem t_CK_ask_j36 {X : Zx} {Q : State → Prop} {σ : Sg} {x1 : Int32} {x2 : Int32} {x3 : Int32} {out : ((Int32 × Sg) × Nat)} (oka : Zoka X cX11_ask RX11 (rm_CK_ask (out.2 - X.2.2.1.2.2.2)) 198 5 0) (hnn : X.2.2.1.2.2.2 ≤ out.2 ∧ out.2 ≤ 900000)  (hf : CK_ask_j36 X.2.2.1.2.2.2 σ x1 x2 x3 = some out) (hk : ZrIa cX11_ask X Q out.1.1 out.2 out.1.2) : ZAt X Q 0 0 36 σ [(0, .ref (X.ad 0)), (1, .int x1), (2, .int x2), (3, .int x3)] [] := by
  unfold CK_ask_j36 at hf
  have ok := oka.1
  refine z_iconst (v := 0) ok dX11_ask_36 (by decide) ?_
  exact z_sub [0, 1, 2, 3] rfl (t_CK_ask_j37 oka hnn hf hk)
def CK_ask (n : Nat) (σ : Sg) (x1 : Int32) (x2 : Int32) (x3 : Int32) : Option ((Int32 × Sg) × Nat) :=
  zgt σ 56 0 fun v8 =>
  if x2 < v8 then (
    CK_ask_j36 n σ x1 x2 x3
  ) else (
    if 9999 < x2 then (
      CK_ask_j36 n σ x1 x2 x3
    ) else (
      if x3 < 1 then (
        CK_ask_j36 n σ x1 x2 x3
      ) else (
        if 99 < x3 then (
          CK_ask_j36 n σ x1 x2 x3
        ) else (
          CK_ask_j37 n σ x1 x2 x3 1
        )
      )
    )
  )
set_option maxRecDepth 20000 in
theorem t_CK_ask {X : Zx} {Q : State → Prop} {σ : Sg} {x1 : Int32} {x2 : Int32} {x3 : Int32} {out : ((Int32 × Sg) × Nat)} (oka : Zoka X cX11_ask RX11 (rm_CK_ask (out.2 - X.2.2.1.2.2.2)) 198 5 0) (hnn : X.2.2.1.2.2.2 ≤ out.2 ∧ out.2 ≤ 900000)  (hf : CK_ask X.2.2.1.2.2.2 σ x1 x2 x3 = some out) (hk : ZrIa cX11_ask X Q out.1.1 out.2 out.1.2) : ZAt X Q 0 0 0 σ [(0, .ref (X.ad 0)), (1, .int x1), (2, .int x2), (3, .int x3)] [] := by
  unfold CK_ask at hf
  have ok := oka.1
  refine z_iload_n ok dX11_ask_0 2 rfl ?_
  refine z_aload_n ok dX11_ask_1 0 rfl ?_
  refine z_getr (q := 55) ok kc_0 zc_11 hin_11 8 (by decide) fl_11_37 rfl dX11_ask_2 ?_
  refine z_getr (q := 56) ok kc_55 zc_1 hin_1 0 (by decide) fl_11_126 rfl dX11_ask_5 ?_
  refine z_geti ok kc_56 zc_9 hin_9 0 (by decide) fl_11_130 rfl dX11_ask_8 hf (fun v8 hf => ?_)
  refine z_icmp_lt (tgt := 36) ok dX11_ask_11 (by decide) hf (fun _ hf => ?_) (fun _ hf => ?_)
  · exact z_sub [0, 1, 2, 3] rfl (t_CK_ask_j36 oka hnn hf hk)
  · refine z_iload_n ok dX11_ask_14 2 rfl ?_
    refine z_sipush (v := 9999) ok dX11_ask_15 (by decide) ?_
    refine z_icmp_gt (tgt := 36) ok dX11_ask_18 (by decide) hf (fun _ hf => ?_) (fun _ hf => ?_)
    · exact z_sub [0, 1, 2, 3] rfl (t_CK_ask_j36 oka hnn hf hk)
    · refine z_iload_n ok dX11_ask_21 3 rfl ?_
      refine z_iconst (v := 1) ok dX11_ask_22 (by decide) ?_
      refine z_icmp_lt (tgt := 36) ok dX11_ask_23 (by decide) hf (fun _ hf => ?_) (fun _ hf => ?_)
      · exact z_sub [0, 1, 2, 3] rfl (t_CK_ask_j36 oka hnn hf hk)
      · refine z_iload_n ok dX11_ask_26 3 rfl ?_
        refine z_bipush (v := 99) ok dX11_ask_27 (by decide) ?_
        refine z_icmp_gt (tgt := 36) ok dX11_ask_29 (by decide) hf (fun _ hf => ?_) (fun _ hf => ?_)
        · exact z_sub [0, 1, 2, 3] rfl (t_CK_ask_j36 oka hnn hf hk)
        · refine z_iconst (v := 1) ok dX11_ask_32 (by decide) ?_
          refine z_goto (tgt := 37) ok dX11_ask_33 (by decide) ?_
          exact z_sub [0, 1, 2, 3] rfl (t_CK_ask_j37 oka hnn hf hk)
theorem c_CK_ask {n : Nat} {σ : Sg} {x1 : Int32} {x2 : Int32} {x3 : Int32} {r : (Int32 × Sg) × Nat} (h : CK_ask n σ x1 x2 x3 = some r) (hnn : n ≤ r.2 ∧ r.2 ≤ 900000) : ZaI yX11_ask cX11_ask 5 .int (rm_CK_ask (r.2 - n)) 198 (fun ad => [.ref (ad 0), .int x1, .int x2, .int x3]) n σ r.1.1 r.2 r.1.2 :=
  zmetaI pn_11 rfl (fun _ => rfl) (fun _ => Nat.le_of_ble_eq_true rfl) rfl (by decide) hnn (fun X Q e oka hk => by subst e; exact t_CK_ask oka hnn h hk)
theorem dX11_cancel_0 : decode cX11_cancel 0 = .ok (.aload_n 0, 1) := by decide +kernel
theorem dX11_cancel_1 : decode cX11_cancel 1 = .ok (.iload_n 1, 1) := by decide +kernel
theorem dX11_cancel_2 : decode cX11_cancel 2 = .ok (.invokevirtual 240, 3) := by decide +kernel
theorem dX11_cancel_5 : decode cX11_cancel 5 = .ok (.ifCond .ne 9, 3) := by decide +kernel
theorem dX11_cancel_8 : decode cX11_cancel 8 = .ok (.aload_n 0, 1) := by decide +kernel
theorem dX11_cancel_9 : decode cX11_cancel 9 = .ok (.iconst 3, 1) := by decide +kernel
theorem dX11_cancel_10 : decode cX11_cancel 10 = .ok (.invokevirtual 77, 3) := by decide +kernel
theorem dX11_cancel_13 : decode cX11_cancel 13 = .ok (.ireturn, 1) := by decide +kernel
theorem dX11_cancel_14 : decode cX11_cancel 14 = .ok (.aload_n 0, 1) := by decide +kernel
theorem dX11_cancel_15 : decode cX11_cancel 15 = .ok (.invokevirtual 355, 3) := by decide +kernel
theorem dX11_cancel_18 : decode cX11_cancel 18 = .ok (.aload_n 0, 1) := by decide +kernel
theorem dX11_cancel_19 : decode cX11_cancel 19 = .ok (.getfield 37, 3) := by decide +kernel
theorem dX11_cancel_22 : decode cX11_cancel 22 = .ok (.getfield 117, 3) := by decide +kernel
theorem dX11_cancel_25 : decode cX11_cancel 25 = .ok (.iload_n 1, 1) := by decide +kernel
theorem dX11_cancel_26 : decode cX11_cancel 26 = .ok (.invokevirtual 361, 3) := by decide +kernel
theorem dX11_cancel_29 : decode cX11_cancel 29 = .ok (.iconst 1, 1) := by decide +kernel
theorem dX11_cancel_30 : decode cX11_cancel 30 = .ok (.ireturn, 1) := by decide +kernel
abbrev rm_CK_cancel (d : Nat) : Room := rmA 5 122 d
def CK_cancel_p18 (σ : Sg) (x1 : Int32) : Option (Bool × Sg) :=
  (Orders_drop σ 73 x1).bind fun r26 =>
  some (true, r26)
set_option maxRecDepth 20000 in
theorem t_CK_cancel_p18 {X : Zx} {Q : State → Prop} {σ : Sg} {x1 : Int32} {k1 k2 d : Nat} (ok : Zok X cX11_cancel RX11 (rm_CK_cancel d) 198 2) (hkR : k1 ≤ d ∧ k2 ≤ zms d)  {out : (Bool × Sg)} (hf : CK_cancel_p18 σ x1 = some out) (hk : ZrIk cX11_cancel X Q k1 k2 (zb out.1) out.2) : ZAt X Q k1 k2 18 σ [(0, .ref (X.ad 0)), (1, .int x1)] [] := by
  unfold CK_cancel_p18 at hf
  refine z_aload_n ok dX11_cancel_18 0 rfl ?_
  refine z_getr (q := 55) ok kc_0 zc_11 hin_11 8 (by decide) fl_11_37 rfl dX11_cancel_19 ?_
  refine z_getr (q := 73) ok kc_55 zc_1 hin_1 1 (by decide) fl_11_117 rfl dX11_cancel_22 ?_
  refine z_iload_n ok dX11_cancel_25 1 rfl ?_
  refine z_call hf (fun r26 h26 hf => ?_)
  refine z_cVv (As := [.int x1]) (rest := []) (w := 73) ok kc_73 zc_3 (c_Orders_drop kI_Orders_73 h26) rfl ⟨ml_11_361, w_Orders_drop⟩ hy_Orders_drop ⟨rfl, rfl⟩ ⟨Nat.le_of_ble_eq_true rfl, Nat.le_of_ble_eq_true rfl⟩ hkR rfl (Nat.le_of_ble_eq_true rfl) dX11_cancel_26 ?_
  refine z_iconst (v := 1) ok dX11_cancel_29 (by decide) ?_
  obtain rfl := Option.some.inj hf
  exact hk _ _ dX11_cancel_30
def CK_cancel (n : Nat) (σ : Sg) (x1 : Int32) : Option ((Bool × Sg) × Nat) :=
  (CK_isOrder σ x1).bind fun r2 =>
  if (zb r2) = 0 then (
    (CK_deny σ 3).bind fun r10 =>
    some ((r10.1, r10.2), n)
  ) else (
    (CK_remember n σ).bind fun r15 =>
    (CK_cancel_p18 r15.1 x1).bind fun o => some (o, r15.2)
  )
set_option maxRecDepth 20000 in
theorem t_CK_cancel {X : Zx} {Q : State → Prop} {σ : Sg} {x1 : Int32} {out : ((Bool × Sg) × Nat)} (oka : Zoka X cX11_cancel RX11 (rm_CK_cancel (out.2 - X.2.2.1.2.2.2)) 198 2 0) (hnn : X.2.2.1.2.2.2 ≤ out.2 ∧ out.2 ≤ 900000)  (hf : CK_cancel X.2.2.1.2.2.2 σ x1 = some out) (hk : ZrIa cX11_cancel X Q (zb out.1.1) out.2 out.1.2) : ZAt X Q 0 0 0 σ [(0, .ref (X.ad 0)), (1, .int x1)] [] := by
  unfold CK_cancel at hf
  have ok := oka.1
  refine z_aload_n ok dX11_cancel_0 0 rfl ?_
  refine z_iload_n ok dX11_cancel_1 1 rfl ?_
  refine z_call hf (fun r2 h2 hf => ?_)
  refine z_cV (As := [.int x1]) (rest := []) (w := 0) ok kc_0 zc_11 (c_CK_isOrder h2) rfl ⟨ml_11_240, w_CK_isOrder⟩ hy_CK_isOrder ⟨rfl, rfl⟩ ⟨Nat.le_of_ble_eq_true rfl, Nat.le_of_ble_eq_true rfl⟩ ⟨Nat.zero_le _, Nat.zero_le _⟩ rfl (Nat.le_of_ble_eq_true rfl) dX11_cancel_2 ?_
  refine z_if_ne (tgt := 14) ok dX11_cancel_5 (by decide) hf (fun _ hf => ?_) (fun _ hf => ?_)
  · refine z_aload_n ok dX11_cancel_8 0 rfl ?_
    refine z_iconst (v := 3) ok dX11_cancel_9 (by decide) ?_
    refine z_call hf (fun r10 h10 hf => ?_)
    refine z_cV (As := [.int 3]) (rest := []) (w := 0) ok kc_0 zc_11 (c_CK_deny h10) rfl ⟨ml_11_77, w_CK_deny⟩ hy_CK_deny ⟨rfl, rfl⟩ ⟨Nat.le_of_ble_eq_true rfl, Nat.le_of_ble_eq_true rfl⟩ ⟨Nat.zero_le _, Nat.zero_le _⟩ rfl (Nat.le_of_ble_eq_true rfl) dX11_cancel_10 ?_
    obtain rfl := Option.some.inj hf
    exact ZrIa.z hk _ _ dX11_cancel_13
  · refine z_aload_n ok dX11_cancel_14 0 rfl ?_
    refine z_call hf (fun r15 h15 hf => ?_)
    obtain ⟨o, ho, hf⟩ := zbind hf
    obtain rfl := Option.some.inj hf
    refine z_aVv (n' := r15.2) (As := []) (rest := []) (w := 0) oka (by decide) hnn kc_0 zc_11 (c_CK_remember h15 hnn) rfl ⟨ml_11_355, w_CK_remember⟩ hy_CK_remember ⟨rfl, rfl⟩ ⟨Nat.le_of_ble_eq_true rfl, Nat.le_of_ble_eq_true rfl⟩ ⟨Nat.le_refl _, Nat.le_refl _⟩ rfl (Nat.le_of_ble_eq_true rfl) dX11_cancel_15 (fun ok => ?_)
    exact z_sub [0, 1] rfl (t_CK_cancel_p18 ok ⟨Nat.le_refl _, Nat.le_refl _⟩ ho hk)
theorem c_CK_cancel {n : Nat} {σ : Sg} {x1 : Int32} {r : (Bool × Sg) × Nat} (h : CK_cancel n σ x1 = some r) (hnn : n ≤ r.2 ∧ r.2 ≤ 900000) : ZaI yX11_cancel cX11_cancel 2 .boolean (rm_CK_cancel (r.2 - n)) 198 (fun ad => [.ref (ad 0), .int x1]) n σ (zb r.1.1) r.2 r.1.2 :=
  zmetaI pn_11 rfl (fun _ => rfl) (fun _ => Nat.le_of_ble_eq_true rfl) (zb_nar _) (by decide) hnn (fun X Q e oka hk => by subst e; exact t_CK_cancel oka hnn h hk)
theorem dX11_hand_0 : decode cX11_hand 0 = .ok (.aload_n 0, 1) := by decide +kernel
theorem dX11_hand_1 : decode cX11_hand 1 = .ok (.iload_n 1, 1) := by decide +kernel
theorem dX11_hand_2 : decode cX11_hand 2 = .ok (.invokevirtual 154, 3) := by decide +kernel
theorem dX11_hand_5 : decode cX11_hand 5 = .ok (.ifCond .eq 40, 3) := by decide +kernel
theorem dX11_hand_8 : decode cX11_hand 8 = .ok (.iload_n 2, 1) := by decide +kernel
theorem dX11_hand_9 : decode cX11_hand 9 = .ok (.iconst (-1), 1) := by decide +kernel
theorem dX11_hand_10 : decode cX11_hand 10 = .ok (.if_icmp .lt 35, 3) := by decide +kernel
theorem dX11_hand_13 : decode cX11_hand 13 = .ok (.iload_n 2, 1) := by decide +kernel
theorem dX11_hand_14 : decode cX11_hand 14 = .ok (.aload_n 0, 1) := by decide +kernel
theorem dX11_hand_15 : decode cX11_hand 15 = .ok (.getfield 23, 3) := by decide +kernel
theorem dX11_hand_18 : decode cX11_hand 18 = .ok (.getfield 182, 3) := by decide +kernel
theorem dX11_hand_21 : decode cX11_hand 21 = .ok (.bipush 6, 2) := by decide +kernel
theorem dX11_hand_23 : decode cX11_hand 23 = .ok (.aaload, 1) := by decide +kernel
theorem dX11_hand_24 : decode cX11_hand 24 = .ok (.iload_n 1, 1) := by decide +kernel
theorem dX11_hand_25 : decode cX11_hand 25 = .ok (.iaload, 1) := by decide +kernel
theorem dX11_hand_26 : decode cX11_hand 26 = .ok (.if_icmp .gt 19, 3) := by decide +kernel
theorem dX11_hand_29 : decode cX11_hand 29 = .ok (.iload_n 2, 1) := by decide +kernel
theorem dX11_hand_30 : decode cX11_hand 30 = .ok (.aload_n 0, 1) := by decide +kernel
theorem dX11_hand_31 : decode cX11_hand 31 = .ok (.getfield 37, 3) := by decide +kernel
theorem dX11_hand_34 : decode cX11_hand 34 = .ok (.getfield 126, 3) := by decide +kernel
theorem dX11_hand_37 : decode cX11_hand 37 = .ok (.getfield 211, 3) := by decide +kernel
theorem dX11_hand_40 : decode cX11_hand 40 = .ok (.iload_n 1, 1) := by decide +kernel
theorem dX11_hand_41 : decode cX11_hand 41 = .ok (.iaload, 1) := by decide +kernel
theorem dX11_hand_42 : decode cX11_hand 42 = .ok (.if_icmp .ne 9, 3) := by decide +kernel
theorem dX11_hand_45 : decode cX11_hand 45 = .ok (.aload_n 0, 1) := by decide +kernel
theorem dX11_hand_46 : decode cX11_hand 46 = .ok (.iconst 3, 1) := by decide +kernel
theorem dX11_hand_47 : decode cX11_hand 47 = .ok (.invokevirtual 77, 3) := by decide +kernel
theorem dX11_hand_50 : decode cX11_hand 50 = .ok (.ireturn, 1) := by decide +kernel
theorem dX11_hand_51 : decode cX11_hand 51 = .ok (.aload_n 0, 1) := by decide +kernel
theorem dX11_hand_52 : decode cX11_hand 52 = .ok (.invokevirtual 355, 3) := by decide +kernel
theorem dX11_hand_55 : decode cX11_hand 55 = .ok (.aload_n 0, 1) := by decide +kernel
theorem dX11_hand_56 : decode cX11_hand 56 = .ok (.getfield 37, 3) := by decide +kernel
theorem dX11_hand_59 : decode cX11_hand 59 = .ok (.getfield 126, 3) := by decide +kernel
theorem dX11_hand_62 : decode cX11_hand 62 = .ok (.getfield 211, 3) := by decide +kernel
theorem dX11_hand_65 : decode cX11_hand 65 = .ok (.iload_n 1, 1) := by decide +kernel
theorem dX11_hand_66 : decode cX11_hand 66 = .ok (.iload_n 2, 1) := by decide +kernel
theorem dX11_hand_67 : decode cX11_hand 67 = .ok (.iastore, 1) := by decide +kernel
theorem dX11_hand_68 : decode cX11_hand 68 = .ok (.iconst 1, 1) := by decide +kernel
theorem dX11_hand_69 : decode cX11_hand 69 = .ok (.ireturn, 1) := by decide +kernel
abbrev rm_CK_hand (d : Nat) : Room := rmA 5 122 d
def CK_hand_p55 (σ : Sg) (x1 : Int32) (x2 : Int32) : Option (Bool × Sg) :=
  zwr σ 60 8 x1 x2 fun σ67 =>
  some (true, σ67)
set_option maxRecDepth 20000 in
theorem t_CK_hand_p55 {X : Zx} {Q : State → Prop} {σ : Sg} {x1 : Int32} {x2 : Int32} {k1 k2 d : Nat} (ok : Zok X cX11_hand RX11 (rm_CK_hand d) 198 3) (hkR : k1 ≤ d ∧ k2 ≤ zms d)  {out : (Bool × Sg)} (hf : CK_hand_p55 σ x1 x2 = some out) (hk : ZrIk cX11_hand X Q k1 k2 (zb out.1) out.2) : ZAt X Q k1 k2 55 σ [(0, .ref (X.ad 0)), (1, .int x1), (2, .int x2)] [] := by
  unfold CK_hand_p55 at hf
  refine z_aload_n ok dX11_hand_55 0 rfl ?_
  refine z_getr (q := 55) ok kc_0 zc_11 hin_11 8 (by decide) fl_11_37 rfl dX11_hand_56 ?_
  refine z_getr (q := 56) ok kc_55 zc_1 hin_1 0 (by decide) fl_11_126 rfl dX11_hand_59 ?_
  refine z_getr (q := 60) ok kc_56 zc_9 hin_9 6 (by decide) fl_11_211 rfl dX11_hand_62 ?_
  refine z_iload_n ok dX11_hand_65 1 rfl ?_
  refine z_iload_n ok dX11_hand_66 2 rfl ?_
  refine z_iast ok kc_60 dX11_hand_67 hf (fun σ67 hf => ?_)
  refine z_iconst (v := 1) ok dX11_hand_68 (by decide) ?_
  obtain rfl := Option.some.inj hf
  exact hk _ _ dX11_hand_69
def CK_hand (n : Nat) (σ : Sg) (x1 : Int32) (x2 : Int32) : Option ((Bool × Sg) × Nat) :=
  (CK_isPool σ x1).bind fun r2 =>
  if (zb r2) = 0 then (
    (CK_deny σ 3).bind fun r47 =>
    some ((r47.1, r47.2), n)
  ) else (
    if x2 < (-1) then (
      (CK_deny σ 3).bind fun r47 =>
      some ((r47.1, r47.2), n)
    ) else (
      zmr2 3 29 (σ 0 3) fun q15 =>
      zrd σ (q15 + 9) 8 x1 fun v25 =>
      if v25 < x2 then (
        (CK_deny σ 3).bind fun r47 =>
        some ((r47.1, r47.2), n)
      ) else (
        zrd σ 60 8 x1 fun v41 =>
        if x2 = v41 then (
          (CK_deny σ 3).bind fun r47 =>
          some ((r47.1, r47.2), n)
        ) else (
          (CK_remember n σ).bind fun r52 =>
          (CK_hand_p55 r52.1 x1 x2).bind fun o => some (o, r52.2)
        )
      )
    )
  )
set_option maxRecDepth 20000 in
theorem t_CK_hand {X : Zx} {Q : State → Prop} {σ : Sg} {x1 : Int32} {x2 : Int32} {out : ((Bool × Sg) × Nat)} (oka : Zoka X cX11_hand RX11 (rm_CK_hand (out.2 - X.2.2.1.2.2.2)) 198 3 0) (hnn : X.2.2.1.2.2.2 ≤ out.2 ∧ out.2 ≤ 900000)  (hf : CK_hand X.2.2.1.2.2.2 σ x1 x2 = some out) (hk : ZrIa cX11_hand X Q (zb out.1.1) out.2 out.1.2) : ZAt X Q 0 0 0 σ [(0, .ref (X.ad 0)), (1, .int x1), (2, .int x2)] [] := by
  unfold CK_hand at hf
  have ok := oka.1
  refine z_aload_n ok dX11_hand_0 0 rfl ?_
  refine z_iload_n ok dX11_hand_1 1 rfl ?_
  refine z_call hf (fun r2 h2 hf => ?_)
  refine z_cV (As := [.int x1]) (rest := []) (w := 0) ok kc_0 zc_11 (c_CK_isPool h2) rfl ⟨ml_11_154, w_CK_isPool⟩ hy_CK_isPool ⟨rfl, rfl⟩ ⟨Nat.le_of_ble_eq_true rfl, Nat.le_of_ble_eq_true rfl⟩ ⟨Nat.zero_le _, Nat.zero_le _⟩ rfl (Nat.le_of_ble_eq_true rfl) dX11_hand_2 ?_
  refine z_if_eq (tgt := 45) ok dX11_hand_5 (by decide) hf (fun _ hf => ?_) (fun _ hf => ?_)
  · refine z_aload_n ok dX11_hand_45 0 rfl ?_
    refine z_iconst (v := 3) ok dX11_hand_46 (by decide) ?_
    refine z_call hf (fun r47 h47 hf => ?_)
    refine z_cV (As := [.int 3]) (rest := []) (w := 0) ok kc_0 zc_11 (c_CK_deny h47) rfl ⟨ml_11_77, w_CK_deny⟩ hy_CK_deny ⟨rfl, rfl⟩ ⟨Nat.le_of_ble_eq_true rfl, Nat.le_of_ble_eq_true rfl⟩ ⟨Nat.zero_le _, Nat.zero_le _⟩ rfl (Nat.le_of_ble_eq_true rfl) dX11_hand_47 ?_
    obtain rfl := Option.some.inj hf
    exact ZrIa.z hk _ _ dX11_hand_50
  · refine z_iload_n ok dX11_hand_8 2 rfl ?_
    refine z_iconst (v := (-1)) ok dX11_hand_9 (by decide) ?_
    refine z_icmp_lt (tgt := 45) ok dX11_hand_10 (by decide) hf (fun _ hf => ?_) (fun _ hf => ?_)
    · refine z_aload_n ok dX11_hand_45 0 rfl ?_
      refine z_iconst (v := 3) ok dX11_hand_46 (by decide) ?_
      refine z_call hf (fun r47 h47 hf => ?_)
      refine z_cV (As := [.int 3]) (rest := []) (w := 0) ok kc_0 zc_11 (c_CK_deny h47) rfl ⟨ml_11_77, w_CK_deny⟩ hy_CK_deny ⟨rfl, rfl⟩ ⟨Nat.le_of_ble_eq_true rfl, Nat.le_of_ble_eq_true rfl⟩ ⟨Nat.zero_le _, Nat.zero_le _⟩ rfl (Nat.le_of_ble_eq_true rfl) dX11_hand_47 ?_
      obtain rfl := Option.some.inj hf
      exact ZrIa.z hk _ _ dX11_hand_50
    · refine z_iload_n ok dX11_hand_13 2 rfl ?_
      refine z_aload_n ok dX11_hand_14 0 rfl ?_
      refine z_getm2 (p := 3) (q := 29) ok kc_0 zc_11 hin_11 3 (by decide) fl_11_23 rfl (by decide) (by decide) dX11_hand_15 hf (fun q15 e15 hf => ?_)
      have hq15 : zI_Works q15 198 := by rcases e15 with rfl | rfl; exact kI_Works_3; exact kI_Works_29
      obtain ⟨hq15_0, hq15_1, hq15_2, hq15_3, hq15_4, hq15_5, hq15_6, hq15_7, hq15_8, hq15_9, hq15_10, hq15_11, hq15_12, hq15_13, hq15_14, hq15_15, hq15_16, hq15_17, hq15_18, hq15_19, hq15_20, hq15_21, hq15_22, hq15_23, hq15_24, hq15_25⟩ := id hq15
      refine z_getr (q := (q15 + 2)) ok hq15_0 zc_10 hin_10 5 (by decide) fl_11_182 rfl dX11_hand_18 ?_
      refine z_bipush (v := 6) ok dX11_hand_21 (by decide) ?_
      refine z_aaldc (q := (q15 + 9)) ok hq15_2 (by decide) rfl (by decide) rfl dX11_hand_23 ?_
      refine z_iload_n ok dX11_hand_24 1 rfl ?_
      refine z_iald ok hq15_9 dX11_hand_25 hf (fun v25 hf => ?_)
      refine z_icmp_gt (tgt := 45) ok dX11_hand_26 (by decide) hf (fun _ hf => ?_) (fun _ hf => ?_)
      · refine z_aload_n ok dX11_hand_45 0 rfl ?_
        refine z_iconst (v := 3) ok dX11_hand_46 (by decide) ?_
        refine z_call hf (fun r47 h47 hf => ?_)
        refine z_cV (As := [.int 3]) (rest := []) (w := 0) ok kc_0 zc_11 (c_CK_deny h47) rfl ⟨ml_11_77, w_CK_deny⟩ hy_CK_deny ⟨rfl, rfl⟩ ⟨Nat.le_of_ble_eq_true rfl, Nat.le_of_ble_eq_true rfl⟩ ⟨Nat.zero_le _, Nat.zero_le _⟩ rfl (Nat.le_of_ble_eq_true rfl) dX11_hand_47 ?_
        obtain rfl := Option.some.inj hf
        exact ZrIa.z hk _ _ dX11_hand_50
      · refine z_iload_n ok dX11_hand_29 2 rfl ?_
        refine z_aload_n ok dX11_hand_30 0 rfl ?_
        refine z_getr (q := 55) ok kc_0 zc_11 hin_11 8 (by decide) fl_11_37 rfl dX11_hand_31 ?_
        refine z_getr (q := 56) ok kc_55 zc_1 hin_1 0 (by decide) fl_11_126 rfl dX11_hand_34 ?_
        refine z_getr (q := 60) ok kc_56 zc_9 hin_9 6 (by decide) fl_11_211 rfl dX11_hand_37 ?_
        refine z_iload_n ok dX11_hand_40 1 rfl ?_
        refine z_iald ok kc_60 dX11_hand_41 hf (fun v41 hf => ?_)
        refine z_icmp_ne (tgt := 51) ok dX11_hand_42 (by decide) hf (fun _ hf => ?_) (fun _ hf => ?_)
        · refine z_aload_n ok dX11_hand_45 0 rfl ?_
          refine z_iconst (v := 3) ok dX11_hand_46 (by decide) ?_
          refine z_call hf (fun r47 h47 hf => ?_)
          refine z_cV (As := [.int 3]) (rest := []) (w := 0) ok kc_0 zc_11 (c_CK_deny h47) rfl ⟨ml_11_77, w_CK_deny⟩ hy_CK_deny ⟨rfl, rfl⟩ ⟨Nat.le_of_ble_eq_true rfl, Nat.le_of_ble_eq_true rfl⟩ ⟨Nat.zero_le _, Nat.zero_le _⟩ rfl (Nat.le_of_ble_eq_true rfl) dX11_hand_47 ?_
          obtain rfl := Option.some.inj hf
          exact ZrIa.z hk _ _ dX11_hand_50
        · refine z_aload_n ok dX11_hand_51 0 rfl ?_
          refine z_call hf (fun r52 h52 hf => ?_)
          obtain ⟨o, ho, hf⟩ := zbind hf
          obtain rfl := Option.some.inj hf
          refine z_aVv (n' := r52.2) (As := []) (rest := []) (w := 0) oka (by decide) hnn kc_0 zc_11 (c_CK_remember h52 hnn) rfl ⟨ml_11_355, w_CK_remember⟩ hy_CK_remember ⟨rfl, rfl⟩ ⟨Nat.le_of_ble_eq_true rfl, Nat.le_of_ble_eq_true rfl⟩ ⟨Nat.le_refl _, Nat.le_refl _⟩ rfl (Nat.le_of_ble_eq_true rfl) dX11_hand_52 (fun ok => ?_)
          exact z_sub [0, 1, 2] rfl (t_CK_hand_p55 ok ⟨Nat.le_refl _, Nat.le_refl _⟩ ho hk)
theorem c_CK_hand {n : Nat} {σ : Sg} {x1 : Int32} {x2 : Int32} {r : (Bool × Sg) × Nat} (h : CK_hand n σ x1 x2 = some r) (hnn : n ≤ r.2 ∧ r.2 ≤ 900000) : ZaI yX11_hand cX11_hand 3 .boolean (rm_CK_hand (r.2 - n)) 198 (fun ad => [.ref (ad 0), .int x1, .int x2]) n σ (zb r.1.1) r.2 r.1.2 :=
  zmetaI pn_11 rfl (fun _ => rfl) (fun _ => Nat.le_of_ble_eq_true rfl) (zb_nar _) (by decide) hnn (fun X Q e oka hk => by subst e; exact t_CK_hand oka hnn h hk)
theorem dX11_changeLeak_0 : decode cX11_changeLeak 0 = .ok (.aload_n 0, 1) := by decide +kernel
theorem dX11_changeLeak_1 : decode cX11_changeLeak 1 = .ok (.iload_n 1, 1) := by decide +kernel
theorem dX11_changeLeak_2 : decode cX11_changeLeak 2 = .ok (.invokevirtual 154, 3) := by decide +kernel
theorem dX11_changeLeak_5 : decode cX11_changeLeak 5 = .ok (.ifCond .eq 29, 3) := by decide +kernel
theorem dX11_changeLeak_8 : decode cX11_changeLeak 8 = .ok (.iload_n 2, 1) := by decide +kernel
theorem dX11_changeLeak_9 : decode cX11_changeLeak 9 = .ok (.ifCond .lt 25, 3) := by decide +kernel
theorem dX11_changeLeak_12 : decode cX11_changeLeak 12 = .ok (.iload_n 2, 1) := by decide +kernel
theorem dX11_changeLeak_13 : decode cX11_changeLeak 13 = .ok (.bipush 99, 2) := by decide +kernel
theorem dX11_changeLeak_15 : decode cX11_changeLeak 15 = .ok (.if_icmp .gt 19, 3) := by decide +kernel
theorem dX11_changeLeak_18 : decode cX11_changeLeak 18 = .ok (.iload_n 2, 1) := by decide +kernel
theorem dX11_changeLeak_19 : decode cX11_changeLeak 19 = .ok (.aload_n 0, 1) := by decide +kernel
theorem dX11_changeLeak_20 : decode cX11_changeLeak 20 = .ok (.getfield 37, 3) := by decide +kernel
theorem dX11_changeLeak_23 : decode cX11_changeLeak 23 = .ok (.getfield 126, 3) := by decide +kernel
theorem dX11_changeLeak_26 : decode cX11_changeLeak 26 = .ok (.getfield 186, 3) := by decide +kernel
theorem dX11_changeLeak_29 : decode cX11_changeLeak 29 = .ok (.iload_n 1, 1) := by decide +kernel
theorem dX11_changeLeak_30 : decode cX11_changeLeak 30 = .ok (.iaload, 1) := by decide +kernel
theorem dX11_changeLeak_31 : decode cX11_changeLeak 31 = .ok (.if_icmp .ne 5, 3) := by decide +kernel
theorem dX11_changeLeak_34 : decode cX11_changeLeak 34 = .ok (.iconst 0, 1) := by decide +kernel
theorem dX11_changeLeak_35 : decode cX11_changeLeak 35 = .ok (.ireturn, 1) := by decide +kernel
theorem dX11_changeLeak_36 : decode cX11_changeLeak 36 = .ok (.aload_n 0, 1) := by decide +kernel
theorem dX11_changeLeak_37 : decode cX11_changeLeak 37 = .ok (.invokevirtual 355, 3) := by decide +kernel
theorem dX11_changeLeak_40 : decode cX11_changeLeak 40 = .ok (.aload_n 0, 1) := by decide +kernel
theorem dX11_changeLeak_41 : decode cX11_changeLeak 41 = .ok (.getfield 37, 3) := by decide +kernel
theorem dX11_changeLeak_44 : decode cX11_changeLeak 44 = .ok (.getfield 126, 3) := by decide +kernel
theorem dX11_changeLeak_47 : decode cX11_changeLeak 47 = .ok (.getfield 186, 3) := by decide +kernel
theorem dX11_changeLeak_50 : decode cX11_changeLeak 50 = .ok (.iload_n 1, 1) := by decide +kernel
theorem dX11_changeLeak_51 : decode cX11_changeLeak 51 = .ok (.iload_n 2, 1) := by decide +kernel
theorem dX11_changeLeak_52 : decode cX11_changeLeak 52 = .ok (.iastore, 1) := by decide +kernel
theorem dX11_changeLeak_53 : decode cX11_changeLeak 53 = .ok (.iconst 1, 1) := by decide +kernel
theorem dX11_changeLeak_54 : decode cX11_changeLeak 54 = .ok (.ireturn, 1) := by decide +kernel
abbrev rm_CK_changeLeak (d : Nat) : Room := rmA 5 122 d
def CK_changeLeak_p40 (σ : Sg) (x1 : Int32) (x2 : Int32) : Option (Bool × Sg) :=
  zwr σ 59 8 x1 x2 fun σ52 =>
  some (true, σ52)
set_option maxRecDepth 20000 in
theorem t_CK_changeLeak_p40 {X : Zx} {Q : State → Prop} {σ : Sg} {x1 : Int32} {x2 : Int32} {k1 k2 d : Nat} (ok : Zok X cX11_changeLeak RX11 (rm_CK_changeLeak d) 198 3) (hkR : k1 ≤ d ∧ k2 ≤ zms d)  {out : (Bool × Sg)} (hf : CK_changeLeak_p40 σ x1 x2 = some out) (hk : ZrIk cX11_changeLeak X Q k1 k2 (zb out.1) out.2) : ZAt X Q k1 k2 40 σ [(0, .ref (X.ad 0)), (1, .int x1), (2, .int x2)] [] := by
  unfold CK_changeLeak_p40 at hf
  refine z_aload_n ok dX11_changeLeak_40 0 rfl ?_
  refine z_getr (q := 55) ok kc_0 zc_11 hin_11 8 (by decide) fl_11_37 rfl dX11_changeLeak_41 ?_
  refine z_getr (q := 56) ok kc_55 zc_1 hin_1 0 (by decide) fl_11_126 rfl dX11_changeLeak_44 ?_
  refine z_getr (q := 59) ok kc_56 zc_9 hin_9 5 (by decide) fl_11_186 rfl dX11_changeLeak_47 ?_
  refine z_iload_n ok dX11_changeLeak_50 1 rfl ?_
  refine z_iload_n ok dX11_changeLeak_51 2 rfl ?_
  refine z_iast ok kc_59 dX11_changeLeak_52 hf (fun σ52 hf => ?_)
  refine z_iconst (v := 1) ok dX11_changeLeak_53 (by decide) ?_
  obtain rfl := Option.some.inj hf
  exact hk _ _ dX11_changeLeak_54
def CK_changeLeak (n : Nat) (σ : Sg) (x1 : Int32) (x2 : Int32) : Option ((Bool × Sg) × Nat) :=
  (CK_isPool σ x1).bind fun r2 =>
  if (zb r2) = 0 then (
    some ((false, σ), n)
  ) else (
    if x2 < 0 then (
      some ((false, σ), n)
    ) else (
      if 99 < x2 then (
        some ((false, σ), n)
      ) else (
        zrd σ 59 8 x1 fun v30 =>
        if x2 = v30 then (
          some ((false, σ), n)
        ) else (
          (CK_remember n σ).bind fun r37 =>
          (CK_changeLeak_p40 r37.1 x1 x2).bind fun o => some (o, r37.2)
        )
      )
    )
  )
set_option maxRecDepth 20000 in
theorem t_CK_changeLeak {X : Zx} {Q : State → Prop} {σ : Sg} {x1 : Int32} {x2 : Int32} {out : ((Bool × Sg) × Nat)} (oka : Zoka X cX11_changeLeak RX11 (rm_CK_changeLeak (out.2 - X.2.2.1.2.2.2)) 198 3 0) (hnn : X.2.2.1.2.2.2 ≤ out.2 ∧ out.2 ≤ 900000)  (hf : CK_changeLeak X.2.2.1.2.2.2 σ x1 x2 = some out) (hk : ZrIa cX11_changeLeak X Q (zb out.1.1) out.2 out.1.2) : ZAt X Q 0 0 0 σ [(0, .ref (X.ad 0)), (1, .int x1), (2, .int x2)] [] := by
  unfold CK_changeLeak at hf
  have ok := oka.1
  refine z_aload_n ok dX11_changeLeak_0 0 rfl ?_
  refine z_iload_n ok dX11_changeLeak_1 1 rfl ?_
  refine z_call hf (fun r2 h2 hf => ?_)
  refine z_cV (As := [.int x1]) (rest := []) (w := 0) ok kc_0 zc_11 (c_CK_isPool h2) rfl ⟨ml_11_154, w_CK_isPool⟩ hy_CK_isPool ⟨rfl, rfl⟩ ⟨Nat.le_of_ble_eq_true rfl, Nat.le_of_ble_eq_true rfl⟩ ⟨Nat.zero_le _, Nat.zero_le _⟩ rfl (Nat.le_of_ble_eq_true rfl) dX11_changeLeak_2 ?_
  refine z_if_eq (tgt := 34) ok dX11_changeLeak_5 (by decide) hf (fun _ hf => ?_) (fun _ hf => ?_)
  · refine z_iconst (v := 0) ok dX11_changeLeak_34 (by decide) ?_
    obtain rfl := Option.some.inj hf
    exact ZrIa.z hk _ _ dX11_changeLeak_35
  · refine z_iload_n ok dX11_changeLeak_8 2 rfl ?_
    refine z_if_lt (tgt := 34) ok dX11_changeLeak_9 (by decide) hf (fun _ hf => ?_) (fun _ hf => ?_)
    · refine z_iconst (v := 0) ok dX11_changeLeak_34 (by decide) ?_
      obtain rfl := Option.some.inj hf
      exact ZrIa.z hk _ _ dX11_changeLeak_35
    · refine z_iload_n ok dX11_changeLeak_12 2 rfl ?_
      refine z_bipush (v := 99) ok dX11_changeLeak_13 (by decide) ?_
      refine z_icmp_gt (tgt := 34) ok dX11_changeLeak_15 (by decide) hf (fun _ hf => ?_) (fun _ hf => ?_)
      · refine z_iconst (v := 0) ok dX11_changeLeak_34 (by decide) ?_
        obtain rfl := Option.some.inj hf
        exact ZrIa.z hk _ _ dX11_changeLeak_35
      · refine z_iload_n ok dX11_changeLeak_18 2 rfl ?_
        refine z_aload_n ok dX11_changeLeak_19 0 rfl ?_
        refine z_getr (q := 55) ok kc_0 zc_11 hin_11 8 (by decide) fl_11_37 rfl dX11_changeLeak_20 ?_
        refine z_getr (q := 56) ok kc_55 zc_1 hin_1 0 (by decide) fl_11_126 rfl dX11_changeLeak_23 ?_
        refine z_getr (q := 59) ok kc_56 zc_9 hin_9 5 (by decide) fl_11_186 rfl dX11_changeLeak_26 ?_
        refine z_iload_n ok dX11_changeLeak_29 1 rfl ?_
        refine z_iald ok kc_59 dX11_changeLeak_30 hf (fun v30 hf => ?_)
        refine z_icmp_ne (tgt := 36) ok dX11_changeLeak_31 (by decide) hf (fun _ hf => ?_) (fun _ hf => ?_)
        · refine z_iconst (v := 0) ok dX11_changeLeak_34 (by decide) ?_
          obtain rfl := Option.some.inj hf
          exact ZrIa.z hk _ _ dX11_changeLeak_35
        · refine z_aload_n ok dX11_changeLeak_36 0 rfl ?_
          refine z_call hf (fun r37 h37 hf => ?_)
          obtain ⟨o, ho, hf⟩ := zbind hf
          obtain rfl := Option.some.inj hf
          refine z_aVv (n' := r37.2) (As := []) (rest := []) (w := 0) oka (by decide) hnn kc_0 zc_11 (c_CK_remember h37 hnn) rfl ⟨ml_11_355, w_CK_remember⟩ hy_CK_remember ⟨rfl, rfl⟩ ⟨Nat.le_of_ble_eq_true rfl, Nat.le_of_ble_eq_true rfl⟩ ⟨Nat.le_refl _, Nat.le_refl _⟩ rfl (Nat.le_of_ble_eq_true rfl) dX11_changeLeak_37 (fun ok => ?_)
          exact z_sub [0, 1, 2] rfl (t_CK_changeLeak_p40 ok ⟨Nat.le_refl _, Nat.le_refl _⟩ ho hk)
theorem c_CK_changeLeak {n : Nat} {σ : Sg} {x1 : Int32} {x2 : Int32} {r : (Bool × Sg) × Nat} (h : CK_changeLeak n σ x1 x2 = some r) (hnn : n ≤ r.2 ∧ r.2 ≤ 900000) : ZaI yX11_changeLeak cX11_changeLeak 3 .boolean (rm_CK_changeLeak (r.2 - n)) 198 (fun ad => [.ref (ad 0), .int x1, .int x2]) n σ (zb r.1.1) r.2 r.1.2 :=
  zmetaI pn_11 rfl (fun _ => rfl) (fun _ => Nat.le_of_ble_eq_true rfl) (zb_nar _) (by decide) hnn (fun X Q e oka hk => by subst e; exact t_CK_changeLeak oka hnn h hk)
theorem dX11_changeGives_0 : decode cX11_changeGives 0 = .ok (.aload_n 0, 1) := by decide +kernel
theorem dX11_changeGives_1 : decode cX11_changeGives 1 = .ok (.getfield 94, 3) := by decide +kernel
theorem dX11_changeGives_4 : decode cX11_changeGives 4 = .ok (.ifCond .eq 28, 3) := by decide +kernel
theorem dX11_changeGives_7 : decode cX11_changeGives 7 = .ok (.iload_n 1, 1) := by decide +kernel
theorem dX11_changeGives_8 : decode cX11_changeGives 8 = .ok (.ifCond .lt 24, 3) := by decide +kernel
theorem dX11_changeGives_11 : decode cX11_changeGives 11 = .ok (.iload_n 1, 1) := by decide +kernel
theorem dX11_changeGives_12 : decode cX11_changeGives 12 = .ok (.sipush 999, 3) := by decide +kernel
theorem dX11_changeGives_15 : decode cX11_changeGives 15 = .ok (.if_icmp .gt 17, 3) := by decide +kernel
theorem dX11_changeGives_18 : decode cX11_changeGives 18 = .ok (.iload_n 1, 1) := by decide +kernel
theorem dX11_changeGives_19 : decode cX11_changeGives 19 = .ok (.aload_n 0, 1) := by decide +kernel
theorem dX11_changeGives_20 : decode cX11_changeGives 20 = .ok (.getfield 37, 3) := by decide +kernel
theorem dX11_changeGives_23 : decode cX11_changeGives 23 = .ok (.getfield 126, 3) := by decide +kernel
theorem dX11_changeGives_26 : decode cX11_changeGives 26 = .ok (.getfield 135, 3) := by decide +kernel
theorem dX11_changeGives_29 : decode cX11_changeGives 29 = .ok (.if_icmp .ne 5, 3) := by decide +kernel
theorem dX11_changeGives_32 : decode cX11_changeGives 32 = .ok (.iconst 0, 1) := by decide +kernel
theorem dX11_changeGives_33 : decode cX11_changeGives 33 = .ok (.ireturn, 1) := by decide +kernel
theorem dX11_changeGives_34 : decode cX11_changeGives 34 = .ok (.aload_n 0, 1) := by decide +kernel
theorem dX11_changeGives_35 : decode cX11_changeGives 35 = .ok (.invokevirtual 355, 3) := by decide +kernel
theorem dX11_changeGives_38 : decode cX11_changeGives 38 = .ok (.aload_n 0, 1) := by decide +kernel
theorem dX11_changeGives_39 : decode cX11_changeGives 39 = .ok (.getfield 37, 3) := by decide +kernel
theorem dX11_changeGives_42 : decode cX11_changeGives 42 = .ok (.getfield 126, 3) := by decide +kernel
theorem dX11_changeGives_45 : decode cX11_changeGives 45 = .ok (.iload_n 1, 1) := by decide +kernel
theorem dX11_changeGives_46 : decode cX11_changeGives 46 = .ok (.putfield 135, 3) := by decide +kernel
theorem dX11_changeGives_49 : decode cX11_changeGives 49 = .ok (.iconst 1, 1) := by decide +kernel
theorem dX11_changeGives_50 : decode cX11_changeGives 50 = .ok (.ireturn, 1) := by decide +kernel
abbrev rm_CK_changeGives (d : Nat) : Room := rmA 5 122 d
def CK_changeGives_p38 (σ : Sg) (x1 : Int32) : Option (Bool × Sg) :=
  zpt σ 56 1 x1 fun σ46 =>
  some (true, σ46)
set_option maxRecDepth 20000 in
theorem t_CK_changeGives_p38 {X : Zx} {Q : State → Prop} {σ : Sg} {x1 : Int32} {k1 k2 d : Nat} (ok : Zok X cX11_changeGives RX11 (rm_CK_changeGives d) 198 2) (hkR : k1 ≤ d ∧ k2 ≤ zms d)  {out : (Bool × Sg)} (hf : CK_changeGives_p38 σ x1 = some out) (hk : ZrIk cX11_changeGives X Q k1 k2 (zb out.1) out.2) : ZAt X Q k1 k2 38 σ [(0, .ref (X.ad 0)), (1, .int x1)] [] := by
  unfold CK_changeGives_p38 at hf
  refine z_aload_n ok dX11_changeGives_38 0 rfl ?_
  refine z_getr (q := 55) ok kc_0 zc_11 hin_11 8 (by decide) fl_11_37 rfl dX11_changeGives_39 ?_
  refine z_getr (q := 56) ok kc_55 zc_1 hin_1 0 (by decide) fl_11_126 rfl dX11_changeGives_42 ?_
  refine z_iload_n ok dX11_changeGives_45 1 rfl ?_
  refine z_puti ok kc_56 zc_9 hin_9 tyX9 tyX9_ok nmX9 1 (by decide) fl_11_135 rfl rfl (tyX9_ok 1 (by decide)) dX11_changeGives_46 hf (fun σ46 hf => ?_)
  refine z_iconst (v := 1) ok dX11_changeGives_49 (by decide) ?_
  obtain rfl := Option.some.inj hf
  exact hk _ _ dX11_changeGives_50
def CK_changeGives (n : Nat) (σ : Sg) (x1 : Int32) : Option ((Bool × Sg) × Nat) :=
  zgt σ 0 5 fun v1 =>
  if v1 = 0 then (
    some ((false, σ), n)
  ) else (
    if x1 < 0 then (
      some ((false, σ), n)
    ) else (
      if 999 < x1 then (
        some ((false, σ), n)
      ) else (
        zgt σ 56 1 fun v26 =>
        if x1 = v26 then (
          some ((false, σ), n)
        ) else (
          (CK_remember n σ).bind fun r35 =>
          (CK_changeGives_p38 r35.1 x1).bind fun o => some (o, r35.2)
        )
      )
    )
  )
set_option maxRecDepth 20000 in
theorem t_CK_changeGives {X : Zx} {Q : State → Prop} {σ : Sg} {x1 : Int32} {out : ((Bool × Sg) × Nat)} (oka : Zoka X cX11_changeGives RX11 (rm_CK_changeGives (out.2 - X.2.2.1.2.2.2)) 198 2 0) (hnn : X.2.2.1.2.2.2 ≤ out.2 ∧ out.2 ≤ 900000)  (hf : CK_changeGives X.2.2.1.2.2.2 σ x1 = some out) (hk : ZrIa cX11_changeGives X Q (zb out.1.1) out.2 out.1.2) : ZAt X Q 0 0 0 σ [(0, .ref (X.ad 0)), (1, .int x1)] [] := by
  unfold CK_changeGives at hf
  have ok := oka.1
  refine z_aload_n ok dX11_changeGives_0 0 rfl ?_
  refine z_geti ok kc_0 zc_11 hin_11 5 (by decide) fl_11_94 rfl dX11_changeGives_1 hf (fun v1 hf => ?_)
  refine z_if_eq (tgt := 32) ok dX11_changeGives_4 (by decide) hf (fun _ hf => ?_) (fun _ hf => ?_)
  · refine z_iconst (v := 0) ok dX11_changeGives_32 (by decide) ?_
    obtain rfl := Option.some.inj hf
    exact ZrIa.z hk _ _ dX11_changeGives_33
  · refine z_iload_n ok dX11_changeGives_7 1 rfl ?_
    refine z_if_lt (tgt := 32) ok dX11_changeGives_8 (by decide) hf (fun _ hf => ?_) (fun _ hf => ?_)
    · refine z_iconst (v := 0) ok dX11_changeGives_32 (by decide) ?_
      obtain rfl := Option.some.inj hf
      exact ZrIa.z hk _ _ dX11_changeGives_33
    · refine z_iload_n ok dX11_changeGives_11 1 rfl ?_
      refine z_sipush (v := 999) ok dX11_changeGives_12 (by decide) ?_
      refine z_icmp_gt (tgt := 32) ok dX11_changeGives_15 (by decide) hf (fun _ hf => ?_) (fun _ hf => ?_)
      · refine z_iconst (v := 0) ok dX11_changeGives_32 (by decide) ?_
        obtain rfl := Option.some.inj hf
        exact ZrIa.z hk _ _ dX11_changeGives_33
      · refine z_iload_n ok dX11_changeGives_18 1 rfl ?_
        refine z_aload_n ok dX11_changeGives_19 0 rfl ?_
        refine z_getr (q := 55) ok kc_0 zc_11 hin_11 8 (by decide) fl_11_37 rfl dX11_changeGives_20 ?_
        refine z_getr (q := 56) ok kc_55 zc_1 hin_1 0 (by decide) fl_11_126 rfl dX11_changeGives_23 ?_
        refine z_geti ok kc_56 zc_9 hin_9 1 (by decide) fl_11_135 rfl dX11_changeGives_26 hf (fun v26 hf => ?_)
        refine z_icmp_ne (tgt := 34) ok dX11_changeGives_29 (by decide) hf (fun _ hf => ?_) (fun _ hf => ?_)
        · refine z_iconst (v := 0) ok dX11_changeGives_32 (by decide) ?_
          obtain rfl := Option.some.inj hf
          exact ZrIa.z hk _ _ dX11_changeGives_33
        · refine z_aload_n ok dX11_changeGives_34 0 rfl ?_
          refine z_call hf (fun r35 h35 hf => ?_)
          obtain ⟨o, ho, hf⟩ := zbind hf
          obtain rfl := Option.some.inj hf
          refine z_aVv (n' := r35.2) (As := []) (rest := []) (w := 0) oka (by decide) hnn kc_0 zc_11 (c_CK_remember h35 hnn) rfl ⟨ml_11_355, w_CK_remember⟩ hy_CK_remember ⟨rfl, rfl⟩ ⟨Nat.le_of_ble_eq_true rfl, Nat.le_of_ble_eq_true rfl⟩ ⟨Nat.le_refl _, Nat.le_refl _⟩ rfl (Nat.le_of_ble_eq_true rfl) dX11_changeGives_35 (fun ok => ?_)
          exact z_sub [0, 1] rfl (t_CK_changeGives_p38 ok ⟨Nat.le_refl _, Nat.le_refl _⟩ ho hk)
theorem c_CK_changeGives {n : Nat} {σ : Sg} {x1 : Int32} {r : (Bool × Sg) × Nat} (h : CK_changeGives n σ x1 = some r) (hnn : n ≤ r.2 ∧ r.2 ≤ 900000) : ZaI yX11_changeGives cX11_changeGives 2 .boolean (rm_CK_changeGives (r.2 - n)) 198 (fun ad => [.ref (ad 0), .int x1]) n σ (zb r.1.1) r.2 r.1.2 :=
  zmetaI pn_11 rfl (fun _ => rfl) (fun _ => Nat.le_of_ble_eq_true rfl) (zb_nar _) (by decide) hnn (fun X Q e oka hk => by subst e; exact t_CK_changeGives oka hnn h hk)
theorem dX11_changeGain_0 : decode cX11_changeGain 0 = .ok (.aload_n 0, 1) := by decide +kernel
theorem dX11_changeGain_1 : decode cX11_changeGain 1 = .ok (.getfield 94, 3) := by decide +kernel
theorem dX11_changeGain_4 : decode cX11_changeGain 4 = .ok (.ifCond .eq 28, 3) := by decide +kernel
theorem dX11_changeGain_7 : decode cX11_changeGain 7 = .ok (.iload_n 1, 1) := by decide +kernel
theorem dX11_changeGain_8 : decode cX11_changeGain 8 = .ok (.iconst 1, 1) := by decide +kernel
theorem dX11_changeGain_9 : decode cX11_changeGain 9 = .ok (.if_icmp .lt 23, 3) := by decide +kernel
theorem dX11_changeGain_12 : decode cX11_changeGain 12 = .ok (.iload_n 1, 1) := by decide +kernel
theorem dX11_changeGain_13 : decode cX11_changeGain 13 = .ok (.bipush 99, 2) := by decide +kernel
theorem dX11_changeGain_15 : decode cX11_changeGain 15 = .ok (.if_icmp .gt 17, 3) := by decide +kernel
theorem dX11_changeGain_18 : decode cX11_changeGain 18 = .ok (.iload_n 1, 1) := by decide +kernel
theorem dX11_changeGain_19 : decode cX11_changeGain 19 = .ok (.aload_n 0, 1) := by decide +kernel
theorem dX11_changeGain_20 : decode cX11_changeGain 20 = .ok (.getfield 37, 3) := by decide +kernel
theorem dX11_changeGain_23 : decode cX11_changeGain 23 = .ok (.getfield 126, 3) := by decide +kernel
theorem dX11_changeGain_26 : decode cX11_changeGain 26 = .ok (.getfield 138, 3) := by decide +kernel
theorem dX11_changeGain_29 : decode cX11_changeGain 29 = .ok (.if_icmp .ne 5, 3) := by decide +kernel
theorem dX11_changeGain_32 : decode cX11_changeGain 32 = .ok (.iconst 0, 1) := by decide +kernel
theorem dX11_changeGain_33 : decode cX11_changeGain 33 = .ok (.ireturn, 1) := by decide +kernel
theorem dX11_changeGain_34 : decode cX11_changeGain 34 = .ok (.aload_n 0, 1) := by decide +kernel
theorem dX11_changeGain_35 : decode cX11_changeGain 35 = .ok (.invokevirtual 355, 3) := by decide +kernel
theorem dX11_changeGain_38 : decode cX11_changeGain 38 = .ok (.aload_n 0, 1) := by decide +kernel
theorem dX11_changeGain_39 : decode cX11_changeGain 39 = .ok (.getfield 37, 3) := by decide +kernel
theorem dX11_changeGain_42 : decode cX11_changeGain 42 = .ok (.getfield 126, 3) := by decide +kernel
theorem dX11_changeGain_45 : decode cX11_changeGain 45 = .ok (.iload_n 1, 1) := by decide +kernel
theorem dX11_changeGain_46 : decode cX11_changeGain 46 = .ok (.putfield 138, 3) := by decide +kernel
theorem dX11_changeGain_49 : decode cX11_changeGain 49 = .ok (.iconst 1, 1) := by decide +kernel
theorem dX11_changeGain_50 : decode cX11_changeGain 50 = .ok (.ireturn, 1) := by decide +kernel
abbrev rm_CK_changeGain (d : Nat) : Room := rmA 5 122 d
def CK_changeGain_p38 (σ : Sg) (x1 : Int32) : Option (Bool × Sg) :=
  zpt σ 56 2 x1 fun σ46 =>
  some (true, σ46)
set_option maxRecDepth 20000 in
theorem t_CK_changeGain_p38 {X : Zx} {Q : State → Prop} {σ : Sg} {x1 : Int32} {k1 k2 d : Nat} (ok : Zok X cX11_changeGain RX11 (rm_CK_changeGain d) 198 2) (hkR : k1 ≤ d ∧ k2 ≤ zms d)  {out : (Bool × Sg)} (hf : CK_changeGain_p38 σ x1 = some out) (hk : ZrIk cX11_changeGain X Q k1 k2 (zb out.1) out.2) : ZAt X Q k1 k2 38 σ [(0, .ref (X.ad 0)), (1, .int x1)] [] := by
  unfold CK_changeGain_p38 at hf
  refine z_aload_n ok dX11_changeGain_38 0 rfl ?_
  refine z_getr (q := 55) ok kc_0 zc_11 hin_11 8 (by decide) fl_11_37 rfl dX11_changeGain_39 ?_
  refine z_getr (q := 56) ok kc_55 zc_1 hin_1 0 (by decide) fl_11_126 rfl dX11_changeGain_42 ?_
  refine z_iload_n ok dX11_changeGain_45 1 rfl ?_
  refine z_puti ok kc_56 zc_9 hin_9 tyX9 tyX9_ok nmX9 2 (by decide) fl_11_138 rfl rfl (tyX9_ok 2 (by decide)) dX11_changeGain_46 hf (fun σ46 hf => ?_)
  refine z_iconst (v := 1) ok dX11_changeGain_49 (by decide) ?_
  obtain rfl := Option.some.inj hf
  exact hk _ _ dX11_changeGain_50
def CK_changeGain (n : Nat) (σ : Sg) (x1 : Int32) : Option ((Bool × Sg) × Nat) :=
  zgt σ 0 5 fun v1 =>
  if v1 = 0 then (
    some ((false, σ), n)
  ) else (
    if x1 < 1 then (
      some ((false, σ), n)
    ) else (
      if 99 < x1 then (
        some ((false, σ), n)
      ) else (
        zgt σ 56 2 fun v26 =>
        if x1 = v26 then (
          some ((false, σ), n)
        ) else (
          (CK_remember n σ).bind fun r35 =>
          (CK_changeGain_p38 r35.1 x1).bind fun o => some (o, r35.2)
        )
      )
    )
  )
set_option maxRecDepth 20000 in
theorem t_CK_changeGain {X : Zx} {Q : State → Prop} {σ : Sg} {x1 : Int32} {out : ((Bool × Sg) × Nat)} (oka : Zoka X cX11_changeGain RX11 (rm_CK_changeGain (out.2 - X.2.2.1.2.2.2)) 198 2 0) (hnn : X.2.2.1.2.2.2 ≤ out.2 ∧ out.2 ≤ 900000)  (hf : CK_changeGain X.2.2.1.2.2.2 σ x1 = some out) (hk : ZrIa cX11_changeGain X Q (zb out.1.1) out.2 out.1.2) : ZAt X Q 0 0 0 σ [(0, .ref (X.ad 0)), (1, .int x1)] [] := by
  unfold CK_changeGain at hf
  have ok := oka.1
  refine z_aload_n ok dX11_changeGain_0 0 rfl ?_
  refine z_geti ok kc_0 zc_11 hin_11 5 (by decide) fl_11_94 rfl dX11_changeGain_1 hf (fun v1 hf => ?_)
  refine z_if_eq (tgt := 32) ok dX11_changeGain_4 (by decide) hf (fun _ hf => ?_) (fun _ hf => ?_)
  · refine z_iconst (v := 0) ok dX11_changeGain_32 (by decide) ?_
    obtain rfl := Option.some.inj hf
    exact ZrIa.z hk _ _ dX11_changeGain_33
  · refine z_iload_n ok dX11_changeGain_7 1 rfl ?_
    refine z_iconst (v := 1) ok dX11_changeGain_8 (by decide) ?_
    refine z_icmp_lt (tgt := 32) ok dX11_changeGain_9 (by decide) hf (fun _ hf => ?_) (fun _ hf => ?_)
    · refine z_iconst (v := 0) ok dX11_changeGain_32 (by decide) ?_
      obtain rfl := Option.some.inj hf
      exact ZrIa.z hk _ _ dX11_changeGain_33
    · refine z_iload_n ok dX11_changeGain_12 1 rfl ?_
      refine z_bipush (v := 99) ok dX11_changeGain_13 (by decide) ?_
      refine z_icmp_gt (tgt := 32) ok dX11_changeGain_15 (by decide) hf (fun _ hf => ?_) (fun _ hf => ?_)
      · refine z_iconst (v := 0) ok dX11_changeGain_32 (by decide) ?_
        obtain rfl := Option.some.inj hf
        exact ZrIa.z hk _ _ dX11_changeGain_33
      · refine z_iload_n ok dX11_changeGain_18 1 rfl ?_
        refine z_aload_n ok dX11_changeGain_19 0 rfl ?_
        refine z_getr (q := 55) ok kc_0 zc_11 hin_11 8 (by decide) fl_11_37 rfl dX11_changeGain_20 ?_
        refine z_getr (q := 56) ok kc_55 zc_1 hin_1 0 (by decide) fl_11_126 rfl dX11_changeGain_23 ?_
        refine z_geti ok kc_56 zc_9 hin_9 2 (by decide) fl_11_138 rfl dX11_changeGain_26 hf (fun v26 hf => ?_)
        refine z_icmp_ne (tgt := 34) ok dX11_changeGain_29 (by decide) hf (fun _ hf => ?_) (fun _ hf => ?_)
        · refine z_iconst (v := 0) ok dX11_changeGain_32 (by decide) ?_
          obtain rfl := Option.some.inj hf
          exact ZrIa.z hk _ _ dX11_changeGain_33
        · refine z_aload_n ok dX11_changeGain_34 0 rfl ?_
          refine z_call hf (fun r35 h35 hf => ?_)
          obtain ⟨o, ho, hf⟩ := zbind hf
          obtain rfl := Option.some.inj hf
          refine z_aVv (n' := r35.2) (As := []) (rest := []) (w := 0) oka (by decide) hnn kc_0 zc_11 (c_CK_remember h35 hnn) rfl ⟨ml_11_355, w_CK_remember⟩ hy_CK_remember ⟨rfl, rfl⟩ ⟨Nat.le_of_ble_eq_true rfl, Nat.le_of_ble_eq_true rfl⟩ ⟨Nat.le_refl _, Nat.le_refl _⟩ rfl (Nat.le_of_ble_eq_true rfl) dX11_changeGain_35 (fun ok => ?_)
          exact z_sub [0, 1] rfl (t_CK_changeGain_p38 ok ⟨Nat.le_refl _, Nat.le_refl _⟩ ho hk)
theorem c_CK_changeGain {n : Nat} {σ : Sg} {x1 : Int32} {r : (Bool × Sg) × Nat} (h : CK_changeGain n σ x1 = some r) (hnn : n ≤ r.2 ∧ r.2 ≤ 900000) : ZaI yX11_changeGain cX11_changeGain 2 .boolean (rm_CK_changeGain (r.2 - n)) 198 (fun ad => [.ref (ad 0), .int x1]) n σ (zb r.1.1) r.2 r.1.2 :=
  zmetaI pn_11 rfl (fun _ => rfl) (fun _ => Nat.le_of_ble_eq_true rfl) (zb_nar _) (by decide) hnn (fun X Q e oka hk => by subst e; exact t_CK_changeGain oka hnn h hk)
theorem dX11_set_0 : decode cX11_set 0 = .ok (.iload_n 1, 1) := by decide +kernel
theorem dX11_set_1 : decode cX11_set 1 = .ok (.tableswitch 76 0 2 #[27, 36, 56], 27) := by decide +kernel
theorem dX11_set_28 : decode cX11_set 28 = .ok (.aload_n 0, 1) := by decide +kernel
theorem dX11_set_29 : decode cX11_set 29 = .ok (.iload_n 2, 1) := by decide +kernel
theorem dX11_set_30 : decode cX11_set 30 = .ok (.iload_n 3, 1) := by decide +kernel
theorem dX11_set_31 : decode cX11_set 31 = .ok (.invokevirtual 364, 3) := by decide +kernel
theorem dX11_set_34 : decode cX11_set 34 = .ok (.goto 44, 3) := by decide +kernel
theorem dX11_set_37 : decode cX11_set 37 = .ok (.iload_n 2, 1) := by decide +kernel
theorem dX11_set_38 : decode cX11_set 38 = .ok (.ifCond .ne 15, 3) := by decide +kernel
theorem dX11_set_41 : decode cX11_set 41 = .ok (.aload_n 0, 1) := by decide +kernel
theorem dX11_set_42 : decode cX11_set 42 = .ok (.iload_n 3, 1) := by decide +kernel
theorem dX11_set_43 : decode cX11_set 43 = .ok (.invokevirtual 368, 3) := by decide +kernel
theorem dX11_set_46 : decode cX11_set 46 = .ok (.ifCond .eq 7, 3) := by decide +kernel
theorem dX11_set_49 : decode cX11_set 49 = .ok (.iconst 1, 1) := by decide +kernel
theorem dX11_set_50 : decode cX11_set 50 = .ok (.goto 28, 3) := by decide +kernel
theorem dX11_set_53 : decode cX11_set 53 = .ok (.iconst 0, 1) := by decide +kernel
theorem dX11_set_54 : decode cX11_set 54 = .ok (.goto 24, 3) := by decide +kernel
theorem dX11_set_57 : decode cX11_set 57 = .ok (.iload_n 2, 1) := by decide +kernel
theorem dX11_set_58 : decode cX11_set 58 = .ok (.ifCond .ne 15, 3) := by decide +kernel
theorem dX11_set_61 : decode cX11_set 61 = .ok (.aload_n 0, 1) := by decide +kernel
theorem dX11_set_62 : decode cX11_set 62 = .ok (.iload_n 3, 1) := by decide +kernel
theorem dX11_set_63 : decode cX11_set 63 = .ok (.invokevirtual 371, 3) := by decide +kernel
theorem dX11_set_66 : decode cX11_set 66 = .ok (.ifCond .eq 7, 3) := by decide +kernel
theorem dX11_set_69 : decode cX11_set 69 = .ok (.iconst 1, 1) := by decide +kernel
theorem dX11_set_70 : decode cX11_set 70 = .ok (.goto 8, 3) := by decide +kernel
theorem dX11_set_73 : decode cX11_set 73 = .ok (.iconst 0, 1) := by decide +kernel
theorem dX11_set_74 : decode cX11_set 74 = .ok (.goto 4, 3) := by decide +kernel
theorem dX11_set_77 : decode cX11_set 77 = .ok (.iconst 0, 1) := by decide +kernel
theorem dX11_set_78 : decode cX11_set 78 = .ok (.istore 4, 2) := by decide +kernel
theorem dX11_set_80 : decode cX11_set 80 = .ok (.iload 4, 2) := by decide +kernel
theorem dX11_set_82 : decode cX11_set 82 = .ok (.ifCond .ne 11, 3) := by decide +kernel
theorem dX11_set_85 : decode cX11_set 85 = .ok (.aload_n 0, 1) := by decide +kernel
theorem dX11_set_86 : decode cX11_set 86 = .ok (.iconst 3, 1) := by decide +kernel
theorem dX11_set_87 : decode cX11_set 87 = .ok (.invokevirtual 77, 3) := by decide +kernel
theorem dX11_set_90 : decode cX11_set 90 = .ok (.ifCond .eq 7, 3) := by decide +kernel
theorem dX11_set_93 : decode cX11_set 93 = .ok (.iconst 1, 1) := by decide +kernel
theorem dX11_set_94 : decode cX11_set 94 = .ok (.goto 4, 3) := by decide +kernel
theorem dX11_set_97 : decode cX11_set 97 = .ok (.iconst 0, 1) := by decide +kernel
theorem dX11_set_98 : decode cX11_set 98 = .ok (.ireturn, 1) := by decide +kernel
abbrev rm_CK_set (d : Nat) : Room := rmA 6 144 d
def CK_set_j78 (σ : Sg) (s0 : Int32) : Option (Bool × Sg) :=
  if s0 = 0 then (
    (CK_deny σ 3).bind fun r87 =>
    if (zb r87.1) = 0 then (
      some (false, r87.2)
    ) else (
      some (true, r87.2)
    )
  ) else (
    some (true, σ)
  )
set_option maxRecDepth 20000 in
theorem t_CK_set_j78 {X : Zx} {Q : State → Prop} {σ : Sg} {s0 : Int32} {k1 k2 d : Nat} (ok : Zok X cX11_set RX11 (rm_CK_set d) 198 5) (hkR : k1 ≤ d ∧ k2 ≤ zms d)  {out : (Bool × Sg)} (hf : CK_set_j78 σ s0 = some out) (hk : ZrIk cX11_set X Q k1 k2 (zb out.1) out.2) : ZAt X Q k1 k2 78 σ [(0, .ref (X.ad 0))] [.int s0] := by
  unfold CK_set_j78 at hf
  refine z_istore (lv' := [(4, .int s0), (0, .ref (X.ad 0))]) ok dX11_set_78 (by decide) rfl ?_
  refine z_iload ok dX11_set_80 0 rfl ?_
  refine z_if_ne (tgt := 93) ok dX11_set_82 (by decide) hf (fun _ hf => ?_) (fun _ hf => ?_)
  · refine z_aload_n ok dX11_set_85 1 rfl ?_
    refine z_iconst (v := 3) ok dX11_set_86 (by decide) ?_
    refine z_call hf (fun r87 h87 hf => ?_)
    refine z_cV (As := [.int 3]) (rest := []) (w := 0) ok kc_0 zc_11 (c_CK_deny h87) rfl ⟨ml_11_77, w_CK_deny⟩ hy_CK_deny ⟨rfl, rfl⟩ ⟨Nat.le_of_ble_eq_true rfl, Nat.le_of_ble_eq_true rfl⟩ hkR rfl (Nat.le_of_ble_eq_true rfl) dX11_set_87 ?_
    refine z_if_eq (tgt := 97) ok dX11_set_90 (by decide) hf (fun _ hf => ?_) (fun _ hf => ?_)
    · refine z_iconst (v := 0) ok dX11_set_97 (by decide) ?_
      obtain rfl := Option.some.inj hf
      exact hk _ _ dX11_set_98
    · refine z_iconst (v := 1) ok dX11_set_93 (by decide) ?_
      refine z_goto (tgt := 98) ok dX11_set_94 (by decide) ?_
      obtain rfl := Option.some.inj hf
      exact hk _ _ dX11_set_98
  · refine z_iconst (v := 1) ok dX11_set_93 (by decide) ?_
    refine z_goto (tgt := 98) ok dX11_set_94 (by decide) ?_
    obtain rfl := Option.some.inj hf
    exact hk _ _ dX11_set_98
def CK_set_p34 (σ : Sg) (s0 : Int32) : Option (Bool × Sg) :=
  CK_set_j78 σ s0
set_option maxRecDepth 20000 in
theorem t_CK_set_p34 {X : Zx} {Q : State → Prop} {σ : Sg} {s0 : Int32} {k1 k2 d : Nat} (ok : Zok X cX11_set RX11 (rm_CK_set d) 198 5) (hkR : k1 ≤ d ∧ k2 ≤ zms d)  {out : (Bool × Sg)} (hf : CK_set_p34 σ s0 = some out) (hk : ZrIk cX11_set X Q k1 k2 (zb out.1) out.2) : ZAt X Q k1 k2 34 σ [(0, .ref (X.ad 0))] [.int s0] := by
  unfold CK_set_p34 at hf
  refine z_goto (tgt := 78) ok dX11_set_34 (by decide) ?_
  exact z_sub [0] rfl (t_CK_set_j78 ok hkR hf hk)
def CK_set_j53 (σ : Sg)  : Option (Bool × Sg) :=
  CK_set_j78 σ 0
set_option maxRecDepth 20000 in
theorem t_CK_set_j53 {X : Zx} {Q : State → Prop} {σ : Sg}  {k1 k2 d : Nat} (ok : Zok X cX11_set RX11 (rm_CK_set d) 198 5) (hkR : k1 ≤ d ∧ k2 ≤ zms d)  {out : (Bool × Sg)} (hf : CK_set_j53 σ = some out) (hk : ZrIk cX11_set X Q k1 k2 (zb out.1) out.2) : ZAt X Q k1 k2 53 σ [(0, .ref (X.ad 0))] [] := by
  unfold CK_set_j53 at hf
  refine z_iconst (v := 0) ok dX11_set_53 (by decide) ?_
  refine z_goto (tgt := 78) ok dX11_set_54 (by decide) ?_
  exact z_sub [0] rfl (t_CK_set_j78 ok hkR hf hk)
def CK_set_p46 (σ : Sg) (s0 : Int32) : Option (Bool × Sg) :=
  if s0 = 0 then (
    CK_set_j53 σ
  ) else (
    CK_set_j78 σ 1
  )
set_option maxRecDepth 20000 in
theorem t_CK_set_p46 {X : Zx} {Q : State → Prop} {σ : Sg} {s0 : Int32} {k1 k2 d : Nat} (ok : Zok X cX11_set RX11 (rm_CK_set d) 198 5) (hkR : k1 ≤ d ∧ k2 ≤ zms d)  {out : (Bool × Sg)} (hf : CK_set_p46 σ s0 = some out) (hk : ZrIk cX11_set X Q k1 k2 (zb out.1) out.2) : ZAt X Q k1 k2 46 σ [(0, .ref (X.ad 0))] [.int s0] := by
  unfold CK_set_p46 at hf
  refine z_if_eq (tgt := 53) ok dX11_set_46 (by decide) hf (fun _ hf => ?_) (fun _ hf => ?_)
  · exact z_sub [0] rfl (t_CK_set_j53 ok hkR hf hk)
  · refine z_iconst (v := 1) ok dX11_set_49 (by decide) ?_
    refine z_goto (tgt := 78) ok dX11_set_50 (by decide) ?_
    exact z_sub [0] rfl (t_CK_set_j78 ok hkR hf hk)
def CK_set_p53 (σ : Sg)  : Option (Bool × Sg) :=
  CK_set_j78 σ 0
set_option maxRecDepth 20000 in
theorem t_CK_set_p53 {X : Zx} {Q : State → Prop} {σ : Sg}  {k1 k2 d : Nat} (ok : Zok X cX11_set RX11 (rm_CK_set d) 198 5) (hkR : k1 ≤ d ∧ k2 ≤ zms d)  {out : (Bool × Sg)} (hf : CK_set_p53 σ = some out) (hk : ZrIk cX11_set X Q k1 k2 (zb out.1) out.2) : ZAt X Q k1 k2 53 σ [(0, .ref (X.ad 0))] [] := by
  unfold CK_set_p53 at hf
  refine z_iconst (v := 0) ok dX11_set_53 (by decide) ?_
  refine z_goto (tgt := 78) ok dX11_set_54 (by decide) ?_
  exact z_sub [0] rfl (t_CK_set_j78 ok hkR hf hk)
def CK_set_j73 (σ : Sg)  : Option (Bool × Sg) :=
  CK_set_j78 σ 0
set_option maxRecDepth 20000 in
theorem t_CK_set_j73 {X : Zx} {Q : State → Prop} {σ : Sg}  {k1 k2 d : Nat} (ok : Zok X cX11_set RX11 (rm_CK_set d) 198 5) (hkR : k1 ≤ d ∧ k2 ≤ zms d)  {out : (Bool × Sg)} (hf : CK_set_j73 σ = some out) (hk : ZrIk cX11_set X Q k1 k2 (zb out.1) out.2) : ZAt X Q k1 k2 73 σ [(0, .ref (X.ad 0))] [] := by
  unfold CK_set_j73 at hf
  refine z_iconst (v := 0) ok dX11_set_73 (by decide) ?_
  refine z_goto (tgt := 78) ok dX11_set_74 (by decide) ?_
  exact z_sub [0] rfl (t_CK_set_j78 ok hkR hf hk)
def CK_set_p66 (σ : Sg) (s0 : Int32) : Option (Bool × Sg) :=
  if s0 = 0 then (
    CK_set_j73 σ
  ) else (
    CK_set_j78 σ 1
  )
set_option maxRecDepth 20000 in
theorem t_CK_set_p66 {X : Zx} {Q : State → Prop} {σ : Sg} {s0 : Int32} {k1 k2 d : Nat} (ok : Zok X cX11_set RX11 (rm_CK_set d) 198 5) (hkR : k1 ≤ d ∧ k2 ≤ zms d)  {out : (Bool × Sg)} (hf : CK_set_p66 σ s0 = some out) (hk : ZrIk cX11_set X Q k1 k2 (zb out.1) out.2) : ZAt X Q k1 k2 66 σ [(0, .ref (X.ad 0))] [.int s0] := by
  unfold CK_set_p66 at hf
  refine z_if_eq (tgt := 73) ok dX11_set_66 (by decide) hf (fun _ hf => ?_) (fun _ hf => ?_)
  · exact z_sub [0] rfl (t_CK_set_j73 ok hkR hf hk)
  · refine z_iconst (v := 1) ok dX11_set_69 (by decide) ?_
    refine z_goto (tgt := 78) ok dX11_set_70 (by decide) ?_
    exact z_sub [0] rfl (t_CK_set_j78 ok hkR hf hk)
def CK_set_p73 (σ : Sg)  : Option (Bool × Sg) :=
  CK_set_j78 σ 0
set_option maxRecDepth 20000 in
theorem t_CK_set_p73 {X : Zx} {Q : State → Prop} {σ : Sg}  {k1 k2 d : Nat} (ok : Zok X cX11_set RX11 (rm_CK_set d) 198 5) (hkR : k1 ≤ d ∧ k2 ≤ zms d)  {out : (Bool × Sg)} (hf : CK_set_p73 σ = some out) (hk : ZrIk cX11_set X Q k1 k2 (zb out.1) out.2) : ZAt X Q k1 k2 73 σ [(0, .ref (X.ad 0))] [] := by
  unfold CK_set_p73 at hf
  refine z_iconst (v := 0) ok dX11_set_73 (by decide) ?_
  refine z_goto (tgt := 78) ok dX11_set_74 (by decide) ?_
  exact z_sub [0] rfl (t_CK_set_j78 ok hkR hf hk)
def CK_set_p78 (σ : Sg) (s0 : Int32) : Option (Bool × Sg) :=
  if s0 = 0 then (
    (CK_deny σ 3).bind fun r87 =>
    if (zb r87.1) = 0 then (
      some (false, r87.2)
    ) else (
      some (true, r87.2)
    )
  ) else (
    some (true, σ)
  )
set_option maxRecDepth 20000 in
theorem t_CK_set_p78 {X : Zx} {Q : State → Prop} {σ : Sg} {s0 : Int32} {k1 k2 d : Nat} (ok : Zok X cX11_set RX11 (rm_CK_set d) 198 5) (hkR : k1 ≤ d ∧ k2 ≤ zms d)  {out : (Bool × Sg)} (hf : CK_set_p78 σ s0 = some out) (hk : ZrIk cX11_set X Q k1 k2 (zb out.1) out.2) : ZAt X Q k1 k2 78 σ [(0, .ref (X.ad 0))] [.int s0] := by
  unfold CK_set_p78 at hf
  refine z_istore (lv' := [(4, .int s0), (0, .ref (X.ad 0))]) ok dX11_set_78 (by decide) rfl ?_
  refine z_iload ok dX11_set_80 0 rfl ?_
  refine z_if_ne (tgt := 93) ok dX11_set_82 (by decide) hf (fun _ hf => ?_) (fun _ hf => ?_)
  · refine z_aload_n ok dX11_set_85 1 rfl ?_
    refine z_iconst (v := 3) ok dX11_set_86 (by decide) ?_
    refine z_call hf (fun r87 h87 hf => ?_)
    refine z_cV (As := [.int 3]) (rest := []) (w := 0) ok kc_0 zc_11 (c_CK_deny h87) rfl ⟨ml_11_77, w_CK_deny⟩ hy_CK_deny ⟨rfl, rfl⟩ ⟨Nat.le_of_ble_eq_true rfl, Nat.le_of_ble_eq_true rfl⟩ hkR rfl (Nat.le_of_ble_eq_true rfl) dX11_set_87 ?_
    refine z_if_eq (tgt := 97) ok dX11_set_90 (by decide) hf (fun _ hf => ?_) (fun _ hf => ?_)
    · refine z_iconst (v := 0) ok dX11_set_97 (by decide) ?_
      obtain rfl := Option.some.inj hf
      exact hk _ _ dX11_set_98
    · refine z_iconst (v := 1) ok dX11_set_93 (by decide) ?_
      refine z_goto (tgt := 98) ok dX11_set_94 (by decide) ?_
      obtain rfl := Option.some.inj hf
      exact hk _ _ dX11_set_98
  · refine z_iconst (v := 1) ok dX11_set_93 (by decide) ?_
    refine z_goto (tgt := 98) ok dX11_set_94 (by decide) ?_
    obtain rfl := Option.some.inj hf
    exact hk _ _ dX11_set_98
def CK_set (n : Nat) (σ : Sg) (x1 : Int32) (x2 : Int32) (x3 : Int32) : Option ((Bool × Sg) × Nat) :=
  if x1 = 0 then (
    (CK_changeLeak n σ x2 x3).bind fun r31 =>
    (CK_set_p34 r31.1.2 (zb r31.1.1)).bind fun o => some (o, r31.2)
  ) else (
  if x1 = 1 then (
    if x2 = 0 then (
      (CK_changeGives n σ x3).bind fun r43 =>
      (CK_set_p46 r43.1.2 (zb r43.1.1)).bind fun o => some (o, r43.2)
    ) else (
      (CK_set_p53 σ ).bind fun o => some (o, n)
    )
  ) else (
  if x1 = 2 then (
    if x2 = 0 then (
      (CK_changeGain n σ x3).bind fun r63 =>
      (CK_set_p66 r63.1.2 (zb r63.1.1)).bind fun o => some (o, r63.2)
    ) else (
      (CK_set_p73 σ ).bind fun o => some (o, n)
    )
  ) else (
    (CK_set_p78 σ 0).bind fun o => some (o, n)
  )))
set_option maxRecDepth 20000 in
theorem t_CK_set {X : Zx} {Q : State → Prop} {σ : Sg} {x1 : Int32} {x2 : Int32} {x3 : Int32} {out : ((Bool × Sg) × Nat)} (oka : Zoka X cX11_set RX11 (rm_CK_set (out.2 - X.2.2.1.2.2.2)) 198 5 0) (hnn : X.2.2.1.2.2.2 ≤ out.2 ∧ out.2 ≤ 900000)  (hf : CK_set X.2.2.1.2.2.2 σ x1 x2 x3 = some out) (hk : ZrIa cX11_set X Q (zb out.1.1) out.2 out.1.2) : ZAt X Q 0 0 0 σ [(0, .ref (X.ad 0)), (1, .int x1), (2, .int x2), (3, .int x3)] [] := by
  unfold CK_set at hf
  have ok := oka.1
  refine z_iload_n ok dX11_set_0 1 rfl ?_
  refine z_swc (v := 0) hf (fun hf => ?_) (fun n1_0 hf => ?_)
  · refine z_tableIn (tgt := 28) ok dX11_set_1 (by decide) (by decide) rfl (by decide) ?_
    refine z_aload_n ok dX11_set_28 0 rfl ?_
    refine z_iload_n ok dX11_set_29 2 rfl ?_
    refine z_iload_n ok dX11_set_30 3 rfl ?_
    refine z_call hf (fun r31 h31 hf => ?_)
    obtain ⟨o, ho, hf⟩ := zbind hf
    obtain rfl := Option.some.inj hf
    refine z_aV (n' := r31.2) (As := [.int x2, .int x3]) (rest := []) (w := 0) oka (by decide) hnn kc_0 zc_11 (c_CK_changeLeak h31 hnn) rfl ⟨ml_11_364, w_CK_changeLeak⟩ hy_CK_changeLeak ⟨rfl, rfl⟩ ⟨Nat.le_of_ble_eq_true rfl, Nat.le_of_ble_eq_true rfl⟩ ⟨Nat.le_refl _, Nat.le_refl _⟩ rfl (Nat.le_of_ble_eq_true rfl) dX11_set_31 (fun ok => ?_)
    exact z_sub [0] rfl (t_CK_set_p34 ok ⟨Nat.le_refl _, Nat.le_refl _⟩ ho hk)
  refine z_swc (v := 1) hf (fun hf => ?_) (fun n1_1 hf => ?_)
  · refine z_tableIn (tgt := 37) ok dX11_set_1 (by decide) (by decide) rfl (by decide) ?_
    refine z_iload_n ok dX11_set_37 2 rfl ?_
    refine z_if_ne (tgt := 53) ok dX11_set_38 (by decide) hf (fun _ hf => ?_) (fun _ hf => ?_)
    · refine z_aload_n ok dX11_set_41 0 rfl ?_
      refine z_iload_n ok dX11_set_42 3 rfl ?_
      refine z_call hf (fun r43 h43 hf => ?_)
      obtain ⟨o, ho, hf⟩ := zbind hf
      obtain rfl := Option.some.inj hf
      refine z_aV (n' := r43.2) (As := [.int x3]) (rest := []) (w := 0) oka (by decide) hnn kc_0 zc_11 (c_CK_changeGives h43 hnn) rfl ⟨ml_11_368, w_CK_changeGives⟩ hy_CK_changeGives ⟨rfl, rfl⟩ ⟨Nat.le_of_ble_eq_true rfl, Nat.le_of_ble_eq_true rfl⟩ ⟨Nat.le_refl _, Nat.le_refl _⟩ rfl (Nat.le_of_ble_eq_true rfl) dX11_set_43 (fun ok => ?_)
      exact z_sub [0] rfl (t_CK_set_p46 ok ⟨Nat.le_refl _, Nat.le_refl _⟩ ho hk)
    · obtain ⟨o, ho, hf⟩ := zbind hf
      obtain rfl := Option.some.inj hf
      exact z_sub [0] rfl (t_CK_set_p53 ok ⟨Nat.zero_le _, Nat.zero_le _⟩ ho (ZrIa.z hk))
  refine z_swc (v := 2) hf (fun hf => ?_) (fun n1_2 hf => ?_)
  · refine z_tableIn (tgt := 57) ok dX11_set_1 (by decide) (by decide) rfl (by decide) ?_
    refine z_iload_n ok dX11_set_57 2 rfl ?_
    refine z_if_ne (tgt := 73) ok dX11_set_58 (by decide) hf (fun _ hf => ?_) (fun _ hf => ?_)
    · refine z_aload_n ok dX11_set_61 0 rfl ?_
      refine z_iload_n ok dX11_set_62 3 rfl ?_
      refine z_call hf (fun r63 h63 hf => ?_)
      obtain ⟨o, ho, hf⟩ := zbind hf
      obtain rfl := Option.some.inj hf
      refine z_aV (n' := r63.2) (As := [.int x3]) (rest := []) (w := 0) oka (by decide) hnn kc_0 zc_11 (c_CK_changeGain h63 hnn) rfl ⟨ml_11_371, w_CK_changeGain⟩ hy_CK_changeGain ⟨rfl, rfl⟩ ⟨Nat.le_of_ble_eq_true rfl, Nat.le_of_ble_eq_true rfl⟩ ⟨Nat.le_refl _, Nat.le_refl _⟩ rfl (Nat.le_of_ble_eq_true rfl) dX11_set_63 (fun ok => ?_)
      exact z_sub [0] rfl (t_CK_set_p66 ok ⟨Nat.le_refl _, Nat.le_refl _⟩ ho hk)
    · obtain ⟨o, ho, hf⟩ := zbind hf
      obtain rfl := Option.some.inj hf
      exact z_sub [0] rfl (t_CK_set_p73 ok ⟨Nat.zero_le _, Nat.zero_le _⟩ ho (ZrIa.z hk))
  refine z_tableOut (tgt := 77) ok dX11_set_1 (zsw_out 0 2 [0, 1, 2] (by decide) (List.forall_mem_cons.mpr ⟨n1_0, (List.forall_mem_cons.mpr ⟨n1_1, (List.forall_mem_cons.mpr ⟨n1_2, (fun _ h => absurd h List.not_mem_nil)⟩)⟩)⟩)) (by decide) ?_
  refine z_iconst (v := 0) ok dX11_set_77 (by decide) ?_
  obtain ⟨o, ho, hf⟩ := zbind hf
  obtain rfl := Option.some.inj hf
  exact z_sub [0] rfl (t_CK_set_p78 ok ⟨Nat.zero_le _, Nat.zero_le _⟩ ho (ZrIa.z hk))
theorem c_CK_set {n : Nat} {σ : Sg} {x1 : Int32} {x2 : Int32} {x3 : Int32} {r : (Bool × Sg) × Nat} (h : CK_set n σ x1 x2 x3 = some r) (hnn : n ≤ r.2 ∧ r.2 ≤ 900000) : ZaI yX11_set cX11_set 5 .boolean (rm_CK_set (r.2 - n)) 198 (fun ad => [.ref (ad 0), .int x1, .int x2, .int x3]) n σ (zb r.1.1) r.2 r.1.2 :=
  zmetaI pn_11 rfl (fun _ => rfl) (fun _ => Nat.le_of_ble_eq_true rfl) (zb_nar _) (by decide) hnn (fun X Q e oka hk => by subst e; exact t_CK_set oka hnn h hk)
