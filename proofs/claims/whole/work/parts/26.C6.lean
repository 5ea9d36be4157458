theorem wc_7_70 : Cond.constant RX7 70 1000000000 ∈ zT := zT_of (i := 1281) (by decide +kernel) rfl
theorem wl_11_428 : Cond.constantLong RX11 428 1103515245 ∈ zT := zT_of (i := 1317) (by decide +kernel) rfl
theorem wl_11_430 : Cond.constantLong RX11 430 12345 ∈ zT := zT_of (i := 1318) (by decide +kernel) rfl
theorem wl_11_432 : Cond.constantLong RX11 432 2147483647 ∈ zT := zT_of (i := 1319) (by decide +kernel) rfl
theorem fl_0_107 : Cond.fieldLink RX0 107 (TX9 5).1 (TX9 5).2.1 (TX9 5).2.2.1 ∈ zT := zT_of (i := 402) (by decide +kernel) rfl
theorem fl_0_110 : Cond.fieldLink RX0 110 (TX2 5).1 (TX2 5).2.1 (TX2 5).2.2.1 ∈ zT := zT_of (i := 361) (by decide +kernel) rfl
theorem fl_0_44 : Cond.fieldLink RX0 44 (TX9 0).1 (TX9 0).2.1 (TX9 0).2.2.1 ∈ zT := zT_of (i := 383) (by decide +kernel) rfl
theorem fl_0_49 : Cond.fieldLink RX0 49 (TX10 3).1 (TX10 3).2.1 (TX10 3).2.2.1 ∈ zT := zT_of (i := 259) (by decide +kernel) rfl
theorem fl_0_54 : Cond.fieldLink RX0 54 (TX9 11).1 (TX9 11).2.1 (TX9 11).2.2.1 ∈ zT := zT_of (i := 416) (by decide +kernel) rfl
theorem fl_0_58 : Cond.fieldLink RX0 58 (TX2 1).1 (TX2 1).2.1 (TX2 1).2.2.1 ∈ zT := zT_of (i := 347) (by decide +kernel) rfl
theorem fl_0_63 : Cond.fieldLink RX0 63 (TX2 2).1 (TX2 2).2.1 (TX2 2).2.2.1 ∈ zT := zT_of (i := 350) (by decide +kernel) rfl
theorem fl_0_66 : Cond.fieldLink RX0 66 (TX2 0).1 (TX2 0).2.1 (TX2 0).2.2.1 ∈ zT := zT_of (i := 344) (by decide +kernel) rfl
theorem fl_0_69 : Cond.fieldLink RX0 69 (TX2 3).1 (TX2 3).2.1 (TX2 3).2.2.1 ∈ zT := zT_of (i := 353) (by decide +kernel) rfl
theorem fl_0_75 : Cond.fieldLink RX0 75 (TX9 3).1 (TX9 3).2.1 (TX9 3).2.2.1 ∈ zT := zT_of (i := 393) (by decide +kernel) rfl
theorem fl_0_89 : Cond.fieldLink RX0 89 (TX9 4).1 (TX9 4).2.1 (TX9 4).2.2.1 ∈ zT := zT_of (i := 396) (by decide +kernel) rfl
theorem fl_0_92 : Cond.fieldLink RX0 92 (TX2 6).1 (TX2 6).2.1 (TX2 6).2.2.1 ∈ zT := zT_of (i := 363) (by decide +kernel) rfl
theorem fl_0_98 : Cond.fieldLink RX0 98 (TX2 4).1 (TX2 4).2.1 (TX2 4).2.2.1 ∈ zT := zT_of (i := 357) (by decide +kernel) rfl
theorem fl_0_99 : Cond.fieldLink RX0 99 (TX10 5).1 (TX10 5).2.1 (TX10 5).2.2.1 ∈ zT := zT_of (i := 269) (by decide +kernel) rfl
theorem fl_11_339 : Cond.fieldLink RX11 339 (TX7 4).1 (TX7 4).2.1 (TX7 4).2.2.1 ∈ zT := zT_of (i := 555) (by decide +kernel) rfl
theorem fl_11_342 : Cond.fieldLink RX11 342 (TX7 5).1 (TX7 5).2.1 (TX7 5).2.2.1 ∈ zT := zT_of (i := 557) (by decide +kernel) rfl
theorem fl_7_18 : Cond.fieldLink RX7 18 (TX7 5).1 (TX7 5).2.1 (TX7 5).2.2.1 ∈ zT := zT_of (i := 556) (by decide +kernel) rfl
theorem fl_7_23 : Cond.fieldLink RX7 23 (TX7 6).1 (TX7 6).2.1 (TX7 6).2.2.1 ∈ zT := zT_of (i := 558) (by decide +kernel) rfl
theorem fl_7_45 : Cond.fieldLink RX7 45 (TX7 4).1 (TX7 4).2.1 (TX7 4).2.2.1 ∈ zT := zT_of (i := 554) (by decide +kernel) rfl
theorem fl_7_51 : Cond.fieldLink RX7 51 (TX4 0).1 (TX4 0).2.1 (TX4 0).2.2.1 ∈ zT := zT_of (i := 513) (by decide +kernel) rfl
theorem fl_7_55 : Cond.fieldLink RX7 55 (TX9 5).1 (TX9 5).2.1 (TX9 5).2.2.1 ∈ zT := zT_of (i := 400) (by decide +kernel) rfl
theorem fl_7_63 : Cond.fieldLink RX7 63 (TX9 3).1 (TX9 3).2.1 (TX9 3).2.2.1 ∈ zT := zT_of (i := 391) (by decide +kernel) rfl
theorem ml_0_103 : Cond.methodLink RX0 103 yX0_isOffWanted ∈ zT := zT_of (i := 1333) (by decide +kernel) rfl
theorem ml_0_22 : Cond.methodLink RX0 22 arraycopyName ∈ zT := zT_of (i := 1309) (by decide +kernel) rfl
theorem ml_0_72 : Cond.methodLink RX0 72 yX10_bandOf ∈ zT := zT_of (i := 1329) (by decide +kernel) rfl
theorem ml_0_78 : Cond.methodLink RX0 78 yX0_causeBelow ∈ zT := zT_of (i := 1330) (by decide +kernel) rfl
theorem ml_0_82 : Cond.methodLink RX0 82 yX0_causeAbove ∈ zT := zT_of (i := 1337) (by decide +kernel) rfl
theorem ml_0_85 : Cond.methodLink RX0 85 yX0_keepAlarm ∈ zT := zT_of (i := 1340) (by decide +kernel) rfl
theorem ml_0_95 : Cond.methodLink RX0 95 yX10_heldIn ∈ zT := zT_of (i := 1336) (by decide +kernel) rfl
theorem ml_1_30 : Cond.methodLink RX1 30 yX9_copyFrom ∈ zT := zT_of (i := 1304) (by decide +kernel) rfl
theorem ml_1_37 : Cond.methodLink RX1 37 yX0_copyFrom ∈ zT := zT_of (i := 1305) (by decide +kernel) rfl
theorem ml_11_327 : Cond.methodLink RX11 327 yX7_isTelling ∈ zT := zT_of (i := 1250) (by decide +kernel) rfl
theorem ml_11_331 : Cond.methodLink RX11 331 yX7_take ∈ zT := zT_of (i := 1253) (by decide +kernel) rfl
theorem ml_11_335 : Cond.methodLink RX11 335 yX7_findFits ∈ zT := zT_of (i := 1262) (by decide +kernel) rfl
theorem ml_11_345 : Cond.methodLink RX11 345 yX7_telling ∈ zT := zT_of (i := 1277) (by decide +kernel) rfl
theorem ml_11_348 : Cond.methodLink RX11 348 yX7_mostAlike ∈ zT := zT_of (i := 1287) (by decide +kernel) rfl
theorem ml_7_39 : Cond.methodLink RX7 39 yX4_look ∈ zT := zT_of (i := 1266) (by decide +kernel) rfl
theorem ml_7_48 : Cond.methodLink RX7 48 yX4_lookAgain ∈ zT := zT_of (i := 1267) (by decide +kernel) rfl
theorem ml_7_60 : Cond.methodLink RX7 60 yX4_runOne ∈ zT := zT_of (i := 1268) (by decide +kernel) rfl
theorem ml_7_66 : Cond.methodLink RX7 66 yX7_isAsSeen ∈ zT := zT_of (i := 1269) (by decide +kernel) rfl
theorem ml_7_71 : Cond.methodLink RX7 71 yX7_mostAlike ∈ zT := zT_of (i := 1282) (by decide +kernel) rfl
theorem ml_7_75 : Cond.methodLink RX7 75 Lib.Math.max.name ∈ zT := zT_of (i := 1286) (by decide +kernel) rfl
theorem zI_Moment_22 {w N : Nat} (h : zI_Moment w N) : zI_Log (w + 22) N := by
  obtain ⟨h0, h1, h2, h3, h4, h5, h6, h7, h8, h9, h10, h11, h12, h13, h14, h15, h16, h17, h18, h19, h20, h21, h22, h23, h24⟩ := h
  exact ⟨h22, h23, h24⟩
theorem w_Log_causeAbove : Cond.static yX0_causeAbove ∈ zT ∧ Cond.initialized yX0_causeAbove.cls ∈ zT ∧ Cond.code yX0_causeAbove cX0_causeAbove 3 (some .int) ∈ zT := ⟨zT_of (i := 1338) (by decide +kernel) rfl, zT_of (i := 131) (by decide +kernel) rfl, zT_of (i := 1339) (by decide +kernel) rfl⟩
theorem hy_Log_causeAbove : yX0_causeAbove.cls ≠ "java/lang/invoke/MethodHandle" ∧ yX0_causeAbove.cls ≠ "java/lang/invoke/VarHandle" ∧ (parseMethodDescriptor yX0_causeAbove.desc).map (fun d => d.parameters.length) = some 3 := by decide +kernel
theorem w_Log_causeBelow : Cond.static yX0_causeBelow ∈ zT ∧ Cond.initialized yX0_causeBelow.cls ∈ zT ∧ Cond.code yX0_causeBelow cX0_causeBelow 3 (some .int) ∈ zT := ⟨zT_of (i := 1331) (by decide +kernel) rfl, zT_of (i := 131) (by decide +kernel) rfl, zT_of (i := 1332) (by decide +kernel) rfl⟩
theorem hy_Log_causeBelow : yX0_causeBelow.cls ≠ "java/lang/invoke/MethodHandle" ∧ yX0_causeBelow.cls ≠ "java/lang/invoke/VarHandle" ∧ (parseMethodDescriptor yX0_causeBelow.desc).map (fun d => d.parameters.length) = some 3 := by decide +kernel
theorem w_Log_copyFrom : Cond.instanceMethod yX0_copyFrom ∈ zT ∧ Cond.selects yX0_copyFrom.cls yX0_copyFrom yX0_copyFrom ∈ zT ∧ Cond.initialized yX0_copyFrom.cls ∈ zT ∧ Cond.code yX0_copyFrom cX0_copyFrom 2 none ∈ zT := ⟨zT_of (i := 1306) (by decide +kernel) rfl, zT_of (i := 1307) (by decide +kernel) rfl, zT_of (i := 131) (by decide +kernel) rfl, zT_of (i := 1308) (by decide +kernel) rfl⟩
theorem hy_Log_copyFrom : yX0_copyFrom.cls ≠ "java/lang/invoke/MethodHandle" ∧ yX0_copyFrom.cls ≠ "java/lang/invoke/VarHandle" ∧ (parseMethodDescriptor yX0_copyFrom.desc).map (fun d => d.parameters.length) = some 1 := by decide +kernel
theorem w_Log_isOffWanted : Cond.static yX0_isOffWanted ∈ zT ∧ Cond.initialized yX0_isOffWanted.cls ∈ zT ∧ Cond.code yX0_isOffWanted cX0_isOffWanted 3 (some .boolean) ∈ zT := ⟨zT_of (i := 1334) (by decide +kernel) rfl, zT_of (i := 131) (by decide +kernel) rfl, zT_of (i := 1335) (by decide +kernel) rfl⟩
theorem hy_Log_isOffWanted : yX0_isOffWanted.cls ≠ "java/lang/invoke/MethodHandle" ∧ yX0_isOffWanted.cls ≠ "java/lang/invoke/VarHandle" ∧ (parseMethodDescriptor yX0_isOffWanted.desc).map (fun d => d.parameters.length) = some 3 := by decide +kernel
theorem w_Log_keepAlarm : Cond.instanceMethod yX0_keepAlarm ∈ zT ∧ Cond.selects yX0_keepAlarm.cls yX0_keepAlarm yX0_keepAlarm ∈ zT ∧ Cond.initialized yX0_keepAlarm.cls ∈ zT ∧ Cond.code yX0_keepAlarm cX0_keepAlarm 5 none ∈ zT := ⟨zT_of (i := 1342) (by decide +kernel) rfl, zT_of (i := 51) (by decide +kernel) rfl, zT_of (i := 131) (by decide +kernel) rfl, zT_of (i := 1343) (by decide +kernel) rfl⟩
theorem hy_Log_keepAlarm : yX0_keepAlarm.cls ≠ "java/lang/invoke/MethodHandle" ∧ yX0_keepAlarm.cls ≠ "java/lang/invoke/VarHandle" ∧ (parseMethodDescriptor yX0_keepAlarm.desc).map (fun d => d.parameters.length) = some 3 := by decide +kernel
theorem w_Log_noteStep : Cond.instanceMethod yX0_noteStep ∈ zT ∧ Cond.selects yX0_noteStep.cls yX0_noteStep yX0_noteStep ∈ zT ∧ Cond.initialized yX0_noteStep.cls ∈ zT ∧ Cond.code yX0_noteStep cX0_noteStep 8 none ∈ zT := ⟨zT_of (i := 1326) (by decide +kernel) rfl, zT_of (i := 1327) (by decide +kernel) rfl, zT_of (i := 131) (by decide +kernel) rfl, zT_of (i := 1328) (by decide +kernel) rfl⟩
theorem hy_Log_noteStep : yX0_noteStep.cls ≠ "java/lang/invoke/MethodHandle" ∧ yX0_noteStep.cls ≠ "java/lang/invoke/VarHandle" ∧ (parseMethodDescriptor yX0_noteStep.desc).map (fun d => d.parameters.length) = some 2 := by decide +kernel
theorem w_Moment_copyFrom : Cond.instanceMethod yX1_copyFrom ∈ zT ∧ Cond.selects yX1_copyFrom.cls yX1_copyFrom yX1_copyFrom ∈ zT ∧ Cond.initialized yX1_copyFrom.cls ∈ zT ∧ Cond.code yX1_copyFrom cX1_copyFrom 2 none ∈ zT := ⟨zT_of (i := 1301) (by decide +kernel) rfl, zT_of (i := 1302) (by decide +kernel) rfl, zT_of (i := 128) (by decide +kernel) rfl, zT_of (i := 1303) (by decide +kernel) rfl⟩
theorem hy_Moment_copyFrom : yX1_copyFrom.cls ≠ "java/lang/invoke/MethodHandle" ∧ yX1_copyFrom.cls ≠ "java/lang/invoke/VarHandle" ∧ (parseMethodDescriptor yX1_copyFrom.desc).map (fun d => d.parameters.length) = some 1 := by decide +kernel
theorem w_Orders_drop : Cond.instanceMethod yX3_drop ∈ zT ∧ Cond.selects yX3_drop.cls yX3_drop yX3_drop ∈ zT ∧ Cond.initialized yX3_drop.cls ∈ zT ∧ Cond.code yX3_drop cX3_drop 3 none ∈ zT := ⟨zT_of (i := 1358) (by decide +kernel) rfl, zT_of (i := 1359) (by decide +kernel) rfl, zT_of (i := 126) (by decide +kernel) rfl, zT_of (i := 1360) (by decide +kernel) rfl⟩
theorem hy_Orders_drop : yX3_drop.cls ≠ "java/lang/invoke/MethodHandle" ∧ yX3_drop.cls ≠ "java/lang/invoke/VarHandle" ∧ (parseMethodDescriptor yX3_drop.desc).map (fun d => d.parameters.length) = some 1 := by decide +kernel
theorem w_Sight_findFits : Cond.instanceMethod yX7_findFits ∈ zT ∧ Cond.selects yX7_findFits.cls yX7_findFits yX7_findFits ∈ zT ∧ Cond.initialized yX7_findFits.cls ∈ zT ∧ Cond.code yX7_findFits cX7_findFits 6 none ∈ zT := ⟨zT_of (i := 1263) (by decide +kernel) rfl, zT_of (i := 1264) (by decide +kernel) rfl, zT_of (i := 134) (by decide +kernel) rfl, zT_of (i := 1265) (by decide +kernel) rfl⟩
theorem hy_Sight_findFits : yX7_findFits.cls ≠ "java/lang/invoke/MethodHandle" ∧ yX7_findFits.cls ≠ "java/lang/invoke/VarHandle" ∧ (parseMethodDescriptor yX7_findFits.desc).map (fun d => d.parameters.length) = some 3 := by decide +kernel
theorem w_Sight_isAsSeen : Cond.instanceMethod yX7_isAsSeen ∈ zT ∧ Cond.selects yX7_isAsSeen.cls yX7_isAsSeen yX7_isAsSeen ∈ zT ∧ Cond.initialized yX7_isAsSeen.cls ∈ zT ∧ Cond.code yX7_isAsSeen cX7_isAsSeen 3 (some .boolean) ∈ zT := ⟨zT_of (i := 1271) (by decide +kernel) rfl, zT_of (i := 47) (by decide +kernel) rfl, zT_of (i := 134) (by decide +kernel) rfl, zT_of (i := 1272) (by decide +kernel) rfl⟩
theorem hy_Sight_isAsSeen : yX7_isAsSeen.cls ≠ "java/lang/invoke/MethodHandle" ∧ yX7_isAsSeen.cls ≠ "java/lang/invoke/VarHandle" ∧ (parseMethodDescriptor yX7_isAsSeen.desc).map (fun d => d.parameters.length) = some 1 := by decide +kernel
theorem w_Sight_mostAlike : Cond.instanceMethod yX7_mostAlike ∈ zT ∧ Cond.selects yX7_mostAlike.cls yX7_mostAlike yX7_mostAlike ∈ zT ∧ Cond.initialized yX7_mostAlike.cls ∈ zT ∧ Cond.code yX7_mostAlike cX7_mostAlike 6 (some .int) ∈ zT := ⟨zT_of (i := 1283) (by decide +kernel) rfl, zT_of (i := 1284) (by decide +kernel) rfl, zT_of (i := 134) (by decide +kernel) rfl, zT_of (i := 1285) (by decide +kernel) rfl⟩
theorem hy_Sight_mostAlike : yX7_mostAlike.cls ≠ "java/lang/invoke/MethodHandle" ∧ yX7_mostAlike.cls ≠ "java/lang/invoke/VarHandle" ∧ (parseMethodDescriptor yX7_mostAlike.desc).map (fun d => d.parameters.length) = some 1 := by decide +kernel
theorem w_Sight_telling : Cond.instanceMethod yX7_telling ∈ zT ∧ Cond.selects yX7_telling.cls yX7_telling yX7_telling ∈ zT ∧ Cond.initialized yX7_telling.cls ∈ zT ∧ Cond.code yX7_telling cX7_telling 5 (some .int) ∈ zT := ⟨zT_of (i := 1278) (by decide +kernel) rfl, zT_of (i := 1279) (by decide +kernel) rfl, zT_of (i := 134) (by decide +kernel) rfl, zT_of (i := 1280) (by decide +kernel) rfl⟩
theorem hy_Sight_telling : yX7_telling.cls ≠ "java/lang/invoke/MethodHandle" ∧ yX7_telling.cls ≠ "java/lang/invoke/VarHandle" ∧ (parseMethodDescriptor yX7_telling.desc).map (fun d => d.parameters.length) = some 0 := by decide +kernel
theorem w_Water_rainOn : Cond.instanceMethod yX9_rainOn ∈ zT ∧ Cond.selects yX9_rainOn.cls yX9_rainOn yX9_rainOn ∈ zT ∧ Cond.initialized yX9_rainOn.cls ∈ zT ∧ Cond.code yX9_rainOn cX9_rainOn 3 none ∈ zT := ⟨zT_of (i := 1321) (by decide +kernel) rfl, zT_of (i := 1322) (by decide +kernel) rfl, zT_of (i := 129) (by decide +kernel) rfl, zT_of (i := 1323) (by decide +kernel) rfl⟩
theorem hy_Water_rainOn : yX9_rainOn.cls ≠ "java/lang/invoke/MethodHandle" ∧ yX9_rainOn.cls ≠ "java/lang/invoke/VarHandle" ∧ (parseMethodDescriptor yX9_rainOn.desc).map (fun d => d.parameters.length) = some 2 := by decide +kernel
theorem w_CK_draw : Cond.instanceMethod yX11_draw ∈ zT ∧ Cond.selects yX11_draw.cls yX11_draw yX11_draw ∈ zT ∧ Cond.initialized yX11_draw.cls ∈ zT ∧ Cond.code yX11_draw cX11_draw 2 (some .int) ∈ zT := ⟨zT_of (i := 1315) (by decide +kernel) rfl, zT_of (i := 50) (by decide +kernel) rfl, zT_of (i := 123) (by decide +kernel) rfl, zT_of (i := 1316) (by decide +kernel) rfl⟩
theorem hy_CK_draw : yX11_draw.cls ≠ "java/lang/invoke/MethodHandle" ∧ yX11_draw.cls ≠ "java/lang/invoke/VarHandle" ∧ (parseMethodDescriptor yX11_draw.desc).map (fun d => d.parameters.length) = some 1 := by decide +kernel
theorem w_CK_leaks : Cond.instanceMethod yX11_leaks ∈ zT ∧ Cond.selects yX11_leaks.cls yX11_leaks yX11_leaks ∈ zT ∧ Cond.initialized yX11_leaks.cls ∈ zT ∧ Cond.code yX11_leaks cX11_leaks 2 (some .int) ∈ zT := ⟨zT_of (i := 1259) (by decide +kernel) rfl, zT_of (i := 1260) (by decide +kernel) rfl, zT_of (i := 123) (by decide +kernel) rfl, zT_of (i := 1261) (by decide +kernel) rfl⟩
theorem hy_CK_leaks : yX11_leaks.cls ≠ "java/lang/invoke/MethodHandle" ∧ yX11_leaks.cls ≠ "java/lang/invoke/VarHandle" ∧ (parseMethodDescriptor yX11_leaks.desc).map (fun d => d.parameters.length) = some 1 := by decide +kernel
theorem w_CK_see : Cond.instanceMethod yX11_see ∈ zT ∧ Cond.selects yX11_see.cls yX11_see yX11_see ∈ zT ∧ Cond.initialized yX11_see.cls ∈ zT ∧ Cond.code yX11_see cX11_see 3 (some .int) ∈ zT := ⟨zT_of (i := 1247) (by decide +kernel) rfl, zT_of (i := 1248) (by decide +kernel) rfl, zT_of (i := 123) (by decide +kernel) rfl, zT_of (i := 1249) (by decide +kernel) rfl⟩
theorem hy_CK_see : yX11_see.cls ≠ "java/lang/invoke/MethodHandle" ∧ yX11_see.cls ≠ "java/lang/invoke/VarHandle" ∧ (parseMethodDescriptor yX11_see.desc).map (fun d => d.parameters.length) = some 1 := by decide +kernel
theorem w_CK_seed : Cond.instanceMethod yX11_seed ∈ zT ∧ Cond.selects yX11_seed.cls yX11_seed yX11_seed ∈ zT ∧ Cond.initialized yX11_seed.cls ∈ zT ∧ Cond.code yX11_seed cX11_seed 2 (some .boolean) ∈ zT := ⟨zT_of (i := 1386) (by decide +kernel) rfl, zT_of (i := 1387) (by decide +kernel) rfl, zT_of (i := 123) (by decide +kernel) rfl, zT_of (i := 1388) (by decide +kernel) rfl⟩
theorem hy_CK_seed : yX11_seed.cls ≠ "java/lang/invoke/MethodHandle" ∧ yX11_seed.cls ≠ "java/lang/invoke/VarHandle" ∧ (parseMethodDescriptor yX11_seed.desc).map (fun d => d.parameters.length) = some 1 := by decide +kernel
theorem w_CK_status : Cond.instanceMethod yX11_status ∈ zT ∧ Cond.selects yX11_status.cls yX11_status yX11_status ∈ zT ∧ Cond.initialized yX11_status.cls ∈ zT ∧ Cond.code yX11_status cX11_status 2 (some .int) ∈ zT := ⟨zT_of (i := 1390) (by decide +kernel) rfl, zT_of (i := 1391) (by decide +kernel) rfl, zT_of (i := 123) (by decide +kernel) rfl, zT_of (i := 1392) (by decide +kernel) rfl⟩
theorem hy_CK_status : yX11_status.cls ≠ "java/lang/invoke/MethodHandle" ∧ yX11_status.cls ≠ "java/lang/invoke/VarHandle" ∧ (parseMethodDescriptor yX11_status.desc).map (fun d => d.parameters.length) = some 1 := by decide +kernel
theorem w_CK_tells : Cond.instanceMethod yX11_tells ∈ zT ∧ Cond.selects yX11_tells.cls yX11_tells yX11_tells ∈ zT ∧ Cond.initialized yX11_tells.cls ∈ zT ∧ Cond.code yX11_tells cX11_tells 3 (some .int) ∈ zT := ⟨zT_of (i := 1274) (by decide +kernel) rfl, zT_of (i := 1275) (by decide +kernel) rfl, zT_of (i := 123) (by decide +kernel) rfl, zT_of (i := 1276) (by decide +kernel) rfl⟩
theorem hy_CK_tells : yX11_tells.cls ≠ "java/lang/invoke/MethodHandle" ∧ yX11_tells.cls ≠ "java/lang/invoke/VarHandle" ∧ (parseMethodDescriptor yX11_tells.desc).map (fun d => d.parameters.length) = some 1 := by decide +kernel
theorem dX11_see_0 : decode cX11_see 0 = .ok (.aload_n 0, 1) := by decide +kernel
theorem dX11_see_1 : decode cX11_see 1 = .ok (.getfield 66, 3) := by decide +kernel
theorem dX11_see_4 : decode cX11_see 4 = .ok (.istore_n 2, 1) := by decide +kernel
theorem dX11_see_5 : decode cX11_see 5 = .ok (.aload_n 0, 1) := by decide +kernel
theorem dX11_see_6 : decode cX11_see 6 = .ok (.iconst 0, 1) := by decide +kernel
theorem dX11_see_7 : decode cX11_see 7 = .ok (.putfield 66, 3) := by decide +kernel
theorem dX11_see_10 : decode cX11_see 10 = .ok (.aload_n 0, 1) := by decide +kernel
theorem dX11_see_11 : decode cX11_see 11 = .ok (.iload_n 1, 1) := by decide +kernel
theorem dX11_see_12 : decode cX11_see 12 = .ok (.invokevirtual 154, 3) := by decide +kernel
theorem dX11_see_15 : decode cX11_see 15 = .ok (.ifCond .eq 14, 3) := by decide +kernel
theorem dX11_see_18 : decode cX11_see 18 = .ok (.aload_n 0, 1) := by decide +kernel
theorem dX11_see_19 : decode cX11_see 19 = .ok (.getfield 9, 3) := by decide +kernel
theorem dX11_see_22 : decode cX11_see 22 = .ok (.iload_n 2, 1) := by decide +kernel
theorem dX11_see_23 : decode cX11_see 23 = .ok (.invokestatic 327, 3) := by decide +kernel
theorem dX11_see_26 : decode cX11_see 26 = .ok (.ifCond .ne 9, 3) := by decide +kernel
theorem dX11_see_29 : decode cX11_see 29 = .ok (.aload_n 0, 1) := by decide +kernel
theorem dX11_see_30 : decode cX11_see 30 = .ok (.iconst 5, 1) := by decide +kernel
theorem dX11_see_31 : decode cX11_see 31 = .ok (.invokevirtual 69, 3) := by decide +kernel
theorem dX11_see_34 : decode cX11_see 34 = .ok (.ireturn, 1) := by decide +kernel
theorem dX11_see_35 : decode cX11_see 35 = .ok (.aload_n 0, 1) := by decide +kernel
theorem dX11_see_36 : decode cX11_see 36 = .ok (.getfield 55, 3) := by decide +kernel
theorem dX11_see_39 : decode cX11_see 39 = .ok (.iload_n 1, 1) := by decide +kernel
theorem dX11_see_40 : decode cX11_see 40 = .ok (.aload_n 0, 1) := by decide +kernel
theorem dX11_see_41 : decode cX11_see 41 = .ok (.getfield 9, 3) := by decide +kernel
theorem dX11_see_44 : decode cX11_see 44 = .ok (.iload_n 2, 1) := by decide +kernel
theorem dX11_see_45 : decode cX11_see 45 = .ok (.invokevirtual 331, 3) := by decide +kernel
theorem dX11_see_48 : decode cX11_see 48 = .ok (.aload_n 0, 1) := by decide +kernel
theorem dX11_see_49 : decode cX11_see 49 = .ok (.getfield 55, 3) := by decide +kernel
theorem dX11_see_52 : decode cX11_see 52 = .ok (.getfield 102, 3) := by decide +kernel
theorem dX11_see_55 : decode cX11_see 55 = .ok (.ireturn, 1) := by decide +kernel
abbrev rm_CK_see : Room := { frames := 2, cells := 0, slots := 0, locals := 45 }
def CK_see (σ : Sg) (x1 : Int32) : Option (Int32 × Sg) :=
  zgt σ 0 1 fun v1 =>
  zpt σ 0 1 0 fun σ7 =>
  (CK_isPool σ7 x1).bind fun r12 =>
  if (zb r12) = 0 then (
    (CK_refuse σ7 5).bind fun r31 =>
    some (r31.1, r31.2)
  ) else (
    (Sight_isTelling σ7 1 1600 v1).bind fun r23 =>
    if (zb r23) = 0 then (
      (CK_refuse σ7 5).bind fun r31 =>
      some (r31.1, r31.2)
    ) else (
      (Sight_take σ7 x1 1 1600 v1).bind fun r45 =>
      zgt r45 124 0 fun v52 =>
      some (v52, r45)
    )
  )
set_option maxRecDepth 20000 in
theorem t_CK_see {X : Zx} {Q : State → Prop} {σ : Sg} {x1 : Int32} (ok : Zok X cX11_see RX11 rm_CK_see 198 3)  {out : (Int32 × Sg)} (hf : CK_see σ x1 = some out) (hk : ZrI cX11_see X Q out.1 out.2) : ZAt X Q 0 0 0 σ [(0, .ref (X.ad 0)), (1, .int x1)] [] := by
  unfold CK_see at hf
  refine z_aload_n ok dX11_see_0 0 rfl ?_
  refine z_geti ok kc_0 zc_11 hin_11 1 (by decide) fl_11_66 rfl dX11_see_1 hf (fun v1 hf => ?_)
  refine z_istore_n (lv' := [(2, .int v1), (0, .ref (X.ad 0)), (1, .int x1)]) ok dX11_see_4 (by decide) rfl ?_
  refine z_aload_n ok dX11_see_5 1 rfl ?_
  refine z_iconst (v := 0) ok dX11_see_6 (by decide) ?_
  refine z_puti ok kc_0 zc_11 hin_11 tyX11 tyX11_ok nmX11 1 (by decide) fl_11_66 rfl rfl (tyX11_ok 1 (by decide)) dX11_see_7 hf (fun σ7 hf => ?_)
  refine z_aload_n ok dX11_see_10 1 rfl ?_
  refine z_iload_n ok dX11_see_11 2 rfl ?_
  refine z_call hf (fun r12 h12 hf => ?_)
  refine z_cV (As := [.int x1]) (rest := []) (w := 0) ok kc_0 zc_11 (c_CK_isPool h12) rfl ⟨ml_11_154, w_CK_isPool⟩ hy_CK_isPool ⟨rfl, rfl⟩ ⟨Nat.le_of_ble_eq_true rfl, Nat.le_of_ble_eq_true rfl⟩ ⟨Nat.zero_le _, Nat.zero_le _⟩ rfl (Nat.le_of_ble_eq_true rfl) dX11_see_12 ?_
  refine z_if_eq (tgt := 29) ok dX11_see_15 (by decide) hf (fun _ hf => ?_) (fun _ hf => ?_)
  · refine z_aload_n ok dX11_see_29 1 rfl ?_
    refine z_iconst (v := 5) ok dX11_see_30 (by decide) ?_
    refine z_call hf (fun r31 h31 hf => ?_)
    refine z_cV (As := [.int 5]) (rest := []) (w := 0) ok kc_0 zc_11 (c_CK_refuse h31) rfl ⟨ml_11_69, w_CK_refuse⟩ hy_CK_refuse ⟨rfl, rfl⟩ ⟨Nat.le_of_ble_eq_true rfl, Nat.le_of_ble_eq_true rfl⟩ ⟨Nat.zero_le _, Nat.zero_le _⟩ rfl (Nat.le_of_ble_eq_true rfl) dX11_see_31 ?_
    obtain rfl := Option.some.inj hf
    exact hk _ _ dX11_see_34
  · refine z_aload_n ok dX11_see_18 1 rfl ?_
    refine z_getr (q := 1) ok kc_0 zc_11 hin_11 0 (by decide) fl_11_9 rfl dX11_see_19 ?_
    refine z_iload_n ok dX11_see_22 0 rfl ?_
    refine z_call hf (fun r23 h23 hf => ?_)
    refine z_cS (As := [.ref (X.ad 1), .int v1]) (rest := []) ok (c_Sight_isTelling kc_1 h23) rfl ⟨ml_11_327, w_Sight_isTelling⟩ hy_Sight_isTelling ⟨rfl, rfl⟩ ⟨Nat.le_of_ble_eq_true rfl, Nat.le_of_ble_eq_true rfl⟩ ⟨Nat.zero_le _, Nat.zero_le _⟩ rfl (Nat.le_of_ble_eq_true rfl) dX11_see_23 ?_
    refine z_if_ne (tgt := 35) ok dX11_see_26 (by decide) hf (fun _ hf => ?_) (fun _ hf => ?_)
    · refine z_aload_n ok dX11_see_29 1 rfl ?_
      refine z_iconst (v := 5) ok dX11_see_30 (by decide) ?_
      refine z_call hf (fun r31 h31 hf => ?_)
      refine z_cV (As := [.int 5]) (rest := []) (w := 0) ok kc_0 zc_11 (c_CK_refuse h31) rfl ⟨ml_11_69, w_CK_refuse⟩ hy_CK_refuse ⟨rfl, rfl⟩ ⟨Nat.le_of_ble_eq_true rfl, Nat.le_of_ble_eq_true rfl⟩ ⟨Nat.zero_le _, Nat.zero_le _⟩ rfl (Nat.le_of_ble_eq_true rfl) dX11_see_31 ?_
      obtain rfl := Option.some.inj hf
      exact hk _ _ dX11_see_34
    · refine z_aload_n ok dX11_see_35 1 rfl ?_
      refine z_getr (q := 124) ok kc_0 zc_11 hin_11 13 (by decide) fl_11_55 rfl dX11_see_36 ?_
      refine z_iload_n ok dX11_see_39 2 rfl ?_
      refine z_aload_n ok dX11_see_40 1 rfl ?_
      refine z_getr (q := 1) ok kc_0 zc_11 hin_11 0 (by decide) fl_11_9 rfl dX11_see_41 ?_
      refine z_iload_n ok dX11_see_44 0 rfl ?_
      refine z_call hf (fun r45 h45 hf => ?_)
      refine z_cVv (As := [.int x1, .ref (X.ad 1), .int v1]) (rest := []) (w := 124) ok kc_124 zc_7 (c_Sight_take kc_1 h45) rfl ⟨ml_11_331, w_Sight_take⟩ hy_Sight_take ⟨rfl, rfl⟩ ⟨Nat.le_of_ble_eq_true rfl, Nat.le_of_ble_eq_true rfl⟩ ⟨Nat.zero_le _, Nat.zero_le _⟩ rfl (Nat.le_of_ble_eq_true rfl) dX11_see_45 ?_
      refine z_aload_n ok dX11_see_48 1 rfl ?_
      refine z_getr (q := 124) ok kc_0 zc_11 hin_11 13 (by decide) fl_11_55 rfl dX11_see_49 ?_
      refine z_geti ok kc_124 zc_7 hin_7 0 (by decide) fl_11_102 rfl dX11_see_52 hf (fun v52 hf => ?_)
      obtain rfl := Option.some.inj hf
      exact hk _ _ dX11_see_55
theorem c_CK_see {σ : Sg} {x1 : Int32} {r : (Int32 × Sg)} (h : CK_see σ x1 = some r) : ZcI yX11_see cX11_see 3 .int rm_CK_see 198 (fun ad => [.ref (ad 0), .int x1]) σ r.1 r.2 :=
  zmetI pn_11 rfl (fun _ => rfl) (fun _ => Nat.le_of_ble_eq_true rfl) rfl (fun X Q ok hk => t_CK_see ok h hk)
theorem dX7_isAsSeen_0 : decode cX7_isAsSeen 0 = .ok (.iconst 0, 1) := by decide +kernel
theorem dX7_isAsSeen_1 : decode cX7_isAsSeen 1 = .ok (.istore_n 2, 1) := by decide +kernel
theorem dX7_isAsSeen_2 : decode cX7_isAsSeen 2 = .ok (.iload_n 2, 1) := by decide +kernel
theorem dX7_isAsSeen_3 : decode cX7_isAsSeen 3 = .ok (.aload_n 0, 1) := by decide +kernel
theorem dX7_isAsSeen_4 : decode cX7_isAsSeen 4 = .ok (.getfield 36, 3) := by decide +kernel
theorem dX7_isAsSeen_7 : decode cX7_isAsSeen 7 = .ok (.if_icmp .ge 28, 3) := by decide +kernel
theorem dX7_isAsSeen_10 : decode cX7_isAsSeen 10 = .ok (.aload_n 1, 1) := by decide +kernel
theorem dX7_isAsSeen_11 : decode cX7_isAsSeen 11 = .ok (.aload_n 0, 1) := by decide +kernel
theorem dX7_isAsSeen_12 : decode cX7_isAsSeen 12 = .ok (.getfield 9, 3) := by decide +kernel
theorem dX7_isAsSeen_15 : decode cX7_isAsSeen 15 = .ok (.iload_n 2, 1) := by decide +kernel
theorem dX7_isAsSeen_16 : decode cX7_isAsSeen 16 = .ok (.iaload, 1) := by decide +kernel
theorem dX7_isAsSeen_17 : decode cX7_isAsSeen 17 = .ok (.iaload, 1) := by decide +kernel
theorem dX7_isAsSeen_18 : decode cX7_isAsSeen 18 = .ok (.aload_n 0, 1) := by decide +kernel
theorem dX7_isAsSeen_19 : decode cX7_isAsSeen 19 = .ok (.getfield 15, 3) := by decide +kernel
theorem dX7_isAsSeen_22 : decode cX7_isAsSeen 22 = .ok (.iload_n 2, 1) := by decide +kernel
theorem dX7_isAsSeen_23 : decode cX7_isAsSeen 23 = .ok (.iaload, 1) := by decide +kernel
theorem dX7_isAsSeen_24 : decode cX7_isAsSeen 24 = .ok (.if_icmp .eq 5, 3) := by decide +kernel
theorem dX7_isAsSeen_27 : decode cX7_isAsSeen 27 = .ok (.iconst 0, 1) := by decide +kernel
theorem dX7_isAsSeen_28 : decode cX7_isAsSeen 28 = .ok (.ireturn, 1) := by decide +kernel
theorem dX7_isAsSeen_29 : decode cX7_isAsSeen 29 = .ok (.iinc 2 1, 3) := by decide +kernel
theorem dX7_isAsSeen_32 : decode cX7_isAsSeen 32 = .ok (.goto (-30), 3) := by decide +kernel
theorem dX7_isAsSeen_35 : decode cX7_isAsSeen 35 = .ok (.iconst 1, 1) := by decide +kernel
theorem dX7_isAsSeen_36 : decode cX7_isAsSeen 36 = .ok (.ireturn, 1) := by decide +kernel
abbrev rm_Sight_isAsSeen : Room := { frames := 0, cells := 0, slots := 0, locals := 0 }
def Sight_isAsSeen_l2 (σ : Sg) (a1 : Nat) (n1 : Nat) (x2 : Int32) : Option (Int32 ⊕ (Bool ⊕ Int32)) :=
  zgt σ 124 0 fun v4 =>
  if v4 ≤ x2 then (
    some (.inr (.inr x2))
  ) else (
    zrd σ 125 10 x2 fun v16 =>
    zrd σ a1 n1 v16 fun v17 =>
    zrd σ 126 10 x2 fun v23 =>
    if v17 = v23 then (
      zlt (x2 + 1) fun v29 =>
      some (.inl v29)
    ) else (
      some (.inr (.inl false))
    )
  )
set_option maxRecDepth 20000 in
theorem t_Sight_isAsSeen_l2 {X : Zx} {Q : State → Prop} {σ : Sg} {a1 : Nat} {n1 : Nat} {x2 : Int32} (ok : Zok X cX7_isAsSeen RX7 rm_Sight_isAsSeen 198 3) (ha1 : zk a1 198 (.inr (0, n1, []))) {out : (Int32 ⊕ (Bool ⊕ Int32))} (hf : Sight_isAsSeen_l2 σ a1 n1 x2 = some out) (hk : zout (fun (s : Int32) => ZAt X Q 0 0 2 σ [(0, .ref (X.ad 124)), (1, .ref (X.ad a1)), (2, .int s)] []) (zout (fun (r : Bool) => ZrI cX7_isAsSeen X Q (zb r) σ) (fun (s : Int32) => ZAt X Q 0 0 35 σ [] [])) out) : ZAt X Q 0 0 2 σ [(0, .ref (X.ad 124)), (1, .ref (X.ad a1)), (2, .int x2)] [] := by
  unfold Sight_isAsSeen_l2 at hf
  refine z_iload_n ok dX7_isAsSeen_2 2 rfl ?_
  refine z_aload_n ok dX7_isAsSeen_3 0 rfl ?_
  refine z_geti ok kc_124 zc_7 hin_7 0 (by decide) fl_7_36 rfl dX7_isAsSeen_4 hf (fun v4 hf => ?_)
  refine z_icmp_ge (tgt := 35) ok dX7_isAsSeen_7 (by decide) hf (fun _ hf => ?_) (fun _ hf => ?_)
  · obtain rfl := Option.some.inj hf
    exact z_sub [] rfl hk
  · refine z_aload_n ok dX7_isAsSeen_10 1 rfl ?_
    refine z_aload_n ok dX7_isAsSeen_11 0 rfl ?_
    refine z_getr (q := 125) ok kc_124 zc_7 hin_7 2 (by decide) fl_7_9 rfl dX7_isAsSeen_12 ?_
    refine z_iload_n ok dX7_isAsSeen_15 2 rfl ?_
    refine z_iald ok kc_125 dX7_isAsSeen_16 hf (fun v16 hf => ?_)
    refine z_iald ok ha1 dX7_isAsSeen_17 hf (fun v17 hf => ?_)
    refine z_aload_n ok dX7_isAsSeen_18 0 rfl ?_
    refine z_getr (q := 126) ok kc_124 zc_7 hin_7 3 (by decide) fl_7_15 rfl dX7_isAsSeen_19 ?_
    refine z_iload_n ok dX7_isAsSeen_22 2 rfl ?_
    refine z_iald ok kc_126 dX7_isAsSeen_23 hf (fun v23 hf => ?_)
    refine z_icmp_eq (tgt := 29) ok dX7_isAsSeen_24 (by decide) hf (fun _ hf => ?_) (fun _ hf => ?_)
    · refine z_iinc (w := 1) (lv' := fun v29 => [(2, .int v29), (0, .ref (X.ad 124)), (1, .ref (X.ad a1))]) ok dX7_isAsSeen_29 2 rfl (by decide) (by decide) (fun _ => rfl) hf (fun v29 hf => ?_)
      refine z_goto (tgt := 2) ok dX7_isAsSeen_32 (by decide) ?_
      obtain rfl := Option.some.inj hf
      exact z_sub [1, 2, 0] rfl hk
    · refine z_iconst (v := 0) ok dX7_isAsSeen_27 (by decide) ?_
      obtain rfl := Option.some.inj hf
      exact hk _ _ dX7_isAsSeen_28
def Sight_isAsSeen (σ : Sg) (a1 : Nat) (n1 : Nat) : Option Bool :=
  zlt 0 fun v1 =>
  (zit (fun (s : Int32) => Sight_isAsSeen_l2 σ a1 n1 s) zFU v1).bind fun r => r.elim (fun r =>
  some r
  ) (fun r =>
  some true
  )
set_option maxRecDepth 20000 in
theorem t_Sight_isAsSeen {X : Zx} {Q : State → Prop} {σ : Sg} {a1 : Nat} {n1 : Nat} (ok : Zok X cX7_isAsSeen RX7 rm_Sight_isAsSeen 198 3) (ha1 : zk a1 198 (.inr (0, n1, []))) {out : Bool} (hf : Sight_isAsSeen σ a1 n1 = some out) (hk : ZrI cX7_isAsSeen X Q (zb out) σ) : ZAt X Q 0 0 0 σ [(0, .ref (X.ad 124)), (1, .ref (X.ad a1))] [] := by
  unfold Sight_isAsSeen at hf
  refine z_iconst (v := 0) ok dX7_isAsSeen_0 (by decide) ?_
  refine z_nm hf (fun v1 hf => ?_)
  refine z_istore_n (lv' := [(2, .int v1), (0, .ref (X.ad 124)), (1, .ref (X.ad a1))]) ok dX7_isAsSeen_1 (by decide) rfl ?_
  refine z_call hf (fun r hr hf => ?_)
  refine z_sub [1, 2, 0] rfl (z_iter (fun (s : Int32) => σ) (fun (s : Int32) => [(0, .ref (X.ad 124)), (1, .ref (X.ad a1)), (2, .int s)]) (fun s o h1 h2 => t_Sight_isAsSeen_l2 ok ha1 h1 h2) _ _ _ hr ?_)
  cases r with
  | inl r =>
    obtain rfl := Option.some.inj hf
    exact hk
  | inr r =>
    simp only [Sum.elim_inr] at hf
    show ZAt X Q 0 0 35 σ [] []
    refine z_iconst (v := 1) ok dX7_isAsSeen_35 (by decide) ?_
    obtain rfl := Option.some.inj hf
    exact hk _ _ dX7_isAsSeen_36
theorem c_Sight_isAsSeen {σ : Sg} {a1 : Nat} {n1 : Nat} (ha1 : zk a1 198 (.inr (0, n1, []))) {r : Bool} (h : Sight_isAsSeen σ a1 n1 = some r) : ZcI yX7_isAsSeen cX7_isAsSeen 3 .boolean rm_Sight_isAsSeen 198 (fun ad => [.ref (ad 124), .ref (ad a1)]) σ (zb r) σ :=
  zmetI pn_7 rfl (fun _ => rfl) (fun _ => Nat.le_of_ble_eq_true rfl) (zb_nar _) (fun X Q ok hk => t_Sight_isAsSeen ok ha1 h hk)
theorem dX7_findFits_0 : decode cX7_findFits 0 = .ok (.aload_n 1, 1) := by decide +kernel
theorem dX7_findFits_1 : decode cX7_findFits 1 = .ok (.aload_n 2, 1) := by decide +kernel
theorem dX7_findFits_2 : decode cX7_findFits 2 = .ok (.aload_n 3, 1) := by decide +kernel
theorem dX7_findFits_3 : decode cX7_findFits 3 = .ok (.bipush 40, 2) := by decide +kernel
theorem dX7_findFits_5 : decode cX7_findFits 5 = .ok (.invokevirtual 39, 3) := by decide +kernel
theorem dX7_findFits_8 : decode cX7_findFits 8 = .ok (.aload_n 0, 1) := by decide +kernel
theorem dX7_findFits_9 : decode cX7_findFits 9 = .ok (.iconst 0, 1) := by decide +kernel
theorem dX7_findFits_10 : decode cX7_findFits 10 = .ok (.putfield 45, 3) := by decide +kernel
theorem dX7_findFits_13 : decode cX7_findFits 13 = .ok (.iconst 0, 1) := by decide +kernel
theorem dX7_findFits_14 : decode cX7_findFits 14 = .ok (.istore 4, 2) := by decide +kernel
theorem dX7_findFits_16 : decode cX7_findFits 16 = .ok (.iload 4, 2) := by decide +kernel
theorem dX7_findFits_18 : decode cX7_findFits 18 = .ok (.bipush 41, 2) := by decide +kernel
theorem dX7_findFits_20 : decode cX7_findFits 20 = .ok (.if_icmp .ge 108, 3) := by decide +kernel
theorem dX7_findFits_23 : decode cX7_findFits 23 = .ok (.aload_n 1, 1) := by decide +kernel
theorem dX7_findFits_24 : decode cX7_findFits 24 = .ok (.invokevirtual 48, 3) := by decide +kernel
theorem dX7_findFits_27 : decode cX7_findFits 27 = .ok (.aload_n 1, 1) := by decide +kernel
theorem dX7_findFits_28 : decode cX7_findFits 28 = .ok (.getfield 51, 3) := by decide +kernel
theorem dX7_findFits_31 : decode cX7_findFits 31 = .ok (.getfield 55, 3) := by decide +kernel
theorem dX7_findFits_34 : decode cX7_findFits 34 = .ok (.aload_n 0, 1) := by decide +kernel
theorem dX7_findFits_35 : decode cX7_findFits 35 = .ok (.getfield 26, 3) := by decide +kernel
theorem dX7_findFits_38 : decode cX7_findFits 38 = .ok (.iload 4, 2) := by decide +kernel
theorem dX7_findFits_40 : decode cX7_findFits 40 = .ok (.iastore, 1) := by decide +kernel
theorem dX7_findFits_41 : decode cX7_findFits 41 = .ok (.iconst 1, 1) := by decide +kernel
theorem dX7_findFits_42 : decode cX7_findFits 42 = .ok (.istore 5, 2) := by decide +kernel
theorem dX7_findFits_44 : decode cX7_findFits 44 = .ok (.iload 5, 2) := by decide +kernel
theorem dX7_findFits_46 : decode cX7_findFits 46 = .ok (.bipush 40, 2) := by decide +kernel
theorem dX7_findFits_48 : decode cX7_findFits 48 = .ok (.if_icmp .gt 37, 3) := by decide +kernel
theorem dX7_findFits_51 : decode cX7_findFits 51 = .ok (.aload_n 1, 1) := by decide +kernel
theorem dX7_findFits_52 : decode cX7_findFits 52 = .ok (.invokevirtual 60, 3) := by decide +kernel
theorem dX7_findFits_55 : decode cX7_findFits 55 = .ok (.aload_n 0, 1) := by decide +kernel
theorem dX7_findFits_56 : decode cX7_findFits 56 = .ok (.getfield 23, 3) := by decide +kernel
theorem dX7_findFits_59 : decode cX7_findFits 59 = .ok (.aload_n 0, 1) := by decide +kernel
theorem dX7_findFits_60 : decode cX7_findFits 60 = .ok (.getfield 45, 3) := by decide +kernel
theorem dX7_findFits_63 : decode cX7_findFits 63 = .ok (.aaload, 1) := by decide +kernel
theorem dX7_findFits_64 : decode cX7_findFits 64 = .ok (.iload 5, 2) := by decide +kernel
theorem dX7_findFits_66 : decode cX7_findFits 66 = .ok (.aload_n 1, 1) := by decide +kernel
theorem dX7_findFits_67 : decode cX7_findFits 67 = .ok (.getfield 51, 3) := by decide +kernel
theorem dX7_findFits_70 : decode cX7_findFits 70 = .ok (.getfield 63, 3) := by decide +kernel
theorem dX7_findFits_73 : decode cX7_findFits 73 = .ok (.aload_n 0, 1) := by decide +kernel
theorem dX7_findFits_74 : decode cX7_findFits 74 = .ok (.getfield 26, 3) := by decide +kernel
theorem dX7_findFits_77 : decode cX7_findFits 77 = .ok (.iaload, 1) := by decide +kernel
theorem dX7_findFits_78 : decode cX7_findFits 78 = .ok (.iastore, 1) := by decide +kernel
theorem dX7_findFits_79 : decode cX7_findFits 79 = .ok (.iinc 5 1, 3) := by decide +kernel
theorem dX7_findFits_82 : decode cX7_findFits 82 = .ok (.goto (-38), 3) := by decide +kernel
theorem dX7_findFits_85 : decode cX7_findFits 85 = .ok (.aload_n 0, 1) := by decide +kernel
theorem dX7_findFits_86 : decode cX7_findFits 86 = .ok (.aload_n 0, 1) := by decide +kernel
theorem dX7_findFits_87 : decode cX7_findFits 87 = .ok (.getfield 23, 3) := by decide +kernel
theorem dX7_findFits_90 : decode cX7_findFits 90 = .ok (.aload_n 0, 1) := by decide +kernel
theorem dX7_findFits_91 : decode cX7_findFits 91 = .ok (.getfield 45, 3) := by decide +kernel
theorem dX7_findFits_94 : decode cX7_findFits 94 = .ok (.aaload, 1) := by decide +kernel
theorem dX7_findFits_95 : decode cX7_findFits 95 = .ok (.invokevirtual 66, 3) := by decide +kernel
theorem dX7_findFits_98 : decode cX7_findFits 98 = .ok (.ifCond .eq 24, 3) := by decide +kernel
theorem dX7_findFits_101 : decode cX7_findFits 101 = .ok (.aload_n 0, 1) := by decide +kernel
theorem dX7_findFits_102 : decode cX7_findFits 102 = .ok (.getfield 18, 3) := by decide +kernel
theorem dX7_findFits_105 : decode cX7_findFits 105 = .ok (.aload_n 0, 1) := by decide +kernel
theorem dX7_findFits_106 : decode cX7_findFits 106 = .ok (.getfield 45, 3) := by decide +kernel
theorem dX7_findFits_109 : decode cX7_findFits 109 = .ok (.iload 4, 2) := by decide +kernel
theorem dX7_findFits_111 : decode cX7_findFits 111 = .ok (.iastore, 1) := by decide +kernel
theorem dX7_findFits_112 : decode cX7_findFits 112 = .ok (.aload_n 0, 1) := by decide +kernel
theorem dX7_findFits_113 : decode cX7_findFits 113 = .ok (.dup, 1) := by decide +kernel
theorem dX7_findFits_114 : decode cX7_findFits 114 = .ok (.getfield 45, 3) := by decide +kernel
theorem dX7_findFits_117 : decode cX7_findFits 117 = .ok (.iconst 1, 1) := by decide +kernel
theorem dX7_findFits_118 : decode cX7_findFits 118 = .ok (.iadd, 1) := by decide +kernel
theorem dX7_findFits_119 : decode cX7_findFits 119 = .ok (.putfield 45, 3) := by decide +kernel
theorem dX7_findFits_122 : decode cX7_findFits 122 = .ok (.iinc 4 1, 3) := by decide +kernel
theorem dX7_findFits_125 : decode cX7_findFits 125 = .ok (.goto (-109), 3) := by decide +kernel
theorem dX7_findFits_128 : decode cX7_findFits 128 = .ok (.return_, 1) := by decide +kernel
abbrev rm_Sight_findFits : Room := { frames := 5, cells := 0, slots := 0, locals := 120 }
def Sight_findFits_l44 (σ : Sg) (x4 : Int32) (x5 : Int32) : Option ((Sg × Int32) ⊕ (Sg × Int32)) :=
  if 40 < x5 then (
    some (.inr (σ, x5))
  ) else (
    (Outlook_runOne σ).bind fun r52 =>
    zgt r52 124 4 fun v60 =>
    zelr 129 41 v60 fun q63 =>
    zgt r52 124 1 fun v74 =>
    zrd r52 83 8 v74 fun v77 =>
    zwr r52 q63 41 x5 v77 fun σ78 =>
    zlt (x5 + 1) fun v79 =>
    some (.inl (σ78, v79))
  )
set_option maxRecDepth 20000 in
theorem t_Sight_findFits_l44 {X : Zx} {Q : State → Prop} {σ : Sg} {x4 : Int32} {x5 : Int32} (ok : Zok X cX7_findFits RX7 rm_Sight_findFits 198 6)  {out : ((Sg × Int32) ⊕ (Sg × Int32))} (hf : Sight_findFits_l44 σ x4 x5 = some out) (hk : zout (fun (s : (Sg × Int32)) => ZAt X Q 0 0 44 s.1 [(0, .ref (X.ad 124)), (1, .ref (X.ad 81)), (4, .int x4), (5, .int s.2)] []) (fun (s : (Sg × Int32)) => ZAt X Q 0 0 85 s.1 [(0, .ref (X.ad 124)), (1, .ref (X.ad 81)), (4, .int x4)] []) out) : ZAt X Q 0 0 44 σ [(0, .ref (X.ad 124)), (1, .ref (X.ad 81)), (4, .int x4), (5, .int x5)] [] := by
  unfold Sight_findFits_l44 at hf
  refine z_iload ok dX7_findFits_44 3 rfl ?_
  refine z_bipush (v := 40) ok dX7_findFits_46 (by decide) ?_
  refine z_icmp_gt (tgt := 85) ok dX7_findFits_48 (by decide) hf (fun _ hf => ?_) (fun _ hf => ?_)
  · obtain rfl := Option.some.inj hf
    exact z_sub [0, 1, 2] rfl hk
  · refine z_aload_n ok dX7_findFits_51 1 rfl ?_
    refine z_call hf (fun r52 h52 hf => ?_)
    refine z_cVv (As := []) (rest := []) (w := 81) ok kc_81 zc_4 (c_Outlook_runOne h52) rfl ⟨ml_7_60, w_Outlook_runOne⟩ hy_Outlook_runOne ⟨rfl, rfl⟩ ⟨Nat.le_of_ble_eq_true rfl, Nat.le_of_ble_eq_true rfl⟩ ⟨Nat.zero_le _, Nat.zero_le _⟩ rfl (Nat.le_of_ble_eq_true rfl) dX7_findFits_52 ?_
    refine z_aload_n ok dX7_findFits_55 0 rfl ?_
    refine z_getr (q := 128) ok kc_124 zc_7 hin_7 6 (by decide) fl_7_23 rfl dX7_findFits_56 ?_
    refine z_aload_n ok dX7_findFits_59 0 rfl ?_
    refine z_geti ok kc_124 zc_7 hin_7 4 (by decide) fl_7_45 rfl dX7_findFits_60 hf (fun v60 hf => ?_)
    refine z_aaldr (p := 129) ok kc_128 (by decide) rfl dX7_findFits_63 hf (fun q63 e63 hf => ?_)
    have hq63 : zk q63 198 (.inr (0, 41, [])) := (show ∀ q ∈ [129, 130, 131, 132, 133, 134, 135, 136, 137, 138, 139, 140, 141, 142, 143, 144, 145, 146, 147, 148, 149, 150, 151, 152, 153, 154, 155, 156, 157, 158, 159, 160, 161, 162, 163, 164, 165, 166, 167, 168, 169], zk q 198 (.inr (0, 41, [])) from (List.forall_mem_cons.mpr ⟨kc_129, (List.forall_mem_cons.mpr ⟨kc_130, (List.forall_mem_cons.mpr ⟨kc_131, (List.forall_mem_cons.mpr ⟨kc_132, (List.forall_mem_cons.mpr ⟨kc_133, (List.forall_mem_cons.mpr ⟨kc_134, (List.forall_mem_cons.mpr ⟨kc_135, (List.forall_mem_cons.mpr ⟨kc_136, (List.forall_mem_cons.mpr ⟨kc_137, (List.forall_mem_cons.mpr ⟨kc_138, (List.forall_mem_cons.mpr ⟨kc_139, (List.forall_mem_cons.mpr ⟨kc_140, (List.forall_mem_cons.mpr ⟨kc_141, (List.forall_mem_cons.mpr ⟨kc_142, (List.forall_mem_cons.mpr ⟨kc_143, (List.forall_mem_cons.mpr ⟨kc_144, (List.forall_mem_cons.mpr ⟨kc_145, (List.forall_mem_cons.mpr ⟨kc_146, (List.forall_mem_cons.mpr ⟨kc_147, (List.forall_mem_cons.mpr ⟨kc_148, (List.forall_mem_cons.mpr ⟨kc_149, (List.forall_mem_cons.mpr ⟨kc_150, (List.forall_mem_cons.mpr ⟨kc_151, (List.forall_mem_cons.mpr ⟨kc_152, (List.forall_mem_cons.mpr ⟨kc_153, (List.forall_mem_cons.mpr ⟨kc_154, (List.forall_mem_cons.mpr ⟨kc_155, (List.forall_mem_cons.mpr ⟨kc_156, (List.forall_mem_cons.mpr ⟨kc_157, (List.forall_mem_cons.mpr ⟨kc_158, (List.forall_mem_cons.mpr ⟨kc_159, (List.forall_mem_cons.mpr ⟨kc_160, (List.forall_mem_cons.mpr ⟨kc_161, (List.forall_mem_cons.mpr ⟨kc_162, (List.forall_mem_cons.mpr ⟨kc_163, (List.forall_mem_cons.mpr ⟨kc_164, (List.forall_mem_cons.mpr ⟨kc_165, (List.forall_mem_cons.mpr ⟨kc_166, (List.forall_mem_cons.mpr ⟨kc_167, (List.forall_mem_cons.mpr ⟨kc_168, (List.forall_mem_cons.mpr ⟨kc_169, (fun _ h => absurd h List.not_mem_nil)⟩)⟩)⟩)⟩)⟩)⟩)⟩)⟩)⟩)⟩)⟩)⟩)⟩)⟩)⟩)⟩)⟩)⟩)⟩)⟩)⟩)⟩)⟩)⟩)⟩)⟩)⟩)⟩)⟩)⟩)⟩)⟩)⟩)⟩)⟩)⟩)⟩)⟩)⟩)⟩)⟩)) q63 e63
    refine z_iload ok dX7_findFits_64 3 rfl ?_
    refine z_aload_n ok dX7_findFits_66 1 rfl ?_
    refine z_getr (q := 82) ok kc_81 zc_4 hin_4 0 (by decide) fl_7_51 rfl dX7_findFits_67 ?_
    refine z_getr (q := 83) ok kc_82 zc_9 hin_9 3 (by decide) fl_7_63 rfl dX7_findFits_70 ?_
    refine z_aload_n ok dX7_findFits_73 0 rfl ?_
    refine z_geti ok kc_124 zc_7 hin_7 1 (by decide) fl_7_26 rfl dX7_findFits_74 hf (fun v74 hf => ?_)
    refine z_iald ok kc_83 dX7_findFits_77 hf (fun v77 hf => ?_)
    refine z_iast ok hq63 dX7_findFits_78 hf (fun σ78 hf => ?_)
    refine z_iinc (w := 1) (lv' := fun v79 => [(5, .int v79), (0, .ref (X.ad 124)), (1, .ref (X.ad 81)), (4, .int x4)]) ok dX7_findFits_79 3 rfl (by decide) (by decide) (fun _ => rfl) hf (fun v79 hf => ?_)
    refine z_goto (tgt := 44) ok dX7_findFits_82 (by decide) ?_
    obtain rfl := Option.some.inj hf
    exact z_sub [1, 2, 3, 0] rfl hk
def Sight_findFits_j16_85 (σ : Sg) (x4 : Int32) : Option ((Sg × Int32) ⊕ (Sg × Int32)) :=
  zgt σ 124 4 fun v91 =>
  zelr 129 41 v91 fun q94 =>
  (Sight_isAsSeen σ q94 41).bind fun r95 =>
  if (zb r95) = 0 then (
    zlt (x4 + 1) fun v122 =>
    some (.inl (σ, v122))
  ) else (
    zgt σ 124 4 fun v106 =>
    zwr σ 127 41 v106 x4 fun σ111 =>
    zgt σ111 124 4 fun v114 =>
    zpt σ111 124 4 (v114 + 1) fun σ119 =>
    zlt (x4 + 1) fun v122 =>
    some (.inl (σ119, v122))
  )
set_option maxRecDepth 20000 in
theorem t_Sight_findFits_j16_85 {X : Zx} {Q : State → Prop} {σ : Sg} {x4 : Int32} (ok : Zok X cX7_findFits RX7 rm_Sight_findFits 198 6)  {out : ((Sg × Int32) ⊕ (Sg × Int32))} (hf : Sight_findFits_j16_85 σ x4 = some out) (hk : zout (fun (s : (Sg × Int32)) => ZAt X Q 0 0 16 s.1 [(0, .ref (X.ad 124)), (1, .ref (X.ad 81)), (4, .int s.2)] []) (fun (s : (Sg × Int32)) => ZAt X Q 0 0 128 s.1 [] []) out) : ZAt X Q 0 0 85 σ [(0, .ref (X.ad 124)), (1, .ref (X.ad 81)), (4, .int x4)] [] := by
  unfold Sight_findFits_j16_85 at hf
  refine z_aload_n ok dX7_findFits_85 0 rfl ?_
  refine z_aload_n ok dX7_findFits_86 0 rfl ?_
  refine z_getr (q := 128) ok kc_124 zc_7 hin_7 6 (by decide) fl_7_23 rfl dX7_findFits_87 ?_
  refine z_aload_n ok dX7_findFits_90 0 rfl ?_
  refine z_geti ok kc_124 zc_7 hin_7 4 (by decide) fl_7_45 rfl dX7_findFits_91 hf (fun v91 hf => ?_)
  refine z_aaldr (p := 129) ok kc_128 (by decide) rfl dX7_findFits_94 hf (fun q94 e94 hf => ?_)
  have hq94 : zk q94 198 (.inr (0, 41, [])) := (show ∀ q ∈ [129, 130, 131, 132, 133, 134, 135, 136, 137, 138, 139, 140, 141, 142, 143, 144, 145, 146, 147, 148, 149, 150, 151, 152, 153, 154, 155, 156, 157, 158, 159, 160, 161, 162, 163, 164, 165, 166, 167, 168, 169], zk q 198 (.inr (0, 41, [])) from (List.forall_mem_cons.mpr ⟨kc_129, (List.forall_mem_cons.mpr ⟨kc_130, (List.forall_mem_cons.mpr ⟨kc_131, (List.forall_mem_cons.mpr ⟨kc_132, (List.forall_mem_cons.mpr ⟨kc_133, (List.forall_mem_cons.mpr ⟨kc_134, (List.forall_mem_cons.mpr ⟨kc_135, (List.forall_mem_cons.mpr ⟨kc_136, (List.forall_mem_cons.mpr ⟨kc_137, (List.forall_mem_cons.mpr ⟨kc_138, (List.forall_mem_cons.mpr ⟨kc_139, (List.forall_mem_cons.mpr ⟨kc_140, (List.forall_mem_cons.mpr ⟨kc_141, (List.forall_mem_cons.mpr ⟨kc_142, (List.forall_mem_cons.mpr ⟨kc_143, (List.forall_mem_cons.mpr ⟨kc_144, (List.forall_mem_cons.mpr ⟨kc_145, (List.forall_mem_cons.mpr ⟨kc_146, (List.forall_mem_cons.mpr ⟨kc_147, (List.forall_mem_cons.mpr ⟨kc_148, (List.forall_mem_cons.mpr ⟨kc_149, (List.forall_mem_cons.mpr ⟨kc_150, (List.forall_mem_cons.mpr ⟨kc_151, (List.forall_mem_cons.mpr ⟨kc_152, (List.forall_mem_cons.mpr ⟨kc_153, (List.forall_mem_cons.mpr ⟨kc_154, (List.forall_mem_cons.mpr ⟨kc_155, (List.forall_mem_cons.mpr ⟨kc_156, (List.forall_mem_cons.mpr ⟨kc_157, (List.forall_mem_cons.mpr ⟨kc_158, (List.forall_mem_cons.mpr ⟨kc_159, (List.forall_mem_cons.mpr ⟨kc_160, (List.forall_mem_cons.mpr ⟨kc_161, (List.forall_mem_cons.mpr ⟨kc_162, (List.forall_mem_cons.mpr ⟨kc_163, (List.forall_mem_cons.mpr ⟨kc_164, (List.forall_mem_cons.mpr ⟨kc_165, (List.forall_mem_cons.mpr ⟨kc_166, (List.forall_mem_cons.mpr ⟨kc_167, (List.forall_mem_cons.mpr ⟨kc_168, (List.forall_mem_cons.mpr ⟨kc_169, (fun _ h => absurd h List.not_mem_nil)⟩)⟩)⟩)⟩)⟩)⟩)⟩)⟩)⟩)⟩)⟩)⟩)⟩)⟩)⟩)⟩)⟩)⟩)⟩)⟩)⟩)⟩)⟩)⟩)⟩)⟩)⟩)⟩)⟩)⟩)⟩)⟩)⟩)⟩)⟩)⟩)⟩)⟩)⟩)⟩)⟩)) q94 e94
  refine z_call hf (fun r95 h95 hf => ?_)
  refine z_cV (As := [.ref (X.ad q94)]) (rest := []) (w := 124) ok kc_124 zc_7 (c_Sight_isAsSeen hq94 h95) rfl ⟨ml_7_66, w_Sight_isAsSeen⟩ hy_Sight_isAsSeen ⟨rfl, rfl⟩ ⟨Nat.le_of_ble_eq_true rfl, Nat.le_of_ble_eq_true rfl⟩ ⟨Nat.zero_le _, Nat.zero_le _⟩ rfl (Nat.le_of_ble_eq_true rfl) dX7_findFits_95 ?_
  refine z_if_eq (tgt := 122) ok dX7_findFits_98 (by decide) hf (fun _ hf => ?_) (fun _ hf => ?_)
  · refine z_iinc (w := 1) (lv' := fun v122 => [(4, .int v122), (0, .ref (X.ad 124)), (1, .ref (X.ad 81))]) ok dX7_findFits_122 2 rfl (by decide) (by decide) (fun _ => rfl) hf (fun v122 hf => ?_)
    refine z_goto (tgt := 16) ok dX7_findFits_125 (by decide) ?_
    obtain rfl := Option.some.inj hf
    exact z_sub [1, 2, 0] rfl hk
  · refine z_aload_n ok dX7_findFits_101 0 rfl ?_
    refine z_getr (q := 127) ok kc_124 zc_7 hin_7 5 (by decide) fl_7_18 rfl dX7_findFits_102 ?_
    refine z_aload_n ok dX7_findFits_105 0 rfl ?_
    refine z_geti ok kc_124 zc_7 hin_7 4 (by decide) fl_7_45 rfl dX7_findFits_106 hf (fun v106 hf => ?_)
    refine z_iload ok dX7_findFits_109 2 rfl ?_
    refine z_iast ok kc_127 dX7_findFits_111 hf (fun σ111 hf => ?_)
    refine z_aload_n ok dX7_findFits_112 0 rfl ?_
    refine z_dup ok dX7_findFits_113 rfl ?_
    refine z_geti ok kc_124 zc_7 hin_7 4 (by decide) fl_7_45 rfl dX7_findFits_114 hf (fun v114 hf => ?_)
    refine z_iconst (v := 1) ok dX7_findFits_117 (by decide) ?_
    refine z_iadd ok dX7_findFits_118 ?_
    refine z_puti ok kc_124 zc_7 hin_7 tyX7 tyX7_ok nmX7 4 (by decide) fl_7_45 rfl rfl (tyX7_ok 4 (by decide)) dX7_findFits_119 hf (fun σ119 hf => ?_)
    refine z_iinc (w := 1) (lv' := fun v122 => [(4, .int v122), (0, .ref (X.ad 124)), (1, .ref (X.ad 81))]) ok dX7_findFits_122 2 rfl (by decide) (by decide) (fun _ => rfl) hf (fun v122 hf => ?_)
    refine z_goto (tgt := 16) ok dX7_findFits_125 (by decide) ?_
    obtain rfl := Option.some.inj hf
    exact z_sub [1, 2, 0] rfl hk
def Sight_findFits_l16 (σ : Sg) (x4 : Int32) : Option ((Sg × Int32) ⊕ (Sg × Int32)) :=
  if 41 ≤ x4 then (
    some (.inr (σ, x4))
  ) else (
    (Outlook_lookAgain σ).bind fun r24 =>
    zgt r24 124 1 fun v35 =>
    zwr r24 85 8 v35 x4 fun σ40 =>
    zlt 1 fun v42 =>
    (zit (fun (s : (Sg × Int32)) => Sight_findFits_l44 s.1 x4 s.2) zFU (σ40, v42)).bind fun r =>
    Sight_findFits_j16_85 r.1 x4
  )
set_option maxRecDepth 20000 in
theorem t_Sight_findFits_l16 {X : Zx} {Q : State → Prop} {σ : Sg} {x4 : Int32} (ok : Zok X cX7_findFits RX7 rm_Sight_findFits 198 6)  {out : ((Sg × Int32) ⊕ (Sg × Int32))} (hf : Sight_findFits_l16 σ x4 = some out) (hk : zout (fun (s : (Sg × Int32)) => ZAt X Q 0 0 16 s.1 [(0, .ref (X.ad 124)), (1, .ref (X.ad 81)), (4, .int s.2)] []) (fun (s : (Sg × Int32)) => ZAt X Q 0 0 128 s.1 [] []) out) : ZAt X Q 0 0 16 σ [(0, .ref (X.ad 124)), (1, .ref (X.ad 81)), (4, .int x4)] [] := by
  unfold Sight_findFits_l16 at hf
  refine z_iload ok dX7_findFits_16 2 rfl ?_
  refine z_bipush (v := 41) ok dX7_findFits_18 (by decide) ?_
  refine z_icmp_ge (tgt := 128) ok dX7_findFits_20 (by decide) hf (fun _ hf => ?_) (fun _ hf => ?_)
  · obtain rfl := Option.some.inj hf
    exact z_sub [] rfl hk
  · refine z_aload_n ok dX7_findFits_23 1 rfl ?_
    refine z_call hf (fun r24 h24 hf => ?_)
    refine z_cVv (As := []) (rest := []) (w := 81) ok kc_81 zc_4 (c_Outlook_lookAgain h24) rfl ⟨ml_7_48, w_Outlook_lookAgain⟩ hy_Outlook_lookAgain ⟨rfl, rfl⟩ ⟨Nat.le_of_ble_eq_true rfl, Nat.le_of_ble_eq_true rfl⟩ ⟨Nat.zero_le _, Nat.zero_le _⟩ rfl (Nat.le_of_ble_eq_true rfl) dX7_findFits_24 ?_
    refine z_aload_n ok dX7_findFits_27 1 rfl ?_
    refine z_getr (q := 82) ok kc_81 zc_4 hin_4 0 (by decide) fl_7_51 rfl dX7_findFits_28 ?_
    refine z_getr (q := 85) ok kc_82 zc_9 hin_9 5 (by decide) fl_7_55 rfl dX7_findFits_31 ?_
    refine z_aload_n ok dX7_findFits_34 0 rfl ?_
    refine z_geti ok kc_124 zc_7 hin_7 1 (by decide) fl_7_26 rfl dX7_findFits_35 hf (fun v35 hf => ?_)
    refine z_iload ok dX7_findFits_38 2 rfl ?_
    refine z_iast ok kc_85 dX7_findFits_40 hf (fun σ40 hf => ?_)
    refine z_iconst (v := 1) ok dX7_findFits_41 (by decide) ?_
    refine z_nm hf (fun v42 hf => ?_)
    refine z_istore (lv' := [(5, .int v42), (0, .ref (X.ad 124)), (1, .ref (X.ad 81)), (4, .int x4)]) ok dX7_findFits_42 (by decide) rfl ?_
    refine z_call hf (fun r hr hf => ?_)
    refine z_sub [1, 2, 3, 0] rfl (z_iter (fun (s : (Sg × Int32)) => s.1) (fun (s : (Sg × Int32)) => [(0, .ref (X.ad 124)), (1, .ref (X.ad 81)), (4, .int x4), (5, .int s.2)]) (fun s o h1 h2 => t_Sight_findFits_l44 ok h1 h2) _ _ _ hr ?_)
    show ZAt X Q 0 0 85 r.1 [(0, .ref (X.ad 124)), (1, .ref (X.ad 81)), (4, .int x4)] []
    exact z_sub [0, 1, 2] rfl (t_Sight_findFits_j16_85 ok hf hk)
def Sight_findFits (σ : Sg) (p2 : Nat) (p3 : Nat) : Option Sg :=
  (Outlook_look σ p2 p3 40).bind fun r5 =>
  zpt r5 124 4 0 fun σ10 =>
  zlt 0 fun v14 =>
  (zit (fun (s : (Sg × Int32)) => Sight_findFits_l16 s.1 s.2) zFU (σ10, v14)).bind fun r =>
  some r.1
set_option maxRecDepth 20000 in
theorem t_Sight_findFits {X : Zx} {Q : State → Prop} {σ : Sg} {p2 : Nat} {p3 : Nat} (ok : Zok X cX7_findFits RX7 rm_Sight_findFits 198 6) (hp2 : zI_Works p2 198) (hp3 : zI_Moment p3 198) {out : Sg} (hf : Sight_findFits σ p2 p3 = some out) (hk : ZrV cX7_findFits X Q out) : ZAt X Q 0 0 0 σ [(0, .ref (X.ad 124)), (1, .ref (X.ad 81)), (2, .ref (X.ad p2)), (3, .ref (X.ad p3))] [] := by
  unfold Sight_findFits at hf
  obtain ⟨hp2_0, hp2_1, hp2_2, hp2_3, hp2_4, hp2_5, hp2_6, hp2_7, hp2_8, hp2_9, hp2_10, hp2_11, hp2_12, hp2_13, hp2_14, hp2_15, hp2_16, hp2_17, hp2_18, hp2_19, hp2_20, hp2_21, hp2_22, hp2_23, hp2_24, hp2_25⟩ := id hp2
  obtain ⟨hp3_0, hp3_1, hp3_2, hp3_3, hp3_4, hp3_5, hp3_6, hp3_7, hp3_8, hp3_9, hp3_10, hp3_11, hp3_12, hp3_13, hp3_14, hp3_15, hp3_16, hp3_17, hp3_18, hp3_19, hp3_20, hp3_21, hp3_22, hp3_23, hp3_24⟩ := id hp3
  refine z_aload_n ok dX7_findFits_0 1 rfl ?_
  refine z_aload_n ok dX7_findFits_1 2 rfl ?_
  refine z_aload_n ok dX7_findFits_2 3 rfl ?_
  refine z_bipush (v := 40) ok dX7_findFits_3 (by decide) ?_
  refine z_call hf (fun r5 h5 hf => ?_)
  refine z_cVv (As := [.ref (X.ad p2), .ref (X.ad p3), .int 40]) (rest := []) (w := 81) ok kc_81 zc_4 (c_Outlook_look hp2 hp3 h5) rfl ⟨ml_7_39, w_Outlook_look⟩ hy_Outlook_look ⟨rfl, rfl⟩ ⟨Nat.le_of_ble_eq_true rfl, Nat.le_of_ble_eq_true rfl⟩ ⟨Nat.zero_le _, Nat.zero_le _⟩ rfl (Nat.le_of_ble_eq_true rfl) dX7_findFits_5 ?_
  refine z_aload_n ok dX7_findFits_8 0 rfl ?_
  refine z_iconst (v := 0) ok dX7_findFits_9 (by decide) ?_
  refine z_puti ok kc_124 zc_7 hin_7 tyX7 tyX7_ok nmX7 4 (by decide) fl_7_45 rfl rfl (tyX7_ok 4 (by decide)) dX7_findFits_10 hf (fun σ10 hf => ?_)
  refine z_iconst (v := 0) ok dX7_findFits_13 (by decide) ?_
  refine z_nm hf (fun v14 hf => ?_)
  refine z_istore (lv' := [(4, .int v14), (0, .ref (X.ad 124)), (1, .ref (X.ad 81)), (2, .ref (X.ad p2)), (3, .ref (X.ad p3))]) ok dX7_findFits_14 (by decide) rfl ?_
  refine z_call hf (fun r hr hf => ?_)
  refine z_sub [1, 2, 0] rfl (z_iter (fun (s : (Sg × Int32)) => s.1) (fun (s : (Sg × Int32)) => [(0, .ref (X.ad 124)), (1, .ref (X.ad 81)), (4, .int s.2)]) (fun s o h1 h2 => t_Sight_findFits_l16 ok h1 h2) _ _ _ hr ?_)
  show ZAt X Q 0 0 128 r.1 [] []
  obtain rfl := Option.some.inj hf
  exact hk _ _ dX7_findFits_128
theorem c_Sight_findFits {σ : Sg} {p2 : Nat} {p3 : Nat} (hp2 : zI_Works p2 198) (hp3 : zI_Moment p3 198) {r : Sg} (h : Sight_findFits σ p2 p3 = some r) : ZcV yX7_findFits cX7_findFits 6 rm_Sight_findFits 198 (fun ad => [.ref (ad 124), .ref (ad 81), .ref (ad p2), .ref (ad p3)]) σ r :=
  zmetV pn_7 rfl (fun _ => rfl) (fun _ => Nat.le_of_ble_eq_true rfl) (fun X Q ok hk => t_Sight_findFits ok hp2 hp3 h hk)
theorem dX11_leaks_0 : decode cX11_leaks 0 = .ok (.aload_n 0, 1) := by decide +kernel
theorem dX11_leaks_1 : decode cX11_leaks 1 = .ok (.getfield 55, 3) := by decide +kernel
theorem dX11_leaks_4 : decode cX11_leaks 4 = .ok (.getfield 102, 3) := by decide +kernel
theorem dX11_leaks_7 : decode cX11_leaks 7 = .ok (.ifCond .ne 5, 3) := by decide +kernel
theorem dX11_leaks_10 : decode cX11_leaks 10 = .ok (.iconst (-1), 1) := by decide +kernel
theorem dX11_leaks_11 : decode cX11_leaks 11 = .ok (.ireturn, 1) := by decide +kernel
theorem dX11_leaks_12 : decode cX11_leaks 12 = .ok (.aload_n 0, 1) := by decide +kernel
theorem dX11_leaks_13 : decode cX11_leaks 13 = .ok (.getfield 55, 3) := by decide +kernel
theorem dX11_leaks_16 : decode cX11_leaks 16 = .ok (.aload_n 0, 1) := by decide +kernel
theorem dX11_leaks_17 : decode cX11_leaks 17 = .ok (.getfield 48, 3) := by decide +kernel
theorem dX11_leaks_20 : decode cX11_leaks 20 = .ok (.aload_n 0, 1) := by decide +kernel
theorem dX11_leaks_21 : decode cX11_leaks 21 = .ok (.getfield 23, 3) := by decide +kernel
theorem dX11_leaks_24 : decode cX11_leaks 24 = .ok (.aload_n 0, 1) := by decide +kernel
theorem dX11_leaks_25 : decode cX11_leaks 25 = .ok (.getfield 37, 3) := by decide +kernel
theorem dX11_leaks_28 : decode cX11_leaks 28 = .ok (.invokevirtual 335, 3) := by decide +kernel
theorem dX11_leaks_31 : decode cX11_leaks 31 = .ok (.iload_n 1, 1) := by decide +kernel
theorem dX11_leaks_32 : decode cX11_leaks 32 = .ok (.iconst (-1), 1) := by decide +kernel
theorem dX11_leaks_33 : decode cX11_leaks 33 = .ok (.if_icmp .ne 11, 3) := by decide +kernel
theorem dX11_leaks_36 : decode cX11_leaks 36 = .ok (.aload_n 0, 1) := by decide +kernel
theorem dX11_leaks_37 : decode cX11_leaks 37 = .ok (.getfield 55, 3) := by decide +kernel
theorem dX11_leaks_40 : decode cX11_leaks 40 = .ok (.getfield 339, 3) := by decide +kernel
theorem dX11_leaks_43 : decode cX11_leaks 43 = .ok (.ireturn, 1) := by decide +kernel
theorem dX11_leaks_44 : decode cX11_leaks 44 = .ok (.iload_n 1, 1) := by decide +kernel
theorem dX11_leaks_45 : decode cX11_leaks 45 = .ok (.ifCond .lt 26, 3) := by decide +kernel
theorem dX11_leaks_48 : decode cX11_leaks 48 = .ok (.iload_n 1, 1) := by decide +kernel
theorem dX11_leaks_49 : decode cX11_leaks 49 = .ok (.aload_n 0, 1) := by decide +kernel
theorem dX11_leaks_50 : decode cX11_leaks 50 = .ok (.getfield 55, 3) := by decide +kernel
theorem dX11_leaks_53 : decode cX11_leaks 53 = .ok (.getfield 339, 3) := by decide +kernel
theorem dX11_leaks_56 : decode cX11_leaks 56 = .ok (.if_icmp .ge 15, 3) := by decide +kernel
theorem dX11_leaks_59 : decode cX11_leaks 59 = .ok (.aload_n 0, 1) := by decide +kernel
theorem dX11_leaks_60 : decode cX11_leaks 60 = .ok (.getfield 55, 3) := by decide +kernel
theorem dX11_leaks_63 : decode cX11_leaks 63 = .ok (.getfield 342, 3) := by decide +kernel
theorem dX11_leaks_66 : decode cX11_leaks 66 = .ok (.iload_n 1, 1) := by decide +kernel
theorem dX11_leaks_67 : decode cX11_leaks 67 = .ok (.iaload, 1) := by decide +kernel
theorem dX11_leaks_68 : decode cX11_leaks 68 = .ok (.goto 4, 3) := by decide +kernel
theorem dX11_leaks_71 : decode cX11_leaks 71 = .ok (.iconst (-1), 1) := by decide +kernel
theorem dX11_leaks_72 : decode cX11_leaks 72 = .ok (.ireturn, 1) := by decide +kernel
abbrev rm_CK_leaks : Room := { frames := 6, cells := 0, slots := 0, locals := 145 }
def CK_leaks (σ : Sg) (x1 : Int32) : Option (Int32 × Sg) :=
  zgt σ 124 0 fun v4 =>
  if v4 = 0 then (
    some ((-1), σ)
  ) else (
    zmr2 3 29 (σ 0 3) fun q21 =>
    (Sight_findFits σ q21 55).bind fun r28 =>
    if x1 = (-1) then (
      zgt r28 124 4 fun v40 =>
      some (v40, r28)
    ) else (
      if x1 < 0 then (
        some ((-1), r28)
      ) else (
        zgt r28 124 4 fun v53 =>
        if v53 ≤ x1 then (
          some ((-1), r28)
        ) else (
          zrd r28 127 41 x1 fun v67 =>
          some (v67, r28)
        )
      )
    )
  )
set_option maxRecDepth 20000 in
theorem t_CK_leaks {X : Zx} {Q : State → Prop} {σ : Sg} {x1 : Int32} (ok : Zok X cX11_leaks RX11 rm_CK_leaks 198 2)  {out : (Int32 × Sg)} (hf : CK_leaks σ x1 = some out) (hk : ZrI cX11_leaks X Q out.1 out.2) : ZAt X Q 0 0 0 σ [(0, .ref (X.ad 0)), (1, .int x1)] [] := by
  unfold CK_leaks at hf
  refine z_aload_n ok dX11_leaks_0 0 rfl ?_
  refine z_getr (q := 124) ok kc_0 zc_11 hin_11 13 (by decide) fl_11_55 rfl dX11_leaks_1 ?_
  refine z_geti ok kc_124 zc_7 hin_7 0 (by decide) fl_11_102 rfl dX11_leaks_4 hf (fun v4 hf => ?_)
  refine z_if_ne (tgt := 12) ok dX11_leaks_7 (by decide) hf (fun _ hf => ?_) (fun _ hf => ?_)
  · refine z_iconst (v := (-1)) ok dX11_leaks_10 (by decide) ?_
    obtain rfl := Option.some.inj hf
    exact hk _ _ dX11_leaks_11
  · refine z_aload_n ok dX11_leaks_12 0 rfl ?_
    refine z_getr (q := 124) ok kc_0 zc_11 hin_11 13 (by decide) fl_11_55 rfl dX11_leaks_13 ?_
    refine z_aload_n ok dX11_leaks_16 0 rfl ?_
    refine z_getr (q := 81) ok kc_0 zc_11 hin_11 12 (by decide) fl_11_48 rfl dX11_leaks_17 ?_
    refine z_aload_n ok dX11_leaks_20 0 rfl ?_
    refine z_getm2 (p := 3) (q := 29) ok kc_0 zc_11 hin_11 3 (by decide) fl_11_23 rfl (by decide) (by decide) dX11_leaks_21 hf (fun q21 e21 hf => ?_)
    have hq21 : zI_Works q21 198 := by rcases e21 with rfl | rfl; exact kI_Works_3; exact kI_Works_29
    obtain ⟨hq21_0, hq21_1, hq21_2, hq21_3, hq21_4, hq21_5, hq21_6, hq21_7, hq21_8, hq21_9, hq21_10, hq21_11, hq21_12, hq21_13, hq21_14, hq21_15, hq21_16, hq21_17, hq21_18, hq21_19, hq21_20, hq21_21, hq21_22, hq21_23, hq21_24, hq21_25⟩ := id hq21
    refine z_aload_n ok dX11_leaks_24 0 rfl ?_
    refine z_getr (q := 55) ok kc_0 zc_11 hin_11 8 (by decide) fl_11_37 rfl dX11_leaks_25 ?_
    refine z_call hf (fun r28 h28 hf => ?_)
    refine z_cVv (As := [.ref (X.ad 81), .ref (X.ad q21), .ref (X.ad 55)]) (rest := []) (w := 124) ok kc_124 zc_7 (c_Sight_findFits hq21 kI_Moment_55 h28) rfl ⟨ml_11_335, w_Sight_findFits⟩ hy_Sight_findFits ⟨rfl, rfl⟩ ⟨Nat.le_of_ble_eq_true rfl, Nat.le_of_ble_eq_true rfl⟩ ⟨Nat.zero_le _, Nat.zero_le _⟩ rfl (Nat.le_of_ble_eq_true rfl) dX11_leaks_28 ?_
    refine z_iload_n ok dX11_leaks_31 1 rfl ?_
    refine z_iconst (v := (-1)) ok dX11_leaks_32 (by decide) ?_
    refine z_icmp_ne (tgt := 44) ok dX11_leaks_33 (by decide) hf (fun _ hf => ?_) (fun _ hf => ?_)
    · refine z_aload_n ok dX11_leaks_36 0 rfl ?_
      refine z_getr (q := 124) ok kc_0 zc_11 hin_11 13 (by decide) fl_11_55 rfl dX11_leaks_37 ?_
      refine z_geti ok kc_124 zc_7 hin_7 4 (by decide) fl_11_339 rfl dX11_leaks_40 hf (fun v40 hf => ?_)
      obtain rfl := Option.some.inj hf
      exact hk _ _ dX11_leaks_43
    · refine z_iload_n ok dX11_leaks_44 1 rfl ?_
      refine z_if_lt (tgt := 71) ok dX11_leaks_45 (by decide) hf (fun _ hf => ?_) (fun _ hf => ?_)
      · refine z_iconst (v := (-1)) ok dX11_leaks_71 (by decide) ?_
        obtain rfl := Option.some.inj hf
        exact hk _ _ dX11_leaks_72
      · refine z_iload_n ok dX11_leaks_48 1 rfl ?_
        refine z_aload_n ok dX11_leaks_49 0 rfl ?_
        refine z_getr (q := 124) ok kc_0 zc_11 hin_11 13 (by decide) fl_11_55 rfl dX11_leaks_50 ?_
        refine z_geti ok kc_124 zc_7 hin_7 4 (by decide) fl_11_339 rfl dX11_leaks_53 hf (fun v53 hf => ?_)
        refine z_icmp_ge (tgt := 71) ok dX11_leaks_56 (by decide) hf (fun _ hf => ?_) (fun _ hf => ?_)
        · refine z_iconst (v := (-1)) ok dX11_leaks_71 (by decide) ?_
          obtain rfl := Option.some.inj hf
          exact hk _ _ dX11_leaks_72
        · refine z_aload_n ok dX11_leaks_59 0 rfl ?_
          refine z_getr (q := 124) ok kc_0 zc_11 hin_11 13 (by decide) fl_11_55 rfl dX11_leaks_60 ?_
          refine z_getr (q := 127) ok kc_124 zc_7 hin_7 5 (by decide) fl_11_342 rfl dX11_leaks_63 ?_
          refine z_iload_n ok dX11_leaks_66 1 rfl ?_
          refine z_iald ok kc_127 dX11_leaks_67 hf (fun v67 hf => ?_)
          refine z_goto (tgt := 72) ok dX11_leaks_68 (by decide) ?_
          obtain rfl := Option.some.inj hf
          exact hk _ _ dX11_leaks_72
theorem c_CK_leaks {σ : Sg} {x1 : Int32} {r : (Int32 × Sg)} (h : CK_leaks σ x1 = some r) : ZcI yX11_leaks cX11_leaks 2 .int rm_CK_leaks 198 (fun ad => [.ref (ad 0), .int x1]) σ r.1 r.2 :=
  zmetI pn_11 rfl (fun _ => rfl) (fun _ => Nat.le_of_ble_eq_true rfl) rfl (fun X Q ok hk => t_CK_leaks ok h hk)
theorem dX7_mostAlike_0 : decode cX7_mostAlike 0 = .ok (.iconst 0, 1) := by decide +kernel
theorem dX7_mostAlike_1 : decode cX7_mostAlike 1 = .ok (.istore_n 2, 1) := by decide +kernel
theorem dX7_mostAlike_2 : decode cX7_mostAlike 2 = .ok (.iconst 0, 1) := by decide +kernel
theorem dX7_mostAlike_3 : decode cX7_mostAlike 3 = .ok (.istore_n 3, 1) := by decide +kernel
theorem dX7_mostAlike_4 : decode cX7_mostAlike 4 = .ok (.iload_n 3, 1) := by decide +kernel
theorem dX7_mostAlike_5 : decode cX7_mostAlike 5 = .ok (.aload_n 0, 1) := by decide +kernel
theorem dX7_mostAlike_6 : decode cX7_mostAlike 6 = .ok (.getfield 45, 3) := by decide +kernel
theorem dX7_mostAlike_9 : decode cX7_mostAlike 9 = .ok (.if_icmp .ge 60, 3) := by decide +kernel
theorem dX7_mostAlike_12 : decode cX7_mostAlike 12 = .ok (.iconst 0, 1) := by decide +kernel
theorem dX7_mostAlike_13 : decode cX7_mostAlike 13 = .ok (.istore 4, 2) := by decide +kernel
theorem dX7_mostAlike_15 : decode cX7_mostAlike 15 = .ok (.iconst 0, 1) := by decide +kernel
theorem dX7_mostAlike_16 : decode cX7_mostAlike 16 = .ok (.istore 5, 2) := by decide +kernel
theorem dX7_mostAlike_18 : decode cX7_mostAlike 18 = .ok (.iload 5, 2) := by decide +kernel
theorem dX7_mostAlike_20 : decode cX7_mostAlike 20 = .ok (.aload_n 0, 1) := by decide +kernel
theorem dX7_mostAlike_21 : decode cX7_mostAlike 21 = .ok (.getfield 45, 3) := by decide +kernel
theorem dX7_mostAlike_24 : decode cX7_mostAlike 24 = .ok (.if_icmp .ge 32, 3) := by decide +kernel
theorem dX7_mostAlike_27 : decode cX7_mostAlike 27 = .ok (.aload_n 0, 1) := by decide +kernel
theorem dX7_mostAlike_28 : decode cX7_mostAlike 28 = .ok (.getfield 23, 3) := by decide +kernel
theorem dX7_mostAlike_31 : decode cX7_mostAlike 31 = .ok (.iload_n 3, 1) := by decide +kernel
theorem dX7_mostAlike_32 : decode cX7_mostAlike 32 = .ok (.aaload, 1) := by decide +kernel
theorem dX7_mostAlike_33 : decode cX7_mostAlike 33 = .ok (.iload_n 1, 1) := by decide +kernel
theorem dX7_mostAlike_34 : decode cX7_mostAlike 34 = .ok (.iaload, 1) := by decide +kernel
theorem dX7_mostAlike_35 : decode cX7_mostAlike 35 = .ok (.aload_n 0, 1) := by decide +kernel
theorem dX7_mostAlike_36 : decode cX7_mostAlike 36 = .ok (.getfield 23, 3) := by decide +kernel
theorem dX7_mostAlike_39 : decode cX7_mostAlike 39 = .ok (.iload 5, 2) := by decide +kernel
theorem dX7_mostAlike_41 : decode cX7_mostAlike 41 = .ok (.aaload, 1) := by decide +kernel
theorem dX7_mostAlike_42 : decode cX7_mostAlike 42 = .ok (.iload_n 1, 1) := by decide +kernel
theorem dX7_mostAlike_43 : decode cX7_mostAlike 43 = .ok (.iaload, 1) := by decide +kernel
theorem dX7_mostAlike_44 : decode cX7_mostAlike 44 = .ok (.if_icmp .ne 6, 3) := by decide +kernel
theorem dX7_mostAlike_47 : decode cX7_mostAlike 47 = .ok (.iinc 4 1, 3) := by decide +kernel
theorem dX7_mostAlike_50 : decode cX7_mostAlike 50 = .ok (.iinc 5 1, 3) := by decide +kernel
theorem dX7_mostAlike_53 : decode cX7_mostAlike 53 = .ok (.goto (-35), 3) := by decide +kernel
theorem dX7_mostAlike_56 : decode cX7_mostAlike 56 = .ok (.iload_n 2, 1) := by decide +kernel
theorem dX7_mostAlike_57 : decode cX7_mostAlike 57 = .ok (.iload 4, 2) := by decide +kernel
theorem dX7_mostAlike_59 : decode cX7_mostAlike 59 = .ok (.invokestatic 75, 3) := by decide +kernel
theorem dX7_mostAlike_62 : decode cX7_mostAlike 62 = .ok (.istore_n 2, 1) := by decide +kernel
theorem dX7_mostAlike_63 : decode cX7_mostAlike 63 = .ok (.iinc 3 1, 3) := by decide +kernel
theorem dX7_mostAlike_66 : decode cX7_mostAlike 66 = .ok (.goto (-62), 3) := by decide +kernel
theorem dX7_mostAlike_69 : decode cX7_mostAlike 69 = .ok (.iload_n 2, 1) := by decide +kernel
theorem dX7_mostAlike_70 : decode cX7_mostAlike 70 = .ok (.ireturn, 1) := by decide +kernel
abbrev rm_Sight_mostAlike : Room := { frames := 1, cells := 0, slots := 0, locals := 21 }
def Sight_mostAlike_l18 (σ : Sg) (x1 : Int32) (x2 : Int32) (x3 : Int32) (x4 : Int32) (x5 : Int32) : Option ((Int32 × Int32) ⊕ (Int32 × Int32)) :=
  zgt σ 124 4 fun v21 =>
  if v21 ≤ x5 then (
    some (.inr (x4, x5))
  ) else (
    zelr 129 41 x3 fun q32 =>
    zrd σ q32 41 x1 fun v34 =>
    zelr 129 41 x5 fun q41 =>
    zrd σ q41 41 x1 fun v43 =>
    if v34 = v43 then (
      zlt (x4 + 1) fun v47 =>
      zlt (x5 + 1) fun v50 =>
      some (.inl (v47, v50))
    ) else (
      zlt (x5 + 1) fun v50 =>
      some (.inl (x4, v50))
    )
  )
set_option maxRecDepth 20000 in
theorem t_Sight_mostAlike_l18 {X : Zx} {Q : State → Prop} {σ : Sg} {x1 : Int32} {x2 : Int32} {x3 : Int32} {x4 : Int32} {x5 : Int32} (ok : Zok X cX7_mostAlike RX7 rm_Sight_mostAlike 198 6)  {out : ((Int32 × Int32) ⊕ (Int32 × Int32))} (hf : Sight_mostAlike_l18 σ x1 x2 x3 x4 x5 = some out) (hk : zout (fun (s : (Int32 × Int32)) => ZAt X Q 0 0 18 σ [(0, .ref (X.ad 124)), (1, .int x1), (2, .int x2), (3, .int x3), (4, .int s.1), (5, .int s.2)] []) (fun (s : (Int32 × Int32)) => ZAt X Q 0 0 56 σ [(0, .ref (X.ad 124)), (1, .int x1), (2, .int x2), (3, .int x3), (4, .int s.1)] []) out) : ZAt X Q 0 0 18 σ [(0, .ref (X.ad 124)), (1, .int x1), (2, .int x2), (3, .int x3), (4, .int x4), (5, .int x5)] [] := by
  unfold Sight_mostAlike_l18 at hf
  refine z_iload ok dX7_mostAlike_18 5 rfl ?_
  refine z_aload_n ok dX7_mostAlike_20 0 rfl ?_
  refine z_geti ok kc_124 zc_7 hin_7 4 (by decide) fl_7_45 rfl dX7_mostAlike_21 hf (fun v21 hf => ?_)
  refine z_icmp_ge (tgt := 56) ok dX7_mostAlike_24 (by decide) hf (fun _ hf => ?_) (fun _ hf => ?_)
  · obtain rfl := Option.some.inj hf
    exact z_sub [0, 1, 2, 3, 4] rfl hk
  · refine z_aload_n ok dX7_mostAlike_27 0 rfl ?_
    refine z_getr (q := 128) ok kc_124 zc_7 hin_7 6 (by decide) fl_7_23 rfl dX7_mostAlike_28 ?_
    refine z_iload_n ok dX7_mostAlike_31 3 rfl ?_
    refine z_aaldr (p := 129) ok kc_128 (by decide) rfl dX7_mostAlike_32 hf (fun q32 e32 hf => ?_)
    have hq32 : zk q32 198 (.inr (0, 41, [])) := (show ∀ q ∈ [129, 130, 131, 132, 133, 134, 135, 136, 137, 138, 139, 140, 141, 142, 143, 144, 145, 146, 147, 148, 149, 150, 151, 152, 153, 154, 155, 156, 157, 158, 159, 160, 161, 162, 163, 164, 165, 166, 167, 168, 169], zk q 198 (.inr (0, 41, [])) from (List.forall_mem_cons.mpr ⟨kc_129, (List.forall_mem_cons.mpr ⟨kc_130, (List.forall_mem_cons.mpr ⟨kc_131, (List.forall_mem_cons.mpr ⟨kc_132, (List.forall_mem_cons.mpr ⟨kc_133, (List.forall_mem_cons.mpr ⟨kc_134, (List.forall_mem_cons.mpr ⟨kc_135, (List.forall_mem_cons.mpr ⟨kc_136, (List.forall_mem_cons.mpr ⟨kc_137, (List.forall_mem_cons.mpr ⟨kc_138, (List.forall_mem_cons.mpr ⟨kc_139, (List.forall_mem_cons.mpr ⟨kc_140, (List.forall_mem_cons.mpr ⟨kc_141, (List.forall_mem_cons.mpr ⟨kc_142, (List.forall_mem_cons.mpr ⟨kc_143, (List.forall_mem_cons.mpr ⟨kc_144, (List.forall_mem_cons.mpr ⟨kc_145, (List.forall_mem_cons.mpr ⟨kc_146, (List.forall_mem_cons.mpr ⟨kc_147, (List.forall_mem_cons.mpr ⟨kc_148, (List.forall_mem_cons.mpr ⟨kc_149, (List.forall_mem_cons.mpr ⟨kc_150, (List.forall_mem_cons.mpr ⟨kc_151, (List.forall_mem_cons.mpr ⟨kc_152, (List.forall_mem_cons.mpr ⟨kc_153, (List.forall_mem_cons.mpr ⟨kc_154, (List.forall_mem_cons.mpr ⟨kc_155, (List.forall_mem_cons.mpr ⟨kc_156, (List.forall_mem_cons.mpr ⟨kc_157, (List.forall_mem_cons.mpr ⟨kc_158, (List.forall_mem_cons.mpr ⟨kc_159, (List.forall_mem_cons.mpr ⟨kc_160, (List.forall_mem_cons.mpr ⟨kc_161, (List.forall_mem_cons.mpr ⟨kc_162, (List.forall_mem_cons.mpr ⟨kc_163, (List.forall_mem_cons.mpr ⟨kc_164, (List.forall_mem_cons.mpr ⟨kc_165, (List.forall_mem_cons.mpr ⟨kc_166, (List.forall_mem_cons.mpr ⟨kc_167, (List.forall_mem_cons.mpr ⟨kc_168, (List.forall_mem_cons.mpr ⟨kc_169, (fun _ h => absurd h List.not_mem_nil)⟩)⟩)⟩)⟩)⟩)⟩)⟩)⟩)⟩)⟩)⟩)⟩)⟩)⟩)⟩)⟩)⟩)⟩)⟩)⟩)⟩)⟩)⟩)⟩)⟩)⟩)⟩)⟩)⟩)⟩)⟩)⟩)⟩)⟩)⟩)⟩)⟩)⟩)⟩)⟩)⟩)) q32 e32
    refine z_iload_n ok dX7_mostAlike_33 1 rfl ?_
    refine z_iald ok hq32 dX7_mostAlike_34 hf (fun v34 hf => ?_)
    refine z_aload_n ok dX7_mostAlike_35 0 rfl ?_
    refine z_getr (q := 128) ok kc_124 zc_7 hin_7 6 (by decide) fl_7_23 rfl dX7_mostAlike_36 ?_
    refine z_iload ok dX7_mostAlike_39 5 rfl ?_
    refine z_aaldr (p := 129) ok kc_128 (by decide) rfl dX7_mostAlike_41 hf (fun q41 e41 hf => ?_)
    have hq41 : zk q41 198 (.inr (0, 41, [])) := (show ∀ q ∈ [129, 130, 131, 132, 133, 134, 135, 136, 137, 138, 139, 140, 141, 142, 143, 144, 145, 146, 147, 148, 149, 150, 151, 152, 153, 154, 155, 156, 157, 158, 159, 160, 161, 162, 163, 164, 165, 166, 167, 168, 169], zk q 198 (.inr (0, 41, [])) from (List.forall_mem_cons.mpr ⟨kc_129, (List.forall_mem_cons.mpr ⟨kc_130, (List.forall_mem_cons.mpr ⟨kc_131, (List.forall_mem_cons.mpr ⟨kc_132, (List.forall_mem_cons.mpr ⟨kc_133, (List.forall_mem_cons.mpr ⟨kc_134, (List.forall_mem_cons.mpr ⟨kc_135, (List.forall_mem_cons.mpr ⟨kc_136, (List.forall_mem_cons.mpr ⟨kc_137, (List.forall_mem_cons.mpr ⟨kc_138, (List.forall_mem_cons.mpr ⟨kc_139, (List.forall_mem_cons.mpr ⟨kc_140, (List.forall_mem_cons.mpr ⟨kc_141, (List.forall_mem_cons.mpr ⟨kc_142, (List.forall_mem_cons.mpr ⟨kc_143, (List.forall_mem_cons.mpr ⟨kc_144, (List.forall_mem_cons.mpr ⟨kc_145, (List.forall_mem_cons.mpr ⟨kc_146, (List.forall_mem_cons.mpr ⟨kc_147, (List.forall_mem_cons.mpr ⟨kc_148, (List.forall_mem_cons.mpr ⟨kc_149, (List.forall_mem_cons.mpr ⟨kc_150, (List.forall_mem_cons.mpr ⟨kc_151, (List.forall_mem_cons.mpr ⟨kc_152, (List.forall_mem_cons.mpr ⟨kc_153, (List.forall_mem_cons.mpr ⟨kc_154, (List.forall_mem_cons.mpr ⟨kc_155, (List.forall_mem_cons.mpr ⟨kc_156, (List.forall_mem_cons.mpr ⟨kc_157, (List.forall_mem_cons.mpr ⟨kc_158, (List.forall_mem_cons.mpr ⟨kc_159, (List.forall_mem_cons.mpr ⟨kc_160, (List.forall_mem_cons.mpr ⟨kc_161, (List.forall_mem_cons.mpr ⟨kc_162, (List.forall_mem_cons.mpr ⟨kc_163, (List.forall_mem_cons.mpr ⟨kc_164, (List.forall_mem_cons.mpr ⟨kc_165, (List.forall_mem_cons.mpr ⟨kc_166, (List.forall_mem_cons.mpr ⟨kc_167, (List.forall_mem_cons.mpr ⟨kc_168, (List.forall_mem_cons.mpr ⟨kc_169, (fun _ h => absurd h List.not_mem_nil)⟩)⟩)⟩)⟩)⟩)⟩)⟩)⟩)⟩)⟩)⟩)⟩)⟩)⟩)⟩)⟩)⟩)⟩)⟩)⟩)⟩)⟩)⟩)⟩)⟩)⟩)⟩)⟩)⟩)⟩)⟩)⟩)⟩)⟩)⟩)⟩)⟩)⟩)⟩)⟩)⟩)) q41 e41
    refine z_iload_n ok dX7_mostAlike_42 1 rfl ?_
    refine z_iald ok hq41 dX7_mostAlike_43 hf (fun v43 hf => ?_)
    refine z_icmp_ne (tgt := 50) ok dX7_mostAlike_44 (by decide) hf (fun _ hf => ?_) (fun _ hf => ?_)
    · refine z_iinc (w := 1) (lv' := fun v47 => [(4, .int v47), (0, .ref (X.ad 124)), (1, .int x1), (2, .int x2), (3, .int x3), (5, .int x5)]) ok dX7_mostAlike_47 4 rfl (by decide) (by decide) (fun _ => rfl) hf (fun v47 hf => ?_)
      refine z_iinc (w := 1) (lv' := fun v50 => [(5, .int v50), (4, .int v47), (0, .ref (X.ad 124)), (1, .int x1), (2, .int x2), (3, .int x3)]) ok dX7_mostAlike_50 5 rfl (by decide) (by decide) (fun _ => rfl) hf (fun v50 hf => ?_)
      refine z_goto (tgt := 18) ok dX7_mostAlike_53 (by decide) ?_
      obtain rfl := Option.some.inj hf
      exact z_sub [2, 3, 4, 5, 1, 0] rfl hk
    · refine z_iinc (w := 1) (lv' := fun v50 => [(5, .int v50), (0, .ref (X.ad 124)), (1, .int x1), (2, .int x2), (3, .int x3), (4, .int x4)]) ok dX7_mostAlike_50 5 rfl (by decide) (by decide) (fun _ => rfl) hf (fun v50 hf => ?_)
      refine z_goto (tgt := 18) ok dX7_mostAlike_53 (by decide) ?_
      obtain rfl := Option.some.inj hf
      exact z_sub [1, 2, 3, 4, 5, 0] rfl hk
def Sight_mostAlike_l4 (σ : Sg) (x1 : Int32) (x2 : Int32) (x3 : Int32) : Option ((Int32 × Int32) ⊕ (Int32 × Int32)) :=
  zgt σ 124 4 fun v6 =>
  if v6 ≤ x3 then (
    some (.inr (x2, x3))
  ) else (
    zlt 0 fun v13 =>
    zlt 0 fun v16 =>
    (zit (fun (s : (Int32 × Int32)) => Sight_mostAlike_l18 σ x1 x2 x3 s.1 s.2) zFU (v13, v16)).bind fun r =>
    zlt (if x2 < r.1 then r.1 else x2) fun v62 =>
    zlt (x3 + 1) fun v63 =>
    some (.inl (v62, v63))
  )
set_option maxRecDepth 20000 in
theorem t_Sight_mostAlike_l4 {X : Zx} {Q : State → Prop} {σ : Sg} {x1 : Int32} {x2 : Int32} {x3 : Int32} (ok : Zok X cX7_mostAlike RX7 rm_Sight_mostAlike 198 6)  {out : ((Int32 × Int32) ⊕ (Int32 × Int32))} (hf : Sight_mostAlike_l4 σ x1 x2 x3 = some out) (hk : zout (fun (s : (Int32 × Int32)) => ZAt X Q 0 0 4 σ [(0, .ref (X.ad 124)), (1, .int x1), (2, .int s.1), (3, .int s.2)] []) (fun (s : (Int32 × Int32)) => ZAt X Q 0 0 69 σ [(2, .int s.1)] []) out) : ZAt X Q 0 0 4 σ [(0, .ref (X.ad 124)), (1, .int x1), (2, .int x2), (3, .int x3)] [] := by
  unfold Sight_mostAlike_l4 at hf
  refine z_iload_n ok dX7_mostAlike_4 3 rfl ?_
  refine z_aload_n ok dX7_mostAlike_5 0 rfl ?_
  refine z_geti ok kc_124 zc_7 hin_7 4 (by decide) fl_7_45 rfl dX7_mostAlike_6 hf (fun v6 hf => ?_)
  refine z_icmp_ge (tgt := 69) ok dX7_mostAlike_9 (by decide) hf (fun _ hf => ?_) (fun _ hf => ?_)
  · obtain rfl := Option.some.inj hf
    exact z_sub [2] rfl hk
  · refine z_iconst (v := 0) ok dX7_mostAlike_12 (by decide) ?_
    refine z_nm hf (fun v13 hf => ?_)
    refine z_istore (lv' := [(4, .int v13), (0, .ref (X.ad 124)), (1, .int x1), (2, .int x2), (3, .int x3)]) ok dX7_mostAlike_13 (by decide) rfl ?_
    refine z_iconst (v := 0) ok dX7_mostAlike_15 (by decide) ?_
    refine z_nm hf (fun v16 hf => ?_)
    refine z_istore (lv' := [(5, .int v16), (4, .int v13), (0, .ref (X.ad 124)), (1, .int x1), (2, .int x2), (3, .int x3)]) ok dX7_mostAlike_16 (by decide) rfl ?_
    refine z_call hf (fun r hr hf => ?_)
    refine z_sub [2, 3, 4, 5, 1, 0] rfl (z_iter (fun (s : (Int32 × Int32)) => σ) (fun (s : (Int32 × Int32)) => [(0, .ref (X.ad 124)), (1, .int x1), (2, .int x2), (3, .int x3), (4, .int s.1), (5, .int s.2)]) (fun s o h1 h2 => t_Sight_mostAlike_l18 ok h1 h2) _ _ _ hr ?_)
    show ZAt X Q 0 0 56 σ [(0, .ref (X.ad 124)), (1, .int x1), (2, .int x2), (3, .int x3), (4, .int r.1)] []
    refine z_iload_n ok dX7_mostAlike_56 2 rfl ?_
    refine z_iload ok dX7_mostAlike_57 4 rfl ?_
    refine z_mmax ok ml_7_75 (Nat.le_of_ble_eq_true rfl) (Nat.le_of_ble_eq_true rfl) ⟨Nat.zero_le _, Nat.zero_le _⟩ dX7_mostAlike_59 ?_
    refine z_nm hf (fun v62 hf => ?_)
    refine z_istore_n (lv' := [(2, .int v62), (0, .ref (X.ad 124)), (1, .int x1), (3, .int x3), (4, .int r.1)]) ok dX7_mostAlike_62 (by decide) rfl ?_
    refine z_iinc (w := 1) (lv' := fun v63 => [(3, .int v63), (2, .int v62), (0, .ref (X.ad 124)), (1, .int x1), (4, .int r.1)]) ok dX7_mostAlike_63 3 rfl (by decide) (by decide) (fun _ => rfl) hf (fun v63 hf => ?_)
    refine z_goto (tgt := 4) ok dX7_mostAlike_66 (by decide) ?_
    obtain rfl := Option.some.inj hf
    exact z_sub [2, 3, 1, 0] rfl hk
def Sight_mostAlike (σ : Sg) (x1 : Int32) : Option Int32 :=
  zlt 0 fun v1 =>
  zlt 0 fun v3 =>
  (zit (fun (s : (Int32 × Int32)) => Sight_mostAlike_l4 σ x1 s.1 s.2) zFU (v1, v3)).bind fun r =>
  some r.1
set_option maxRecDepth 20000 in
theorem t_Sight_mostAlike {X : Zx} {Q : State → Prop} {σ : Sg} {x1 : Int32} (ok : Zok X cX7_mostAlike RX7 rm_Sight_mostAlike 198 6)  {out : Int32} (hf : Sight_mostAlike σ x1 = some out) (hk : ZrI cX7_mostAlike X Q out σ) : ZAt X Q 0 0 0 σ [(0, .ref (X.ad 124)), (1, .int x1)] [] := by
  unfold Sight_mostAlike at hf
  refine z_iconst (v := 0) ok dX7_mostAlike_0 (by decide) ?_
  refine z_nm hf (fun v1 hf => ?_)
  refine z_istore_n (lv' := [(2, .int v1), (0, .ref (X.ad 124)), (1, .int x1)]) ok dX7_mostAlike_1 (by decide) rfl ?_
  refine z_iconst (v := 0) ok dX7_mostAlike_2 (by decide) ?_
  refine z_nm hf (fun v3 hf => ?_)
  refine z_istore_n (lv' := [(3, .int v3), (2, .int v1), (0, .ref (X.ad 124)), (1, .int x1)]) ok dX7_mostAlike_3 (by decide) rfl ?_
  refine z_call hf (fun r hr hf => ?_)
  refine z_sub [2, 3, 1, 0] rfl (z_iter (fun (s : (Int32 × Int32)) => σ) (fun (s : (Int32 × Int32)) => [(0, .ref (X.ad 124)), (1, .int x1), (2, .int s.1), (3, .int s.2)]) (fun s o h1 h2 => t_Sight_mostAlike_l4 ok h1 h2) _ _ _ hr ?_)
  show ZAt X Q 0 0 69 σ [(2, .int r.1)] []
  refine z_iload_n ok dX7_mostAlike_69 0 rfl ?_
  obtain rfl := Option.some.inj hf
  exact hk _ _ dX7_mostAlike_70
theorem c_Sight_mostAlike {σ : Sg} {x1 : Int32} {r : Int32} (h : Sight_mostAlike σ x1 = some r) : ZcI yX7_mostAlike cX7_mostAlike 6 .int rm_Sight_mostAlike 198 (fun ad => [.ref (ad 124), .int x1]) σ r σ :=
  zmetI pn_7 rfl (fun _ => rfl) (fun _ => Nat.le_of_ble_eq_true rfl) rfl (fun X Q ok hk => t_Sight_mostAlike ok h hk)
theorem dX7_telling_0 : decode cX7_telling 0 = .ok (.iconst 1, 1) := by decide +kernel
theorem dX7_telling_1 : decode cX7_telling 1 = .ok (.istore_n 1, 1) := by decide +kernel
theorem dX7_telling_2 : decode cX7_telling 2 = .ok (.ldc 70, 2) := by decide +kernel
theorem dX7_telling_4 : decode cX7_telling 4 = .ok (.istore_n 2, 1) := by decide +kernel
theorem dX7_telling_5 : decode cX7_telling 5 = .ok (.iconst 1, 1) := by decide +kernel
theorem dX7_telling_6 : decode cX7_telling 6 = .ok (.istore_n 3, 1) := by decide +kernel
theorem dX7_telling_7 : decode cX7_telling 7 = .ok (.iload_n 3, 1) := by decide +kernel
theorem dX7_telling_8 : decode cX7_telling 8 = .ok (.bipush 40, 2) := by decide +kernel
theorem dX7_telling_10 : decode cX7_telling 10 = .ok (.if_icmp .gt 27, 3) := by decide +kernel
theorem dX7_telling_13 : decode cX7_telling 13 = .ok (.aload_n 0, 1) := by decide +kernel
theorem dX7_telling_14 : decode cX7_telling 14 = .ok (.iload_n 3, 1) := by decide +kernel
theorem dX7_telling_15 : decode cX7_telling 15 = .ok (.invokevirtual 71, 3) := by decide +kernel
theorem dX7_telling_18 : decode cX7_telling 18 = .ok (.istore 4, 2) := by decide +kernel
theorem dX7_telling_20 : decode cX7_telling 20 = .ok (.iload 4, 2) := by decide +kernel
theorem dX7_telling_22 : decode cX7_telling 22 = .ok (.iload_n 2, 1) := by decide +kernel
theorem dX7_telling_23 : decode cX7_telling 23 = .ok (.if_icmp .ge 8, 3) := by decide +kernel
theorem dX7_telling_26 : decode cX7_telling 26 = .ok (.iload 4, 2) := by decide +kernel
theorem dX7_telling_28 : decode cX7_telling 28 = .ok (.istore_n 2, 1) := by decide +kernel
theorem dX7_telling_29 : decode cX7_telling 29 = .ok (.iload_n 3, 1) := by decide +kernel
theorem dX7_telling_30 : decode cX7_telling 30 = .ok (.istore_n 1, 1) := by decide +kernel
theorem dX7_telling_31 : decode cX7_telling 31 = .ok (.iinc 3 1, 3) := by decide +kernel
theorem dX7_telling_34 : decode cX7_telling 34 = .ok (.goto (-27), 3) := by decide +kernel
theorem dX7_telling_37 : decode cX7_telling 37 = .ok (.iload_n 1, 1) := by decide +kernel
theorem dX7_telling_38 : decode cX7_telling 38 = .ok (.ireturn, 1) := by decide +kernel
abbrev rm_Sight_telling : Room := { frames := 2, cells := 0, slots := 0, locals := 46 }
def Sight_telling_l7 (σ : Sg) (x1 : Int32) (x2 : Int32) (x3 : Int32) : Option ((Int32 × Int32 × Int32) ⊕ (Int32 × Int32 × Int32)) :=
  if 40 < x3 then (
    some (.inr (x1, x2, x3))
  ) else (
    (Sight_mostAlike σ x3).bind fun r15 =>
    zlt r15 fun v18 =>
    if x2 ≤ v18 then (
      zlt (x3 + 1) fun v31 =>
      some (.inl (x1, x2, v31))
    ) else (
      zlt (x3 + 1) fun v31 =>
      some (.inl (x3, v18, v31))
    )
  )
set_option maxRecDepth 20000 in
theorem t_Sight_telling_l7 {X : Zx} {Q : State → Prop} {σ : Sg} {x1 : Int32} {x2 : Int32} {x3 : Int32} (ok : Zok X cX7_telling RX7 rm_Sight_telling 198 5)  {out : ((Int32 × Int32 × Int32) ⊕ (Int32 × Int32 × Int32))} (hf : Sight_telling_l7 σ x1 x2 x3 = some out) (hk : zout (fun (s : (Int32 × Int32 × Int32)) => ZAt X Q 0 0 7 σ [(0, .ref (X.ad 124)), (1, .int s.1), (2, .int s.2.1), (3, .int s.2.2)] []) (fun (s : (Int32 × Int32 × Int32)) => ZAt X Q 0 0 37 σ [(1, .int s.1)] []) out) : ZAt X Q 0 0 7 σ [(0, .ref (X.ad 124)), (1, .int x1), (2, .int x2), (3, .int x3)] [] := by
  unfold Sight_telling_l7 at hf
  refine z_iload_n ok dX7_telling_7 3 rfl ?_
  refine z_bipush (v := 40) ok dX7_telling_8 (by decide) ?_
  refine z_icmp_gt (tgt := 37) ok dX7_telling_10 (by decide) hf (fun _ hf => ?_) (fun _ hf => ?_)
  · obtain rfl := Option.some.inj hf
    exact z_sub [1] rfl hk
  · refine z_aload_n ok dX7_telling_13 0 rfl ?_
    refine z_iload_n ok dX7_telling_14 3 rfl ?_
    refine z_call hf (fun r15 h15 hf => ?_)
    refine z_cV (As := [.int x3]) (rest := []) (w := 124) ok kc_124 zc_7 (c_Sight_mostAlike h15) rfl ⟨ml_7_71, w_Sight_mostAlike⟩ hy_Sight_mostAlike ⟨rfl, rfl⟩ ⟨Nat.le_of_ble_eq_true rfl, Nat.le_of_ble_eq_true rfl⟩ ⟨Nat.zero_le _, Nat.zero_le _⟩ rfl (Nat.le_of_ble_eq_true rfl) dX7_telling_15 ?_
    refine z_nm hf (fun v18 hf => ?_)
    refine z_istore (lv' := [(4, .int v18), (0, .ref (X.ad 124)), (1, .int x1), (2, .int x2), (3, .int x3)]) ok dX7_telling_18 (by decide) rfl ?_
    refine z_iload ok dX7_telling_20 0 rfl ?_
    refine z_iload_n ok dX7_telling_22 3 rfl ?_
    refine z_icmp_ge (tgt := 31) ok dX7_telling_23 (by decide) hf (fun _ hf => ?_) (fun _ hf => ?_)
    · refine z_iinc (w := 1) (lv' := fun v31 => [(3, .int v31), (4, .int v18), (0, .ref (X.ad 124)), (1, .int x1), (2, .int x2)]) ok dX7_telling_31 4 rfl (by decide) (by decide) (fun _ => rfl) hf (fun v31 hf => ?_)
      refine z_goto (tgt := 7) ok dX7_telling_34 (by decide) ?_
      obtain rfl := Option.some.inj hf
      exact z_sub [2, 3, 4, 0] rfl hk
    · refine z_iload ok dX7_telling_26 0 rfl ?_
      refine z_istore_n (lv' := [(2, .int v18), (4, .int v18), (0, .ref (X.ad 124)), (1, .int x1), (3, .int x3)]) ok dX7_telling_28 (by decide) rfl ?_
      refine z_iload_n ok dX7_telling_29 4 rfl ?_
      refine z_istore_n (lv' := [(1, .int x3), (2, .int v18), (4, .int v18), (0, .ref (X.ad 124)), (3, .int x3)]) ok dX7_telling_30 (by decide) rfl ?_
      refine z_iinc (w := 1) (lv' := fun v31 => [(3, .int v31), (1, .int x3), (2, .int v18), (4, .int v18), (0, .ref (X.ad 124))]) ok dX7_telling_31 4 rfl (by decide) (by decide) (fun _ => rfl) hf (fun v31 hf => ?_)
      refine z_goto (tgt := 7) ok dX7_telling_34 (by decide) ?_
      obtain rfl := Option.some.inj hf
      exact z_sub [4, 1, 2, 0] rfl hk
def Sight_telling (σ : Sg)  : Option Int32 :=
  zlt 1 fun v1 =>
  zlt 1000000000 fun v4 =>
  zlt 1 fun v6 =>
  (zit (fun (s : (Int32 × Int32 × Int32)) => Sight_telling_l7 σ s.1 s.2.1 s.2.2) zFU (v1, v4, v6)).bind fun r =>
  some r.1
set_option maxRecDepth 20000 in
theorem t_Sight_telling {X : Zx} {Q : State → Prop} {σ : Sg}  (ok : Zok X cX7_telling RX7 rm_Sight_telling 198 5)  {out : Int32} (hf : Sight_telling σ = some out) (hk : ZrI cX7_telling X Q out σ) : ZAt X Q 0 0 0 σ [(0, .ref (X.ad 124))] [] := by
  unfold Sight_telling at hf
  refine z_iconst (v := 1) ok dX7_telling_0 (by decide) ?_
  refine z_nm hf (fun v1 hf => ?_)
  refine z_istore_n (lv' := [(1, .int v1), (0, .ref (X.ad 124))]) ok dX7_telling_1 (by decide) rfl ?_
  refine z_ldc (v := 1000000000) ok dX7_telling_2 wc_7_70 ?_
  refine z_nm hf (fun v4 hf => ?_)
  refine z_istore_n (lv' := [(2, .int v4), (1, .int v1), (0, .ref (X.ad 124))]) ok dX7_telling_4 (by decide) rfl ?_
  refine z_iconst (v := 1) ok dX7_telling_5 (by decide) ?_
  refine z_nm hf (fun v6 hf => ?_)
  refine z_istore_n (lv' := [(3, .int v6), (2, .int v4), (1, .int v1), (0, .ref (X.ad 124))]) ok dX7_telling_6 (by decide) rfl ?_
  refine z_call hf (fun r hr hf => ?_)
  refine z_sub [3, 2, 1, 0] rfl (z_iter (fun (s : (Int32 × Int32 × Int32)) => σ) (fun (s : (Int32 × Int32 × Int32)) => [(0, .ref (X.ad 124)), (1, .int s.1), (2, .int s.2.1), (3, .int s.2.2)]) (fun s o h1 h2 => t_Sight_telling_l7 ok h1 h2) _ _ _ hr ?_)
  show ZAt X Q 0 0 37 σ [(1, .int r.1)] []
  refine z_iload_n ok dX7_telling_37 0 rfl ?_
  obtain rfl := Option.some.inj hf
  exact hk _ _ dX7_telling_38
theorem c_Sight_telling {σ : Sg} {r : Int32} (h : Sight_telling σ = some r) : ZcI yX7_telling cX7_telling 5 .int rm_Sight_telling 198 (fun ad => [.ref (ad 124)]) σ r σ :=
  zmetI pn_7 rfl (fun _ => rfl) (fun _ => Nat.le_of_ble_eq_true rfl) rfl (fun X Q ok hk => t_Sight_telling ok h hk)
theorem dX11_tells_0 : decode cX11_tells 0 = .ok (.aload_n 0, 1) := by decide +kernel
theorem dX11_tells_1 : decode cX11_tells 1 = .ok (.getfield 55, 3) := by decide +kernel
theorem dX11_tells_4 : decode cX11_tells 4 = .ok (.getfield 102, 3) := by decide +kernel
theorem dX11_tells_7 : decode cX11_tells 7 = .ok (.ifCond .eq 12, 3) := by decide +kernel
theorem dX11_tells_10 : decode cX11_tells 10 = .ok (.iload_n 1, 1) := by decide +kernel
theorem dX11_tells_11 : decode cX11_tells 11 = .ok (.ifCond .lt 8, 3) := by decide +kernel
theorem dX11_tells_14 : decode cX11_tells 14 = .ok (.iload_n 1, 1) := by decide +kernel
theorem dX11_tells_15 : decode cX11_tells 15 = .ok (.iconst 1, 1) := by decide +kernel
theorem dX11_tells_16 : decode cX11_tells 16 = .ok (.if_icmp .le 5, 3) := by decide +kernel
theorem dX11_tells_19 : decode cX11_tells 19 = .ok (.iconst (-1), 1) := by decide +kernel
theorem dX11_tells_20 : decode cX11_tells 20 = .ok (.ireturn, 1) := by decide +kernel
theorem dX11_tells_21 : decode cX11_tells 21 = .ok (.aload_n 0, 1) := by decide +kernel
theorem dX11_tells_22 : decode cX11_tells 22 = .ok (.getfield 55, 3) := by decide +kernel
theorem dX11_tells_25 : decode cX11_tells 25 = .ok (.aload_n 0, 1) := by decide +kernel
theorem dX11_tells_26 : decode cX11_tells 26 = .ok (.getfield 48, 3) := by decide +kernel
theorem dX11_tells_29 : decode cX11_tells 29 = .ok (.aload_n 0, 1) := by decide +kernel
theorem dX11_tells_30 : decode cX11_tells 30 = .ok (.getfield 23, 3) := by decide +kernel
theorem dX11_tells_33 : decode cX11_tells 33 = .ok (.aload_n 0, 1) := by decide +kernel
theorem dX11_tells_34 : decode cX11_tells 34 = .ok (.getfield 37, 3) := by decide +kernel
theorem dX11_tells_37 : decode cX11_tells 37 = .ok (.invokevirtual 335, 3) := by decide +kernel
theorem dX11_tells_40 : decode cX11_tells 40 = .ok (.aload_n 0, 1) := by decide +kernel
theorem dX11_tells_41 : decode cX11_tells 41 = .ok (.getfield 55, 3) := by decide +kernel
theorem dX11_tells_44 : decode cX11_tells 44 = .ok (.getfield 339, 3) := by decide +kernel
theorem dX11_tells_47 : decode cX11_tells 47 = .ok (.ifCond .ne 5, 3) := by decide +kernel
theorem dX11_tells_50 : decode cX11_tells 50 = .ok (.iconst (-1), 1) := by decide +kernel
theorem dX11_tells_51 : decode cX11_tells 51 = .ok (.ireturn, 1) := by decide +kernel
theorem dX11_tells_52 : decode cX11_tells 52 = .ok (.aload_n 0, 1) := by decide +kernel
theorem dX11_tells_53 : decode cX11_tells 53 = .ok (.getfield 55, 3) := by decide +kernel
theorem dX11_tells_56 : decode cX11_tells 56 = .ok (.invokevirtual 345, 3) := by decide +kernel
theorem dX11_tells_59 : decode cX11_tells 59 = .ok (.istore_n 2, 1) := by decide +kernel
theorem dX11_tells_60 : decode cX11_tells 60 = .ok (.iload_n 1, 1) := by decide +kernel
theorem dX11_tells_61 : decode cX11_tells 61 = .ok (.ifCond .ne 7, 3) := by decide +kernel
theorem dX11_tells_64 : decode cX11_tells 64 = .ok (.iload_n 2, 1) := by decide +kernel
theorem dX11_tells_65 : decode cX11_tells 65 = .ok (.goto 11, 3) := by decide +kernel
theorem dX11_tells_68 : decode cX11_tells 68 = .ok (.aload_n 0, 1) := by decide +kernel
theorem dX11_tells_69 : decode cX11_tells 69 = .ok (.getfield 55, 3) := by decide +kernel
theorem dX11_tells_72 : decode cX11_tells 72 = .ok (.iload_n 2, 1) := by decide +kernel
theorem dX11_tells_73 : decode cX11_tells 73 = .ok (.invokevirtual 348, 3) := by decide +kernel
theorem dX11_tells_76 : decode cX11_tells 76 = .ok (.ireturn, 1) := by decide +kernel
abbrev rm_CK_tells : Room := { frames := 6, cells := 0, slots := 0, locals := 145 }
def CK_tells (σ : Sg) (x1 : Int32) : Option (Int32 × Sg) :=
  zgt σ 124 0 fun v4 =>
  if v4 = 0 then (
    some ((-1), σ)
  ) else (
    if x1 < 0 then (
      some ((-1), σ)
    ) else (
      if x1 ≤ 1 then (
        zmr2 3 29 (σ 0 3) fun q30 =>
        (Sight_findFits σ q30 55).bind fun r37 =>
        zgt r37 124 4 fun v44 =>
        if v44 = 0 then (
          some ((-1), r37)
        ) else (
          (Sight_telling r37).bind fun r56 =>
          zlt r56 fun v59 =>
          if x1 = 0 then (
            some (v59, r37)
          ) else (
            (Sight_mostAlike r37 v59).bind fun r73 =>
            some (r73, r37)
          )
        )
      ) else (
        some ((-1), σ)
      )
    )
  )
set_option maxRecDepth 20000 in
theorem t_CK_tells {X : Zx} {Q : State → Prop} {σ : Sg} {x1 : Int32} (ok : Zok X cX11_tells RX11 rm_CK_tells 198 3)  {out : (Int32 × Sg)} (hf : CK_tells σ x1 = some out) (hk : ZrI cX11_tells X Q out.1 out.2) : ZAt X Q 0 0 0 σ [(0, .ref (X.ad 0)), (1, .int x1)] [] := by
  unfold CK_tells at hf
  refine z_aload_n ok dX11_tells_0 0 rfl ?_
  refine z_getr (q := 124) ok kc_0 zc_11 hin_11 13 (by decide) fl_11_55 rfl dX11_tells_1 ?_
  refine z_geti ok kc_124 zc_7 hin_7 0 (by decide) fl_11_102 rfl dX11_tells_4 hf (fun v4 hf => ?_)
  refine z_if_eq (tgt := 19) ok dX11_tells_7 (by decide) hf (fun _ hf => ?_) (fun _ hf => ?_)
  · refine z_iconst (v := (-1)) ok dX11_tells_19 (by decide) ?_
    obtain rfl := Option.some.inj hf
    exact hk _ _ dX11_tells_20
  · refine z_iload_n ok dX11_tells_10 1 rfl ?_
    refine z_if_lt (tgt := 19) ok dX11_tells_11 (by decide) hf (fun _ hf => ?_) (fun _ hf => ?_)
    · refine z_iconst (v := (-1)) ok dX11_tells_19 (by decide) ?_
      obtain rfl := Option.some.inj hf
      exact hk _ _ dX11_tells_20
    · refine z_iload_n ok dX11_tells_14 1 rfl ?_
      refine z_iconst (v := 1) ok dX11_tells_15 (by decide) ?_
      refine z_icmp_le (tgt := 21) ok dX11_tells_16 (by decide) hf (fun _ hf => ?_) (fun _ hf => ?_)
      · refine z_aload_n ok dX11_tells_21 0 rfl ?_
        refine z_getr (q := 124) ok kc_0 zc_11 hin_11 13 (by decide) fl_11_55 rfl dX11_tells_22 ?_
        refine z_aload_n ok dX11_tells_25 0 rfl ?_
        refine z_getr (q := 81) ok kc_0 zc_11 hin_11 12 (by decide) fl_11_48 rfl dX11_tells_26 ?_
        refine z_aload_n ok dX11_tells_29 0 rfl ?_
        refine z_getm2 (p := 3) (q := 29) ok kc_0 zc_11 hin_11 3 (by decide) fl_11_23 rfl (by decide) (by decide) dX11_tells_30 hf (fun q30 e30 hf => ?_)
        have hq30 : zI_Works q30 198 := by rcases e30 with rfl | rfl; exact kI_Works_3; exact kI_Works_29
        obtain ⟨hq30_0, hq30_1, hq30_2, hq30_3, hq30_4, hq30_5, hq30_6, hq30_7, hq30_8, hq30_9, hq30_10, hq30_11, hq30_12, hq30_13, hq30_14, hq30_15, hq30_16, hq30_17, hq30_18, hq30_19, hq30_20, hq30_21, hq30_22, hq30_23, hq30_24, hq30_25⟩ := id hq30
        refine z_aload_n ok dX11_tells_33 0 rfl ?_
        refine z_getr (q := 55) ok kc_0 zc_11 hin_11 8 (by decide) fl_11_37 rfl dX11_tells_34 ?_
        refine z_call hf (fun r37 h37 hf => ?_)
        refine z_cVv (As := [.ref (X.ad 81), .ref (X.ad q30), .ref (X.ad 55)]) (rest := []) (w := 124) ok kc_124 zc_7 (c_Sight_findFits hq30 kI_Moment_55 h37) rfl ⟨ml_11_335, w_Sight_findFits⟩ hy_Sight_findFits ⟨rfl, rfl⟩ ⟨Nat.le_of_ble_eq_true rfl, Nat.le_of_ble_eq_true rfl⟩ ⟨Nat.zero_le _, Nat.zero_le _⟩ rfl (Nat.le_of_ble_eq_true rfl) dX11_tells_37 ?_
        refine z_aload_n ok dX11_tells_40 0 rfl ?_
        refine z_getr (q := 124) ok kc_0 zc_11 hin_11 13 (by decide) fl_11_55 rfl dX11_tells_41 ?_
        refine z_geti ok kc_124 zc_7 hin_7 4 (by decide) fl_11_339 rfl dX11_tells_44 hf (fun v44 hf => ?_)
        refine z_if_ne (tgt := 52) ok dX11_tells_47 (by decide) hf (fun _ hf => ?_) (fun _ hf => ?_)
        · refine z_iconst (v := (-1)) ok dX11_tells_50 (by decide) ?_
          obtain rfl := Option.some.inj hf
          exact hk _ _ dX11_tells_51
        · refine z_aload_n ok dX11_tells_52 0 rfl ?_
          refine z_getr (q := 124) ok kc_0 zc_11 hin_11 13 (by decide) fl_11_55 rfl dX11_tells_53 ?_
          refine z_call hf (fun r56 h56 hf => ?_)
          refine z_cV (As := []) (rest := []) (w := 124) ok kc_124 zc_7 (c_Sight_telling h56) rfl ⟨ml_11_345, w_Sight_telling⟩ hy_Sight_telling ⟨rfl, rfl⟩ ⟨Nat.le_of_ble_eq_true rfl, Nat.le_of_ble_eq_true rfl⟩ ⟨Nat.zero_le _, Nat.zero_le _⟩ rfl (Nat.le_of_ble_eq_true rfl) dX11_tells_56 ?_
          refine z_nm hf (fun v59 hf => ?_)
          refine z_istore_n (lv' := [(2, .int v59), (0, .ref (X.ad 0)), (1, .int x1)]) ok dX11_tells_59 (by decide) rfl ?_
          refine z_iload_n ok dX11_tells_60 2 rfl ?_
          refine z_if_ne (tgt := 68) ok dX11_tells_61 (by decide) hf (fun _ hf => ?_) (fun _ hf => ?_)
          · refine z_iload_n ok dX11_tells_64 0 rfl ?_
            refine z_goto (tgt := 76) ok dX11_tells_65 (by decide) ?_
            obtain rfl := Option.some.inj hf
            exact hk _ _ dX11_tells_76
          · refine z_aload_n ok dX11_tells_68 1 rfl ?_
            refine z_getr (q := 124) ok kc_0 zc_11 hin_11 13 (by decide) fl_11_55 rfl dX11_tells_69 ?_
            refine z_iload_n ok dX11_tells_72 0 rfl ?_
            refine z_call hf (fun r73 h73 hf => ?_)
            refine z_cV (As := [.int v59]) (rest := []) (w := 124) ok kc_124 zc_7 (c_Sight_mostAlike h73) rfl ⟨ml_11_348, w_Sight_mostAlike⟩ hy_Sight_mostAlike ⟨rfl, rfl⟩ ⟨Nat.le_of_ble_eq_true rfl, Nat.le_of_ble_eq_true rfl⟩ ⟨Nat.zero_le _, Nat.zero_le _⟩ rfl (Nat.le_of_ble_eq_true rfl) dX11_tells_73 ?_
            obtain rfl := Option.some.inj hf
            exact hk _ _ dX11_tells_76
      · refine z_iconst (v := (-1)) ok dX11_tells_19 (by decide) ?_
        obtain rfl := Option.some.inj hf
        exact hk _ _ dX11_tells_20
theorem c_CK_tells {σ : Sg} {x1 : Int32} {r : (Int32 × Sg)} (h : CK_tells σ x1 = some r) : ZcI yX11_tells cX11_tells 3 .int rm_CK_tells 198 (fun ad => [.ref (ad 0), .int x1]) σ r.1 r.2 :=
  zmetI pn_11 rfl (fun _ => rfl) (fun _ => Nat.le_of_ble_eq_true rfl) rfl (fun X Q ok hk => t_CK_tells ok h hk)
theorem dX0_copyFrom_0 : decode cX0_copyFrom 0 = .ok (.aload_n 0, 1) := by decide +kernel
theorem dX0_copyFrom_1 : decode cX0_copyFrom 1 = .ok (.aload_n 1, 1) := by decide +kernel
theorem dX0_copyFrom_2 : decode cX0_copyFrom 2 = .ok (.getfield 18, 3) := by decide +kernel
theorem dX0_copyFrom_5 : decode cX0_copyFrom 5 = .ok (.putfield 18, 3) := by decide +kernel
theorem dX0_copyFrom_8 : decode cX0_copyFrom 8 = .ok (.aload_n 1, 1) := by decide +kernel
theorem dX0_copyFrom_9 : decode cX0_copyFrom 9 = .ok (.getfield 9, 3) := by decide +kernel
theorem dX0_copyFrom_12 : decode cX0_copyFrom 12 = .ok (.iconst 0, 1) := by decide +kernel
theorem dX0_copyFrom_13 : decode cX0_copyFrom 13 = .ok (.aload_n 0, 1) := by decide +kernel
theorem dX0_copyFrom_14 : decode cX0_copyFrom 14 = .ok (.getfield 9, 3) := by decide +kernel
theorem dX0_copyFrom_17 : decode cX0_copyFrom 17 = .ok (.iconst 0, 1) := by decide +kernel
theorem dX0_copyFrom_18 : decode cX0_copyFrom 18 = .ok (.bipush 120, 2) := by decide +kernel
theorem dX0_copyFrom_20 : decode cX0_copyFrom 20 = .ok (.invokestatic 22, 3) := by decide +kernel
theorem dX0_copyFrom_23 : decode cX0_copyFrom 23 = .ok (.aload_n 1, 1) := by decide +kernel
theorem dX0_copyFrom_24 : decode cX0_copyFrom 24 = .ok (.getfield 15, 3) := by decide +kernel
theorem dX0_copyFrom_27 : decode cX0_copyFrom 27 = .ok (.iconst 0, 1) := by decide +kernel
theorem dX0_copyFrom_28 : decode cX0_copyFrom 28 = .ok (.aload_n 0, 1) := by decide +kernel
theorem dX0_copyFrom_29 : decode cX0_copyFrom 29 = .ok (.getfield 15, 3) := by decide +kernel
theorem dX0_copyFrom_32 : decode cX0_copyFrom 32 = .ok (.iconst 0, 1) := by decide +kernel
theorem dX0_copyFrom_33 : decode cX0_copyFrom 33 = .ok (.sipush 1280, 3) := by decide +kernel
theorem dX0_copyFrom_36 : decode cX0_copyFrom 36 = .ok (.invokestatic 22, 3) := by decide +kernel
theorem dX0_copyFrom_39 : decode cX0_copyFrom 39 = .ok (.return_, 1) := by decide +kernel
abbrev rm_Log_copyFrom : Room := { frames := 1, cells := 0, slots := 0, locals := 60 }
def Log_copyFrom (σ : Sg) (w : Nat) (p1 : Nat) : Option Sg :=
  zgt σ p1 0 fun v2 =>
  zpt σ w 0 v2 fun σ5 =>
  zcp σ5 (p1 + 1) (w + 1) 120 fun σ20 =>
  zcp σ20 (p1 + 2) (w + 2) 1280 fun σ36 =>
  some σ36
set_option maxRecDepth 20000 in
theorem t_Log_copyFrom {N : Nat} {X : Zx} {Q : State → Prop} {σ : Sg} {w : Nat} {p1 : Nat} (ok : Zok X cX0_copyFrom RX0 rm_Log_copyFrom N 2) (hw : zI_Log w N) (hp1 : zI_Log p1 N) {out : Sg} (hf : Log_copyFrom σ w p1 = some out) (hk : ZrV cX0_copyFrom X Q out) : ZAt X Q 0 0 0 σ [(0, .ref (X.ad w)), (1, .ref (X.ad p1))] [] := by
  unfold Log_copyFrom at hf
  obtain ⟨hw_0, hw_1, hw_2⟩ := id hw
  obtain ⟨hp1_0, hp1_1, hp1_2⟩ := id hp1
  refine z_aload_n ok dX0_copyFrom_0 0 rfl ?_
  refine z_aload_n ok dX0_copyFrom_1 1 rfl ?_
  refine z_geti ok hp1_0 zc_0 hin_0 0 (by decide) fl_0_18 rfl dX0_copyFrom_2 hf (fun v2 hf => ?_)
  refine z_puti ok hw_0 zc_0 hin_0 tyX0 tyX0_ok nmX0 0 (by decide) fl_0_18 rfl rfl (tyX0_ok 0 (by decide)) dX0_copyFrom_5 hf (fun σ5 hf => ?_)
  refine z_aload_n ok dX0_copyFrom_8 1 rfl ?_
  refine z_getr (q := (p1 + 1)) ok hp1_0 zc_0 hin_0 1 (by decide) fl_0_9 rfl dX0_copyFrom_9 ?_
  refine z_iconst (v := 0) ok dX0_copyFrom_12 (by decide) ?_
  refine z_aload_n ok dX0_copyFrom_13 0 rfl ?_
  refine z_getr (q := (w + 1)) ok hw_0 zc_0 hin_0 1 (by decide) fl_0_9 rfl dX0_copyFrom_14 ?_
  refine z_iconst (v := 0) ok dX0_copyFrom_17 (by decide) ?_
  refine z_bipush (v := 120) ok dX0_copyFrom_18 (by decide) ?_
  refine z_copy ok hp1_1 hw_1 ml_0_22 (by decide) (Nat.le_of_ble_eq_true rfl) (Nat.le_of_ble_eq_true rfl) dX0_copyFrom_20 hf (fun σ20 hf => ?_)
  refine z_aload_n ok dX0_copyFrom_23 1 rfl ?_
  refine z_getr (q := (p1 + 2)) ok hp1_0 zc_0 hin_0 2 (by decide) fl_0_15 rfl dX0_copyFrom_24 ?_
  refine z_iconst (v := 0) ok dX0_copyFrom_27 (by decide) ?_
  refine z_aload_n ok dX0_copyFrom_28 0 rfl ?_
  refine z_getr (q := (w + 2)) ok hw_0 zc_0 hin_0 2 (by decide) fl_0_15 rfl dX0_copyFrom_29 ?_
  refine z_iconst (v := 0) ok dX0_copyFrom_32 (by decide) ?_
  refine z_sipush (v := 1280) ok dX0_copyFrom_33 (by decide) ?_
  refine z_copy ok hp1_2 hw_2 ml_0_22 (by decide) (Nat.le_of_ble_eq_true rfl) (Nat.le_of_ble_eq_true rfl) dX0_copyFrom_36 hf (fun σ36 hf => ?_)
  obtain rfl := Option.some.inj hf
  exact hk _ _ dX0_copyFrom_39
theorem c_Log_copyFrom {N : Nat} {σ : Sg} {w : Nat} {p1 : Nat} (hw : zI_Log w N) (hp1 : zI_Log p1 N) {r : Sg} (h : Log_copyFrom σ w p1 = some r) : ZcV yX0_copyFrom cX0_copyFrom 2 rm_Log_copyFrom N (fun ad => [.ref (ad w), .ref (ad p1)]) σ r :=
  zmetV pn_0 rfl (fun _ => rfl) (fun _ => Nat.le_of_ble_eq_true rfl) (fun X Q ok hk => t_Log_copyFrom ok hw hp1 h hk)
theorem dX1_copyFrom_0 : decode cX1_copyFrom 0 = .ok (.aload_n 0, 1) := by decide +kernel
theorem dX1_copyFrom_1 : decode cX1_copyFrom 1 = .ok (.getfield 10, 3) := by decide +kernel
theorem dX1_copyFrom_4 : decode cX1_copyFrom 4 = .ok (.aload_n 1, 1) := by decide +kernel
theorem dX1_copyFrom_5 : decode cX1_copyFrom 5 = .ok (.getfield 10, 3) := by decide +kernel
theorem dX1_copyFrom_8 : decode cX1_copyFrom 8 = .ok (.invokevirtual 30, 3) := by decide +kernel
theorem dX1_copyFrom_11 : decode cX1_copyFrom 11 = .ok (.aload_n 0, 1) := by decide +kernel
theorem dX1_copyFrom_12 : decode cX1_copyFrom 12 = .ok (.getfield 19, 3) := by decide +kernel
theorem dX1_copyFrom_15 : decode cX1_copyFrom 15 = .ok (.aload_n 1, 1) := by decide +kernel
theorem dX1_copyFrom_16 : decode cX1_copyFrom 16 = .ok (.getfield 19, 3) := by decide +kernel
theorem dX1_copyFrom_19 : decode cX1_copyFrom 19 = .ok (.invokevirtual 34, 3) := by decide +kernel
theorem dX1_copyFrom_22 : decode cX1_copyFrom 22 = .ok (.aload_n 0, 1) := by decide +kernel
theorem dX1_copyFrom_23 : decode cX1_copyFrom 23 = .ok (.getfield 26, 3) := by decide +kernel
theorem dX1_copyFrom_26 : decode cX1_copyFrom 26 = .ok (.aload_n 1, 1) := by decide +kernel
theorem dX1_copyFrom_27 : decode cX1_copyFrom 27 = .ok (.getfield 26, 3) := by decide +kernel
theorem dX1_copyFrom_30 : decode cX1_copyFrom 30 = .ok (.invokevirtual 37, 3) := by decide +kernel
theorem dX1_copyFrom_33 : decode cX1_copyFrom 33 = .ok (.return_, 1) := by decide +kernel
abbrev rm_Moment_copyFrom : Room := { frames := 2, cells := 0, slots := 0, locals := 81 }
def Moment_copyFrom (σ : Sg) (w : Nat) (p1 : Nat) : Option Sg :=
  (Water_copyFrom σ (w + 1) (p1 + 1)).bind fun r8 =>
  (Orders_copyFrom r8 (w + 18) (p1 + 18)).bind fun r19 =>
  (Log_copyFrom r19 (w + 22) (p1 + 22)).bind fun r30 =>
  some r30
set_option maxRecDepth 20000 in
theorem t_Moment_copyFrom {N : Nat} {X : Zx} {Q : State → Prop} {σ : Sg} {w : Nat} {p1 : Nat} (ok : Zok X cX1_copyFrom RX1 rm_Moment_copyFrom N 2) (hw : zI_Moment w N) (hp1 : zI_Moment p1 N) {out : Sg} (hf : Moment_copyFrom σ w p1 = some out) (hk : ZrV cX1_copyFrom X Q out) : ZAt X Q 0 0 0 σ [(0, .ref (X.ad w)), (1, .ref (X.ad p1))] [] := by
  unfold Moment_copyFrom at hf
  obtain ⟨hw_0, hw_1, hw_2, hw_3, hw_4, hw_5, hw_6, hw_7, hw_8, hw_9, hw_10, hw_11, hw_12, hw_13, hw_14, hw_15, hw_16, hw_17, hw_18, hw_19, hw_20, hw_21, hw_22, hw_23, hw_24⟩ := id hw
  obtain ⟨hp1_0, hp1_1, hp1_2, hp1_3, hp1_4, hp1_5, hp1_6, hp1_7, hp1_8, hp1_9, hp1_10, hp1_11, hp1_12, hp1_13, hp1_14, hp1_15, hp1_16, hp1_17, hp1_18, hp1_19, hp1_20, hp1_21, hp1_22, hp1_23, hp1_24⟩ := id hp1
  refine z_aload_n ok dX1_copyFrom_0 0 rfl ?_
  refine z_getr (q := (w + 1)) ok hw_0 zc_1 hin_1 0 (by decide) fl_1_10 rfl dX1_copyFrom_1 ?_
  refine z_aload_n ok dX1_copyFrom_4 1 rfl ?_
  refine z_getr (q := (p1 + 1)) ok hp1_0 zc_1 hin_1 0 (by decide) fl_1_10 rfl dX1_copyFrom_5 ?_
  refine z_call hf (fun r8 h8 hf => ?_)
  refine z_cVv (As := [.ref (X.ad (p1 + 1))]) (rest := []) (w := (w + 1)) ok hw_1 zc_9 (c_Water_copyFrom (zI_Moment_1 hw) (zI_Moment_1 hp1) h8) rfl ⟨ml_1_30, w_Water_copyFrom⟩ hy_Water_copyFrom ⟨rfl, rfl⟩ ⟨Nat.le_of_ble_eq_true rfl, Nat.le_of_ble_eq_true rfl⟩ ⟨Nat.zero_le _, Nat.zero_le _⟩ rfl (Nat.le_of_ble_eq_true rfl) dX1_copyFrom_8 ?_
  refine z_aload_n ok dX1_copyFrom_11 0 rfl ?_
  refine z_getr (q := (w + 18)) ok hw_0 zc_1 hin_1 1 (by decide) fl_1_19 rfl dX1_copyFrom_12 ?_
  refine z_aload_n ok dX1_copyFrom_15 1 rfl ?_
  refine z_getr (q := (p1 + 18)) ok hp1_0 zc_1 hin_1 1 (by decide) fl_1_19 rfl dX1_copyFrom_16 ?_
  refine z_call hf (fun r19 h19 hf => ?_)
  refine z_cVv (As := [.ref (X.ad (p1 + 18))]) (rest := []) (w := (w + 18)) ok hw_18 zc_3 (c_Orders_copyFrom (zI_Moment_18 hw) (zI_Moment_18 hp1) h19) rfl ⟨ml_1_34, w_Orders_copyFrom⟩ hy_Orders_copyFrom ⟨rfl, rfl⟩ ⟨Nat.le_of_ble_eq_true rfl, Nat.le_of_ble_eq_true rfl⟩ ⟨Nat.zero_le _, Nat.zero_le _⟩ rfl (Nat.le_of_ble_eq_true rfl) dX1_copyFrom_19 ?_
  refine z_aload_n ok dX1_copyFrom_22 0 rfl ?_
  refine z_getr (q := (w + 22)) ok hw_0 zc_1 hin_1 2 (by decide) fl_1_26 rfl dX1_copyFrom_23 ?_
  refine z_aload_n ok dX1_copyFrom_26 1 rfl ?_
  refine z_getr (q := (p1 + 22)) ok hp1_0 zc_1 hin_1 2 (by decide) fl_1_26 rfl dX1_copyFrom_27 ?_
  refine z_call hf (fun r30 h30 hf => ?_)
  refine z_cVv (As := [.ref (X.ad (p1 + 22))]) (rest := []) (w := (w + 22)) ok hw_22 zc_0 (c_Log_copyFrom (zI_Moment_22 hw) (zI_Moment_22 hp1) h30) rfl ⟨ml_1_37, w_Log_copyFrom⟩ hy_Log_copyFrom ⟨rfl, rfl⟩ ⟨Nat.le_of_ble_eq_true rfl, Nat.le_of_ble_eq_true rfl⟩ ⟨Nat.zero_le _, Nat.zero_le _⟩ rfl (Nat.le_of_ble_eq_true rfl) dX1_copyFrom_30 ?_
  obtain rfl := Option.some.inj hf
  exact hk _ _ dX1_copyFrom_33
theorem c_Moment_copyFrom {N : Nat} {σ : Sg} {w : Nat} {p1 : Nat} (hw : zI_Moment w N) (hp1 : zI_Moment p1 N) {r : Sg} (h : Moment_copyFrom σ w p1 = some r) : ZcV yX1_copyFrom cX1_copyFrom 2 rm_Moment_copyFrom N (fun ad => [.ref (ad w), .ref (ad p1)]) σ r :=
  zmetV pn_1 rfl (fun _ => rfl) (fun _ => Nat.le_of_ble_eq_true rfl) (fun X Q ok hk => t_Moment_copyFrom ok hw hp1 h hk)
theorem dX11_draw_0 : decode cX11_draw 0 = .ok (.aload_n 0, 1) := by decide +kernel
theorem dX11_draw_1 : decode cX11_draw 1 = .ok (.ldc2_w 428, 3) := by decide +kernel
theorem dX11_draw_4 : decode cX11_draw 4 = .ok (.aload_n 0, 1) := by decide +kernel
theorem dX11_draw_5 : decode cX11_draw 5 = .ok (.getfield 59, 3) := by decide +kernel
theorem dX11_draw_8 : decode cX11_draw 8 = .ok (.i2l, 1) := by decide +kernel
theorem dX11_draw_9 : decode cX11_draw 9 = .ok (.lmul, 1) := by decide +kernel
theorem dX11_draw_10 : decode cX11_draw 10 = .ok (.ldc2_w 430, 3) := by decide +kernel
theorem dX11_draw_13 : decode cX11_draw 13 = .ok (.ladd, 1) := by decide +kernel
theorem dX11_draw_14 : decode cX11_draw 14 = .ok (.ldc2_w 432, 3) := by decide +kernel
theorem dX11_draw_17 : decode cX11_draw 17 = .ok (.land, 1) := by decide +kernel
theorem dX11_draw_18 : decode cX11_draw 18 = .ok (.l2i, 1) := by decide +kernel
theorem dX11_draw_19 : decode cX11_draw 19 = .ok (.putfield 59, 3) := by decide +kernel
theorem dX11_draw_22 : decode cX11_draw 22 = .ok (.iload_n 1, 1) := by decide +kernel
theorem dX11_draw_23 : decode cX11_draw 23 = .ok (.ifCond .le 15, 3) := by decide +kernel
theorem dX11_draw_26 : decode cX11_draw 26 = .ok (.aload_n 0, 1) := by decide +kernel
theorem dX11_draw_27 : decode cX11_draw 27 = .ok (.getfield 59, 3) := by decide +kernel
theorem dX11_draw_30 : decode cX11_draw 30 = .ok (.bipush 64, 2) := by decide +kernel
theorem dX11_draw_32 : decode cX11_draw 32 = .ok (.idiv, 1) := by decide +kernel
theorem dX11_draw_33 : decode cX11_draw 33 = .ok (.iload_n 1, 1) := by decide +kernel
theorem dX11_draw_34 : decode cX11_draw 34 = .ok (.irem, 1) := by decide +kernel
theorem dX11_draw_35 : decode cX11_draw 35 = .ok (.goto 4, 3) := by decide +kernel
theorem dX11_draw_38 : decode cX11_draw 38 = .ok (.iconst 0, 1) := by decide +kernel
theorem dX11_draw_39 : decode cX11_draw 39 = .ok (.ireturn, 1) := by decide +kernel
abbrev rm_CK_draw : Room := { frames := 0, cells := 0, slots := 0, locals := 0 }
def CK_draw (σ : Sg) (x1 : Int32) : Option (Int32 × Sg) :=
  zgt σ 0 14 fun v5 =>
  zpt σ 0 14 ((((1103515245 * v5.toInt64) + 12345) &&& 2147483647)).toInt32 fun σ19 =>
  if x1 ≤ 0 then (
    some (0, σ19)
  ) else (
    zgt σ19 0 14 fun v27 =>
    znz x1 <|
    some (((v27 / 64) - (v27 / 64) / x1 * x1), σ19)
  )
set_option maxRecDepth 20000 in
theorem t_CK_draw {X : Zx} {Q : State → Prop} {σ : Sg} {x1 : Int32} (ok : Zok X cX11_draw RX11 rm_CK_draw 198 2)  {out : (Int32 × Sg)} (hf : CK_draw σ x1 = some out) (hk : ZrI cX11_draw X Q out.1 out.2) : ZAt X Q 0 0 0 σ [(0, .ref (X.ad 0)), (1, .int x1)] [] := by
  unfold CK_draw at hf
  refine z_aload_n ok dX11_draw_0 0 rfl ?_
  refine z_ldc2_w (v := 1103515245) ok dX11_draw_1 wl_11_428 ?_
  refine z_aload_n ok dX11_draw_4 0 rfl ?_
  refine z_geti ok kc_0 zc_11 hin_11 14 (by decide) fl_11_59 rfl dX11_draw_5 hf (fun v5 hf => ?_)
  refine z_i2l ok dX11_draw_8 ?_
  refine z_lmul ok dX11_draw_9 ?_
  refine z_ldc2_w (v := 12345) ok dX11_draw_10 wl_11_430 ?_
  refine z_ladd ok dX11_draw_13 ?_
  refine z_ldc2_w (v := 2147483647) ok dX11_draw_14 wl_11_432 ?_
  refine z_land ok dX11_draw_17 ?_
  refine z_l2i ok dX11_draw_18 ?_
  refine z_puti ok kc_0 zc_11 hin_11 tyX11 tyX11_ok nmX11 14 (by decide) fl_11_59 rfl rfl (tyX11_ok 14 (by decide)) dX11_draw_19 hf (fun σ19 hf => ?_)
  refine z_iload_n ok dX11_draw_22 1 rfl ?_
  refine z_if_le (tgt := 38) ok dX11_draw_23 (by decide) hf (fun _ hf => ?_) (fun _ hf => ?_)
  · refine z_iconst (v := 0) ok dX11_draw_38 (by decide) ?_
    obtain rfl := Option.some.inj hf
    exact hk _ _ dX11_draw_39
  · refine z_aload_n ok dX11_draw_26 0 rfl ?_
    refine z_geti ok kc_0 zc_11 hin_11 14 (by decide) fl_11_59 rfl dX11_draw_27 hf (fun v27 hf => ?_)
    refine z_bipush (v := 64) ok dX11_draw_30 (by decide) ?_
    refine z_idivc ok dX11_draw_32 (by decide) ?_
    refine z_iload_n ok dX11_draw_33 1 rfl ?_
    refine z_irem ok dX11_draw_34 hf (fun hf => ?_)
    refine z_goto (tgt := 39) ok dX11_draw_35 (by decide) ?_
    obtain rfl := Option.some.inj hf
    exact hk _ _ dX11_draw_39
theorem c_CK_draw {σ : Sg} {x1 : Int32} {r : (Int32 × Sg)} (h : CK_draw σ x1 = some r) : ZcI yX11_draw cX11_draw 2 .int rm_CK_draw 198 (fun ad => [.ref (ad 0), .int x1]) σ r.1 r.2 :=
  zmetI pn_11 rfl (fun _ => rfl) (fun _ => Nat.le_of_ble_eq_true rfl) rfl (fun X Q ok hk => t_CK_draw ok h hk)
theorem dX9_rainOn_0 : decode cX9_rainOn 0 = .ok (.aload_n 0, 1) := by decide +kernel
theorem dX9_rainOn_1 : decode cX9_rainOn 1 = .ok (.getfield 9, 3) := by decide +kernel
theorem dX9_rainOn_4 : decode cX9_rainOn 4 = .ok (.iload_n 1, 1) := by decide +kernel
theorem dX9_rainOn_5 : decode cX9_rainOn 5 = .ok (.dup2, 1) := by decide +kernel
theorem dX9_rainOn_6 : decode cX9_rainOn 6 = .ok (.iaload, 1) := by decide +kernel
theorem dX9_rainOn_7 : decode cX9_rainOn 7 = .ok (.iload_n 2, 1) := by decide +kernel
theorem dX9_rainOn_8 : decode cX9_rainOn 8 = .ok (.iadd, 1) := by decide +kernel
theorem dX9_rainOn_9 : decode cX9_rainOn 9 = .ok (.iastore, 1) := by decide +kernel
theorem dX9_rainOn_10 : decode cX9_rainOn 10 = .ok (.aload_n 0, 1) := by decide +kernel
theorem dX9_rainOn_11 : decode cX9_rainOn 11 = .ok (.getfield 39, 3) := by decide +kernel
theorem dX9_rainOn_14 : decode cX9_rainOn 14 = .ok (.getfield 83, 3) := by decide +kernel
theorem dX9_rainOn_17 : decode cX9_rainOn 17 = .ok (.iload_n 1, 1) := by decide +kernel
theorem dX9_rainOn_18 : decode cX9_rainOn 18 = .ok (.dup2, 1) := by decide +kernel
theorem dX9_rainOn_19 : decode cX9_rainOn 19 = .ok (.iaload, 1) := by decide +kernel
theorem dX9_rainOn_20 : decode cX9_rainOn 20 = .ok (.iload_n 2, 1) := by decide +kernel
theorem dX9_rainOn_21 : decode cX9_rainOn 21 = .ok (.iadd, 1) := by decide +kernel
theorem dX9_rainOn_22 : decode cX9_rainOn 22 = .ok (.iastore, 1) := by decide +kernel
theorem dX9_rainOn_23 : decode cX9_rainOn 23 = .ok (.aload_n 0, 1) := by decide +kernel
theorem dX9_rainOn_24 : decode cX9_rainOn 24 = .ok (.getfield 33, 3) := by decide +kernel
theorem dX9_rainOn_27 : decode cX9_rainOn 27 = .ok (.iconst 4, 1) := by decide +kernel
theorem dX9_rainOn_28 : decode cX9_rainOn 28 = .ok (.dup2, 1) := by decide +kernel
theorem dX9_rainOn_29 : decode cX9_rainOn 29 = .ok (.iaload, 1) := by decide +kernel
theorem dX9_rainOn_30 : decode cX9_rainOn 30 = .ok (.iload_n 2, 1) := by decide +kernel
theorem dX9_rainOn_31 : decode cX9_rainOn 31 = .ok (.iadd, 1) := by decide +kernel
theorem dX9_rainOn_32 : decode cX9_rainOn 32 = .ok (.iastore, 1) := by decide +kernel
theorem dX9_rainOn_33 : decode cX9_rainOn 33 = .ok (.return_, 1) := by decide +kernel
abbrev rm_Water_rainOn : Room := { frames := 0, cells := 0, slots := 0, locals := 0 }
def Water_rainOn (σ : Sg) (w : Nat) (x1 : Int32) (x2 : Int32) : Option Sg :=
  zrd σ (w + 1) 8 x1 fun v6 =>
  zwr σ (w + 1) 8 x1 (v6 + x2) fun σ9 =>
  zrd σ9 (w + 11) 8 x1 fun v19 =>
  zwr σ9 (w + 11) 8 x1 (v19 + x2) fun σ22 =>
  zrd σ22 (w + 8) 7 4 fun v29 =>
  zwr σ22 (w + 8) 7 4 (v29 + x2) fun σ32 =>
  some σ32
set_option maxRecDepth 20000 in
theorem t_Water_rainOn {X : Zx} {Q : State → Prop} {σ : Sg} {w : Nat} {x1 : Int32} {x2 : Int32} (ok : Zok X cX9_rainOn RX9 rm_Water_rainOn 198 3) (hw : zI_Water w 198) {out : Sg} (hf : Water_rainOn σ w x1 x2 = some out) (hk : ZrV cX9_rainOn X Q out) : ZAt X Q 0 0 0 σ [(0, .ref (X.ad w)), (1, .int x1), (2, .int x2)] [] := by
  unfold Water_rainOn at hf
  obtain ⟨hw_0, hw_1, hw_2, hw_3, hw_4, hw_5, hw_6, hw_7, hw_8, hw_9, hw_10, hw_11, hw_12, hw_13, hw_14, hw_15, hw_16⟩ := id hw
  refine z_aload_n ok dX9_rainOn_0 0 rfl ?_
  refine z_getr (q := (w + 1)) ok hw_0 zc_9 hin_9 3 (by decide) fl_9_9 rfl dX9_rainOn_1 ?_
  refine z_iload_n ok dX9_rainOn_4 1 rfl ?_
  refine z_dup2 ok dX9_rainOn_5 rfl rfl ?_
  refine z_iald ok hw_1 dX9_rainOn_6 hf (fun v6 hf => ?_)
  refine z_iload_n ok dX9_rainOn_7 2 rfl ?_
  refine z_iadd ok dX9_rainOn_8 ?_
  refine z_iast ok hw_1 dX9_rainOn_9 hf (fun σ9 hf => ?_)
  refine z_aload_n ok dX9_rainOn_10 0 rfl ?_
  refine z_getr (q := (w + 9)) ok hw_0 zc_9 hin_9 11 (by decide) fl_9_39 rfl dX9_rainOn_11 ?_
  refine z_getr (q := (w + 11)) ok hw_9 zc_2 hin_2 1 (by decide) fl_9_83 rfl dX9_rainOn_14 ?_
  refine z_iload_n ok dX9_rainOn_17 1 rfl ?_
  refine z_dup2 ok dX9_rainOn_18 rfl rfl ?_
  refine z_iald ok hw_11 dX9_rainOn_19 hf (fun v19 hf => ?_)
  refine z_iload_n ok dX9_rainOn_20 2 rfl ?_
  refine z_iadd ok dX9_rainOn_21 ?_
  refine z_iast ok hw_11 dX9_rainOn_22 hf (fun σ22 hf => ?_)
  refine z_aload_n ok dX9_rainOn_23 0 rfl ?_
  refine z_getr (q := (w + 8)) ok hw_0 zc_9 hin_9 10 (by decide) fl_9_33 rfl dX9_rainOn_24 ?_
  refine z_iconst (v := 4) ok dX9_rainOn_27 (by decide) ?_
  refine z_dup2 ok dX9_rainOn_28 rfl rfl ?_
  refine z_iald ok hw_8 dX9_rainOn_29 hf (fun v29 hf => ?_)
  refine z_iload_n ok dX9_rainOn_30 2 rfl ?_
  refine z_iadd ok dX9_rainOn_31 ?_
  refine z_iast ok hw_8 dX9_rainOn_32 hf (fun σ32 hf => ?_)
  obtain rfl := Option.some.inj hf
  exact hk _ _ dX9_rainOn_33
theorem c_Water_rainOn {σ : Sg} {w : Nat} {x1 : Int32} {x2 : Int32} (hw : zI_Water w 198) {r : Sg} (h : Water_rainOn σ w x1 x2 = some r) : ZcV yX9_rainOn cX9_rainOn 3 rm_Water_rainOn 198 (fun ad => [.ref (ad w), .int x1, .int x2]) σ r :=
  zmetV pn_9 rfl (fun _ => rfl) (fun _ => Nat.le_of_ble_eq_true rfl) (fun X Q ok hk => t_Water_rainOn ok hw h hk)
theorem dX0_isOffWanted_0 : decode cX0_isOffWanted 0 = .ok (.aload_n 1, 1) := by decide +kernel
theorem dX0_isOffWanted_1 : decode cX0_isOffWanted 1 = .ok (.getfield 89, 3) := by decide +kernel
theorem dX0_isOffWanted_4 : decode cX0_isOffWanted 4 = .ok (.iload_n 2, 1) := by decide +kernel
theorem dX0_isOffWanted_5 : decode cX0_isOffWanted 5 = .ok (.iaload, 1) := by decide +kernel
theorem dX0_isOffWanted_6 : decode cX0_isOffWanted 6 = .ok (.aload_n 0, 1) := by decide +kernel
theorem dX0_isOffWanted_7 : decode cX0_isOffWanted 7 = .ok (.iload_n 2, 1) := by decide +kernel
theorem dX0_isOffWanted_8 : decode cX0_isOffWanted 8 = .ok (.aload_n 1, 1) := by decide +kernel
theorem dX0_isOffWanted_9 : decode cX0_isOffWanted 9 = .ok (.getfield 54, 3) := by decide +kernel
theorem dX0_isOffWanted_12 : decode cX0_isOffWanted 12 = .ok (.getfield 92, 3) := by decide +kernel
theorem dX0_isOffWanted_15 : decode cX0_isOffWanted 15 = .ok (.iload_n 2, 1) := by decide +kernel
theorem dX0_isOffWanted_16 : decode cX0_isOffWanted 16 = .ok (.iaload, 1) := by decide +kernel
theorem dX0_isOffWanted_17 : decode cX0_isOffWanted 17 = .ok (.invokevirtual 95, 3) := by decide +kernel
theorem dX0_isOffWanted_20 : decode cX0_isOffWanted 20 = .ok (.if_icmp .eq 7, 3) := by decide +kernel
theorem dX0_isOffWanted_23 : decode cX0_isOffWanted 23 = .ok (.iconst 1, 1) := by decide +kernel
theorem dX0_isOffWanted_24 : decode cX0_isOffWanted 24 = .ok (.goto 4, 3) := by decide +kernel
theorem dX0_isOffWanted_27 : decode cX0_isOffWanted 27 = .ok (.iconst 0, 1) := by decide +kernel
theorem dX0_isOffWanted_28 : decode cX0_isOffWanted 28 = .ok (.ireturn, 1) := by decide +kernel
abbrev rm_Log_isOffWanted : Room := { frames := 2, cells := 0, slots := 0, locals := 43 }
def Log_isOffWanted (σ : Sg) (p0 : Nat) (p1 : Nat) (x2 : Int32) : Option Bool :=
  zrd σ (p1 + 2) 8 x2 fun v5 =>
  zrd σ (p1 + 16) 8 x2 fun v16 =>
  (Works_heldIn σ p0 x2 v16).bind fun r17 =>
  if v5 = r17 then (
    some false
  ) else (
    some true
  )
set_option maxRecDepth 20000 in
theorem t_Log_isOffWanted {X : Zx} {Q : State → Prop} {σ : Sg} {p0 : Nat} {p1 : Nat} {x2 : Int32} (ok : Zok X cX0_isOffWanted RX0 rm_Log_isOffWanted 198 3) (hp0 : zI_Works p0 198) (hp1 : zI_Water p1 198) {out : Bool} (hf : Log_isOffWanted σ p0 p1 x2 = some out) (hk : ZrI cX0_isOffWanted X Q (zb out) σ) : ZAt X Q 0 0 0 σ [(0, .ref (X.ad p0)), (1, .ref (X.ad p1)), (2, .int x2)] [] := by
  unfold Log_isOffWanted at hf
  obtain ⟨hp0_0, hp0_1, hp0_2, hp0_3, hp0_4, hp0_5, hp0_6, hp0_7, hp0_8, hp0_9, hp0_10, hp0_11, hp0_12, hp0_13, hp0_14, hp0_15, hp0_16, hp0_17, hp0_18, hp0_19, hp0_20, hp0_21, hp0_22, hp0_23, hp0_24, hp0_25⟩ := id hp0
  obtain ⟨hp1_0, hp1_1, hp1_2, hp1_3, hp1_4, hp1_5, hp1_6, hp1_7, hp1_8, hp1_9, hp1_10, hp1_11, hp1_12, hp1_13, hp1_14, hp1_15, hp1_16⟩ := id hp1
  refine z_aload_n ok dX0_isOffWanted_0 1 rfl ?_
  refine z_getr (q := (p1 + 2)) ok hp1_0 zc_9 hin_9 4 (by decide) fl_0_89 rfl dX0_isOffWanted_1 ?_
  refine z_iload_n ok dX0_isOffWanted_4 2 rfl ?_
  refine z_iald ok hp1_2 dX0_isOffWanted_5 hf (fun v5 hf => ?_)
  refine z_aload_n ok dX0_isOffWanted_6 0 rfl ?_
  refine z_iload_n ok dX0_isOffWanted_7 2 rfl ?_
  refine z_aload_n ok dX0_isOffWanted_8 1 rfl ?_
  refine z_getr (q := (p1 + 9)) ok hp1_0 zc_9 hin_9 11 (by decide) fl_0_54 rfl dX0_isOffWanted_9 ?_
  refine z_getr (q := (p1 + 16)) ok hp1_9 zc_2 hin_2 6 (by decide) fl_0_92 rfl dX0_isOffWanted_12 ?_
  refine z_iload_n ok dX0_isOffWanted_15 2 rfl ?_
  refine z_iald ok hp1_16 dX0_isOffWanted_16 hf (fun v16 hf => ?_)
  refine z_call hf (fun r17 h17 hf => ?_)
  refine z_cV (As := [.int x2, .int v16]) (rest := [.int v5]) (w := p0) ok hp0_0 zc_10 (c_Works_heldIn hp0 h17) rfl ⟨ml_0_95, w_Works_heldIn⟩ hy_Works_heldIn ⟨rfl, rfl⟩ ⟨Nat.le_of_ble_eq_true rfl, Nat.le_of_ble_eq_true rfl⟩ ⟨Nat.zero_le _, Nat.zero_le _⟩ rfl (Nat.le_of_ble_eq_true rfl) dX0_isOffWanted_17 ?_
  refine z_icmp_eq (tgt := 27) ok dX0_isOffWanted_20 (by decide) hf (fun _ hf => ?_) (fun _ hf => ?_)
  · refine z_iconst (v := 0) ok dX0_isOffWanted_27 (by decide) ?_
    obtain rfl := Option.some.inj hf
    exact hk _ _ dX0_isOffWanted_28
  · refine z_iconst (v := 1) ok dX0_isOffWanted_23 (by decide) ?_
    refine z_goto (tgt := 28) ok dX0_isOffWanted_24 (by decide) ?_
    obtain rfl := Option.some.inj hf
    exact hk _ _ dX0_isOffWanted_28
theorem c_Log_isOffWanted {σ : Sg} {p0 : Nat} {p1 : Nat} {x2 : Int32} (hp0 : zI_Works p0 198) (hp1 : zI_Water p1 198) {r : Bool} (h : Log_isOffWanted σ p0 p1 x2 = some r) : ZcI yX0_isOffWanted cX0_isOffWanted 3 .boolean rm_Log_isOffWanted 198 (fun ad => [.ref (ad p0), .ref (ad p1), .int x2]) σ (zb r) σ :=
  zmetI pn_0 rfl (fun _ => rfl) (fun _ => Nat.le_of_ble_eq_true rfl) (zb_nar _) (fun X Q ok hk => t_Log_isOffWanted ok hp0 hp1 h hk)
theorem dX0_causeBelow_0 : decode cX0_causeBelow 0 = .ok (.aload_n 1, 1) := by decide +kernel
theorem dX0_causeBelow_1 : decode cX0_causeBelow 1 = .ok (.getfield 54, 3) := by decide +kernel
theorem dX0_causeBelow_4 : decode cX0_causeBelow 4 = .ok (.getfield 69, 3) := by decide +kernel
theorem dX0_causeBelow_7 : decode cX0_causeBelow 7 = .ok (.iload_n 2, 1) := by decide +kernel
theorem dX0_causeBelow_8 : decode cX0_causeBelow 8 = .ok (.iaload, 1) := by decide +kernel
theorem dX0_causeBelow_9 : decode cX0_causeBelow 9 = .ok (.aload_n 1, 1) := by decide +kernel
theorem dX0_causeBelow_10 : decode cX0_causeBelow 10 = .ok (.getfield 54, 3) := by decide +kernel
theorem dX0_causeBelow_13 : decode cX0_causeBelow 13 = .ok (.getfield 98, 3) := by decide +kernel
theorem dX0_causeBelow_16 : decode cX0_causeBelow 16 = .ok (.iload_n 2, 1) := by decide +kernel
theorem dX0_causeBelow_17 : decode cX0_causeBelow 17 = .ok (.iaload, 1) := by decide +kernel
theorem dX0_causeBelow_18 : decode cX0_causeBelow 18 = .ok (.if_icmp .ge 5, 3) := by decide +kernel
theorem dX0_causeBelow_21 : decode cX0_causeBelow 21 = .ok (.iconst 1, 1) := by decide +kernel
theorem dX0_causeBelow_22 : decode cX0_causeBelow 22 = .ok (.ireturn, 1) := by decide +kernel
theorem dX0_causeBelow_23 : decode cX0_causeBelow 23 = .ok (.aload_n 0, 1) := by decide +kernel
theorem dX0_causeBelow_24 : decode cX0_causeBelow 24 = .ok (.getfield 99, 3) := by decide +kernel
theorem dX0_causeBelow_27 : decode cX0_causeBelow 27 = .ok (.bipush 6, 2) := by decide +kernel
theorem dX0_causeBelow_29 : decode cX0_causeBelow 29 = .ok (.aaload, 1) := by decide +kernel
theorem dX0_causeBelow_30 : decode cX0_causeBelow 30 = .ok (.iload_n 2, 1) := by decide +kernel
theorem dX0_causeBelow_31 : decode cX0_causeBelow 31 = .ok (.iaload, 1) := by decide +kernel
theorem dX0_causeBelow_32 : decode cX0_causeBelow 32 = .ok (.aload_n 1, 1) := by decide +kernel
theorem dX0_causeBelow_33 : decode cX0_causeBelow 33 = .ok (.getfield 54, 3) := by decide +kernel
theorem dX0_causeBelow_36 : decode cX0_causeBelow 36 = .ok (.getfield 92, 3) := by decide +kernel
theorem dX0_causeBelow_39 : decode cX0_causeBelow 39 = .ok (.iload_n 2, 1) := by decide +kernel
theorem dX0_causeBelow_40 : decode cX0_causeBelow 40 = .ok (.iaload, 1) := by decide +kernel
theorem dX0_causeBelow_41 : decode cX0_causeBelow 41 = .ok (.if_icmp .ge 5, 3) := by decide +kernel
theorem dX0_causeBelow_44 : decode cX0_causeBelow 44 = .ok (.iconst 2, 1) := by decide +kernel
theorem dX0_causeBelow_45 : decode cX0_causeBelow 45 = .ok (.ireturn, 1) := by decide +kernel
theorem dX0_causeBelow_46 : decode cX0_causeBelow 46 = .ok (.aload_n 0, 1) := by decide +kernel
theorem dX0_causeBelow_47 : decode cX0_causeBelow 47 = .ok (.aload_n 1, 1) := by decide +kernel
theorem dX0_causeBelow_48 : decode cX0_causeBelow 48 = .ok (.iload_n 2, 1) := by decide +kernel
theorem dX0_causeBelow_49 : decode cX0_causeBelow 49 = .ok (.invokestatic 103, 3) := by decide +kernel
theorem dX0_causeBelow_52 : decode cX0_causeBelow 52 = .ok (.ifCond .eq 5, 3) := by decide +kernel
theorem dX0_causeBelow_55 : decode cX0_causeBelow 55 = .ok (.iconst 3, 1) := by decide +kernel
theorem dX0_causeBelow_56 : decode cX0_causeBelow 56 = .ok (.ireturn, 1) := by decide +kernel
theorem dX0_causeBelow_57 : decode cX0_causeBelow 57 = .ok (.aload_n 1, 1) := by decide +kernel
theorem dX0_causeBelow_58 : decode cX0_causeBelow 58 = .ok (.getfield 107, 3) := by decide +kernel
theorem dX0_causeBelow_61 : decode cX0_causeBelow 61 = .ok (.iload_n 2, 1) := by decide +kernel
theorem dX0_causeBelow_62 : decode cX0_causeBelow 62 = .ok (.iaload, 1) := by decide +kernel
theorem dX0_causeBelow_63 : decode cX0_causeBelow 63 = .ok (.ifCond .le 7, 3) := by decide +kernel
theorem dX0_causeBelow_66 : decode cX0_causeBelow 66 = .ok (.iconst 4, 1) := by decide +kernel
theorem dX0_causeBelow_67 : decode cX0_causeBelow 67 = .ok (.goto 4, 3) := by decide +kernel
theorem dX0_causeBelow_70 : decode cX0_causeBelow 70 = .ok (.iconst 5, 1) := by decide +kernel
theorem dX0_causeBelow_71 : decode cX0_causeBelow 71 = .ok (.ireturn, 1) := by decide +kernel
abbrev rm_Log_causeBelow : Room := { frames := 3, cells := 0, slots := 0, locals := 65 }
def Log_causeBelow (σ : Sg) (p0 : Nat) (p1 : Nat) (x2 : Int32) : Option Int32 :=
  zrd σ (p1 + 13) 8 x2 fun v8 =>
  zrd σ (p1 + 14) 8 x2 fun v17 =>
  if v17 ≤ v8 then (
    zrd σ (p0 + 9) 8 x2 fun v31 =>
    zrd σ (p1 + 16) 8 x2 fun v40 =>
    if v40 ≤ v31 then (
      (Log_isOffWanted σ p0 p1 x2).bind fun r49 =>
      if (zb r49) = 0 then (
        zrd σ (p1 + 3) 8 x2 fun v62 =>
        if v62 ≤ 0 then (
          some 5
        ) else (
          some 4
        )
      ) else (
        some 3
      )
    ) else (
      some 2
    )
  ) else (
    some 1
  )
set_option maxRecDepth 20000 in
theorem t_Log_causeBelow {X : Zx} {Q : State → Prop} {σ : Sg} {p0 : Nat} {p1 : Nat} {x2 : Int32} (ok : Zok X cX0_causeBelow RX0 rm_Log_causeBelow 198 3) (hp0 : zI_Works p0 198) (hp1 : zI_Water p1 198) {out : Int32} (hf : Log_causeBelow σ p0 p1 x2 = some out) (hk : ZrI cX0_causeBelow X Q out σ) : ZAt X Q 0 0 0 σ [(0, .ref (X.ad p0)), (1, .ref (X.ad p1)), (2, .int x2)] [] := by
  unfold Log_causeBelow at hf
  obtain ⟨hp0_0, hp0_1, hp0_2, hp0_3, hp0_4, hp0_5, hp0_6, hp0_7, hp0_8, hp0_9, hp0_10, hp0_11, hp0_12, hp0_13, hp0_14, hp0_15, hp0_16, hp0_17, hp0_18, hp0_19, hp0_20, hp0_21, hp0_22, hp0_23, hp0_24, hp0_25⟩ := id hp0
  obtain ⟨hp1_0, hp1_1, hp1_2, hp1_3, hp1_4, hp1_5, hp1_6, hp1_7, hp1_8, hp1_9, hp1_10, hp1_11, hp1_12, hp1_13, hp1_14, hp1_15, hp1_16⟩ := id hp1
  refine z_aload_n ok dX0_causeBelow_0 1 rfl ?_
  refine z_getr (q := (p1 + 9)) ok hp1_0 zc_9 hin_9 11 (by decide) fl_0_54 rfl dX0_causeBelow_1 ?_
  refine z_getr (q := (p1 + 13)) ok hp1_9 zc_2 hin_2 3 (by decide) fl_0_69 rfl dX0_causeBelow_4 ?_
  refine z_iload_n ok dX0_causeBelow_7 2 rfl ?_
  refine z_iald ok hp1_13 dX0_causeBelow_8 hf (fun v8 hf => ?_)
  refine z_aload_n ok dX0_causeBelow_9 1 rfl ?_
  refine z_getr (q := (p1 + 9)) ok hp1_0 zc_9 hin_9 11 (by decide) fl_0_54 rfl dX0_causeBelow_10 ?_
  refine z_getr (q := (p1 + 14)) ok hp1_9 zc_2 hin_2 4 (by decide) fl_0_98 rfl dX0_causeBelow_13 ?_
  refine z_iload_n ok dX0_causeBelow_16 2 rfl ?_
  refine z_iald ok hp1_14 dX0_causeBelow_17 hf (fun v17 hf => ?_)
  refine z_icmp_ge (tgt := 23) ok dX0_causeBelow_18 (by decide) hf (fun _ hf => ?_) (fun _ hf => ?_)
  · refine z_aload_n ok dX0_causeBelow_23 0 rfl ?_
    refine z_getr (q := (p0 + 2)) ok hp0_0 zc_10 hin_10 5 (by decide) fl_0_99 rfl dX0_causeBelow_24 ?_
    refine z_bipush (v := 6) ok dX0_causeBelow_27 (by decide) ?_
    refine z_aaldc (q := (p0 + 9)) ok hp0_2 (by decide) rfl (by decide) rfl dX0_causeBelow_29 ?_
    refine z_iload_n ok dX0_causeBelow_30 2 rfl ?_
    refine z_iald ok hp0_9 dX0_causeBelow_31 hf (fun v31 hf => ?_)
    refine z_aload_n ok dX0_causeBelow_32 1 rfl ?_
    refine z_getr (q := (p1 + 9)) ok hp1_0 zc_9 hin_9 11 (by decide) fl_0_54 rfl dX0_causeBelow_33 ?_
    refine z_getr (q := (p1 + 16)) ok hp1_9 zc_2 hin_2 6 (by decide) fl_0_92 rfl dX0_causeBelow_36 ?_
    refine z_iload_n ok dX0_causeBelow_39 2 rfl ?_
    refine z_iald ok hp1_16 dX0_causeBelow_40 hf (fun v40 hf => ?_)
    refine z_icmp_ge (tgt := 46) ok dX0_causeBelow_41 (by decide) hf (fun _ hf => ?_) (fun _ hf => ?_)
    · refine z_aload_n ok dX0_causeBelow_46 0 rfl ?_
      refine z_aload_n ok dX0_causeBelow_47 1 rfl ?_
      refine z_iload_n ok dX0_causeBelow_48 2 rfl ?_
      refine z_call hf (fun r49 h49 hf => ?_)
      refine z_cS (As := [.ref (X.ad p0), .ref (X.ad p1), .int x2]) (rest := []) ok (c_Log_isOffWanted hp0 hp1 h49) rfl ⟨ml_0_103, w_Log_isOffWanted⟩ hy_Log_isOffWanted ⟨rfl, rfl⟩ ⟨Nat.le_of_ble_eq_true rfl, Nat.le_of_ble_eq_true rfl⟩ ⟨Nat.zero_le _, Nat.zero_le _⟩ rfl (Nat.le_of_ble_eq_true rfl) dX0_causeBelow_49 ?_
      refine z_if_eq (tgt := 57) ok dX0_causeBelow_52 (by decide) hf (fun _ hf => ?_) (fun _ hf => ?_)
      · refine z_aload_n ok dX0_causeBelow_57 1 rfl ?_
        refine z_getr (q := (p1 + 3)) ok hp1_0 zc_9 hin_9 5 (by decide) fl_0_107 rfl dX0_causeBelow_58 ?_
        refine z_iload_n ok dX0_causeBelow_61 2 rfl ?_
        refine z_iald ok hp1_3 dX0_causeBelow_62 hf (fun v62 hf => ?_)
        refine z_if_le (tgt := 70) ok dX0_causeBelow_63 (by decide) hf (fun _ hf => ?_) (fun _ hf => ?_)
        · refine z_iconst (v := 5) ok dX0_causeBelow_70 (by decide) ?_
          obtain rfl := Option.some.inj hf
          exact hk _ _ dX0_causeBelow_71
        · refine z_iconst (v := 4) ok dX0_causeBelow_66 (by decide) ?_
          refine z_goto (tgt := 71) ok dX0_causeBelow_67 (by decide) ?_
          obtain rfl := Option.some.inj hf
          exact hk _ _ dX0_causeBelow_71
      · refine z_iconst (v := 3) ok dX0_causeBelow_55 (by decide) ?_
        obtain rfl := Option.some.inj hf
        exact hk _ _ dX0_causeBelow_56
    · refine z_iconst (v := 2) ok dX0_causeBelow_44 (by decide) ?_
      obtain rfl := Option.some.inj hf
      exact hk _ _ dX0_causeBelow_45
  · refine z_iconst (v := 1) ok dX0_causeBelow_21 (by decide) ?_
    obtain rfl := Option.some.inj hf
    exact hk _ _ dX0_causeBelow_22
theorem c_Log_causeBelow {σ : Sg} {p0 : Nat} {p1 : Nat} {x2 : Int32} (hp0 : zI_Works p0 198) (hp1 : zI_Water p1 198) {r : Int32} (h : Log_causeBelow σ p0 p1 x2 = some r) : ZcI yX0_causeBelow cX0_causeBelow 3 .int rm_Log_causeBelow 198 (fun ad => [.ref (ad p0), .ref (ad p1), .int x2]) σ r σ :=
  zmetI pn_0 rfl (fun _ => rfl) (fun _ => Nat.le_of_ble_eq_true rfl) rfl (fun X Q ok hk => t_Log_causeBelow ok hp0 hp1 h hk)
theorem dX0_causeAbove_0 : decode cX0_causeAbove 0 = .ok (.aload_n 1, 1) := by decide +kernel
theorem dX0_causeAbove_1 : decode cX0_causeAbove 1 = .ok (.getfield 54, 3) := by decide +kernel
theorem dX0_causeAbove_4 : decode cX0_causeAbove 4 = .ok (.getfield 110, 3) := by decide +kernel
theorem dX0_causeAbove_7 : decode cX0_causeAbove 7 = .ok (.iload_n 2, 1) := by decide +kernel
theorem dX0_causeAbove_8 : decode cX0_causeAbove 8 = .ok (.iaload, 1) := by decide +kernel
theorem dX0_causeAbove_9 : decode cX0_causeAbove 9 = .ok (.ifCond .le 6, 3) := by decide +kernel
theorem dX0_causeAbove_12 : decode cX0_causeAbove 12 = .ok (.bipush 6, 2) := by decide +kernel
theorem dX0_causeAbove_14 : decode cX0_causeAbove 14 = .ok (.ireturn, 1) := by decide +kernel
theorem dX0_causeAbove_15 : decode cX0_causeAbove 15 = .ok (.aload_n 0, 1) := by decide +kernel
theorem dX0_causeAbove_16 : decode cX0_causeAbove 16 = .ok (.aload_n 1, 1) := by decide +kernel
theorem dX0_causeAbove_17 : decode cX0_causeAbove 17 = .ok (.iload_n 2, 1) := by decide +kernel
theorem dX0_causeAbove_18 : decode cX0_causeAbove 18 = .ok (.invokestatic 103, 3) := by decide +kernel
theorem dX0_causeAbove_21 : decode cX0_causeAbove 21 = .ok (.ifCond .eq 8, 3) := by decide +kernel
theorem dX0_causeAbove_24 : decode cX0_causeAbove 24 = .ok (.bipush 7, 2) := by decide +kernel
theorem dX0_causeAbove_26 : decode cX0_causeAbove 26 = .ok (.goto 5, 3) := by decide +kernel
theorem dX0_causeAbove_29 : decode cX0_causeAbove 29 = .ok (.bipush 8, 2) := by decide +kernel
theorem dX0_causeAbove_31 : decode cX0_causeAbove 31 = .ok (.ireturn, 1) := by decide +kernel
abbrev rm_Log_causeAbove : Room := { frames := 3, cells := 0, slots := 0, locals := 65 }
def Log_causeAbove (σ : Sg) (p0 : Nat) (p1 : Nat) (x2 : Int32) : Option Int32 :=
  zrd σ (p1 + 15) 8 x2 fun v8 =>
  if v8 ≤ 0 then (
    (Log_isOffWanted σ p0 p1 x2).bind fun r18 =>
    if (zb r18) = 0 then (
      some 8
    ) else (
      some 7
    )
  ) else (
    some 6
  )
set_option maxRecDepth 20000 in
theorem t_Log_causeAbove {X : Zx} {Q : State → Prop} {σ : Sg} {p0 : Nat} {p1 : Nat} {x2 : Int32} (ok : Zok X cX0_causeAbove RX0 rm_Log_causeAbove 198 3) (hp0 : zI_Works p0 198) (hp1 : zI_Water p1 198) {out : Int32} (hf : Log_causeAbove σ p0 p1 x2 = some out) (hk : ZrI cX0_causeAbove X Q out σ) : ZAt X Q 0 0 0 σ [(0, .ref (X.ad p0)), (1, .ref (X.ad p1)), (2, .int x2)] [] := by
  unfold Log_causeAbove at hf
  obtain ⟨hp0_0, hp0_1, hp0_2, hp0_3, hp0_4, hp0_5, hp0_6, hp0_7, hp0_8, hp0_9, hp0_10, hp0_11, hp0_12, hp0_13, hp0_14, hp0_15, hp0_16, hp0_17, hp0_18, hp0_19, hp0_20, hp0_21, hp0_22, hp0_23, hp0_24, hp0_25⟩ := id hp0
  obtain ⟨hp1_0, hp1_1, hp1_2, hp1_3, hp1_4, hp1_5, hp1_6, hp1_7, hp1_8, hp1_9, hp1_10, hp1_11, hp1_12, hp1_13, hp1_14, hp1_15, hp1_16⟩ := id hp1
  refine z_aload_n ok dX0_causeAbove_0 1 rfl ?_
  refine z_getr (q := (p1 + 9)) ok hp1_0 zc_9 hin_9 11 (by decide) fl_0_54 rfl dX0_causeAbove_1 ?_
  refine z_getr (q := (p1 + 15)) ok hp1_9 zc_2 hin_2 5 (by decide) fl_0_110 rfl dX0_causeAbove_4 ?_
  refine z_iload_n ok dX0_causeAbove_7 2 rfl ?_
  refine z_iald ok hp1_15 dX0_causeAbove_8 hf (fun v8 hf => ?_)
  refine z_if_le (tgt := 15) ok dX0_causeAbove_9 (by decide) hf (fun _ hf => ?_) (fun _ hf => ?_)
  · refine z_aload_n ok dX0_causeAbove_15 0 rfl ?_
    refine z_aload_n ok dX0_causeAbove_16 1 rfl ?_
    refine z_iload_n ok dX0_causeAbove_17 2 rfl ?_
    refine z_call hf (fun r18 h18 hf => ?_)
    refine z_cS (As := [.ref (X.ad p0), .ref (X.ad p1), .int x2]) (rest := []) ok (c_Log_isOffWanted hp0 hp1 h18) rfl ⟨ml_0_103, w_Log_isOffWanted⟩ hy_Log_isOffWanted ⟨rfl, rfl⟩ ⟨Nat.le_of_ble_eq_true rfl, Nat.le_of_ble_eq_true rfl⟩ ⟨Nat.zero_le _, Nat.zero_le _⟩ rfl (Nat.le_of_ble_eq_true rfl) dX0_causeAbove_18 ?_
    refine z_if_eq (tgt := 29) ok dX0_causeAbove_21 (by decide) hf (fun _ hf => ?_) (fun _ hf => ?_)
    · refine z_bipush (v := 8) ok dX0_causeAbove_29 (by decide) ?_
      obtain rfl := Option.some.inj hf
      exact hk _ _ dX0_causeAbove_31
    · refine z_bipush (v := 7) ok dX0_causeAbove_24 (by decide) ?_
      refine z_goto (tgt := 31) ok dX0_causeAbove_26 (by decide) ?_
      obtain rfl := Option.some.inj hf
      exact hk _ _ dX0_causeAbove_31
  · refine z_bipush (v := 6) ok dX0_causeAbove_12 (by decide) ?_
    obtain rfl := Option.some.inj hf
    exact hk _ _ dX0_causeAbove_14
theorem c_Log_causeAbove {σ : Sg} {p0 : Nat} {p1 : Nat} {x2 : Int32} (hp0 : zI_Works p0 198) (hp1 : zI_Water p1 198) {r : Int32} (h : Log_causeAbove σ p0 p1 x2 = some r) : ZcI yX0_causeAbove cX0_causeAbove 3 .int rm_Log_causeAbove 198 (fun ad => [.ref (ad p0), .ref (ad p1), .int x2]) σ r σ :=
  zmetI pn_0 rfl (fun _ => rfl) (fun _ => Nat.le_of_ble_eq_true rfl) rfl (fun X Q ok hk => t_Log_causeAbove ok hp0 hp1 h hk)
theorem dX0_keepAlarm_0 : decode cX0_keepAlarm 0 = .ok (.aload_n 0, 1) := by decide +kernel
theorem dX0_keepAlarm_1 : decode cX0_keepAlarm 1 = .ok (.getfield 18, 3) := by decide +kernel
theorem dX0_keepAlarm_4 : decode cX0_keepAlarm 4 = .ok (.bipush 40, 2) := by decide +kernel
theorem dX0_keepAlarm_6 : decode cX0_keepAlarm 6 = .ok (.irem, 1) := by decide +kernel
theorem dX0_keepAlarm_7 : decode cX0_keepAlarm 7 = .ok (.iconst 3, 1) := by decide +kernel
theorem dX0_keepAlarm_8 : decode cX0_keepAlarm 8 = .ok (.imul, 1) := by decide +kernel
theorem dX0_keepAlarm_9 : decode cX0_keepAlarm 9 = .ok (.istore 4, 2) := by decide +kernel
theorem dX0_keepAlarm_11 : decode cX0_keepAlarm 11 = .ok (.aload_n 0, 1) := by decide +kernel
theorem dX0_keepAlarm_12 : decode cX0_keepAlarm 12 = .ok (.getfield 9, 3) := by decide +kernel
theorem dX0_keepAlarm_15 : decode cX0_keepAlarm 15 = .ok (.iload 4, 2) := by decide +kernel
theorem dX0_keepAlarm_17 : decode cX0_keepAlarm 17 = .ok (.iload_n 1, 1) := by decide +kernel
theorem dX0_keepAlarm_18 : decode cX0_keepAlarm 18 = .ok (.iastore, 1) := by decide +kernel
theorem dX0_keepAlarm_19 : decode cX0_keepAlarm 19 = .ok (.aload_n 0, 1) := by decide +kernel
theorem dX0_keepAlarm_20 : decode cX0_keepAlarm 20 = .ok (.getfield 9, 3) := by decide +kernel
theorem dX0_keepAlarm_23 : decode cX0_keepAlarm 23 = .ok (.iload 4, 2) := by decide +kernel
theorem dX0_keepAlarm_25 : decode cX0_keepAlarm 25 = .ok (.iconst 1, 1) := by decide +kernel
theorem dX0_keepAlarm_26 : decode cX0_keepAlarm 26 = .ok (.iadd, 1) := by decide +kernel
theorem dX0_keepAlarm_27 : decode cX0_keepAlarm 27 = .ok (.iload_n 2, 1) := by decide +kernel
theorem dX0_keepAlarm_28 : decode cX0_keepAlarm 28 = .ok (.iastore, 1) := by decide +kernel
theorem dX0_keepAlarm_29 : decode cX0_keepAlarm 29 = .ok (.aload_n 0, 1) := by decide +kernel
theorem dX0_keepAlarm_30 : decode cX0_keepAlarm 30 = .ok (.getfield 9, 3) := by decide +kernel
theorem dX0_keepAlarm_33 : decode cX0_keepAlarm 33 = .ok (.iload 4, 2) := by decide +kernel
theorem dX0_keepAlarm_35 : decode cX0_keepAlarm 35 = .ok (.iconst 2, 1) := by decide +kernel
theorem dX0_keepAlarm_36 : decode cX0_keepAlarm 36 = .ok (.iadd, 1) := by decide +kernel
theorem dX0_keepAlarm_37 : decode cX0_keepAlarm 37 = .ok (.iload_n 3, 1) := by decide +kernel
theorem dX0_keepAlarm_38 : decode cX0_keepAlarm 38 = .ok (.iastore, 1) := by decide +kernel
theorem dX0_keepAlarm_39 : decode cX0_keepAlarm 39 = .ok (.aload_n 0, 1) := by decide +kernel
theorem dX0_keepAlarm_40 : decode cX0_keepAlarm 40 = .ok (.dup, 1) := by decide +kernel
theorem dX0_keepAlarm_41 : decode cX0_keepAlarm 41 = .ok (.getfield 18, 3) := by decide +kernel
theorem dX0_keepAlarm_44 : decode cX0_keepAlarm 44 = .ok (.iconst 1, 1) := by decide +kernel
theorem dX0_keepAlarm_45 : decode cX0_keepAlarm 45 = .ok (.iadd, 1) := by decide +kernel
theorem dX0_keepAlarm_46 : decode cX0_keepAlarm 46 = .ok (.putfield 18, 3) := by decide +kernel
theorem dX0_keepAlarm_49 : decode cX0_keepAlarm 49 = .ok (.return_, 1) := by decide +kernel
abbrev rm_Log_keepAlarm : Room := { frames := 0, cells := 0, slots := 0, locals := 0 }
def Log_keepAlarm (σ : Sg) (w : Nat) (x1 : Int32) (x2 : Int32) (x3 : Int32) : Option Sg :=
  zgt σ w 0 fun v1 =>
  zlt ((v1 - v1 / 40 * 40) * 3) fun v9 =>
  zwr σ (w + 1) 120 v9 x1 fun σ18 =>
  zwr σ18 (w + 1) 120 (v9 + 1) x2 fun σ28 =>
  zwr σ28 (w + 1) 120 (v9 + 2) x3 fun σ38 =>
  zgt σ38 w 0 fun v41 =>
  zpt σ38 w 0 (v41 + 1) fun σ46 =>
  some σ46
set_option maxRecDepth 20000 in
theorem t_Log_keepAlarm {X : Zx} {Q : State → Prop} {σ : Sg} {w : Nat} {x1 : Int32} {x2 : Int32} {x3 : Int32} (ok : Zok X cX0_keepAlarm RX0 rm_Log_keepAlarm 198 5) (hw : zI_Log w 198) {out : Sg} (hf : Log_keepAlarm σ w x1 x2 x3 = some out) (hk : ZrV cX0_keepAlarm X Q out) : ZAt X Q 0 0 0 σ [(0, .ref (X.ad w)), (1, .int x1), (2, .int x2), (3, .int x3)] [] := by
  unfold Log_keepAlarm at hf
  obtain ⟨hw_0, hw_1, hw_2⟩ := id hw
  refine z_aload_n ok dX0_keepAlarm_0 0 rfl ?_
  refine z_geti ok hw_0 zc_0 hin_0 0 (by decide) fl_0_18 rfl dX0_keepAlarm_1 hf (fun v1 hf => ?_)
  refine z_bipush (v := 40) ok dX0_keepAlarm_4 (by decide) ?_
  refine z_iremc ok dX0_keepAlarm_6 (by decide) ?_
  refine z_iconst (v := 3) ok dX0_keepAlarm_7 (by decide) ?_
  refine z_imul ok dX0_keepAlarm_8 ?_
  refine z_nm hf (fun v9 hf => ?_)
  refine z_istore (lv' := [(4, .int v9), (0, .ref (X.ad w)), (1, .int x1), (2, .int x2), (3, .int x3)]) ok dX0_keepAlarm_9 (by decide) rfl ?_
  refine z_aload_n ok dX0_keepAlarm_11 1 rfl ?_
  refine z_getr (q := (w + 1)) ok hw_0 zc_0 hin_0 1 (by decide) fl_0_9 rfl dX0_keepAlarm_12 ?_
  refine z_iload ok dX0_keepAlarm_15 0 rfl ?_
  refine z_iload_n ok dX0_keepAlarm_17 2 rfl ?_
  refine z_iast ok hw_1 dX0_keepAlarm_18 hf (fun σ18 hf => ?_)
  refine z_aload_n ok dX0_keepAlarm_19 1 rfl ?_
  refine z_getr (q := (w + 1)) ok hw_0 zc_0 hin_0 1 (by decide) fl_0_9 rfl dX0_keepAlarm_20 ?_
  refine z_iload ok dX0_keepAlarm_23 0 rfl ?_
  refine z_iconst (v := 1) ok dX0_keepAlarm_25 (by decide) ?_
  refine z_iadd ok dX0_keepAlarm_26 ?_
  refine z_iload_n ok dX0_keepAlarm_27 3 rfl ?_
  refine z_iast ok hw_1 dX0_keepAlarm_28 hf (fun σ28 hf => ?_)
  refine z_aload_n ok dX0_keepAlarm_29 1 rfl ?_
  refine z_getr (q := (w + 1)) ok hw_0 zc_0 hin_0 1 (by decide) fl_0_9 rfl dX0_keepAlarm_30 ?_
  refine z_iload ok dX0_keepAlarm_33 0 rfl ?_
  refine z_iconst (v := 2) ok dX0_keepAlarm_35 (by decide) ?_
  refine z_iadd ok dX0_keepAlarm_36 ?_
  refine z_iload_n ok dX0_keepAlarm_37 4 rfl ?_
  refine z_iast ok hw_1 dX0_keepAlarm_38 hf (fun σ38 hf => ?_)
  refine z_aload_n ok dX0_keepAlarm_39 1 rfl ?_
  refine z_dup ok dX0_keepAlarm_40 rfl ?_
  refine z_geti ok hw_0 zc_0 hin_0 0 (by decide) fl_0_18 rfl dX0_keepAlarm_41 hf (fun v41 hf => ?_)
  refine z_iconst (v := 1) ok dX0_keepAlarm_44 (by decide) ?_
  refine z_iadd ok dX0_keepAlarm_45 ?_
  refine z_puti ok hw_0 zc_0 hin_0 tyX0 tyX0_ok nmX0 0 (by decide) fl_0_18 rfl rfl (tyX0_ok 0 (by decide)) dX0_keepAlarm_46 hf (fun σ46 hf => ?_)
  obtain rfl := Option.some.inj hf
  exact hk _ _ dX0_keepAlarm_49
theorem c_Log_keepAlarm {σ : Sg} {w : Nat} {x1 : Int32} {x2 : Int32} {x3 : Int32} (hw : zI_Log w 198) {r : Sg} (h : Log_keepAlarm σ w x1 x2 x3 = some r) : ZcV yX0_keepAlarm cX0_keepAlarm 5 rm_Log_keepAlarm 198 (fun ad => [.ref (ad w), .int x1, .int x2, .int x3]) σ r :=
  zmetV pn_0 rfl (fun _ => rfl) (fun _ => Nat.le_of_ble_eq_true rfl) (fun X Q ok hk => t_Log_keepAlarm ok hw h hk)
theorem dX0_noteStep_0 : decode cX0_noteStep 0 = .ok (.aload_n 2, 1) := by decide +kernel
theorem dX0_noteStep_1 : decode cX0_noteStep 1 = .ok (.getfield 44, 3) := by decide +kernel
theorem dX0_noteStep_4 : decode cX0_noteStep 4 = .ok (.iconst 1, 1) := by decide +kernel
theorem dX0_noteStep_5 : decode cX0_noteStep 5 = .ok (.isub, 1) := by decide +kernel
theorem dX0_noteStep_6 : decode cX0_noteStep 6 = .ok (.istore_n 3, 1) := by decide +kernel
theorem dX0_noteStep_7 : decode cX0_noteStep 7 = .ok (.iconst 0, 1) := by decide +kernel
theorem dX0_noteStep_8 : decode cX0_noteStep 8 = .ok (.istore 4, 2) := by decide +kernel
theorem dX0_noteStep_10 : decode cX0_noteStep 10 = .ok (.iload 4, 2) := by decide +kernel
theorem dX0_noteStep_12 : decode cX0_noteStep 12 = .ok (.aload_n 1, 1) := by decide +kernel
theorem dX0_noteStep_13 : decode cX0_noteStep 13 = .ok (.getfield 49, 3) := by decide +kernel
theorem dX0_noteStep_16 : decode cX0_noteStep 16 = .ok (.if_icmp .ge 174, 3) := by decide +kernel
theorem dX0_noteStep_19 : decode cX0_noteStep 19 = .ok (.iload 4, 2) := by decide +kernel
theorem dX0_noteStep_21 : decode cX0_noteStep 21 = .ok (.iload_n 3, 1) := by decide +kernel
theorem dX0_noteStep_22 : decode cX0_noteStep 22 = .ok (.invokestatic 41, 3) := by decide +kernel
theorem dX0_noteStep_25 : decode cX0_noteStep 25 = .ok (.istore 5, 2) := by decide +kernel
theorem dX0_noteStep_27 : decode cX0_noteStep 27 = .ok (.aload_n 0, 1) := by decide +kernel
theorem dX0_noteStep_28 : decode cX0_noteStep 28 = .ok (.getfield 15, 3) := by decide +kernel
theorem dX0_noteStep_31 : decode cX0_noteStep 31 = .ok (.iload 5, 2) := by decide +kernel
theorem dX0_noteStep_33 : decode cX0_noteStep 33 = .ok (.aload_n 2, 1) := by decide +kernel
theorem dX0_noteStep_34 : decode cX0_noteStep 34 = .ok (.getfield 54, 3) := by decide +kernel
theorem dX0_noteStep_37 : decode cX0_noteStep 37 = .ok (.getfield 58, 3) := by decide +kernel
theorem dX0_noteStep_40 : decode cX0_noteStep 40 = .ok (.iload 4, 2) := by decide +kernel
theorem dX0_noteStep_42 : decode cX0_noteStep 42 = .ok (.iaload, 1) := by decide +kernel
theorem dX0_noteStep_43 : decode cX0_noteStep 43 = .ok (.iastore, 1) := by decide +kernel
theorem dX0_noteStep_44 : decode cX0_noteStep 44 = .ok (.aload_n 0, 1) := by decide +kernel
theorem dX0_noteStep_45 : decode cX0_noteStep 45 = .ok (.getfield 15, 3) := by decide +kernel
theorem dX0_noteStep_48 : decode cX0_noteStep 48 = .ok (.iload 5, 2) := by decide +kernel
theorem dX0_noteStep_50 : decode cX0_noteStep 50 = .ok (.iconst 1, 1) := by decide +kernel
theorem dX0_noteStep_51 : decode cX0_noteStep 51 = .ok (.iadd, 1) := by decide +kernel
theorem dX0_noteStep_52 : decode cX0_noteStep 52 = .ok (.aload_n 2, 1) := by decide +kernel
theorem dX0_noteStep_53 : decode cX0_noteStep 53 = .ok (.getfield 54, 3) := by decide +kernel
theorem dX0_noteStep_56 : decode cX0_noteStep 56 = .ok (.getfield 63, 3) := by decide +kernel
theorem dX0_noteStep_59 : decode cX0_noteStep 59 = .ok (.iload 4, 2) := by decide +kernel
theorem dX0_noteStep_61 : decode cX0_noteStep 61 = .ok (.iaload, 1) := by decide +kernel
theorem dX0_noteStep_62 : decode cX0_noteStep 62 = .ok (.iastore, 1) := by decide +kernel
theorem dX0_noteStep_63 : decode cX0_noteStep 63 = .ok (.aload_n 0, 1) := by decide +kernel
theorem dX0_noteStep_64 : decode cX0_noteStep 64 = .ok (.getfield 15, 3) := by decide +kernel
theorem dX0_noteStep_67 : decode cX0_noteStep 67 = .ok (.iload 5, 2) := by decide +kernel
theorem dX0_noteStep_69 : decode cX0_noteStep 69 = .ok (.iconst 2, 1) := by decide +kernel
theorem dX0_noteStep_70 : decode cX0_noteStep 70 = .ok (.iadd, 1) := by decide +kernel
theorem dX0_noteStep_71 : decode cX0_noteStep 71 = .ok (.aload_n 2, 1) := by decide +kernel
theorem dX0_noteStep_72 : decode cX0_noteStep 72 = .ok (.getfield 54, 3) := by decide +kernel
theorem dX0_noteStep_75 : decode cX0_noteStep 75 = .ok (.getfield 66, 3) := by decide +kernel
theorem dX0_noteStep_78 : decode cX0_noteStep 78 = .ok (.iload 4, 2) := by decide +kernel
theorem dX0_noteStep_80 : decode cX0_noteStep 80 = .ok (.iaload, 1) := by decide +kernel
theorem dX0_noteStep_81 : decode cX0_noteStep 81 = .ok (.iastore, 1) := by decide +kernel
theorem dX0_noteStep_82 : decode cX0_noteStep 82 = .ok (.aload_n 0, 1) := by decide +kernel
theorem dX0_noteStep_83 : decode cX0_noteStep 83 = .ok (.getfield 15, 3) := by decide +kernel
theorem dX0_noteStep_86 : decode cX0_noteStep 86 = .ok (.iload 5, 2) := by decide +kernel
theorem dX0_noteStep_88 : decode cX0_noteStep 88 = .ok (.iconst 3, 1) := by decide +kernel
theorem dX0_noteStep_89 : decode cX0_noteStep 89 = .ok (.iadd, 1) := by decide +kernel
theorem dX0_noteStep_90 : decode cX0_noteStep 90 = .ok (.aload_n 2, 1) := by decide +kernel
theorem dX0_noteStep_91 : decode cX0_noteStep 91 = .ok (.getfield 54, 3) := by decide +kernel
theorem dX0_noteStep_94 : decode cX0_noteStep 94 = .ok (.getfield 69, 3) := by decide +kernel
theorem dX0_noteStep_97 : decode cX0_noteStep 97 = .ok (.iload 4, 2) := by decide +kernel
theorem dX0_noteStep_99 : decode cX0_noteStep 99 = .ok (.iaload, 1) := by decide +kernel
theorem dX0_noteStep_100 : decode cX0_noteStep 100 = .ok (.iastore, 1) := by decide +kernel
theorem dX0_noteStep_101 : decode cX0_noteStep 101 = .ok (.iload_n 3, 1) := by decide +kernel
theorem dX0_noteStep_102 : decode cX0_noteStep 102 = .ok (.ifCond .ne 7, 3) := by decide +kernel
theorem dX0_noteStep_105 : decode cX0_noteStep 105 = .ok (.iconst 0, 1) := by decide +kernel
theorem dX0_noteStep_106 : decode cX0_noteStep 106 = .ok (.goto 19, 3) := by decide +kernel
theorem dX0_noteStep_109 : decode cX0_noteStep 109 = .ok (.aload_n 1, 1) := by decide +kernel
theorem dX0_noteStep_110 : decode cX0_noteStep 110 = .ok (.iload 4, 2) := by decide +kernel
theorem dX0_noteStep_112 : decode cX0_noteStep 112 = .ok (.aload_n 2, 1) := by decide +kernel
theorem dX0_noteStep_113 : decode cX0_noteStep 113 = .ok (.getfield 54, 3) := by decide +kernel
theorem dX0_noteStep_116 : decode cX0_noteStep 116 = .ok (.getfield 66, 3) := by decide +kernel
theorem dX0_noteStep_119 : decode cX0_noteStep 119 = .ok (.iload 4, 2) := by decide +kernel
theorem dX0_noteStep_121 : decode cX0_noteStep 121 = .ok (.iaload, 1) := by decide +kernel
theorem dX0_noteStep_122 : decode cX0_noteStep 122 = .ok (.invokevirtual 72, 3) := by decide +kernel
theorem dX0_noteStep_125 : decode cX0_noteStep 125 = .ok (.istore 6, 2) := by decide +kernel
theorem dX0_noteStep_127 : decode cX0_noteStep 127 = .ok (.aload_n 1, 1) := by decide +kernel
theorem dX0_noteStep_128 : decode cX0_noteStep 128 = .ok (.iload 4, 2) := by decide +kernel
theorem dX0_noteStep_130 : decode cX0_noteStep 130 = .ok (.aload_n 2, 1) := by decide +kernel
theorem dX0_noteStep_131 : decode cX0_noteStep 131 = .ok (.getfield 75, 3) := by decide +kernel
theorem dX0_noteStep_134 : decode cX0_noteStep 134 = .ok (.iload 4, 2) := by decide +kernel
theorem dX0_noteStep_136 : decode cX0_noteStep 136 = .ok (.iaload, 1) := by decide +kernel
theorem dX0_noteStep_137 : decode cX0_noteStep 137 = .ok (.invokevirtual 72, 3) := by decide +kernel
theorem dX0_noteStep_140 : decode cX0_noteStep 140 = .ok (.istore 7, 2) := by decide +kernel
theorem dX0_noteStep_142 : decode cX0_noteStep 142 = .ok (.iload 7, 2) := by decide +kernel
theorem dX0_noteStep_144 : decode cX0_noteStep 144 = .ok (.ifCond .eq 40, 3) := by decide +kernel
theorem dX0_noteStep_147 : decode cX0_noteStep 147 = .ok (.iload 7, 2) := by decide +kernel
theorem dX0_noteStep_149 : decode cX0_noteStep 149 = .ok (.iload 6, 2) := by decide +kernel
theorem dX0_noteStep_151 : decode cX0_noteStep 151 = .ok (.if_icmp .eq 33, 3) := by decide +kernel
theorem dX0_noteStep_154 : decode cX0_noteStep 154 = .ok (.aload_n 0, 1) := by decide +kernel
theorem dX0_noteStep_155 : decode cX0_noteStep 155 = .ok (.iload_n 3, 1) := by decide +kernel
theorem dX0_noteStep_156 : decode cX0_noteStep 156 = .ok (.iload 4, 2) := by decide +kernel
theorem dX0_noteStep_158 : decode cX0_noteStep 158 = .ok (.iload 7, 2) := by decide +kernel
theorem dX0_noteStep_160 : decode cX0_noteStep 160 = .ok (.iconst 1, 1) := by decide +kernel
theorem dX0_noteStep_161 : decode cX0_noteStep 161 = .ok (.if_icmp .ne 13, 3) := by decide +kernel
theorem dX0_noteStep_164 : decode cX0_noteStep 164 = .ok (.aload_n 1, 1) := by decide +kernel
theorem dX0_noteStep_165 : decode cX0_noteStep 165 = .ok (.aload_n 2, 1) := by decide +kernel
theorem dX0_noteStep_166 : decode cX0_noteStep 166 = .ok (.iload 4, 2) := by decide +kernel
theorem dX0_noteStep_168 : decode cX0_noteStep 168 = .ok (.invokestatic 78, 3) := by decide +kernel
theorem dX0_noteStep_171 : decode cX0_noteStep 171 = .ok (.goto 10, 3) := by decide +kernel
theorem dX0_noteStep_174 : decode cX0_noteStep 174 = .ok (.aload_n 1, 1) := by decide +kernel
theorem dX0_noteStep_175 : decode cX0_noteStep 175 = .ok (.aload_n 2, 1) := by decide +kernel
theorem dX0_noteStep_176 : decode cX0_noteStep 176 = .ok (.iload 4, 2) := by decide +kernel
theorem dX0_noteStep_178 : decode cX0_noteStep 178 = .ok (.invokestatic 82, 3) := by decide +kernel
theorem dX0_noteStep_181 : decode cX0_noteStep 181 = .ok (.invokevirtual 85, 3) := by decide +kernel
theorem dX0_noteStep_184 : decode cX0_noteStep 184 = .ok (.iinc 4 1, 3) := by decide +kernel
theorem dX0_noteStep_187 : decode cX0_noteStep 187 = .ok (.goto (-177), 3) := by decide +kernel
theorem dX0_noteStep_190 : decode cX0_noteStep 190 = .ok (.return_, 1) := by decide +kernel
abbrev rm_Log_noteStep : Room := { frames := 4, cells := 0, slots := 0, locals := 87 }
def Log_noteStep_j10_125 (σ : Sg) (w : Nat) (p1 : Nat) (p2 : Nat) (x3 : Int32) (x4 : Int32) (s0 : Int32) : Option ((Sg × Int32) ⊕ (Sg × Int32)) :=
  zrd σ (p2 + 1) 8 x4 fun v136 =>
  (Works_bandOf σ p1 x4 v136).bind fun r137 =>
  zlt r137 fun v140 =>
  if v140 = 0 then (
    zlt (x4 + 1) fun v184 =>
    some (.inl (σ, v184))
  ) else (
    if v140 = s0 then (
      zlt (x4 + 1) fun v184 =>
      some (.inl (σ, v184))
    ) else (
      if v140 = 1 then (
        (Log_causeBelow σ p1 p2 x4).bind fun r168 =>
        (Log_keepAlarm σ w x3 x4 r168).bind fun r181 =>
        zlt (x4 + 1) fun v184 =>
        some (.inl (r181, v184))
      ) else (
        (Log_causeAbove σ p1 p2 x4).bind fun r178 =>
        (Log_keepAlarm σ w x3 x4 r178).bind fun r181 =>
        zlt (x4 + 1) fun v184 =>
        some (.inl (r181, v184))
      )
    )
  )
set_option maxRecDepth 20000 in
theorem t_Log_noteStep_j10_125 {X : Zx} {Q : State → Prop} {σ : Sg} {w : Nat} {p1 : Nat} {p2 : Nat} {x3 : Int32} {x4 : Int32} {s0 : Int32} (ok : Zok X cX0_noteStep RX0 rm_Log_noteStep 198 8) (hw : zI_Log w 198) (hp1 : zI_Works p1 198) (hp2 : zI_Water p2 198) {out : ((Sg × Int32) ⊕ (Sg × Int32))} (hf : Log_noteStep_j10_125 σ w p1 p2 x3 x4 s0 = some out) (hk : zout (fun (s : (Sg × Int32)) => ZAt X Q 0 0 10 s.1 [(0, .ref (X.ad w)), (1, .ref (X.ad p1)), (2, .ref (X.ad p2)), (3, .int x3), (4, .int s.2)] []) (fun (s : (Sg × Int32)) => ZAt X Q 0 0 190 s.1 [] []) out) : ZAt X Q 0 0 125 σ [(0, .ref (X.ad w)), (1, .ref (X.ad p1)), (2, .ref (X.ad p2)), (3, .int x3), (4, .int x4)] [.int s0] := by
  unfold Log_noteStep_j10_125 at hf
  obtain ⟨hw_0, hw_1, hw_2⟩ := id hw
  obtain ⟨hp1_0, hp1_1, hp1_2, hp1_3, hp1_4, hp1_5, hp1_6, hp1_7, hp1_8, hp1_9, hp1_10, hp1_11, hp1_12, hp1_13, hp1_14, hp1_15, hp1_16, hp1_17, hp1_18, hp1_19, hp1_20, hp1_21, hp1_22, hp1_23, hp1_24, hp1_25⟩ := id hp1
  obtain ⟨hp2_0, hp2_1, hp2_2, hp2_3, hp2_4, hp2_5, hp2_6, hp2_7, hp2_8, hp2_9, hp2_10, hp2_11, hp2_12, hp2_13, hp2_14, hp2_15, hp2_16⟩ := id hp2
  refine z_istore (lv' := [(6, .int s0), (0, .ref (X.ad w)), (1, .ref (X.ad p1)), (2, .ref (X.ad p2)), (3, .int x3), (4, .int x4)]) ok dX0_noteStep_125 (by decide) rfl ?_
  refine z_aload_n ok dX0_noteStep_127 2 rfl ?_
  refine z_iload ok dX0_noteStep_128 5 rfl ?_
  refine z_aload_n ok dX0_noteStep_130 3 rfl ?_
  refine z_getr (q := (p2 + 1)) ok hp2_0 zc_9 hin_9 3 (by decide) fl_0_75 rfl dX0_noteStep_131 ?_
  refine z_iload ok dX0_noteStep_134 5 rfl ?_
  refine z_iald ok hp2_1 dX0_noteStep_136 hf (fun v136 hf => ?_)
  refine z_call hf (fun r137 h137 hf => ?_)
  refine z_cV (As := [.int x4, .int v136]) (rest := []) (w := p1) ok hp1_0 zc_10 (c_Works_bandOf hp1 h137) rfl ⟨ml_0_72, w_Works_bandOf⟩ hy_Works_bandOf ⟨rfl, rfl⟩ ⟨Nat.le_of_ble_eq_true rfl, Nat.le_of_ble_eq_true rfl⟩ ⟨Nat.zero_le _, Nat.zero_le _⟩ rfl (Nat.le_of_ble_eq_true rfl) dX0_noteStep_137 ?_
  refine z_nm hf (fun v140 hf => ?_)
  refine z_istore (lv' := [(7, .int v140), (6, .int s0), (0, .ref (X.ad w)), (1, .ref (X.ad p1)), (2, .ref (X.ad p2)), (3, .int x3), (4, .int x4)]) ok dX0_noteStep_140 (by decide) rfl ?_
  refine z_iload ok dX0_noteStep_142 0 rfl ?_
  refine z_if_eq (tgt := 184) ok dX0_noteStep_144 (by decide) hf (fun _ hf => ?_) (fun _ hf => ?_)
  · refine z_iinc (w := 1) (lv' := fun v184 => [(4, .int v184), (7, .int v140), (6, .int s0), (0, .ref (X.ad w)), (1, .ref (X.ad p1)), (2, .ref (X.ad p2)), (3, .int x3)]) ok dX0_noteStep_184 6 rfl (by decide) (by decide) (fun _ => rfl) hf (fun v184 hf => ?_)
    refine z_goto (tgt := 10) ok dX0_noteStep_187 (by decide) ?_
    obtain rfl := Option.some.inj hf
    exact z_sub [3, 4, 5, 6, 0] rfl hk
  · refine z_iload ok dX0_noteStep_147 0 rfl ?_
    refine z_iload ok dX0_noteStep_149 1 rfl ?_
    refine z_icmp_eq (tgt := 184) ok dX0_noteStep_151 (by decide) hf (fun _ hf => ?_) (fun _ hf => ?_)
    · refine z_iinc (w := 1) (lv' := fun v184 => [(4, .int v184), (7, .int v140), (6, .int s0), (0, .ref (X.ad w)), (1, .ref (X.ad p1)), (2, .ref (X.ad p2)), (3, .int x3)]) ok dX0_noteStep_184 6 rfl (by decide) (by decide) (fun _ => rfl) hf (fun v184 hf => ?_)
      refine z_goto (tgt := 10) ok dX0_noteStep_187 (by decide) ?_
      obtain rfl := Option.some.inj hf
      exact z_sub [3, 4, 5, 6, 0] rfl hk
    · refine z_aload_n ok dX0_noteStep_154 2 rfl ?_
      refine z_iload_n ok dX0_noteStep_155 5 rfl ?_
      refine z_iload ok dX0_noteStep_156 6 rfl ?_
      refine z_iload ok dX0_noteStep_158 0 rfl ?_
      refine z_iconst (v := 1) ok dX0_noteStep_160 (by decide) ?_
      refine z_icmp_ne (tgt := 174) ok dX0_noteStep_161 (by decide) hf (fun _ hf => ?_) (fun _ hf => ?_)
      · refine z_aload_n ok dX0_noteStep_164 3 rfl ?_
        refine z_aload_n ok dX0_noteStep_165 4 rfl ?_
        refine z_iload ok dX0_noteStep_166 6 rfl ?_
        refine z_call hf (fun r168 h168 hf => ?_)
        refine z_cS (As := [.ref (X.ad p1), .ref (X.ad p2), .int x4]) (rest := [.int x4, .int x3, .ref (X.ad w)]) ok (c_Log_causeBelow hp1 hp2 h168) rfl ⟨ml_0_78, w_Log_causeBelow⟩ hy_Log_causeBelow ⟨rfl, rfl⟩ ⟨Nat.le_of_ble_eq_true rfl, Nat.le_of_ble_eq_true rfl⟩ ⟨Nat.zero_le _, Nat.zero_le _⟩ rfl (Nat.le_of_ble_eq_true rfl) dX0_noteStep_168 ?_
        refine z_goto (tgt := 181) ok dX0_noteStep_171 (by decide) ?_
        refine z_call hf (fun r181 h181 hf => ?_)
        refine z_cVv (As := [.int x3, .int x4, .int r168]) (rest := []) (w := w) ok hw_0 zc_0 (c_Log_keepAlarm hw h181) rfl ⟨ml_0_85, w_Log_keepAlarm⟩ hy_Log_keepAlarm ⟨rfl, rfl⟩ ⟨Nat.le_of_ble_eq_true rfl, Nat.le_of_ble_eq_true rfl⟩ ⟨Nat.zero_le _, Nat.zero_le _⟩ rfl (Nat.le_of_ble_eq_true rfl) dX0_noteStep_181 ?_
        refine z_iinc (w := 1) (lv' := fun v184 => [(4, .int v184), (7, .int v140), (6, .int s0), (0, .ref (X.ad w)), (1, .ref (X.ad p1)), (2, .ref (X.ad p2)), (3, .int x3)]) ok dX0_noteStep_184 6 rfl (by decide) (by decide) (fun _ => rfl) hf (fun v184 hf => ?_)
        refine z_goto (tgt := 10) ok dX0_noteStep_187 (by decide) ?_
        obtain rfl := Option.some.inj hf
        exact z_sub [3, 4, 5, 6, 0] rfl hk
      · refine z_aload_n ok dX0_noteStep_174 3 rfl ?_
        refine z_aload_n ok dX0_noteStep_175 4 rfl ?_
        refine z_iload ok dX0_noteStep_176 6 rfl ?_
        refine z_call hf (fun r178 h178 hf => ?_)
        refine z_cS (As := [.ref (X.ad p1), .ref (X.ad p2), .int x4]) (rest := [.int x4, .int x3, .ref (X.ad w)]) ok (c_Log_causeAbove hp1 hp2 h178) rfl ⟨ml_0_82, w_Log_causeAbove⟩ hy_Log_causeAbove ⟨rfl, rfl⟩ ⟨Nat.le_of_ble_eq_true rfl, Nat.le_of_ble_eq_true rfl⟩ ⟨Nat.zero_le _, Nat.zero_le _⟩ rfl (Nat.le_of_ble_eq_true rfl) dX0_noteStep_178 ?_
        refine z_call hf (fun r181 h181 hf => ?_)
        refine z_cVv (As := [.int x3, .int x4, .int r178]) (rest := []) (w := w) ok hw_0 zc_0 (c_Log_keepAlarm hw h181) rfl ⟨ml_0_85, w_Log_keepAlarm⟩ hy_Log_keepAlarm ⟨rfl, rfl⟩ ⟨Nat.le_of_ble_eq_true rfl, Nat.le_of_ble_eq_true rfl⟩ ⟨Nat.zero_le _, Nat.zero_le _⟩ rfl (Nat.le_of_ble_eq_true rfl) dX0_noteStep_181 ?_
        refine z_iinc (w := 1) (lv' := fun v184 => [(4, .int v184), (7, .int v140), (6, .int s0), (0, .ref (X.ad w)), (1, .ref (X.ad p1)), (2, .ref (X.ad p2)), (3, .int x3)]) ok dX0_noteStep_184 6 rfl (by decide) (by decide) (fun _ => rfl) hf (fun v184 hf => ?_)
        refine z_goto (tgt := 10) ok dX0_noteStep_187 (by decide) ?_
        obtain rfl := Option.some.inj hf
        exact z_sub [3, 4, 5, 6, 0] rfl hk
def Log_noteStep_l10 (σ : Sg) (w : Nat) (p1 : Nat) (p2 : Nat) (x3 : Int32) (x4 : Int32) : Option ((Sg × Int32) ⊕ (Sg × Int32)) :=
  zgt σ p1 3 fun v13 =>
  if v13 ≤ x4 then (
    some (.inr (σ, x4))
  ) else (
    (Log_flowPlace x4 x3).bind fun r22 =>
    zlt r22 fun v25 =>
    zrd σ (p2 + 11) 8 x4 fun v42 =>
    zwr σ (w + 2) 1280 v25 v42 fun σ43 =>
    zrd σ43 (p2 + 12) 8 x4 fun v61 =>
    zwr σ43 (w + 2) 1280 (v25 + 1) v61 fun σ62 =>
    zrd σ62 (p2 + 10) 8 x4 fun v80 =>
    zwr σ62 (w + 2) 1280 (v25 + 2) v80 fun σ81 =>
    zrd σ81 (p2 + 13) 8 x4 fun v99 =>
    zwr σ81 (w + 2) 1280 (v25 + 3) v99 fun σ100 =>
    if x3 = 0 then (
      Log_noteStep_j10_125 σ100 w p1 p2 x3 x4 0
    ) else (
      zrd σ100 (p2 + 10) 8 x4 fun v121 =>
      (Works_bandOf σ100 p1 x4 v121).bind fun r122 =>
      Log_noteStep_j10_125 σ100 w p1 p2 x3 x4 r122
    )
  )
set_option maxRecDepth 20000 in
theorem t_Log_noteStep_l10 {X : Zx} {Q : State → Prop} {σ : Sg} {w : Nat} {p1 : Nat} {p2 : Nat} {x3 : Int32} {x4 : Int32} (ok : Zok X cX0_noteStep RX0 rm_Log_noteStep 198 8) (hw : zI_Log w 198) (hp1 : zI_Works p1 198) (hp2 : zI_Water p2 198) {out : ((Sg × Int32) ⊕ (Sg × Int32))} (hf : Log_noteStep_l10 σ w p1 p2 x3 x4 = some out) (hk : zout (fun (s : (Sg × Int32)) => ZAt X Q 0 0 10 s.1 [(0, .ref (X.ad w)), (1, .ref (X.ad p1)), (2, .ref (X.ad p2)), (3, .int x3), (4, .int s.2)] []) (fun (s : (Sg × Int32)) => ZAt X Q 0 0 190 s.1 [] []) out) : ZAt X Q 0 0 10 σ [(0, .ref (X.ad w)), (1, .ref (X.ad p1)), (2, .ref (X.ad p2)), (3, .int x3), (4, .int x4)] [] := by
  unfold Log_noteStep_l10 at hf
  obtain ⟨hw_0, hw_1, hw_2⟩ := id hw
  obtain ⟨hp1_0, hp1_1, hp1_2, hp1_3, hp1_4, hp1_5, hp1_6, hp1_7, hp1_8, hp1_9, hp1_10, hp1_11, hp1_12, hp1_13, hp1_14, hp1_15, hp1_16, hp1_17, hp1_18, hp1_19, hp1_20, hp1_21, hp1_22, hp1_23, hp1_24, hp1_25⟩ := id hp1
  obtain ⟨hp2_0, hp2_1, hp2_2, hp2_3, hp2_4, hp2_5, hp2_6, hp2_7, hp2_8, hp2_9, hp2_10, hp2_11, hp2_12, hp2_13, hp2_14, hp2_15, hp2_16⟩ := id hp2
  refine z_iload ok dX0_noteStep_10 4 rfl ?_
  refine z_aload_n ok dX0_noteStep_12 1 rfl ?_
  refine z_geti ok hp1_0 zc_10 hin_10 3 (by decide) fl_0_49 rfl dX0_noteStep_13 hf (fun v13 hf => ?_)
  refine z_icmp_ge (tgt := 190) ok dX0_noteStep_16 (by decide) hf (fun _ hf => ?_) (fun _ hf => ?_)
  · obtain rfl := Option.some.inj hf
    exact z_sub [] rfl hk
  · refine z_iload ok dX0_noteStep_19 4 rfl ?_
    refine z_iload_n ok dX0_noteStep_21 3 rfl ?_
    refine z_call hf (fun r22 h22 hf => ?_)
    refine z_cS (As := [.int x4, .int x3]) (rest := []) ok (c_Log_flowPlace h22) rfl ⟨ml_0_41, w_Log_flowPlace⟩ hy_Log_flowPlace ⟨rfl, rfl⟩ ⟨Nat.le_of_ble_eq_true rfl, Nat.le_of_ble_eq_true rfl⟩ ⟨Nat.zero_le _, Nat.zero_le _⟩ rfl (Nat.le_of_ble_eq_true rfl) dX0_noteStep_22 ?_
    refine z_nm hf (fun v25 hf => ?_)
    refine z_istore (lv' := [(5, .int v25), (0, .ref (X.ad w)), (1, .ref (X.ad p1)), (2, .ref (X.ad p2)), (3, .int x3), (4, .int x4)]) ok dX0_noteStep_25 (by decide) rfl ?_
    refine z_aload_n ok dX0_noteStep_27 1 rfl ?_
    refine z_getr (q := (w + 2)) ok hw_0 zc_0 hin_0 2 (by decide) fl_0_15 rfl dX0_noteStep_28 ?_
    refine z_iload ok dX0_noteStep_31 0 rfl ?_
    refine z_aload_n ok dX0_noteStep_33 3 rfl ?_
    refine z_getr (q := (p2 + 9)) ok hp2_0 zc_9 hin_9 11 (by decide) fl_0_54 rfl dX0_noteStep_34 ?_
    refine z_getr (q := (p2 + 11)) ok hp2_9 zc_2 hin_2 1 (by decide) fl_0_58 rfl dX0_noteStep_37 ?_
    refine z_iload ok dX0_noteStep_40 5 rfl ?_
    refine z_iald ok hp2_11 dX0_noteStep_42 hf (fun v42 hf => ?_)
    refine z_iast ok hw_2 dX0_noteStep_43 hf (fun σ43 hf => ?_)
    refine z_aload_n ok dX0_noteStep_44 1 rfl ?_
    refine z_getr (q := (w + 2)) ok hw_0 zc_0 hin_0 2 (by decide) fl_0_15 rfl dX0_noteStep_45 ?_
    refine z_iload ok dX0_noteStep_48 0 rfl ?_
    refine z_iconst (v := 1) ok dX0_noteStep_50 (by decide) ?_
    refine z_iadd ok dX0_noteStep_51 ?_
    refine z_aload_n ok dX0_noteStep_52 3 rfl ?_
    refine z_getr (q := (p2 + 9)) ok hp2_0 zc_9 hin_9 11 (by decide) fl_0_54 rfl dX0_noteStep_53 ?_
    refine z_getr (q := (p2 + 12)) ok hp2_9 zc_2 hin_2 2 (by decide) fl_0_63 rfl dX0_noteStep_56 ?_
    refine z_iload ok dX0_noteStep_59 5 rfl ?_
    refine z_iald ok hp2_12 dX0_noteStep_61 hf (fun v61 hf => ?_)
    refine z_iast ok hw_2 dX0_noteStep_62 hf (fun σ62 hf => ?_)
    refine z_aload_n ok dX0_noteStep_63 1 rfl ?_
    refine z_getr (q := (w + 2)) ok hw_0 zc_0 hin_0 2 (by decide) fl_0_15 rfl dX0_noteStep_64 ?_
    refine z_iload ok dX0_noteStep_67 0 rfl ?_
    refine z_iconst (v := 2) ok dX0_noteStep_69 (by decide) ?_
    refine z_iadd ok dX0_noteStep_70 ?_
    refine z_aload_n ok dX0_noteStep_71 3 rfl ?_
    refine z_getr (q := (p2 + 9)) ok hp2_0 zc_9 hin_9 11 (by decide) fl_0_54 rfl dX0_noteStep_72 ?_
    refine z_getr (q := (p2 + 10)) ok hp2_9 zc_2 hin_2 0 (by decide) fl_0_66 rfl dX0_noteStep_75 ?_
    refine z_iload ok dX0_noteStep_78 5 rfl ?_
    refine z_iald ok hp2_10 dX0_noteStep_80 hf (fun v80 hf => ?_)
    refine z_iast ok hw_2 dX0_noteStep_81 hf (fun σ81 hf => ?_)
    refine z_aload_n ok dX0_noteStep_82 1 rfl ?_
    refine z_getr (q := (w + 2)) ok hw_0 zc_0 hin_0 2 (by decide) fl_0_15 rfl dX0_noteStep_83 ?_
    refine z_iload ok dX0_noteStep_86 0 rfl ?_
    refine z_iconst (v := 3) ok dX0_noteStep_88 (by decide) ?_
    refine z_iadd ok dX0_noteStep_89 ?_
    refine z_aload_n ok dX0_noteStep_90 3 rfl ?_
    refine z_getr (q := (p2 + 9)) ok hp2_0 zc_9 hin_9 11 (by decide) fl_0_54 rfl dX0_noteStep_91 ?_
    refine z_getr (q := (p2 + 13)) ok hp2_9 zc_2 hin_2 3 (by decide) fl_0_69 rfl dX0_noteStep_94 ?_
    refine z_iload ok dX0_noteStep_97 5 rfl ?_
    refine z_iald ok hp2_13 dX0_noteStep_99 hf (fun v99 hf => ?_)
    refine z_iast ok hw_2 dX0_noteStep_100 hf (fun σ100 hf => ?_)
    refine z_iload_n ok dX0_noteStep_101 4 rfl ?_
    refine z_if_ne (tgt := 109) ok dX0_noteStep_102 (by decide) hf (fun _ hf => ?_) (fun _ hf => ?_)
    · refine z_iconst (v := 0) ok dX0_noteStep_105 (by decide) ?_
      refine z_goto (tgt := 125) ok dX0_noteStep_106 (by decide) ?_
      exact z_sub [1, 2, 3, 4, 5] rfl (t_Log_noteStep_j10_125 ok hw hp1 hp2 hf hk)
    · refine z_aload_n ok dX0_noteStep_109 2 rfl ?_
      refine z_iload ok dX0_noteStep_110 5 rfl ?_
      refine z_aload_n ok dX0_noteStep_112 3 rfl ?_
      refine z_getr (q := (p2 + 9)) ok hp2_0 zc_9 hin_9 11 (by decide) fl_0_54 rfl dX0_noteStep_113 ?_
      refine z_getr (q := (p2 + 10)) ok hp2_9 zc_2 hin_2 0 (by decide) fl_0_66 rfl dX0_noteStep_116 ?_
      refine z_iload ok dX0_noteStep_119 5 rfl ?_
      refine z_iald ok hp2_10 dX0_noteStep_121 hf (fun v121 hf => ?_)
      refine z_call hf (fun r122 h122 hf => ?_)
      refine z_cV (As := [.int x4, .int v121]) (rest := []) (w := p1) ok hp1_0 zc_10 (c_Works_bandOf hp1 h122) rfl ⟨ml_0_72, w_Works_bandOf⟩ hy_Works_bandOf ⟨rfl, rfl⟩ ⟨Nat.le_of_ble_eq_true rfl, Nat.le_of_ble_eq_true rfl⟩ ⟨Nat.zero_le _, Nat.zero_le _⟩ rfl (Nat.le_of_ble_eq_true rfl) dX0_noteStep_122 ?_
      exact z_sub [1, 2, 3, 4, 5] rfl (t_Log_noteStep_j10_125 ok hw hp1 hp2 hf hk)
def Log_noteStep (σ : Sg) (w : Nat) (p1 : Nat) (p2 : Nat) : Option Sg :=
  zgt σ p2 0 fun v1 =>
  zlt (v1 - 1) fun v6 =>
  zlt 0 fun v8 =>
  (zit (fun (s : (Sg × Int32)) => Log_noteStep_l10 s.1 w p1 p2 v6 s.2) zFU (σ, v8)).bind fun r =>
  some r.1
set_option maxRecDepth 20000 in
theorem t_Log_noteStep {X : Zx} {Q : State → Prop} {σ : Sg} {w : Nat} {p1 : Nat} {p2 : Nat} (ok : Zok X cX0_noteStep RX0 rm_Log_noteStep 198 8) (hw : zI_Log w 198) (hp1 : zI_Works p1 198) (hp2 : zI_Water p2 198) {out : Sg} (hf : Log_noteStep σ w p1 p2 = some out) (hk : ZrV cX0_noteStep X Q out) : ZAt X Q 0 0 0 σ [(0, .ref (X.ad w)), (1, .ref (X.ad p1)), (2, .ref (X.ad p2))] [] := by
  unfold Log_noteStep at hf
  obtain ⟨hw_0, hw_1, hw_2⟩ := id hw
  obtain ⟨hp1_0, hp1_1, hp1_2, hp1_3, hp1_4, hp1_5, hp1_6, hp1_7, hp1_8, hp1_9, hp1_10, hp1_11, hp1_12, hp1_13, hp1_14, hp1_15, hp1_16, hp1_17, hp1_18, hp1_19, hp1_20, hp1_21, hp1_22, hp1_23, hp1_24, hp1_25⟩ := id hp1
  obtain ⟨hp2_0, hp2_1, hp2_2, hp2_3, hp2_4, hp2_5, hp2_6, hp2_7, hp2_8, hp2_9, hp2_10, hp2_11, hp2_12, hp2_13, hp2_14, hp2_15, hp2_16⟩ := id hp2
  refine z_aload_n ok dX0_noteStep_0 2 rfl ?_
  refine z_geti ok hp2_0 zc_9 hin_9 0 (by decide) fl_0_44 rfl dX0_noteStep_1 hf (fun v1 hf => ?_)
  refine z_iconst (v := 1) ok dX0_noteStep_4 (by decide) ?_
  refine z_isub ok dX0_noteStep_5 ?_
  refine z_nm hf (fun v6 hf => ?_)
  refine z_istore_n (lv' := [(3, .int v6), (0, .ref (X.ad w)), (1, .ref (X.ad p1)), (2, .ref (X.ad p2))]) ok dX0_noteStep_6 (by decide) rfl ?_
  refine z_iconst (v := 0) ok dX0_noteStep_7 (by decide) ?_
  refine z_nm hf (fun v8 hf => ?_)
  refine z_istore (lv' := [(4, .int v8), (3, .int v6), (0, .ref (X.ad w)), (1, .ref (X.ad p1)), (2, .ref (X.ad p2))]) ok dX0_noteStep_8 (by decide) rfl ?_
  refine z_call hf (fun r hr hf => ?_)
  refine z_sub [2, 3, 4, 1, 0] rfl (z_iter (fun (s : (Sg × Int32)) => s.1) (fun (s : (Sg × Int32)) => [(0, .ref (X.ad w)), (1, .ref (X.ad p1)), (2, .ref (X.ad p2)), (3, .int v6), (4, .int s.2)]) (fun s o h1 h2 => t_Log_noteStep_l10 ok hw hp1 hp2 h1 h2) _ _ _ hr ?_)
  show ZAt X Q 0 0 190 r.1 [] []
  obtain rfl := Option.some.inj hf
  exact hk _ _ dX0_noteStep_190
theorem c_Log_noteStep {σ : Sg} {w : Nat} {p1 : Nat} {p2 : Nat} (hw : zI_Log w 198) (hp1 : zI_Works p1 198) (hp2 : zI_Water p2 198) {r : Sg} (h : Log_noteStep σ w p1 p2 = some r) : ZcV yX0_noteStep cX0_noteStep 8 rm_Log_noteStep 198 (fun ad => [.ref (ad w), .ref (ad p1), .ref (ad p2)]) σ r :=
  zmetV pn_0 rfl (fun _ => rfl) (fun _ => Nat.le_of_ble_eq_true rfl) (fun X Q ok hk => t_Log_noteStep ok hw hp1 hp2 h hk)
theorem dX3_drop_0 : decode cX3_drop 0 = .ok (.iload_n 1, 1) := by decide +kernel
theorem dX3_drop_1 : decode cX3_drop 1 = .ok (.istore_n 2, 1) := by decide +kernel
theorem dX3_drop_2 : decode cX3_drop 2 = .ok (.iload_n 2, 1) := by decide +kernel
theorem dX3_drop_3 : decode cX3_drop 3 = .ok (.iconst 1, 1) := by decide +kernel
theorem dX3_drop_4 : decode cX3_drop 4 = .ok (.iadd, 1) := by decide +kernel
theorem dX3_drop_5 : decode cX3_drop 5 = .ok (.aload_n 0, 1) := by decide +kernel
theorem dX3_drop_6 : decode cX3_drop 6 = .ok (.getfield 21, 3) := by decide +kernel
theorem dX3_drop_9 : decode cX3_drop 9 = .ok (.if_icmp .ge 51, 3) := by decide +kernel
theorem dX3_drop_12 : decode cX3_drop 12 = .ok (.aload_n 0, 1) := by decide +kernel
theorem dX3_drop_13 : decode cX3_drop 13 = .ok (.getfield 9, 3) := by decide +kernel
theorem dX3_drop_16 : decode cX3_drop 16 = .ok (.iload_n 2, 1) := by decide +kernel
theorem dX3_drop_17 : decode cX3_drop 17 = .ok (.aload_n 0, 1) := by decide +kernel
theorem dX3_drop_18 : decode cX3_drop 18 = .ok (.getfield 9, 3) := by decide +kernel
theorem dX3_drop_21 : decode cX3_drop 21 = .ok (.iload_n 2, 1) := by decide +kernel
theorem dX3_drop_22 : decode cX3_drop 22 = .ok (.iconst 1, 1) := by decide +kernel
theorem dX3_drop_23 : decode cX3_drop 23 = .ok (.iadd, 1) := by decide +kernel
theorem dX3_drop_24 : decode cX3_drop 24 = .ok (.iaload, 1) := by decide +kernel
theorem dX3_drop_25 : decode cX3_drop 25 = .ok (.iastore, 1) := by decide +kernel
theorem dX3_drop_26 : decode cX3_drop 26 = .ok (.aload_n 0, 1) := by decide +kernel
theorem dX3_drop_27 : decode cX3_drop 27 = .ok (.getfield 15, 3) := by decide +kernel
theorem dX3_drop_30 : decode cX3_drop 30 = .ok (.iload_n 2, 1) := by decide +kernel
theorem dX3_drop_31 : decode cX3_drop 31 = .ok (.aload_n 0, 1) := by decide +kernel
theorem dX3_drop_32 : decode cX3_drop 32 = .ok (.getfield 15, 3) := by decide +kernel
theorem dX3_drop_35 : decode cX3_drop 35 = .ok (.iload_n 2, 1) := by decide +kernel
theorem dX3_drop_36 : decode cX3_drop 36 = .ok (.iconst 1, 1) := by decide +kernel
theorem dX3_drop_37 : decode cX3_drop 37 = .ok (.iadd, 1) := by decide +kernel
theorem dX3_drop_38 : decode cX3_drop 38 = .ok (.iaload, 1) := by decide +kernel
theorem dX3_drop_39 : decode cX3_drop 39 = .ok (.iastore, 1) := by decide +kernel
theorem dX3_drop_40 : decode cX3_drop 40 = .ok (.aload_n 0, 1) := by decide +kernel
theorem dX3_drop_41 : decode cX3_drop 41 = .ok (.getfield 18, 3) := by decide +kernel
theorem dX3_drop_44 : decode cX3_drop 44 = .ok (.iload_n 2, 1) := by decide +kernel
theorem dX3_drop_45 : decode cX3_drop 45 = .ok (.aload_n 0, 1) := by decide +kernel
theorem dX3_drop_46 : decode cX3_drop 46 = .ok (.getfield 18, 3) := by decide +kernel
theorem dX3_drop_49 : decode cX3_drop 49 = .ok (.iload_n 2, 1) := by decide +kernel
theorem dX3_drop_50 : decode cX3_drop 50 = .ok (.iconst 1, 1) := by decide +kernel
theorem dX3_drop_51 : decode cX3_drop 51 = .ok (.iadd, 1) := by decide +kernel
theorem dX3_drop_52 : decode cX3_drop 52 = .ok (.iaload, 1) := by decide +kernel
theorem dX3_drop_53 : decode cX3_drop 53 = .ok (.iastore, 1) := by decide +kernel
theorem dX3_drop_54 : decode cX3_drop 54 = .ok (.iinc 2 1, 3) := by decide +kernel
theorem dX3_drop_57 : decode cX3_drop 57 = .ok (.goto (-55), 3) := by decide +kernel
theorem dX3_drop_60 : decode cX3_drop 60 = .ok (.aload_n 0, 1) := by decide +kernel
theorem dX3_drop_61 : decode cX3_drop 61 = .ok (.dup, 1) := by decide +kernel
theorem dX3_drop_62 : decode cX3_drop 62 = .ok (.getfield 21, 3) := by decide +kernel
theorem dX3_drop_65 : decode cX3_drop 65 = .ok (.iconst 1, 1) := by decide +kernel
theorem dX3_drop_66 : decode cX3_drop 66 = .ok (.isub, 1) := by decide +kernel
theorem dX3_drop_67 : decode cX3_drop 67 = .ok (.putfield 21, 3) := by decide +kernel
theorem dX3_drop_70 : decode cX3_drop 70 = .ok (.return_, 1) := by decide +kernel
abbrev rm_Orders_drop : Room := { frames := 0, cells := 0, slots := 0, locals := 0 }
def Orders_drop_l2 (σ : Sg) (w : Nat) (x2 : Int32) : Option ((Sg × Int32) ⊕ (Sg × Int32)) :=
  zgt σ w 0 fun v6 =>
  if v6 ≤ (x2 + 1) then (
    some (.inr (σ, x2))
  ) else (
    zrd σ (w + 1) 16 (x2 + 1) fun v24 =>
    zwr σ (w + 1) 16 x2 v24 fun σ25 =>
    zrd σ25 (w + 2) 16 (x2 + 1) fun v38 =>
    zwr σ25 (w + 2) 16 x2 v38 fun σ39 =>
    zrd σ39 (w + 3) 16 (x2 + 1) fun v52 =>
    zwr σ39 (w + 3) 16 x2 v52 fun σ53 =>
    zlt (x2 + 1) fun v54 =>
    some (.inl (σ53, v54))
  )
set_option maxRecDepth 20000 in
theorem t_Orders_drop_l2 {X : Zx} {Q : State → Prop} {σ : Sg} {w : Nat} {x2 : Int32} (ok : Zok X cX3_drop RX3 rm_Orders_drop 198 3) (hw : zI_Orders w 198) {out : ((Sg × Int32) ⊕ (Sg × Int32))} (hf : Orders_drop_l2 σ w x2 = some out) (hk : zout (fun (s : (Sg × Int32)) => ZAt X Q 0 0 2 s.1 [(0, .ref (X.ad w)), (2, .int s.2)] []) (fun (s : (Sg × Int32)) => ZAt X Q 0 0 60 s.1 [(0, .ref (X.ad w))] []) out) : ZAt X Q 0 0 2 σ [(0, .ref (X.ad w)), (2, .int x2)] [] := by
  unfold Orders_drop_l2 at hf
  obtain ⟨hw_0, hw_1, hw_2, hw_3⟩ := id hw
  refine z_iload_n ok dX3_drop_2 1 rfl ?_
  refine z_iconst (v := 1) ok dX3_drop_3 (by decide) ?_
  refine z_iadd ok dX3_drop_4 ?_
  refine z_aload_n ok dX3_drop_5 0 rfl ?_
  refine z_geti ok hw_0 zc_3 hin_3 0 (by decide) fl_3_21 rfl dX3_drop_6 hf (fun v6 hf => ?_)
  refine z_icmp_ge (tgt := 60) ok dX3_drop_9 (by decide) hf (fun _ hf => ?_) (fun _ hf => ?_)
  · obtain rfl := Option.some.inj hf
    exact z_sub [0] rfl hk
  · refine z_aload_n ok dX3_drop_12 0 rfl ?_
    refine z_getr (q := (w + 1)) ok hw_0 zc_3 hin_3 1 (by decide) fl_3_9 rfl dX3_drop_13 ?_
    refine z_iload_n ok dX3_drop_16 1 rfl ?_
    refine z_aload_n ok dX3_drop_17 0 rfl ?_
    refine z_getr (q := (w + 1)) ok hw_0 zc_3 hin_3 1 (by decide) fl_3_9 rfl dX3_drop_18 ?_
    refine z_iload_n ok dX3_drop_21 1 rfl ?_
    refine z_iconst (v := 1) ok dX3_drop_22 (by decide) ?_
    refine z_iadd ok dX3_drop_23 ?_
    refine z_iald ok hw_1 dX3_drop_24 hf (fun v24 hf => ?_)
    refine z_iast ok hw_1 dX3_drop_25 hf (fun σ25 hf => ?_)
    refine z_aload_n ok dX3_drop_26 0 rfl ?_
    refine z_getr (q := (w + 2)) ok hw_0 zc_3 hin_3 2 (by decide) fl_3_15 rfl dX3_drop_27 ?_
    refine z_iload_n ok dX3_drop_30 1 rfl ?_
    refine z_aload_n ok dX3_drop_31 0 rfl ?_
    refine z_getr (q := (w + 2)) ok hw_0 zc_3 hin_3 2 (by decide) fl_3_15 rfl dX3_drop_32 ?_
    refine z_iload_n ok dX3_drop_35 1 rfl ?_
    refine z_iconst (v := 1) ok dX3_drop_36 (by decide) ?_
    refine z_iadd ok dX3_drop_37 ?_
    refine z_iald ok hw_2 dX3_drop_38 hf (fun v38 hf => ?_)
    refine z_iast ok hw_2 dX3_drop_39 hf (fun σ39 hf => ?_)
    refine z_aload_n ok dX3_drop_40 0 rfl ?_
    refine z_getr (q := (w + 3)) ok hw_0 zc_3 hin_3 3 (by decide) fl_3_18 rfl dX3_drop_41 ?_
    refine z_iload_n ok dX3_drop_44 1 rfl ?_
    refine z_aload_n ok dX3_drop_45 0 rfl ?_
    refine z_getr (q := (w + 3)) ok hw_0 zc_3 hin_3 3 (by decide) fl_3_18 rfl dX3_drop_46 ?_
    refine z_iload_n ok dX3_drop_49 1 rfl ?_
    refine z_iconst (v := 1) ok dX3_drop_50 (by decide) ?_
    refine z_iadd ok dX3_drop_51 ?_
    refine z_iald ok hw_3 dX3_drop_52 hf (fun v52 hf => ?_)
    refine z_iast ok hw_3 dX3_drop_53 hf (fun σ53 hf => ?_)
    refine z_iinc (w := 1) (lv' := fun v54 => [(2, .int v54), (0, .ref (X.ad w))]) ok dX3_drop_54 1 rfl (by decide) (by decide) (fun _ => rfl) hf (fun v54 hf => ?_)
    refine z_goto (tgt := 2) ok dX3_drop_57 (by decide) ?_
    obtain rfl := Option.some.inj hf
    exact z_sub [1, 0] rfl hk
def Orders_drop (σ : Sg) (w : Nat) (x1 : Int32) : Option Sg :=
  (zit (fun (s : (Sg × Int32)) => Orders_drop_l2 s.1 w s.2) zFU (σ, x1)).bind fun r =>
  zgt r.1 w 0 fun v62 =>
  zpt r.1 w 0 (v62 - 1) fun σ67 =>
  some σ67
set_option maxRecDepth 20000 in
theorem t_Orders_drop {X : Zx} {Q : State → Prop} {σ : Sg} {w : Nat} {x1 : Int32} (ok : Zok X cX3_drop RX3 rm_Orders_drop 198 3) (hw : zI_Orders w 198) {out : Sg} (hf : Orders_drop σ w x1 = some out) (hk : ZrV cX3_drop X Q out) : ZAt X Q 0 0 0 σ [(0, .ref (X.ad w)), (1, .int x1)] [] := by
  unfold Orders_drop at hf
  obtain ⟨hw_0, hw_1, hw_2, hw_3⟩ := id hw
  refine z_iload_n ok dX3_drop_0 1 rfl ?_
  refine z_istore_n (lv' := [(2, .int x1), (0, .ref (X.ad w)), (1, .int x1)]) ok dX3_drop_1 (by decide) rfl ?_
  refine z_call hf (fun r hr hf => ?_)
  refine z_sub [1, 0] rfl (z_iter (fun (s : (Sg × Int32)) => s.1) (fun (s : (Sg × Int32)) => [(0, .ref (X.ad w)), (2, .int s.2)]) (fun s o h1 h2 => t_Orders_drop_l2 ok hw h1 h2) _ _ _ hr ?_)
  show ZAt X Q 0 0 60 r.1 [(0, .ref (X.ad w))] []
  refine z_aload_n ok dX3_drop_60 0 rfl ?_
  refine z_dup ok dX3_drop_61 rfl ?_
  refine z_geti ok hw_0 zc_3 hin_3 0 (by decide) fl_3_21 rfl dX3_drop_62 hf (fun v62 hf => ?_)
  refine z_iconst (v := 1) ok dX3_drop_65 (by decide) ?_
  refine z_isub ok dX3_drop_66 ?_
  refine z_puti ok hw_0 zc_3 hin_3 tyX3 tyX3_ok nmX3 0 (by decide) fl_3_21 rfl rfl (tyX3_ok 0 (by decide)) dX3_drop_67 hf (fun σ67 hf => ?_)
  obtain rfl := Option.some.inj hf
  exact hk _ _ dX3_drop_70
theorem c_Orders_drop {σ : Sg} {w : Nat} {x1 : Int32} (hw : zI_Orders w 198) {r : Sg} (h : Orders_drop σ w x1 = some r) : ZcV yX3_drop cX3_drop 3 rm_Orders_drop 198 (fun ad => [.ref (ad w), .int x1]) σ r :=
  zmetV pn_3 rfl (fun _ => rfl) (fun _ => Nat.le_of_ble_eq_true rfl) (fun X Q ok hk => t_Orders_drop ok hw h hk)
theorem dX11_seed_0 : decode cX11_seed 0 = .ok (.iload_n 1, 1) := by decide +kernel
theorem dX11_seed_1 : decode cX11_seed 1 = .ok (.ifCond .ge 9, 3) := by decide +kernel
theorem dX11_seed_4 : decode cX11_seed 4 = .ok (.aload_n 0, 1) := by decide +kernel
theorem dX11_seed_5 : decode cX11_seed 5 = .ok (.iconst 5, 1) := by decide +kernel
theorem dX11_seed_6 : decode cX11_seed 6 = .ok (.invokevirtual 77, 3) := by decide +kernel
theorem dX11_seed_9 : decode cX11_seed 9 = .ok (.ireturn, 1) := by decide +kernel
theorem dX11_seed_10 : decode cX11_seed 10 = .ok (.aload_n 0, 1) := by decide +kernel
theorem dX11_seed_11 : decode cX11_seed 11 = .ok (.iload_n 1, 1) := by decide +kernel
theorem dX11_seed_12 : decode cX11_seed 12 = .ok (.putfield 59, 3) := by decide +kernel
theorem dX11_seed_15 : decode cX11_seed 15 = .ok (.iconst 1, 1) := by decide +kernel
theorem dX11_seed_16 : decode cX11_seed 16 = .ok (.ireturn, 1) := by decide +kernel
abbrev rm_CK_seed : Room := { frames := 1, cells := 0, slots := 0, locals := 21 }
def CK_seed (σ : Sg) (x1 : Int32) : Option (Bool × Sg) :=
  if 0 ≤ x1 then (
    zpt σ 0 14 x1 fun σ12 =>
    some (true, σ12)
  ) else (
    (CK_deny σ 5).bind fun r6 =>
    some (r6.1, r6.2)
  )
set_option maxRecDepth 20000 in
theorem t_CK_seed {X : Zx} {Q : State → Prop} {σ : Sg} {x1 : Int32} (ok : Zok X cX11_seed RX11 rm_CK_seed 198 2)  {out : (Bool × Sg)} (hf : CK_seed σ x1 = some out) (hk : ZrI cX11_seed X Q (zb out.1) out.2) : ZAt X Q 0 0 0 σ [(0, .ref (X.ad 0)), (1, .int x1)] [] := by
  unfold CK_seed at hf
  refine z_iload_n ok dX11_seed_0 1 rfl ?_
  refine z_if_ge (tgt := 10) ok dX11_seed_1 (by decide) hf (fun _ hf => ?_) (fun _ hf => ?_)
  · refine z_aload_n ok dX11_seed_10 0 rfl ?_
    refine z_iload_n ok dX11_seed_11 1 rfl ?_
    refine z_puti ok kc_0 zc_11 hin_11 tyX11 tyX11_ok nmX11 14 (by decide) fl_11_59 rfl rfl (tyX11_ok 14 (by decide)) dX11_seed_12 hf (fun σ12 hf => ?_)
    refine z_iconst (v := 1) ok dX11_seed_15 (by decide) ?_
    obtain rfl := Option.some.inj hf
    exact hk _ _ dX11_seed_16
  · refine z_aload_n ok dX11_seed_4 0 rfl ?_
    refine z_iconst (v := 5) ok dX11_seed_5 (by decide) ?_
    refine z_call hf (fun r6 h6 hf => ?_)
    refine z_cV (As := [.int 5]) (rest := []) (w := 0) ok kc_0 zc_11 (c_CK_deny h6) rfl ⟨ml_11_77, w_CK_deny⟩ hy_CK_deny ⟨rfl, rfl⟩ ⟨Nat.le_of_ble_eq_true rfl, Nat.le_of_ble_eq_true rfl⟩ ⟨Nat.zero_le _, Nat.zero_le _⟩ rfl (Nat.le_of_ble_eq_true rfl) dX11_seed_6 ?_
    obtain rfl := Option.some.inj hf
    exact hk _ _ dX11_seed_9
theorem c_CK_seed {σ : Sg} {x1 : Int32} {r : (Bool × Sg)} (h : CK_seed σ x1 = some r) : ZcI yX11_seed cX11_seed 2 .boolean rm_CK_seed 198 (fun ad => [.ref (ad 0), .int x1]) σ (zb r.1) r.2 :=
  zmetI pn_11 rfl (fun _ => rfl) (fun _ => Nat.le_of_ble_eq_true rfl) (zb_nar _) (fun X Q ok hk => t_CK_seed ok h hk)
theorem dX11_status_0 : decode cX11_status 0 = .ok (.iload_n 1, 1) := by decide +kernel
theorem dX11_status_1 : decode cX11_status 1 = .ok (.ifCond .lt 18, 3) := by decide +kernel
theorem dX11_status_4 : decode cX11_status 4 = .ok (.iload_n 1, 1) := by decide +kernel
theorem dX11_status_5 : decode cX11_status 5 = .ok (.bipush 6, 2) := by decide +kernel
theorem dX11_status_7 : decode cX11_status 7 = .ok (.if_icmp .ge 12, 3) := by decide +kernel
theorem dX11_status_10 : decode cX11_status 10 = .ok (.aload_n 0, 1) := by decide +kernel
theorem dX11_status_11 : decode cX11_status 11 = .ok (.getfield 62, 3) := by decide +kernel
theorem dX11_status_14 : decode cX11_status 14 = .ok (.iload_n 1, 1) := by decide +kernel
theorem dX11_status_15 : decode cX11_status 15 = .ok (.iaload, 1) := by decide +kernel
theorem dX11_status_16 : decode cX11_status 16 = .ok (.goto 4, 3) := by decide +kernel
theorem dX11_status_19 : decode cX11_status 19 = .ok (.iconst (-1), 1) := by decide +kernel
theorem dX11_status_20 : decode cX11_status 20 = .ok (.ireturn, 1) := by decide +kernel
abbrev rm_CK_status : Room := { frames := 0, cells := 0, slots := 0, locals := 0 }
def CK_status (σ : Sg) (x1 : Int32) : Option Int32 :=
  if x1 < 0 then (
    some (-1)
  ) else (
    if 6 ≤ x1 then (
      some (-1)
    ) else (
      zrd σ 170 6 x1 fun v15 =>
      some v15
    )
  )
set_option maxRecDepth 20000 in
theorem t_CK_status {X : Zx} {Q : State → Prop} {σ : Sg} {x1 : Int32} (ok : Zok X cX11_status RX11 rm_CK_status 198 2)  {out : Int32} (hf : CK_status σ x1 = some out) (hk : ZrI cX11_status X Q out σ) : ZAt X Q 0 0 0 σ [(0, .ref (X.ad 0)), (1, .int x1)] [] := by
  unfold CK_status at hf
  refine z_iload_n ok dX11_status_0 1 rfl ?_
  refine z_if_lt (tgt := 19) ok dX11_status_1 (by decide) hf (fun _ hf => ?_) (fun _ hf => ?_)
  · refine z_iconst (v := (-1)) ok dX11_status_19 (by decide) ?_
    obtain rfl := Option.some.inj hf
    exact hk _ _ dX11_status_20
  · refine z_iload_n ok dX11_status_4 1 rfl ?_
    refine z_bipush (v := 6) ok dX11_status_5 (by decide) ?_
    refine z_icmp_ge (tgt := 19) ok dX11_status_7 (by decide) hf (fun _ hf => ?_) (fun _ hf => ?_)
    · refine z_iconst (v := (-1)) ok dX11_status_19 (by decide) ?_
      obtain rfl := Option.some.inj hf
      exact hk _ _ dX11_status_20
    · refine z_aload_n ok dX11_status_10 0 rfl ?_
      refine z_getr (q := 170) ok kc_0 zc_11 hin_11 15 (by decide) fl_11_62 rfl dX11_status_11 ?_
      refine z_iload_n ok dX11_status_14 1 rfl ?_
      refine z_iald ok kc_170 dX11_status_15 hf (fun v15 hf => ?_)
      refine z_goto (tgt := 20) ok dX11_status_16 (by decide) ?_
      obtain rfl := Option.some.inj hf
      exact hk _ _ dX11_status_20
theorem c_CK_status {σ : Sg} {x1 : Int32} {r : Int32} (h : CK_status σ x1 = some r) : ZcI yX11_status cX11_status 2 .int rm_CK_status 198 (fun ad => [.ref (ad 0), .int x1]) σ r σ :=
  zmetI pn_11 rfl (fun _ => rfl) (fun _ => Nat.le_of_ble_eq_true rfl) rfl (fun X Q ok hk => t_CK_status ok h hk)
