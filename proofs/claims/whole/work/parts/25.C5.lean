theorem kI_Orders_99 : zI_Orders 99 198 := ⟨kc_99, kc_100, kc_101, kc_102⟩
theorem wc_4_113 : Cond.constant RX4 113 1000000000 ∈ zT := zT_of (i := 1213) (by decide +kernel) rfl
theorem fl_11_302 : Cond.fieldLink RX11 302 (TX4 0).1 (TX4 0).2.1 (TX4 0).2.2.1 ∈ zT := zT_of (i := 514) (by decide +kernel) rfl
theorem fl_11_314 : Cond.fieldLink RX11 314 (TX4 5).1 (TX4 5).2.1 (TX4 5).2.2.1 ∈ zT := zT_of (i := 521) (by decide +kernel) rfl
theorem fl_11_317 : Cond.fieldLink RX11 317 (TX4 6).1 (TX4 6).2.1 (TX4 6).2.2.1 ∈ zT := zT_of (i := 523) (by decide +kernel) rfl
theorem fl_11_48 : Cond.fieldLink RX11 48 (TX11 12).1 (TX11 12).2.1 (TX11 12).2.2.1 ∈ zT := zT_of (i := 586) (by decide +kernel) rfl
theorem fl_4_101 : Cond.fieldLink RX4 101 (TX9 11).1 (TX9 11).2.1 (TX9 11).2.2.1 ∈ zT := zT_of (i := 415) (by decide +kernel) rfl
theorem fl_4_105 : Cond.fieldLink RX4 105 (TX2 3).1 (TX2 3).2.1 (TX2 3).2.2.1 ∈ zT := zT_of (i := 352) (by decide +kernel) rfl
theorem fl_4_110 : Cond.fieldLink RX4 110 (TX2 4).1 (TX2 4).2.1 (TX2 4).2.2.1 ∈ zT := zT_of (i := 356) (by decide +kernel) rfl
theorem fl_4_114 : Cond.fieldLink RX4 114 (TX4 6).1 (TX4 6).2.1 (TX4 6).2.2.1 ∈ zT := zT_of (i := 522) (by decide +kernel) rfl
theorem fl_4_117 : Cond.fieldLink RX4 117 (TX9 2).1 (TX9 2).2.1 (TX9 2).2.2.1 ∈ zT := zT_of (i := 389) (by decide +kernel) rfl
theorem fl_4_128 : Cond.fieldLink RX4 128 (TX9 4).1 (TX9 4).2.1 (TX9 4).2.2.1 ∈ zT := zT_of (i := 397) (by decide +kernel) rfl
theorem fl_4_129 : Cond.fieldLink RX4 129 (TX10 5).1 (TX10 5).2.1 (TX10 5).2.2.1 ∈ zT := zT_of (i := 268) (by decide +kernel) rfl
theorem fl_4_138 : Cond.fieldLink RX4 138 (TX9 6).1 (TX9 6).2.1 (TX9 6).2.2.1 ∈ zT := zT_of (i := 404) (by decide +kernel) rfl
theorem fl_4_141 : Cond.fieldLink RX4 141 (TX4 5).1 (TX4 5).2.1 (TX4 5).2.2.1 ∈ zT := zT_of (i := 520) (by decide +kernel) rfl
theorem fl_4_153 : Cond.fieldLink RX4 153 (TX3 2).1 (TX3 2).2.1 (TX3 2).2.2.1 ∈ zT := zT_of (i := 207) (by decide +kernel) rfl
theorem fl_4_21 : Cond.fieldLink RX4 21 (TX4 1).1 (TX4 1).2.1 (TX4 1).2.2.1 ∈ zT := zT_of (i := 515) (by decide +kernel) rfl
theorem fl_4_76 : Cond.fieldLink RX4 76 (TX9 3).1 (TX9 3).2.1 (TX9 3).2.2.1 ∈ zT := zT_of (i := 392) (by decide +kernel) rfl
theorem fl_4_84 : Cond.fieldLink RX4 84 (TX4 7).1 (TX4 7).2.1 (TX4 7).2.2.1 ∈ zT := zT_of (i := 524) (by decide +kernel) rfl
theorem fl_4_91 : Cond.fieldLink RX4 91 (TX9 1).1 (TX9 1).2.1 (TX9 1).2.2.1 ∈ zT := zT_of (i := 386) (by decide +kernel) rfl
theorem fl_4_94 : Cond.fieldLink RX4 94 (TX9 10).1 (TX9 10).2.1 (TX9 10).2.2.1 ∈ zT := zT_of (i := 412) (by decide +kernel) rfl
theorem fl_7_15 : Cond.fieldLink RX7 15 (TX7 3).1 (TX7 3).2.1 (TX7 3).2.2.1 ∈ zT := zT_of (i := 553) (by decide +kernel) rfl
theorem fl_7_26 : Cond.fieldLink RX7 26 (TX7 1).1 (TX7 1).2.1 (TX7 1).2.2.1 ∈ zT := zT_of (i := 551) (by decide +kernel) rfl
theorem fl_7_36 : Cond.fieldLink RX7 36 (TX7 0).1 (TX7 0).2.1 (TX7 0).2.2.1 ∈ zT := zT_of (i := 549) (by decide +kernel) rfl
theorem fl_7_9 : Cond.fieldLink RX7 9 (TX7 2).1 (TX7 2).2.1 (TX7 2).2.2.1 ∈ zT := zT_of (i := 552) (by decide +kernel) rfl
theorem ml_11_295 : Cond.methodLink RX11 295 yX4_look ∈ zT := zT_of (i := 1095) (by decide +kernel) rfl
theorem ml_11_299 : Cond.methodLink RX11 299 yX4_run ∈ zT := zT_of (i := 1122) (by decide +kernel) rfl
theorem ml_11_303 : Cond.methodLink RX11 303 yX4_firstTime ∈ zT := zT_of (i := 1179) (by decide +kernel) rfl
theorem ml_11_307 : Cond.methodLink RX11 307 yX4_leastGives ∈ zT := zT_of (i := 1193) (by decide +kernel) rfl
theorem ml_11_311 : Cond.methodLink RX11 311 yX4_chooseGain ∈ zT := zT_of (i := 1209) (by decide +kernel) rfl
theorem ml_11_320 : Cond.methodLink RX11 320 yX4_chooseHand ∈ zT := zT_of (i := 1226) (by decide +kernel) rfl
theorem ml_11_324 : Cond.methodLink RX11 324 yX4_firstHarmless ∈ zT := zT_of (i := 1235) (by decide +kernel) rfl
theorem ml_4_120 : Cond.methodLink RX4 120 yX4_timesOut ∈ zT := zT_of (i := 1214) (by decide +kernel) rfl
theorem ml_4_124 : Cond.methodLink RX4 124 yX4_weigh ∈ zT := zT_of (i := 1218) (by decide +kernel) rfl
theorem ml_4_133 : Cond.methodLink RX4 133 Lib.Math.min.name ∈ zT := zT_of (i := 1230) (by decide +kernel) rfl
theorem ml_4_144 : Cond.methodLink RX4 144 yX4_run ∈ zT := zT_of (i := 1239) (by decide +kernel) rfl
theorem ml_4_147 : Cond.methodLink RX4 147 yX3_copyFrom ∈ zT := zT_of (i := 1240) (by decide +kernel) rfl
theorem ml_4_150 : Cond.methodLink RX4 150 yX3_add ∈ zT := zT_of (i := 1241) (by decide +kernel) rfl
theorem ml_4_156 : Cond.methodLink RX4 156 yX6_planAgain ∈ zT := zT_of (i := 1242) (by decide +kernel) rfl
theorem ml_4_56 : Cond.methodLink RX4 56 yX4_runOne ∈ zT := zT_of (i := 1126) (by decide +kernel) rfl
theorem ml_4_72 : Cond.methodLink RX4 72 yX4_look ∈ zT := zT_of (i := 1183) (by decide +kernel) rfl
theorem ml_4_80 : Cond.methodLink RX4 80 yX10_bandOf ∈ zT := zT_of (i := 1184) (by decide +kernel) rfl
theorem ml_4_88 : Cond.methodLink RX4 88 yX4_lookAgain ∈ zT := zT_of (i := 1197) (by decide +kernel) rfl
theorem ml_4_97 : Cond.methodLink RX4 97 yX4_staysWithin ∈ zT := zT_of (i := 1201) (by decide +kernel) rfl
theorem ml_7_30 : Cond.methodLink RX7 30 Lib.Math.min.name ∈ zT := zT_of (i := 1257) (by decide +kernel) rfl
theorem w_Outlook_chooseGain : Cond.instanceMethod yX4_chooseGain ∈ zT ∧ Cond.selects yX4_chooseGain.cls yX4_chooseGain yX4_chooseGain ∈ zT ∧ Cond.initialized yX4_chooseGain.cls ∈ zT ∧ Cond.code yX4_chooseGain cX4_chooseGain 5 none ∈ zT := ⟨zT_of (i := 1210) (by decide +kernel) rfl, zT_of (i := 1211) (by decide +kernel) rfl, zT_of (i := 132) (by decide +kernel) rfl, zT_of (i := 1212) (by decide +kernel) rfl⟩
theorem hy_Outlook_chooseGain : yX4_chooseGain.cls ≠ "java/lang/invoke/MethodHandle" ∧ yX4_chooseGain.cls ≠ "java/lang/invoke/VarHandle" ∧ (parseMethodDescriptor yX4_chooseGain.desc).map (fun d => d.parameters.length) = some 3 := by decide +kernel
theorem w_Outlook_chooseHand : Cond.instanceMethod yX4_chooseHand ∈ zT ∧ Cond.selects yX4_chooseHand.cls yX4_chooseHand yX4_chooseHand ∈ zT ∧ Cond.initialized yX4_chooseHand.cls ∈ zT ∧ Cond.code yX4_chooseHand cX4_chooseHand 7 none ∈ zT := ⟨zT_of (i := 1227) (by decide +kernel) rfl, zT_of (i := 1228) (by decide +kernel) rfl, zT_of (i := 132) (by decide +kernel) rfl, zT_of (i := 1229) (by decide +kernel) rfl⟩
theorem hy_Outlook_chooseHand : yX4_chooseHand.cls ≠ "java/lang/invoke/MethodHandle" ∧ yX4_chooseHand.cls ≠ "java/lang/invoke/VarHandle" ∧ (parseMethodDescriptor yX4_chooseHand.desc).map (fun d => d.parameters.length) = some 4 := by decide +kernel
theorem w_Outlook_firstHarmless : Cond.instanceMethod yX4_firstHarmless ∈ zT ∧ Cond.selects yX4_firstHarmless.cls yX4_firstHarmless yX4_firstHarmless ∈ zT ∧ Cond.initialized yX4_firstHarmless.cls ∈ zT ∧ Cond.code yX4_firstHarmless cX4_firstHarmless 9 (some .int) ∈ zT := ⟨zT_of (i := 1236) (by decide +kernel) rfl, zT_of (i := 1237) (by decide +kernel) rfl, zT_of (i := 132) (by decide +kernel) rfl, zT_of (i := 1238) (by decide +kernel) rfl⟩
theorem hy_Outlook_firstHarmless : yX4_firstHarmless.cls ≠ "java/lang/invoke/MethodHandle" ∧ yX4_firstHarmless.cls ≠ "java/lang/invoke/VarHandle" ∧ (parseMethodDescriptor yX4_firstHarmless.desc).map (fun d => d.parameters.length) = some 4 := by decide +kernel
theorem w_Outlook_firstTime : Cond.instanceMethod yX4_firstTime ∈ zT ∧ Cond.selects yX4_firstTime.cls yX4_firstTime yX4_firstTime ∈ zT ∧ Cond.initialized yX4_firstTime.cls ∈ zT ∧ Cond.code yX4_firstTime cX4_firstTime 6 (some .int) ∈ zT := ⟨zT_of (i := 1180) (by decide +kernel) rfl, zT_of (i := 1181) (by decide +kernel) rfl, zT_of (i := 132) (by decide +kernel) rfl, zT_of (i := 1182) (by decide +kernel) rfl⟩
theorem hy_Outlook_firstTime : yX4_firstTime.cls ≠ "java/lang/invoke/MethodHandle" ∧ yX4_firstTime.cls ≠ "java/lang/invoke/VarHandle" ∧ (parseMethodDescriptor yX4_firstTime.desc).map (fun d => d.parameters.length) = some 4 := by decide +kernel
theorem w_Outlook_leastGives : Cond.instanceMethod yX4_leastGives ∈ zT ∧ Cond.selects yX4_leastGives.cls yX4_leastGives yX4_leastGives ∈ zT ∧ Cond.initialized yX4_leastGives.cls ∈ zT ∧ Cond.code yX4_leastGives cX4_leastGives 5 (some .int) ∈ zT := ⟨zT_of (i := 1194) (by decide +kernel) rfl, zT_of (i := 1195) (by decide +kernel) rfl, zT_of (i := 132) (by decide +kernel) rfl, zT_of (i := 1196) (by decide +kernel) rfl⟩
theorem hy_Outlook_leastGives : yX4_leastGives.cls ≠ "java/lang/invoke/MethodHandle" ∧ yX4_leastGives.cls ≠ "java/lang/invoke/VarHandle" ∧ (parseMethodDescriptor yX4_leastGives.desc).map (fun d => d.parameters.length) = some 3 := by decide +kernel
theorem w_Outlook_lookAgain : Cond.instanceMethod yX4_lookAgain ∈ zT ∧ Cond.selects yX4_lookAgain.cls yX4_lookAgain yX4_lookAgain ∈ zT ∧ Cond.initialized yX4_lookAgain.cls ∈ zT ∧ Cond.code yX4_lookAgain cX4_lookAgain 1 none ∈ zT := ⟨zT_of (i := 1198) (by decide +kernel) rfl, zT_of (i := 1199) (by decide +kernel) rfl, zT_of (i := 132) (by decide +kernel) rfl, zT_of (i := 1200) (by decide +kernel) rfl⟩
theorem hy_Outlook_lookAgain : yX4_lookAgain.cls ≠ "java/lang/invoke/MethodHandle" ∧ yX4_lookAgain.cls ≠ "java/lang/invoke/VarHandle" ∧ (parseMethodDescriptor yX4_lookAgain.desc).map (fun d => d.parameters.length) = some 0 := by decide +kernel
theorem w_Outlook_run : Cond.instanceMethod yX4_run ∈ zT ∧ Cond.selects yX4_run.cls yX4_run yX4_run ∈ zT ∧ Cond.initialized yX4_run.cls ∈ zT ∧ Cond.code yX4_run cX4_run 3 none ∈ zT := ⟨zT_of (i := 1123) (by decide +kernel) rfl, zT_of (i := 1124) (by decide +kernel) rfl, zT_of (i := 132) (by decide +kernel) rfl, zT_of (i := 1125) (by decide +kernel) rfl⟩
theorem hy_Outlook_run : yX4_run.cls ≠ "java/lang/invoke/MethodHandle" ∧ yX4_run.cls ≠ "java/lang/invoke/VarHandle" ∧ (parseMethodDescriptor yX4_run.desc).map (fun d => d.parameters.length) = some 1 := by decide +kernel
theorem w_Outlook_staysWithin : Cond.instanceMethod yX4_staysWithin ∈ zT ∧ Cond.selects yX4_staysWithin.cls yX4_staysWithin yX4_staysWithin ∈ zT ∧ Cond.initialized yX4_staysWithin.cls ∈ zT ∧ Cond.code yX4_staysWithin cX4_staysWithin 4 (some .boolean) ∈ zT := ⟨zT_of (i := 1203) (by decide +kernel) rfl, zT_of (i := 44) (by decide +kernel) rfl, zT_of (i := 132) (by decide +kernel) rfl, zT_of (i := 1204) (by decide +kernel) rfl⟩
theorem hy_Outlook_staysWithin : yX4_staysWithin.cls ≠ "java/lang/invoke/MethodHandle" ∧ yX4_staysWithin.cls ≠ "java/lang/invoke/VarHandle" ∧ (parseMethodDescriptor yX4_staysWithin.desc).map (fun d => d.parameters.length) = some 2 := by decide +kernel
theorem w_Outlook_timesOut : Cond.instanceMethod yX4_timesOut ∈ zT ∧ Cond.selects yX4_timesOut.cls yX4_timesOut yX4_timesOut ∈ zT ∧ Cond.initialized yX4_timesOut.cls ∈ zT ∧ Cond.code yX4_timesOut cX4_timesOut 7 (some .int) ∈ zT := ⟨zT_of (i := 1216) (by decide +kernel) rfl, zT_of (i := 45) (by decide +kernel) rfl, zT_of (i := 132) (by decide +kernel) rfl, zT_of (i := 1217) (by decide +kernel) rfl⟩
theorem hy_Outlook_timesOut : yX4_timesOut.cls ≠ "java/lang/invoke/MethodHandle" ∧ yX4_timesOut.cls ≠ "java/lang/invoke/VarHandle" ∧ (parseMethodDescriptor yX4_timesOut.desc).map (fun d => d.parameters.length) = some 3 := by decide +kernel
theorem w_Outlook_weigh : Cond.instanceMethod yX4_weigh ∈ zT ∧ Cond.selects yX4_weigh.cls yX4_weigh yX4_weigh ∈ zT ∧ Cond.initialized yX4_weigh.cls ∈ zT ∧ Cond.code yX4_weigh cX4_weigh 3 none ∈ zT := ⟨zT_of (i := 1220) (by decide +kernel) rfl, zT_of (i := 46) (by decide +kernel) rfl, zT_of (i := 132) (by decide +kernel) rfl, zT_of (i := 1221) (by decide +kernel) rfl⟩
theorem hy_Outlook_weigh : yX4_weigh.cls ≠ "java/lang/invoke/MethodHandle" ∧ yX4_weigh.cls ≠ "java/lang/invoke/VarHandle" ∧ (parseMethodDescriptor yX4_weigh.desc).map (fun d => d.parameters.length) = some 2 := by decide +kernel
theorem w_Schedule_planAgain : Cond.instanceMethod yX6_planAgain ∈ zT ∧ Cond.selects yX6_planAgain.cls yX6_planAgain yX6_planAgain ∈ zT ∧ Cond.initialized yX6_planAgain.cls ∈ zT ∧ Cond.code yX6_planAgain cX6_planAgain 4 none ∈ zT := ⟨zT_of (i := 1243) (by decide +kernel) rfl, zT_of (i := 1244) (by decide +kernel) rfl, zT_of (i := 133) (by decide +kernel) rfl, zT_of (i := 1245) (by decide +kernel) rfl⟩
theorem hy_Schedule_planAgain : yX6_planAgain.cls ≠ "java/lang/invoke/MethodHandle" ∧ yX6_planAgain.cls ≠ "java/lang/invoke/VarHandle" ∧ (parseMethodDescriptor yX6_planAgain.desc).map (fun d => d.parameters.length) = some 3 := by decide +kernel
theorem w_Sight_isTelling : Cond.static yX7_isTelling ∈ zT ∧ Cond.initialized yX7_isTelling.cls ∈ zT ∧ Cond.code yX7_isTelling cX7_isTelling 4 (some .boolean) ∈ zT := ⟨zT_of (i := 1251) (by decide +kernel) rfl, zT_of (i := 134) (by decide +kernel) rfl, zT_of (i := 1252) (by decide +kernel) rfl⟩
theorem hy_Sight_isTelling : yX7_isTelling.cls ≠ "java/lang/invoke/MethodHandle" ∧ yX7_isTelling.cls ≠ "java/lang/invoke/VarHandle" ∧ (parseMethodDescriptor yX7_isTelling.desc).map (fun d => d.parameters.length) = some 2 := by decide +kernel
theorem w_Sight_take : Cond.instanceMethod yX7_take ∈ zT ∧ Cond.selects yX7_take.cls yX7_take yX7_take ∈ zT ∧ Cond.initialized yX7_take.cls ∈ zT ∧ Cond.code yX7_take cX7_take 5 none ∈ zT := ⟨zT_of (i := 1254) (by decide +kernel) rfl, zT_of (i := 1255) (by decide +kernel) rfl, zT_of (i := 134) (by decide +kernel) rfl, zT_of (i := 1256) (by decide +kernel) rfl⟩
theorem hy_Sight_take : yX7_take.cls ≠ "java/lang/invoke/MethodHandle" ∧ yX7_take.cls ≠ "java/lang/invoke/VarHandle" ∧ (parseMethodDescriptor yX7_take.desc).map (fun d => d.parameters.length) = some 3 := by decide +kernel
theorem w_CK_best : Cond.instanceMethod yX11_best ∈ zT ∧ Cond.selects yX11_best.cls yX11_best yX11_best ∈ zT ∧ Cond.initialized yX11_best.cls ∈ zT ∧ Cond.code yX11_best cX11_best 4 (some .int) ∈ zT := ⟨zT_of (i := 1223) (by decide +kernel) rfl, zT_of (i := 1224) (by decide +kernel) rfl, zT_of (i := 123) (by decide +kernel) rfl, zT_of (i := 1225) (by decide +kernel) rfl⟩
theorem hy_CK_best : yX11_best.cls ≠ "java/lang/invoke/MethodHandle" ∧ yX11_best.cls ≠ "java/lang/invoke/VarHandle" ∧ (parseMethodDescriptor yX11_best.desc).map (fun d => d.parameters.length) = some 3 := by decide +kernel
theorem w_CK_fits : Cond.instanceMethod yX11_fits ∈ zT ∧ Cond.selects yX11_fits.cls yX11_fits yX11_fits ∈ zT ∧ Cond.initialized yX11_fits.cls ∈ zT ∧ Cond.code yX11_fits cX11_fits 3 (some .int) ∈ zT := ⟨zT_of (i := 1232) (by decide +kernel) rfl, zT_of (i := 1233) (by decide +kernel) rfl, zT_of (i := 123) (by decide +kernel) rfl, zT_of (i := 1234) (by decide +kernel) rfl⟩
theorem hy_CK_fits : yX11_fits.cls ≠ "java/lang/invoke/MethodHandle" ∧ yX11_fits.cls ≠ "java/lang/invoke/VarHandle" ∧ (parseMethodDescriptor yX11_fits.desc).map (fun d => d.parameters.length) = some 2 := by decide +kernel
theorem w_CK_gain : Cond.instanceMethod yX11_gain ∈ zT ∧ Cond.selects yX11_gain.cls yX11_gain yX11_gain ∈ zT ∧ Cond.initialized yX11_gain.cls ∈ zT ∧ Cond.code yX11_gain cX11_gain 3 (some .int) ∈ zT := ⟨zT_of (i := 1206) (by decide +kernel) rfl, zT_of (i := 1207) (by decide +kernel) rfl, zT_of (i := 123) (by decide +kernel) rfl, zT_of (i := 1208) (by decide +kernel) rfl⟩
theorem hy_CK_gain : yX11_gain.cls ≠ "java/lang/invoke/MethodHandle" ∧ yX11_gain.cls ≠ "java/lang/invoke/VarHandle" ∧ (parseMethodDescriptor yX11_gain.desc).map (fun d => d.parameters.length) = some 2 := by decide +kernel
theorem w_CK_lacks : Cond.instanceMethod yX11_lacks ∈ zT ∧ Cond.selects yX11_lacks.cls yX11_lacks yX11_lacks ∈ zT ∧ Cond.initialized yX11_lacks.cls ∈ zT ∧ Cond.code yX11_lacks cX11_lacks 3 (some .int) ∈ zT := ⟨zT_of (i := 1186) (by decide +kernel) rfl, zT_of (i := 1187) (by decide +kernel) rfl, zT_of (i := 123) (by decide +kernel) rfl, zT_of (i := 1188) (by decide +kernel) rfl⟩
theorem hy_CK_lacks : yX11_lacks.cls ≠ "java/lang/invoke/MethodHandle" ∧ yX11_lacks.cls ≠ "java/lang/invoke/VarHandle" ∧ (parseMethodDescriptor yX11_lacks.desc).map (fun d => d.parameters.length) = some 2 := by decide +kernel
theorem w_CK_later : Cond.instanceMethod yX11_later ∈ zT ∧ Cond.selects yX11_later.cls yX11_later yX11_later ∈ zT ∧ Cond.initialized yX11_later.cls ∈ zT ∧ Cond.code yX11_later cX11_later 3 (some .int) ∈ zT := ⟨zT_of (i := 1092) (by decide +kernel) rfl, zT_of (i := 1093) (by decide +kernel) rfl, zT_of (i := 123) (by decide +kernel) rfl, zT_of (i := 1094) (by decide +kernel) rfl⟩
theorem hy_CK_later : yX11_later.cls ≠ "java/lang/invoke/MethodHandle" ∧ yX11_later.cls ≠ "java/lang/invoke/VarHandle" ∧ (parseMethodDescriptor yX11_later.desc).map (fun d => d.parameters.length) = some 2 := by decide +kernel
theorem w_CK_least : Cond.instanceMethod yX11_least ∈ zT ∧ Cond.selects yX11_least.cls yX11_least yX11_least ∈ zT ∧ Cond.initialized yX11_least.cls ∈ zT ∧ Cond.code yX11_least cX11_least 2 (some .int) ∈ zT := ⟨zT_of (i := 1190) (by decide +kernel) rfl, zT_of (i := 1191) (by decide +kernel) rfl, zT_of (i := 123) (by decide +kernel) rfl, zT_of (i := 1192) (by decide +kernel) rfl⟩
theorem hy_CK_least : yX11_least.cls ≠ "java/lang/invoke/MethodHandle" ∧ yX11_least.cls ≠ "java/lang/invoke/VarHandle" ∧ (parseMethodDescriptor yX11_least.desc).map (fun d => d.parameters.length) = some 1 := by decide +kernel
theorem w_CK_opening : Cond.instanceMethod yX11_opening ∈ zT ∧ Cond.selects yX11_opening.cls yX11_opening yX11_opening ∈ zT ∧ Cond.initialized yX11_opening.cls ∈ zT ∧ Cond.code yX11_opening cX11_opening 3 (some .int) ∈ zT := ⟨zT_of (i := 1172) (by decide +kernel) rfl, zT_of (i := 1173) (by decide +kernel) rfl, zT_of (i := 123) (by decide +kernel) rfl, zT_of (i := 1174) (by decide +kernel) rfl⟩
theorem hy_CK_opening : yX11_opening.cls ≠ "java/lang/invoke/MethodHandle" ∧ yX11_opening.cls ≠ "java/lang/invoke/VarHandle" ∧ (parseMethodDescriptor yX11_opening.desc).map (fun d => d.parameters.length) = some 2 := by decide +kernel
theorem w_CK_when : Cond.instanceMethod yX11_when ∈ zT ∧ Cond.selects yX11_when.cls yX11_when yX11_when ∈ zT ∧ Cond.initialized yX11_when.cls ∈ zT ∧ Cond.code yX11_when cX11_when 3 (some .int) ∈ zT := ⟨zT_of (i := 1176) (by decide +kernel) rfl, zT_of (i := 1177) (by decide +kernel) rfl, zT_of (i := 123) (by decide +kernel) rfl, zT_of (i := 1178) (by decide +kernel) rfl⟩
theorem hy_CK_when : yX11_when.cls ≠ "java/lang/invoke/MethodHandle" ∧ yX11_when.cls ≠ "java/lang/invoke/VarHandle" ∧ (parseMethodDescriptor yX11_when.desc).map (fun d => d.parameters.length) = some 2 := by decide +kernel
theorem dX4_run_0 : decode cX4_run 0 = .ok (.iconst 0, 1) := by decide +kernel
theorem dX4_run_1 : decode cX4_run 1 = .ok (.istore_n 2, 1) := by decide +kernel
theorem dX4_run_2 : decode cX4_run 2 = .ok (.iload_n 2, 1) := by decide +kernel
theorem dX4_run_3 : decode cX4_run 3 = .ok (.iload_n 1, 1) := by decide +kernel
theorem dX4_run_4 : decode cX4_run 4 = .ok (.if_icmp .ge 13, 3) := by decide +kernel
theorem dX4_run_7 : decode cX4_run 7 = .ok (.aload_n 0, 1) := by decide +kernel
theorem dX4_run_8 : decode cX4_run 8 = .ok (.invokevirtual 56, 3) := by decide +kernel
theorem dX4_run_11 : decode cX4_run 11 = .ok (.iinc 2 1, 3) := by decide +kernel
theorem dX4_run_14 : decode cX4_run 14 = .ok (.goto (-12), 3) := by decide +kernel
theorem dX4_run_17 : decode cX4_run 17 = .ok (.return_, 1) := by decide +kernel
abbrev rm_Outlook_run : Room := { frames := 5, cells := 0, slots := 0, locals := 112 }
def Outlook_run_l2 (σ : Sg) (x1 : Int32) (x2 : Int32) : Option ((Sg × Int32) ⊕ (Sg × Int32)) :=
  if x1 ≤ x2 then (
    some (.inr (σ, x2))
  ) else (
    (Outlook_runOne σ).bind fun r8 =>
    zlt (x2 + 1) fun v11 =>
    some (.inl (r8, v11))
  )
set_option maxRecDepth 20000 in
theorem t_Outlook_run_l2 {X : Zx} {Q : State → Prop} {σ : Sg} {x1 : Int32} {x2 : Int32} (ok : Zok X cX4_run RX4 rm_Outlook_run 198 3)  {out : ((Sg × Int32) ⊕ (Sg × Int32))} (hf : Outlook_run_l2 σ x1 x2 = some out) (hk : zout (fun (s : (Sg × Int32)) => ZAt X Q 0 0 2 s.1 [(0, .ref (X.ad 81)), (1, .int x1), (2, .int s.2)] []) (fun (s : (Sg × Int32)) => ZAt X Q 0 0 17 s.1 [] []) out) : ZAt X Q 0 0 2 σ [(0, .ref (X.ad 81)), (1, .int x1), (2, .int x2)] [] := by
  unfold Outlook_run_l2 at hf
  refine z_iload_n ok dX4_run_2 2 rfl ?_
  refine z_iload_n ok dX4_run_3 1 rfl ?_
  refine z_icmp_ge (tgt := 17) ok dX4_run_4 (by decide) hf (fun _ hf => ?_) (fun _ hf => ?_)
  · obtain rfl := Option.some.inj hf
    exact z_sub [] rfl hk
  · refine z_aload_n ok dX4_run_7 0 rfl ?_
    refine z_call hf (fun r8 h8 hf => ?_)
    refine z_cVv (As := []) (rest := []) (w := 81) ok kc_81 zc_4 (c_Outlook_runOne h8) rfl ⟨ml_4_56, w_Outlook_runOne⟩ hy_Outlook_runOne ⟨rfl, rfl⟩ ⟨Nat.le_of_ble_eq_true rfl, Nat.le_of_ble_eq_true rfl⟩ ⟨Nat.zero_le _, Nat.zero_le _⟩ rfl (Nat.le_of_ble_eq_true rfl) dX4_run_8 ?_
    refine z_iinc (w := 1) (lv' := fun v11 => [(2, .int v11), (0, .ref (X.ad 81)), (1, .int x1)]) ok dX4_run_11 2 rfl (by decide) (by decide) (fun _ => rfl) hf (fun v11 hf => ?_)
    refine z_goto (tgt := 2) ok dX4_run_14 (by decide) ?_
    obtain rfl := Option.some.inj hf
    exact z_sub [1, 2, 0] rfl hk
def Outlook_run (σ : Sg) (x1 : Int32) : Option Sg :=
  zlt 0 fun v1 =>
  (zit (fun (s : (Sg × Int32)) => Outlook_run_l2 s.1 x1 s.2) zFU (σ, v1)).bind fun r =>
  some r.1
set_option maxRecDepth 20000 in
theorem t_Outlook_run {X : Zx} {Q : State → Prop} {σ : Sg} {x1 : Int32} (ok : Zok X cX4_run RX4 rm_Outlook_run 198 3)  {out : Sg} (hf : Outlook_run σ x1 = some out) (hk : ZrV cX4_run X Q out) : ZAt X Q 0 0 0 σ [(0, .ref (X.ad 81)), (1, .int x1)] [] := by
  unfold Outlook_run at hf
  refine z_iconst (v := 0) ok dX4_run_0 (by decide) ?_
  refine z_nm hf (fun v1 hf => ?_)
  refine z_istore_n (lv' := [(2, .int v1), (0, .ref (X.ad 81)), (1, .int x1)]) ok dX4_run_1 (by decide) rfl ?_
  refine z_call hf (fun r hr hf => ?_)
  refine z_sub [1, 2, 0] rfl (z_iter (fun (s : (Sg × Int32)) => s.1) (fun (s : (Sg × Int32)) => [(0, .ref (X.ad 81)), (1, .int x1), (2, .int s.2)]) (fun s o h1 h2 => t_Outlook_run_l2 ok h1 h2) _ _ _ hr ?_)
  show ZAt X Q 0 0 17 r.1 [] []
  obtain rfl := Option.some.inj hf
  exact hk _ _ dX4_run_17
theorem c_Outlook_run {σ : Sg} {x1 : Int32} {r : Sg} (h : Outlook_run σ x1 = some r) : ZcV yX4_run cX4_run 3 rm_Outlook_run 198 (fun ad => [.ref (ad 81), .int x1]) σ r :=
  zmetV pn_4 rfl (fun _ => rfl) (fun _ => Nat.le_of_ble_eq_true rfl) (fun X Q ok hk => t_Outlook_run ok h hk)
theorem dX11_later_0 : decode cX11_later 0 = .ok (.aload_n 0, 1) := by decide +kernel
theorem dX11_later_1 : decode cX11_later 1 = .ok (.iload_n 1, 1) := by decide +kernel
theorem dX11_later_2 : decode cX11_later 2 = .ok (.invokevirtual 154, 3) := by decide +kernel
theorem dX11_later_5 : decode cX11_later 5 = .ok (.ifCond .eq 14, 3) := by decide +kernel
theorem dX11_later_8 : decode cX11_later 8 = .ok (.iload_n 2, 1) := by decide +kernel
theorem dX11_later_9 : decode cX11_later 9 = .ok (.ifCond .lt 10, 3) := by decide +kernel
theorem dX11_later_12 : decode cX11_later 12 = .ok (.iload_n 2, 1) := by decide +kernel
theorem dX11_later_13 : decode cX11_later 13 = .ok (.sipush 200, 3) := by decide +kernel
theorem dX11_later_16 : decode cX11_later 16 = .ok (.if_icmp .le 5, 3) := by decide +kernel
theorem dX11_later_19 : decode cX11_later 19 = .ok (.iconst (-1), 1) := by decide +kernel
theorem dX11_later_20 : decode cX11_later 20 = .ok (.ireturn, 1) := by decide +kernel
theorem dX11_later_21 : decode cX11_later 21 = .ok (.aload_n 0, 1) := by decide +kernel
theorem dX11_later_22 : decode cX11_later 22 = .ok (.getfield 48, 3) := by decide +kernel
theorem dX11_later_25 : decode cX11_later 25 = .ok (.aload_n 0, 1) := by decide +kernel
theorem dX11_later_26 : decode cX11_later 26 = .ok (.getfield 23, 3) := by decide +kernel
theorem dX11_later_29 : decode cX11_later 29 = .ok (.aload_n 0, 1) := by decide +kernel
theorem dX11_later_30 : decode cX11_later 30 = .ok (.getfield 37, 3) := by decide +kernel
theorem dX11_later_33 : decode cX11_later 33 = .ok (.iload_n 2, 1) := by decide +kernel
theorem dX11_later_34 : decode cX11_later 34 = .ok (.invokevirtual 295, 3) := by decide +kernel
theorem dX11_later_37 : decode cX11_later 37 = .ok (.aload_n 0, 1) := by decide +kernel
theorem dX11_later_38 : decode cX11_later 38 = .ok (.getfield 48, 3) := by decide +kernel
theorem dX11_later_41 : decode cX11_later 41 = .ok (.iload_n 2, 1) := by decide +kernel
theorem dX11_later_42 : decode cX11_later 42 = .ok (.invokevirtual 299, 3) := by decide +kernel
theorem dX11_later_45 : decode cX11_later 45 = .ok (.aload_n 0, 1) := by decide +kernel
theorem dX11_later_46 : decode cX11_later 46 = .ok (.getfield 48, 3) := by decide +kernel
theorem dX11_later_49 : decode cX11_later 49 = .ok (.getfield 302, 3) := by decide +kernel
theorem dX11_later_52 : decode cX11_later 52 = .ok (.getfield 179, 3) := by decide +kernel
theorem dX11_later_55 : decode cX11_later 55 = .ok (.iload_n 1, 1) := by decide +kernel
theorem dX11_later_56 : decode cX11_later 56 = .ok (.iaload, 1) := by decide +kernel
theorem dX11_later_57 : decode cX11_later 57 = .ok (.ireturn, 1) := by decide +kernel
abbrev rm_CK_later : Room := { frames := 6, cells := 0, slots := 0, locals := 134 }
def CK_later (σ : Sg) (x1 : Int32) (x2 : Int32) : Option (Int32 × Sg) :=
  (CK_isPool σ x1).bind fun r2 =>
  if (zb r2) = 0 then (
    some ((-1), σ)
  ) else (
    if x2 < 0 then (
      some ((-1), σ)
    ) else (
      if x2 ≤ 200 then (
        zmr2 3 29 (σ 0 3) fun q26 =>
        (Outlook_look σ q26 55 x2).bind fun r34 =>
        (Outlook_run r34 x2).bind fun r42 =>
        zrd r42 83 8 x1 fun v56 =>
        some (v56, r42)
      ) else (
        some ((-1), σ)
      )
    )
  )
set_option maxRecDepth 20000 in
theorem t_CK_later {X : Zx} {Q : State → Prop} {σ : Sg} {x1 : Int32} {x2 : Int32} (ok : Zok X cX11_later RX11 rm_CK_later 198 3)  {out : (Int32 × Sg)} (hf : CK_later σ x1 x2 = some out) (hk : ZrI cX11_later X Q out.1 out.2) : ZAt X Q 0 0 0 σ [(0, .ref (X.ad 0)), (1, .int x1), (2, .int x2)] [] := by
  unfold CK_later at hf
  refine z_aload_n ok dX11_later_0 0 rfl ?_
  refine z_iload_n ok dX11_later_1 1 rfl ?_
  refine z_call hf (fun r2 h2 hf => ?_)
  refine z_cV (As := [.int x1]) (rest := []) (w := 0) ok kc_0 zc_11 (c_CK_isPool h2) rfl ⟨ml_11_154, w_CK_isPool⟩ hy_CK_isPool ⟨rfl, rfl⟩ ⟨Nat.le_of_ble_eq_true rfl, Nat.le_of_ble_eq_true rfl⟩ ⟨Nat.zero_le _, Nat.zero_le _⟩ rfl (Nat.le_of_ble_eq_true rfl) dX11_later_2 ?_
  refine z_if_eq (tgt := 19) ok dX11_later_5 (by decide) hf (fun _ hf => ?_) (fun _ hf => ?_)
  · refine z_iconst (v := (-1)) ok dX11_later_19 (by decide) ?_
    obtain rfl := Option.some.inj hf
    exact hk _ _ dX11_later_20
  · refine z_iload_n ok dX11_later_8 2 rfl ?_
    refine z_if_lt (tgt := 19) ok dX11_later_9 (by decide) hf (fun _ hf => ?_) (fun _ hf => ?_)
    · refine z_iconst (v := (-1)) ok dX11_later_19 (by decide) ?_
      obtain rfl := Option.some.inj hf
      exact hk _ _ dX11_later_20
    · refine z_iload_n ok dX11_later_12 2 rfl ?_
      refine z_sipush (v := 200) ok dX11_later_13 (by decide) ?_
      refine z_icmp_le (tgt := 21) ok dX11_later_16 (by decide) hf (fun _ hf => ?_) (fun _ hf => ?_)
      · refine z_aload_n ok dX11_later_21 0 rfl ?_
        refine z_getr (q := 81) ok kc_0 zc_11 hin_11 12 (by decide) fl_11_48 rfl dX11_later_22 ?_
        refine z_aload_n ok dX11_later_25 0 rfl ?_
        refine z_getm2 (p := 3) (q := 29) ok kc_0 zc_11 hin_11 3 (by decide) fl_11_23 rfl (by decide) (by decide) dX11_later_26 hf (fun q26 e26 hf => ?_)
        have hq26 : zI_Works q26 198 := by rcases e26 with rfl | rfl; exact kI_Works_3; exact kI_Works_29
        obtain ⟨hq26_0, hq26_1, hq26_2, hq26_3, hq26_4, hq26_5, hq26_6, hq26_7, hq26_8, hq26_9, hq26_10, hq26_11, hq26_12, hq26_13, hq26_14, hq26_15, hq26_16, hq26_17, hq26_18, hq26_19, hq26_20, hq26_21, hq26_22, hq26_23, hq26_24, hq26_25⟩ := id hq26
        refine z_aload_n ok dX11_later_29 0 rfl ?_
        refine z_getr (q := 55) ok kc_0 zc_11 hin_11 8 (by decide) fl_11_37 rfl dX11_later_30 ?_
        refine z_iload_n ok dX11_later_33 2 rfl ?_
        refine z_call hf (fun r34 h34 hf => ?_)
        refine z_cVv (As := [.ref (X.ad q26), .ref (X.ad 55), .int x2]) (rest := []) (w := 81) ok kc_81 zc_4 (c_Outlook_look hq26 kI_Moment_55 h34) rfl ⟨ml_11_295, w_Outlook_look⟩ hy_Outlook_look ⟨rfl, rfl⟩ ⟨Nat.le_of_ble_eq_true rfl, Nat.le_of_ble_eq_true rfl⟩ ⟨Nat.zero_le _, Nat.zero_le _⟩ rfl (Nat.le_of_ble_eq_true rfl) dX11_later_34 ?_
        refine z_aload_n ok dX11_later_37 0 rfl ?_
        refine z_getr (q := 81) ok kc_0 zc_11 hin_11 12 (by decide) fl_11_48 rfl dX11_later_38 ?_
        refine z_iload_n ok dX11_later_41 2 rfl ?_
        refine z_call hf (fun r42 h42 hf => ?_)
        refine z_cVv (As := [.int x2]) (rest := []) (w := 81) ok kc_81 zc_4 (c_Outlook_run h42) rfl ⟨ml_11_299, w_Outlook_run⟩ hy_Outlook_run ⟨rfl, rfl⟩ ⟨Nat.le_of_ble_eq_true rfl, Nat.le_of_ble_eq_true rfl⟩ ⟨Nat.zero_le _, Nat.zero_le _⟩ rfl (Nat.le_of_ble_eq_true rfl) dX11_later_42 ?_
        refine z_aload_n ok dX11_later_45 0 rfl ?_
        refine z_getr (q := 81) ok kc_0 zc_11 hin_11 12 (by decide) fl_11_48 rfl dX11_later_46 ?_
        refine z_getr (q := 82) ok kc_81 zc_4 hin_4 0 (by decide) fl_11_302 rfl dX11_later_49 ?_
        refine z_getr (q := 83) ok kc_82 zc_9 hin_9 3 (by decide) fl_11_179 rfl dX11_later_52 ?_
        refine z_iload_n ok dX11_later_55 1 rfl ?_
        refine z_iald ok kc_83 dX11_later_56 hf (fun v56 hf => ?_)
        obtain rfl := Option.some.inj hf
        exact hk _ _ dX11_later_57
      · refine z_iconst (v := (-1)) ok dX11_later_19 (by decide) ?_
        obtain rfl := Option.some.inj hf
        exact hk _ _ dX11_later_20
theorem c_CK_later {σ : Sg} {x1 : Int32} {x2 : Int32} {r : (Int32 × Sg)} (h : CK_later σ x1 x2 = some r) : ZcI yX11_later cX11_later 3 .int rm_CK_later 198 (fun ad => [.ref (ad 0), .int x1, .int x2]) σ r.1 r.2 :=
  zmetI pn_11 rfl (fun _ => rfl) (fun _ => Nat.le_of_ble_eq_true rfl) rfl (fun X Q ok hk => t_CK_later ok h hk)
theorem dX11_opening_0 : decode cX11_opening 0 = .ok (.aload_n 0, 1) := by decide +kernel
theorem dX11_opening_1 : decode cX11_opening 1 = .ok (.iload_n 1, 1) := by decide +kernel
theorem dX11_opening_2 : decode cX11_opening 2 = .ok (.invokevirtual 154, 3) := by decide +kernel
theorem dX11_opening_5 : decode cX11_opening 5 = .ok (.ifCond .eq 14, 3) := by decide +kernel
theorem dX11_opening_8 : decode cX11_opening 8 = .ok (.iload_n 2, 1) := by decide +kernel
theorem dX11_opening_9 : decode cX11_opening 9 = .ok (.ifCond .lt 10, 3) := by decide +kernel
theorem dX11_opening_12 : decode cX11_opening 12 = .ok (.iload_n 2, 1) := by decide +kernel
theorem dX11_opening_13 : decode cX11_opening 13 = .ok (.sipush 200, 3) := by decide +kernel
theorem dX11_opening_16 : decode cX11_opening 16 = .ok (.if_icmp .le 5, 3) := by decide +kernel
theorem dX11_opening_19 : decode cX11_opening 19 = .ok (.iconst (-1), 1) := by decide +kernel
theorem dX11_opening_20 : decode cX11_opening 20 = .ok (.ireturn, 1) := by decide +kernel
theorem dX11_opening_21 : decode cX11_opening 21 = .ok (.aload_n 0, 1) := by decide +kernel
theorem dX11_opening_22 : decode cX11_opening 22 = .ok (.getfield 48, 3) := by decide +kernel
theorem dX11_opening_25 : decode cX11_opening 25 = .ok (.aload_n 0, 1) := by decide +kernel
theorem dX11_opening_26 : decode cX11_opening 26 = .ok (.getfield 23, 3) := by decide +kernel
theorem dX11_opening_29 : decode cX11_opening 29 = .ok (.aload_n 0, 1) := by decide +kernel
theorem dX11_opening_30 : decode cX11_opening 30 = .ok (.getfield 37, 3) := by decide +kernel
theorem dX11_opening_33 : decode cX11_opening 33 = .ok (.iload_n 2, 1) := by decide +kernel
theorem dX11_opening_34 : decode cX11_opening 34 = .ok (.invokevirtual 295, 3) := by decide +kernel
theorem dX11_opening_37 : decode cX11_opening 37 = .ok (.aload_n 0, 1) := by decide +kernel
theorem dX11_opening_38 : decode cX11_opening 38 = .ok (.getfield 48, 3) := by decide +kernel
theorem dX11_opening_41 : decode cX11_opening 41 = .ok (.iload_n 2, 1) := by decide +kernel
theorem dX11_opening_42 : decode cX11_opening 42 = .ok (.invokevirtual 299, 3) := by decide +kernel
theorem dX11_opening_45 : decode cX11_opening 45 = .ok (.aload_n 0, 1) := by decide +kernel
theorem dX11_opening_46 : decode cX11_opening 46 = .ok (.getfield 48, 3) := by decide +kernel
theorem dX11_opening_49 : decode cX11_opening 49 = .ok (.getfield 302, 3) := by decide +kernel
theorem dX11_opening_52 : decode cX11_opening 52 = .ok (.getfield 198, 3) := by decide +kernel
theorem dX11_opening_55 : decode cX11_opening 55 = .ok (.iload_n 1, 1) := by decide +kernel
theorem dX11_opening_56 : decode cX11_opening 56 = .ok (.iaload, 1) := by decide +kernel
theorem dX11_opening_57 : decode cX11_opening 57 = .ok (.ireturn, 1) := by decide +kernel
abbrev rm_CK_opening : Room := { frames := 6, cells := 0, slots := 0, locals := 134 }
def CK_opening (σ : Sg) (x1 : Int32) (x2 : Int32) : Option (Int32 × Sg) :=
  (CK_isPool σ x1).bind fun r2 =>
  if (zb r2) = 0 then (
    some ((-1), σ)
  ) else (
    if x2 < 0 then (
      some ((-1), σ)
    ) else (
      if x2 ≤ 200 then (
        zmr2 3 29 (σ 0 3) fun q26 =>
        (Outlook_look σ q26 55 x2).bind fun r34 =>
        (Outlook_run r34 x2).bind fun r42 =>
        zrd r42 84 8 x1 fun v56 =>
        some (v56, r42)
      ) else (
        some ((-1), σ)
      )
    )
  )
set_option maxRecDepth 20000 in
theorem t_CK_opening {X : Zx} {Q : State → Prop} {σ : Sg} {x1 : Int32} {x2 : Int32} (ok : Zok X cX11_opening RX11 rm_CK_opening 198 3)  {out : (Int32 × Sg)} (hf : CK_opening σ x1 x2 = some out) (hk : ZrI cX11_opening X Q out.1 out.2) : ZAt X Q 0 0 0 σ [(0, .ref (X.ad 0)), (1, .int x1), (2, .int x2)] [] := by
  unfold CK_opening at hf
  refine z_aload_n ok dX11_opening_0 0 rfl ?_
  refine z_iload_n ok dX11_opening_1 1 rfl ?_
  refine z_call hf (fun r2 h2 hf => ?_)
  refine z_cV (As := [.int x1]) (rest := []) (w := 0) ok kc_0 zc_11 (c_CK_isPool h2) rfl ⟨ml_11_154, w_CK_isPool⟩ hy_CK_isPool ⟨rfl, rfl⟩ ⟨Nat.le_of_ble_eq_true rfl, Nat.le_of_ble_eq_true rfl⟩ ⟨Nat.zero_le _, Nat.zero_le _⟩ rfl (Nat.le_of_ble_eq_true rfl) dX11_opening_2 ?_
  refine z_if_eq (tgt := 19) ok dX11_opening_5 (by decide) hf (fun _ hf => ?_) (fun _ hf => ?_)
  · refine z_iconst (v := (-1)) ok dX11_opening_19 (by decide) ?_
    obtain rfl := Option.some.inj hf
    exact hk _ _ dX11_opening_20
  · refine z_iload_n ok dX11_opening_8 2 rfl ?_
    refine z_if_lt (tgt := 19) ok dX11_opening_9 (by decide) hf (fun _ hf => ?_) (fun _ hf => ?_)
    · refine z_iconst (v := (-1)) ok dX11_opening_19 (by decide) ?_
      obtain rfl := Option.some.inj hf
      exact hk _ _ dX11_opening_20
    · refine z_iload_n ok dX11_opening_12 2 rfl ?_
      refine z_sipush (v := 200) ok dX11_opening_13 (by decide) ?_
      refine z_icmp_le (tgt := 21) ok dX11_opening_16 (by decide) hf (fun _ hf => ?_) (fun _ hf => ?_)
      · refine z_aload_n ok dX11_opening_21 0 rfl ?_
        refine z_getr (q := 81) ok kc_0 zc_11 hin_11 12 (by decide) fl_11_48 rfl dX11_opening_22 ?_
        refine z_aload_n ok dX11_opening_25 0 rfl ?_
        refine z_getm2 (p := 3) (q := 29) ok kc_0 zc_11 hin_11 3 (by decide) fl_11_23 rfl (by decide) (by decide) dX11_opening_26 hf (fun q26 e26 hf => ?_)
        have hq26 : zI_Works q26 198 := by rcases e26 with rfl | rfl; exact kI_Works_3; exact kI_Works_29
        obtain ⟨hq26_0, hq26_1, hq26_2, hq26_3, hq26_4, hq26_5, hq26_6, hq26_7, hq26_8, hq26_9, hq26_10, hq26_11, hq26_12, hq26_13, hq26_14, hq26_15, hq26_16, hq26_17, hq26_18, hq26_19, hq26_20, hq26_21, hq26_22, hq26_23, hq26_24, hq26_25⟩ := id hq26
        refine z_aload_n ok dX11_opening_29 0 rfl ?_
        refine z_getr (q := 55) ok kc_0 zc_11 hin_11 8 (by decide) fl_11_37 rfl dX11_opening_30 ?_
        refine z_iload_n ok dX11_opening_33 2 rfl ?_
        refine z_call hf (fun r34 h34 hf => ?_)
        refine z_cVv (As := [.ref (X.ad q26), .ref (X.ad 55), .int x2]) (rest := []) (w := 81) ok kc_81 zc_4 (c_Outlook_look hq26 kI_Moment_55 h34) rfl ⟨ml_11_295, w_Outlook_look⟩ hy_Outlook_look ⟨rfl, rfl⟩ ⟨Nat.le_of_ble_eq_true rfl, Nat.le_of_ble_eq_true rfl⟩ ⟨Nat.zero_le _, Nat.zero_le _⟩ rfl (Nat.le_of_ble_eq_true rfl) dX11_opening_34 ?_
        refine z_aload_n ok dX11_opening_37 0 rfl ?_
        refine z_getr (q := 81) ok kc_0 zc_11 hin_11 12 (by decide) fl_11_48 rfl dX11_opening_38 ?_
        refine z_iload_n ok dX11_opening_41 2 rfl ?_
        refine z_call hf (fun r42 h42 hf => ?_)
        refine z_cVv (As := [.int x2]) (rest := []) (w := 81) ok kc_81 zc_4 (c_Outlook_run h42) rfl ⟨ml_11_299, w_Outlook_run⟩ hy_Outlook_run ⟨rfl, rfl⟩ ⟨Nat.le_of_ble_eq_true rfl, Nat.le_of_ble_eq_true rfl⟩ ⟨Nat.zero_le _, Nat.zero_le _⟩ rfl (Nat.le_of_ble_eq_true rfl) dX11_opening_42 ?_
        refine z_aload_n ok dX11_opening_45 0 rfl ?_
        refine z_getr (q := 81) ok kc_0 zc_11 hin_11 12 (by decide) fl_11_48 rfl dX11_opening_46 ?_
        refine z_getr (q := 82) ok kc_81 zc_4 hin_4 0 (by decide) fl_11_302 rfl dX11_opening_49 ?_
        refine z_getr (q := 84) ok kc_82 zc_9 hin_9 4 (by decide) fl_11_198 rfl dX11_opening_52 ?_
        refine z_iload_n ok dX11_opening_55 1 rfl ?_
        refine z_iald ok kc_84 dX11_opening_56 hf (fun v56 hf => ?_)
        obtain rfl := Option.some.inj hf
        exact hk _ _ dX11_opening_57
      · refine z_iconst (v := (-1)) ok dX11_opening_19 (by decide) ?_
        obtain rfl := Option.some.inj hf
        exact hk _ _ dX11_opening_20
theorem c_CK_opening {σ : Sg} {x1 : Int32} {x2 : Int32} {r : (Int32 × Sg)} (h : CK_opening σ x1 x2 = some r) : ZcI yX11_opening cX11_opening 3 .int rm_CK_opening 198 (fun ad => [.ref (ad 0), .int x1, .int x2]) σ r.1 r.2 :=
  zmetI pn_11 rfl (fun _ => rfl) (fun _ => Nat.le_of_ble_eq_true rfl) rfl (fun X Q ok hk => t_CK_opening ok h hk)
theorem dX4_firstTime_0 : decode cX4_firstTime 0 = .ok (.aload_n 0, 1) := by decide +kernel
theorem dX4_firstTime_1 : decode cX4_firstTime 1 = .ok (.aload_n 1, 1) := by decide +kernel
theorem dX4_firstTime_2 : decode cX4_firstTime 2 = .ok (.aload_n 2, 1) := by decide +kernel
theorem dX4_firstTime_3 : decode cX4_firstTime 3 = .ok (.sipush 200, 3) := by decide +kernel
theorem dX4_firstTime_6 : decode cX4_firstTime 6 = .ok (.invokevirtual 72, 3) := by decide +kernel
theorem dX4_firstTime_9 : decode cX4_firstTime 9 = .ok (.iconst 1, 1) := by decide +kernel
theorem dX4_firstTime_10 : decode cX4_firstTime 10 = .ok (.istore 5, 2) := by decide +kernel
theorem dX4_firstTime_12 : decode cX4_firstTime 12 = .ok (.iload 5, 2) := by decide +kernel
theorem dX4_firstTime_14 : decode cX4_firstTime 14 = .ok (.sipush 200, 3) := by decide +kernel
theorem dX4_firstTime_17 : decode cX4_firstTime 17 = .ok (.if_icmp .gt 38, 3) := by decide +kernel
theorem dX4_firstTime_20 : decode cX4_firstTime 20 = .ok (.aload_n 0, 1) := by decide +kernel
theorem dX4_firstTime_21 : decode cX4_firstTime 21 = .ok (.invokevirtual 56, 3) := by decide +kernel
theorem dX4_firstTime_24 : decode cX4_firstTime 24 = .ok (.aload_n 0, 1) := by decide +kernel
theorem dX4_firstTime_25 : decode cX4_firstTime 25 = .ok (.getfield 32, 3) := by decide +kernel
theorem dX4_firstTime_28 : decode cX4_firstTime 28 = .ok (.iload_n 3, 1) := by decide +kernel
theorem dX4_firstTime_29 : decode cX4_firstTime 29 = .ok (.aload_n 0, 1) := by decide +kernel
theorem dX4_firstTime_30 : decode cX4_firstTime 30 = .ok (.getfield 12, 3) := by decide +kernel
theorem dX4_firstTime_33 : decode cX4_firstTime 33 = .ok (.getfield 76, 3) := by decide +kernel
theorem dX4_firstTime_36 : decode cX4_firstTime 36 = .ok (.iload_n 3, 1) := by decide +kernel
theorem dX4_firstTime_37 : decode cX4_firstTime 37 = .ok (.iaload, 1) := by decide +kernel
theorem dX4_firstTime_38 : decode cX4_firstTime 38 = .ok (.invokevirtual 80, 3) := by decide +kernel
theorem dX4_firstTime_41 : decode cX4_firstTime 41 = .ok (.iload 4, 2) := by decide +kernel
theorem dX4_firstTime_43 : decode cX4_firstTime 43 = .ok (.if_icmp .ne 6, 3) := by decide +kernel
theorem dX4_firstTime_46 : decode cX4_firstTime 46 = .ok (.iload 5, 2) := by decide +kernel
theorem dX4_firstTime_48 : decode cX4_firstTime 48 = .ok (.ireturn, 1) := by decide +kernel
theorem dX4_firstTime_49 : decode cX4_firstTime 49 = .ok (.iinc 5 1, 3) := by decide +kernel
theorem dX4_firstTime_52 : decode cX4_firstTime 52 = .ok (.goto (-40), 3) := by decide +kernel
theorem dX4_firstTime_55 : decode cX4_firstTime 55 = .ok (.iconst (-1), 1) := by decide +kernel
theorem dX4_firstTime_56 : decode cX4_firstTime 56 = .ok (.ireturn, 1) := by decide +kernel
abbrev rm_Outlook_firstTime : Room := { frames := 5, cells := 0, slots := 0, locals := 120 }
def Outlook_firstTime_l12 (σ : Sg) (x3 : Int32) (x4 : Int32) (x5 : Int32) : Option ((Sg × Int32) ⊕ ((Int32 × Sg) ⊕ (Sg × Int32))) :=
  if 200 < x5 then (
    some (.inr (.inr (σ, x5)))
  ) else (
    (Outlook_runOne σ).bind fun r21 =>
    zmr2 3 29 (r21 81 3) fun q25 =>
    zrd r21 83 8 x3 fun v37 =>
    (Works_bandOf r21 q25 x3 v37).bind fun r38 =>
    if r38 = x4 then (
      some (.inr (.inl (x5, r21)))
    ) else (
      zlt (x5 + 1) fun v49 =>
      some (.inl (r21, v49))
    )
  )
set_option maxRecDepth 20000 in
theorem t_Outlook_firstTime_l12 {X : Zx} {Q : State → Prop} {σ : Sg} {x3 : Int32} {x4 : Int32} {x5 : Int32} (ok : Zok X cX4_firstTime RX4 rm_Outlook_firstTime 198 6)  {out : ((Sg × Int32) ⊕ ((Int32 × Sg) ⊕ (Sg × Int32)))} (hf : Outlook_firstTime_l12 σ x3 x4 x5 = some out) (hk : zout (fun (s : (Sg × Int32)) => ZAt X Q 0 0 12 s.1 [(0, .ref (X.ad 81)), (3, .int x3), (4, .int x4), (5, .int s.2)] []) (zout (fun (r : (Int32 × Sg)) => ZrI cX4_firstTime X Q r.1 r.2) (fun (s : (Sg × Int32)) => ZAt X Q 0 0 55 s.1 [] [])) out) : ZAt X Q 0 0 12 σ [(0, .ref (X.ad 81)), (3, .int x3), (4, .int x4), (5, .int x5)] [] := by
  unfold Outlook_firstTime_l12 at hf
  refine z_iload ok dX4_firstTime_12 3 rfl ?_
  refine z_sipush (v := 200) ok dX4_firstTime_14 (by decide) ?_
  refine z_icmp_gt (tgt := 55) ok dX4_firstTime_17 (by decide) hf (fun _ hf => ?_) (fun _ hf => ?_)
  · obtain rfl := Option.some.inj hf
    exact z_sub [] rfl hk
  · refine z_aload_n ok dX4_firstTime_20 0 rfl ?_
    refine z_call hf (fun r21 h21 hf => ?_)
    refine z_cVv (As := []) (rest := []) (w := 81) ok kc_81 zc_4 (c_Outlook_runOne h21) rfl ⟨ml_4_56, w_Outlook_runOne⟩ hy_Outlook_runOne ⟨rfl, rfl⟩ ⟨Nat.le_of_ble_eq_true rfl, Nat.le_of_ble_eq_true rfl⟩ ⟨Nat.zero_le _, Nat.zero_le _⟩ rfl (Nat.le_of_ble_eq_true rfl) dX4_firstTime_21 ?_
    refine z_aload_n ok dX4_firstTime_24 0 rfl ?_
    refine z_getm2 (p := 3) (q := 29) ok kc_81 zc_4 hin_4 3 (by decide) fl_4_32 rfl (by decide) (by decide) dX4_firstTime_25 hf (fun q25 e25 hf => ?_)
    have hq25 : zI_Works q25 198 := by rcases e25 with rfl | rfl; exact kI_Works_3; exact kI_Works_29
    obtain ⟨hq25_0, hq25_1, hq25_2, hq25_3, hq25_4, hq25_5, hq25_6, hq25_7, hq25_8, hq25_9, hq25_10, hq25_11, hq25_12, hq25_13, hq25_14, hq25_15, hq25_16, hq25_17, hq25_18, hq25_19, hq25_20, hq25_21, hq25_22, hq25_23, hq25_24, hq25_25⟩ := id hq25
    refine z_iload_n ok dX4_firstTime_28 1 rfl ?_
    refine z_aload_n ok dX4_firstTime_29 0 rfl ?_
    refine z_getr (q := 82) ok kc_81 zc_4 hin_4 0 (by decide) fl_4_12 rfl dX4_firstTime_30 ?_
    refine z_getr (q := 83) ok kc_82 zc_9 hin_9 3 (by decide) fl_4_76 rfl dX4_firstTime_33 ?_
    refine z_iload_n ok dX4_firstTime_36 1 rfl ?_
    refine z_iald ok kc_83 dX4_firstTime_37 hf (fun v37 hf => ?_)
    refine z_call hf (fun r38 h38 hf => ?_)
    refine z_cV (As := [.int x3, .int v37]) (rest := []) (w := q25) ok hq25_0 zc_10 (c_Works_bandOf hq25 h38) rfl ⟨ml_4_80, w_Works_bandOf⟩ hy_Works_bandOf ⟨rfl, rfl⟩ ⟨Nat.le_of_ble_eq_true rfl, Nat.le_of_ble_eq_true rfl⟩ ⟨Nat.zero_le _, Nat.zero_le _⟩ rfl (Nat.le_of_ble_eq_true rfl) dX4_firstTime_38 ?_
    refine z_iload ok dX4_firstTime_41 2 rfl ?_
    refine z_icmp_ne (tgt := 49) ok dX4_firstTime_43 (by decide) hf (fun _ hf => ?_) (fun _ hf => ?_)
    · refine z_iload ok dX4_firstTime_46 3 rfl ?_
      obtain rfl := Option.some.inj hf
      exact hk _ _ dX4_firstTime_48
    · refine z_iinc (w := 1) (lv' := fun v49 => [(5, .int v49), (0, .ref (X.ad 81)), (3, .int x3), (4, .int x4)]) ok dX4_firstTime_49 3 rfl (by decide) (by decide) (fun _ => rfl) hf (fun v49 hf => ?_)
      refine z_goto (tgt := 12) ok dX4_firstTime_52 (by decide) ?_
      obtain rfl := Option.some.inj hf
      exact z_sub [1, 2, 3, 0] rfl hk
def Outlook_firstTime (σ : Sg) (p1 : Nat) (p2 : Nat) (x3 : Int32) (x4 : Int32) : Option (Int32 × Sg) :=
  (Outlook_look σ p1 p2 200).bind fun r6 =>
  zlt 1 fun v10 =>
  (zit (fun (s : (Sg × Int32)) => Outlook_firstTime_l12 s.1 x3 x4 s.2) zFU (r6, v10)).bind fun r => r.elim (fun r =>
  some r
  ) (fun r =>
  some ((-1), r.1)
  )
set_option maxRecDepth 20000 in
theorem t_Outlook_firstTime {X : Zx} {Q : State → Prop} {σ : Sg} {p1 : Nat} {p2 : Nat} {x3 : Int32} {x4 : Int32} (ok : Zok X cX4_firstTime RX4 rm_Outlook_firstTime 198 6) (hp1 : zI_Works p1 198) (hp2 : zI_Moment p2 198) {out : (Int32 × Sg)} (hf : Outlook_firstTime σ p1 p2 x3 x4 = some out) (hk : ZrI cX4_firstTime X Q out.1 out.2) : ZAt X Q 0 0 0 σ [(0, .ref (X.ad 81)), (1, .ref (X.ad p1)), (2, .ref (X.ad p2)), (3, .int x3), (4, .int x4)] [] := by
  unfold Outlook_firstTime at hf
  obtain ⟨hp1_0, hp1_1, hp1_2, hp1_3, hp1_4, hp1_5, hp1_6, hp1_7, hp1_8, hp1_9, hp1_10, hp1_11, hp1_12, hp1_13, hp1_14, hp1_15, hp1_16, hp1_17, hp1_18, hp1_19, hp1_20, hp1_21, hp1_22, hp1_23, hp1_24, hp1_25⟩ := id hp1
  obtain ⟨hp2_0, hp2_1, hp2_2, hp2_3, hp2_4, hp2_5, hp2_6, hp2_7, hp2_8, hp2_9, hp2_10, hp2_11, hp2_12, hp2_13, hp2_14, hp2_15, hp2_16, hp2_17, hp2_18, hp2_19, hp2_20, hp2_21, hp2_22, hp2_23, hp2_24⟩ := id hp2
  refine z_aload_n ok dX4_firstTime_0 0 rfl ?_
  refine z_aload_n ok dX4_firstTime_1 1 rfl ?_
  refine z_aload_n ok dX4_firstTime_2 2 rfl ?_
  refine z_sipush (v := 200) ok dX4_firstTime_3 (by decide) ?_
  refine z_call hf (fun r6 h6 hf => ?_)
  refine z_cVv (As := [.ref (X.ad p1), .ref (X.ad p2), .int 200]) (rest := []) (w := 81) ok kc_81 zc_4 (c_Outlook_look hp1 hp2 h6) rfl ⟨ml_4_72, w_Outlook_look⟩ hy_Outlook_look ⟨rfl, rfl⟩ ⟨Nat.le_of_ble_eq_true rfl, Nat.le_of_ble_eq_true rfl⟩ ⟨Nat.zero_le _, Nat.zero_le _⟩ rfl (Nat.le_of_ble_eq_true rfl) dX4_firstTime_6 ?_
  refine z_iconst (v := 1) ok dX4_firstTime_9 (by decide) ?_
  refine z_nm hf (fun v10 hf => ?_)
  refine z_istore (lv' := [(5, .int v10), (0, .ref (X.ad 81)), (1, .ref (X.ad p1)), (2, .ref (X.ad p2)), (3, .int x3), (4, .int x4)]) ok dX4_firstTime_10 (by decide) rfl ?_
  refine z_call hf (fun r hr hf => ?_)
  refine z_sub [1, 4, 5, 0] rfl (z_iter (fun (s : (Sg × Int32)) => s.1) (fun (s : (Sg × Int32)) => [(0, .ref (X.ad 81)), (3, .int x3), (4, .int x4), (5, .int s.2)]) (fun s o h1 h2 => t_Outlook_firstTime_l12 ok h1 h2) _ _ _ hr ?_)
  cases r with
  | inl r =>
    obtain rfl := Option.some.inj hf
    exact hk
  | inr r =>
    simp only [Sum.elim_inr] at hf
    show ZAt X Q 0 0 55 r.1 [] []
    refine z_iconst (v := (-1)) ok dX4_firstTime_55 (by decide) ?_
    obtain rfl := Option.some.inj hf
    exact hk _ _ dX4_firstTime_56
theorem c_Outlook_firstTime {σ : Sg} {p1 : Nat} {p2 : Nat} {x3 : Int32} {x4 : Int32} (hp1 : zI_Works p1 198) (hp2 : zI_Moment p2 198) {r : (Int32 × Sg)} (h : Outlook_firstTime σ p1 p2 x3 x4 = some r) : ZcI yX4_firstTime cX4_firstTime 6 .int rm_Outlook_firstTime 198 (fun ad => [.ref (ad 81), .ref (ad p1), .ref (ad p2), .int x3, .int x4]) σ r.1 r.2 :=
  zmetI pn_4 rfl (fun _ => rfl) (fun _ => Nat.le_of_ble_eq_true rfl) rfl (fun X Q ok hk => t_Outlook_firstTime ok hp1 hp2 h hk)
theorem dX11_when_0 : decode cX11_when 0 = .ok (.aload_n 0, 1) := by decide +kernel
theorem dX11_when_1 : decode cX11_when 1 = .ok (.iload_n 1, 1) := by decide +kernel
theorem dX11_when_2 : decode cX11_when 2 = .ok (.invokevirtual 154, 3) := by decide +kernel
theorem dX11_when_5 : decode cX11_when 5 = .ok (.ifCond .ne 5, 3) := by decide +kernel
theorem dX11_when_8 : decode cX11_when 8 = .ok (.iconst (-1), 1) := by decide +kernel
theorem dX11_when_9 : decode cX11_when 9 = .ok (.ireturn, 1) := by decide +kernel
theorem dX11_when_10 : decode cX11_when 10 = .ok (.iload_n 2, 1) := by decide +kernel
theorem dX11_when_11 : decode cX11_when 11 = .ok (.tableswitch 85 0 2 #[25, 45, 65], 25) := by decide +kernel
theorem dX11_when_36 : decode cX11_when 36 = .ok (.aload_n 0, 1) := by decide +kernel
theorem dX11_when_37 : decode cX11_when 37 = .ok (.getfield 48, 3) := by decide +kernel
theorem dX11_when_40 : decode cX11_when 40 = .ok (.aload_n 0, 1) := by decide +kernel
theorem dX11_when_41 : decode cX11_when 41 = .ok (.getfield 23, 3) := by decide +kernel
theorem dX11_when_44 : decode cX11_when 44 = .ok (.aload_n 0, 1) := by decide +kernel
theorem dX11_when_45 : decode cX11_when 45 = .ok (.getfield 37, 3) := by decide +kernel
theorem dX11_when_48 : decode cX11_when 48 = .ok (.iload_n 1, 1) := by decide +kernel
theorem dX11_when_49 : decode cX11_when 49 = .ok (.iconst 1, 1) := by decide +kernel
theorem dX11_when_50 : decode cX11_when 50 = .ok (.invokevirtual 303, 3) := by decide +kernel
theorem dX11_when_53 : decode cX11_when 53 = .ok (.goto 44, 3) := by decide +kernel
theorem dX11_when_56 : decode cX11_when 56 = .ok (.aload_n 0, 1) := by decide +kernel
theorem dX11_when_57 : decode cX11_when 57 = .ok (.getfield 48, 3) := by decide +kernel
theorem dX11_when_60 : decode cX11_when 60 = .ok (.aload_n 0, 1) := by decide +kernel
theorem dX11_when_61 : decode cX11_when 61 = .ok (.getfield 23, 3) := by decide +kernel
theorem dX11_when_64 : decode cX11_when 64 = .ok (.aload_n 0, 1) := by decide +kernel
theorem dX11_when_65 : decode cX11_when 65 = .ok (.getfield 37, 3) := by decide +kernel
theorem dX11_when_68 : decode cX11_when 68 = .ok (.iload_n 1, 1) := by decide +kernel
theorem dX11_when_69 : decode cX11_when 69 = .ok (.iconst 2, 1) := by decide +kernel
theorem dX11_when_70 : decode cX11_when 70 = .ok (.invokevirtual 303, 3) := by decide +kernel
theorem dX11_when_73 : decode cX11_when 73 = .ok (.goto 24, 3) := by decide +kernel
theorem dX11_when_76 : decode cX11_when 76 = .ok (.aload_n 0, 1) := by decide +kernel
theorem dX11_when_77 : decode cX11_when 77 = .ok (.getfield 48, 3) := by decide +kernel
theorem dX11_when_80 : decode cX11_when 80 = .ok (.aload_n 0, 1) := by decide +kernel
theorem dX11_when_81 : decode cX11_when 81 = .ok (.getfield 23, 3) := by decide +kernel
theorem dX11_when_84 : decode cX11_when 84 = .ok (.aload_n 0, 1) := by decide +kernel
theorem dX11_when_85 : decode cX11_when 85 = .ok (.getfield 37, 3) := by decide +kernel
theorem dX11_when_88 : decode cX11_when 88 = .ok (.iload_n 1, 1) := by decide +kernel
theorem dX11_when_89 : decode cX11_when 89 = .ok (.iconst 0, 1) := by decide +kernel
theorem dX11_when_90 : decode cX11_when 90 = .ok (.invokevirtual 303, 3) := by decide +kernel
theorem dX11_when_93 : decode cX11_when 93 = .ok (.goto 4, 3) := by decide +kernel
theorem dX11_when_96 : decode cX11_when 96 = .ok (.iconst (-1), 1) := by decide +kernel
theorem dX11_when_97 : decode cX11_when 97 = .ok (.ireturn, 1) := by decide +kernel
abbrev rm_CK_when : Room := { frames := 6, cells := 0, slots := 0, locals := 145 }
def CK_when (σ : Sg) (x1 : Int32) (x2 : Int32) : Option (Int32 × Sg) :=
  (CK_isPool σ x1).bind fun r2 =>
  if (zb r2) = 0 then (
    some ((-1), σ)
  ) else (
    if x2 = 0 then (
      zmr2 3 29 (σ 0 3) fun q41 =>
      (Outlook_firstTime σ q41 55 x1 1).bind fun r50 =>
      some (r50.1, r50.2)
    ) else (
    if x2 = 1 then (
      zmr2 3 29 (σ 0 3) fun q61 =>
      (Outlook_firstTime σ q61 55 x1 2).bind fun r70 =>
      some (r70.1, r70.2)
    ) else (
    if x2 = 2 then (
      zmr2 3 29 (σ 0 3) fun q81 =>
      (Outlook_firstTime σ q81 55 x1 0).bind fun r90 =>
      some (r90.1, r90.2)
    ) else (
      some ((-1), σ)
    )))
  )
set_option maxRecDepth 20000 in
theorem t_CK_when {X : Zx} {Q : State → Prop} {σ : Sg} {x1 : Int32} {x2 : Int32} (ok : Zok X cX11_when RX11 rm_CK_when 198 3)  {out : (Int32 × Sg)} (hf : CK_when σ x1 x2 = some out) (hk : ZrI cX11_when X Q out.1 out.2) : ZAt X Q 0 0 0 σ [(0, .ref (X.ad 0)), (1, .int x1), (2, .int x2)] [] := by
  unfold CK_when at hf
  refine z_aload_n ok dX11_when_0 0 rfl ?_
  refine z_iload_n ok dX11_when_1 1 rfl ?_
  refine z_call hf (fun r2 h2 hf => ?_)
  refine z_cV (As := [.int x1]) (rest := []) (w := 0) ok kc_0 zc_11 (c_CK_isPool h2) rfl ⟨ml_11_154, w_CK_isPool⟩ hy_CK_isPool ⟨rfl, rfl⟩ ⟨Nat.le_of_ble_eq_true rfl, Nat.le_of_ble_eq_true rfl⟩ ⟨Nat.zero_le _, Nat.zero_le _⟩ rfl (Nat.le_of_ble_eq_true rfl) dX11_when_2 ?_
  refine z_if_ne (tgt := 10) ok dX11_when_5 (by decide) hf (fun _ hf => ?_) (fun _ hf => ?_)
  · refine z_iconst (v := (-1)) ok dX11_when_8 (by decide) ?_
    obtain rfl := Option.some.inj hf
    exact hk _ _ dX11_when_9
  · refine z_iload_n ok dX11_when_10 2 rfl ?_
    refine z_swc (v := 0) hf (fun hf => ?_) (fun n11_0 hf => ?_)
    · refine z_tableIn (tgt := 36) ok dX11_when_11 (by decide) (by decide) rfl (by decide) ?_
      refine z_aload_n ok dX11_when_36 0 rfl ?_
      refine z_getr (q := 81) ok kc_0 zc_11 hin_11 12 (by decide) fl_11_48 rfl dX11_when_37 ?_
      refine z_aload_n ok dX11_when_40 0 rfl ?_
      refine z_getm2 (p := 3) (q := 29) ok kc_0 zc_11 hin_11 3 (by decide) fl_11_23 rfl (by decide) (by decide) dX11_when_41 hf (fun q41 e41 hf => ?_)
      have hq41 : zI_Works q41 198 := by rcases e41 with rfl | rfl; exact kI_Works_3; exact kI_Works_29
      obtain ⟨hq41_0, hq41_1, hq41_2, hq41_3, hq41_4, hq41_5, hq41_6, hq41_7, hq41_8, hq41_9, hq41_10, hq41_11, hq41_12, hq41_13, hq41_14, hq41_15, hq41_16, hq41_17, hq41_18, hq41_19, hq41_20, hq41_21, hq41_22, hq41_23, hq41_24, hq41_25⟩ := id hq41
      refine z_aload_n ok dX11_when_44 0 rfl ?_
      refine z_getr (q := 55) ok kc_0 zc_11 hin_11 8 (by decide) fl_11_37 rfl dX11_when_45 ?_
      refine z_iload_n ok dX11_when_48 1 rfl ?_
      refine z_iconst (v := 1) ok dX11_when_49 (by decide) ?_
      refine z_call hf (fun r50 h50 hf => ?_)
      refine z_cV (As := [.ref (X.ad q41), .ref (X.ad 55), .int x1, .int 1]) (rest := []) (w := 81) ok kc_81 zc_4 (c_Outlook_firstTime hq41 kI_Moment_55 h50) rfl ⟨ml_11_303, w_Outlook_firstTime⟩ hy_Outlook_firstTime ⟨rfl, rfl⟩ ⟨Nat.le_of_ble_eq_true rfl, Nat.le_of_ble_eq_true rfl⟩ ⟨Nat.zero_le _, Nat.zero_le _⟩ rfl (Nat.le_of_ble_eq_true rfl) dX11_when_50 ?_
      refine z_goto (tgt := 97) ok dX11_when_53 (by decide) ?_
      obtain rfl := Option.some.inj hf
      exact hk _ _ dX11_when_97
    refine z_swc (v := 1) hf (fun hf => ?_) (fun n11_1 hf => ?_)
    · refine z_tableIn (tgt := 56) ok dX11_when_11 (by decide) (by decide) rfl (by decide) ?_
      refine z_aload_n ok dX11_when_56 0 rfl ?_
      refine z_getr (q := 81) ok kc_0 zc_11 hin_11 12 (by decide) fl_11_48 rfl dX11_when_57 ?_
      refine z_aload_n ok dX11_when_60 0 rfl ?_
      refine z_getm2 (p := 3) (q := 29) ok kc_0 zc_11 hin_11 3 (by decide) fl_11_23 rfl (by decide) (by decide) dX11_when_61 hf (fun q61 e61 hf => ?_)
      have hq61 : zI_Works q61 198 := by rcases e61 with rfl | rfl; exact kI_Works_3; exact kI_Works_29
      obtain ⟨hq61_0, hq61_1, hq61_2, hq61_3, hq61_4, hq61_5, hq61_6, hq61_7, hq61_8, hq61_9, hq61_10, hq61_11, hq61_12, hq61_13, hq61_14, hq61_15, hq61_16, hq61_17, hq61_18, hq61_19, hq61_20, hq61_21, hq61_22, hq61_23, hq61_24, hq61_25⟩ := id hq61
      refine z_aload_n ok dX11_when_64 0 rfl ?_
      refine z_getr (q := 55) ok kc_0 zc_11 hin_11 8 (by decide) fl_11_37 rfl dX11_when_65 ?_
      refine z_iload_n ok dX11_when_68 1 rfl ?_
      refine z_iconst (v := 2) ok dX11_when_69 (by decide) ?_
      refine z_call hf (fun r70 h70 hf => ?_)
      refine z_cV (As := [.ref (X.ad q61), .ref (X.ad 55), .int x1, .int 2]) (rest := []) (w := 81) ok kc_81 zc_4 (c_Outlook_firstTime hq61 kI_Moment_55 h70) rfl ⟨ml_11_303, w_Outlook_firstTime⟩ hy_Outlook_firstTime ⟨rfl, rfl⟩ ⟨Nat.le_of_ble_eq_true rfl, Nat.le_of_ble_eq_true rfl⟩ ⟨Nat.zero_le _, Nat.zero_le _⟩ rfl (Nat.le_of_ble_eq_true rfl) dX11_when_70 ?_
      refine z_goto (tgt := 97) ok dX11_when_73 (by decide) ?_
      obtain rfl := Option.some.inj hf
      exact hk _ _ dX11_when_97
    refine z_swc (v := 2) hf (fun hf => ?_) (fun n11_2 hf => ?_)
    · refine z_tableIn (tgt := 76) ok dX11_when_11 (by decide) (by decide) rfl (by decide) ?_
      refine z_aload_n ok dX11_when_76 0 rfl ?_
      refine z_getr (q := 81) ok kc_0 zc_11 hin_11 12 (by decide) fl_11_48 rfl dX11_when_77 ?_
      refine z_aload_n ok dX11_when_80 0 rfl ?_
      refine z_getm2 (p := 3) (q := 29) ok kc_0 zc_11 hin_11 3 (by decide) fl_11_23 rfl (by decide) (by decide) dX11_when_81 hf (fun q81 e81 hf => ?_)
      have hq81 : zI_Works q81 198 := by rcases e81 with rfl | rfl; exact kI_Works_3; exact kI_Works_29
      obtain ⟨hq81_0, hq81_1, hq81_2, hq81_3, hq81_4, hq81_5, hq81_6, hq81_7, hq81_8, hq81_9, hq81_10, hq81_11, hq81_12, hq81_13, hq81_14, hq81_15, hq81_16, hq81_17, hq81_18, hq81_19, hq81_20, hq81_21, hq81_22, hq81_23, hq81_24, hq81_25⟩ := id hq81
      refine z_aload_n ok dX11_when_84 0 rfl ?_
      refine z_getr (q := 55) ok kc_0 zc_11 hin_11 8 (by decide) fl_11_37 rfl dX11_when_85 ?_
      refine z_iload_n ok dX11_when_88 1 rfl ?_
      refine z_iconst (v := 0) ok dX11_when_89 (by decide) ?_
      refine z_call hf (fun r90 h90 hf => ?_)
      refine z_cV (As := [.ref (X.ad q81), .ref (X.ad 55), .int x1, .int 0]) (rest := []) (w := 81) ok kc_81 zc_4 (c_Outlook_firstTime hq81 kI_Moment_55 h90) rfl ⟨ml_11_303, w_Outlook_firstTime⟩ hy_Outlook_firstTime ⟨rfl, rfl⟩ ⟨Nat.le_of_ble_eq_true rfl, Nat.le_of_ble_eq_true rfl⟩ ⟨Nat.zero_le _, Nat.zero_le _⟩ rfl (Nat.le_of_ble_eq_true rfl) dX11_when_90 ?_
      refine z_goto (tgt := 97) ok dX11_when_93 (by decide) ?_
      obtain rfl := Option.some.inj hf
      exact hk _ _ dX11_when_97
    refine z_tableOut (tgt := 96) ok dX11_when_11 (zsw_out 0 2 [0, 1, 2] (by decide) (List.forall_mem_cons.mpr ⟨n11_0, (List.forall_mem_cons.mpr ⟨n11_1, (List.forall_mem_cons.mpr ⟨n11_2, (fun _ h => absurd h List.not_mem_nil)⟩)⟩)⟩)) (by decide) ?_
    refine z_iconst (v := (-1)) ok dX11_when_96 (by decide) ?_
    obtain rfl := Option.some.inj hf
    exact hk _ _ dX11_when_97
theorem c_CK_when {σ : Sg} {x1 : Int32} {x2 : Int32} {r : (Int32 × Sg)} (h : CK_when σ x1 x2 = some r) : ZcI yX11_when cX11_when 3 .int rm_CK_when 198 (fun ad => [.ref (ad 0), .int x1, .int x2]) σ r.1 r.2 :=
  zmetI pn_11 rfl (fun _ => rfl) (fun _ => Nat.le_of_ble_eq_true rfl) rfl (fun X Q ok hk => t_CK_when ok h hk)
theorem dX11_lacks_0 : decode cX11_lacks 0 = .ok (.aload_n 0, 1) := by decide +kernel
theorem dX11_lacks_1 : decode cX11_lacks 1 = .ok (.getfield 94, 3) := by decide +kernel
theorem dX11_lacks_4 : decode cX11_lacks 4 = .ok (.ifCond .eq 28, 3) := by decide +kernel
theorem dX11_lacks_7 : decode cX11_lacks 7 = .ok (.iload_n 2, 1) := by decide +kernel
theorem dX11_lacks_8 : decode cX11_lacks 8 = .ok (.iconst 1, 1) := by decide +kernel
theorem dX11_lacks_9 : decode cX11_lacks 9 = .ok (.if_icmp .lt 23, 3) := by decide +kernel
theorem dX11_lacks_12 : decode cX11_lacks 12 = .ok (.iload_n 2, 1) := by decide +kernel
theorem dX11_lacks_13 : decode cX11_lacks 13 = .ok (.sipush 200, 3) := by decide +kernel
theorem dX11_lacks_16 : decode cX11_lacks 16 = .ok (.if_icmp .gt 16, 3) := by decide +kernel
theorem dX11_lacks_19 : decode cX11_lacks 19 = .ok (.iload_n 1, 1) := by decide +kernel
theorem dX11_lacks_20 : decode cX11_lacks 20 = .ok (.iconst (-1), 1) := by decide +kernel
theorem dX11_lacks_21 : decode cX11_lacks 21 = .ok (.if_icmp .eq 13, 3) := by decide +kernel
theorem dX11_lacks_24 : decode cX11_lacks 24 = .ok (.aload_n 0, 1) := by decide +kernel
theorem dX11_lacks_25 : decode cX11_lacks 25 = .ok (.iload_n 1, 1) := by decide +kernel
theorem dX11_lacks_26 : decode cX11_lacks 26 = .ok (.invokevirtual 164, 3) := by decide +kernel
theorem dX11_lacks_29 : decode cX11_lacks 29 = .ok (.ifCond .ne 5, 3) := by decide +kernel
theorem dX11_lacks_32 : decode cX11_lacks 32 = .ok (.iconst (-1), 1) := by decide +kernel
theorem dX11_lacks_33 : decode cX11_lacks 33 = .ok (.ireturn, 1) := by decide +kernel
theorem dX11_lacks_34 : decode cX11_lacks 34 = .ok (.aload_n 0, 1) := by decide +kernel
theorem dX11_lacks_35 : decode cX11_lacks 35 = .ok (.getfield 48, 3) := by decide +kernel
theorem dX11_lacks_38 : decode cX11_lacks 38 = .ok (.aload_n 0, 1) := by decide +kernel
theorem dX11_lacks_39 : decode cX11_lacks 39 = .ok (.getfield 23, 3) := by decide +kernel
theorem dX11_lacks_42 : decode cX11_lacks 42 = .ok (.aload_n 0, 1) := by decide +kernel
theorem dX11_lacks_43 : decode cX11_lacks 43 = .ok (.getfield 37, 3) := by decide +kernel
theorem dX11_lacks_46 : decode cX11_lacks 46 = .ok (.iload_n 2, 1) := by decide +kernel
theorem dX11_lacks_47 : decode cX11_lacks 47 = .ok (.invokevirtual 295, 3) := by decide +kernel
theorem dX11_lacks_50 : decode cX11_lacks 50 = .ok (.aload_n 0, 1) := by decide +kernel
theorem dX11_lacks_51 : decode cX11_lacks 51 = .ok (.getfield 48, 3) := by decide +kernel
theorem dX11_lacks_54 : decode cX11_lacks 54 = .ok (.iload_n 2, 1) := by decide +kernel
theorem dX11_lacks_55 : decode cX11_lacks 55 = .ok (.invokevirtual 299, 3) := by decide +kernel
theorem dX11_lacks_58 : decode cX11_lacks 58 = .ok (.iload_n 1, 1) := by decide +kernel
theorem dX11_lacks_59 : decode cX11_lacks 59 = .ok (.iconst (-1), 1) := by decide +kernel
theorem dX11_lacks_60 : decode cX11_lacks 60 = .ok (.if_icmp .ne 31, 3) := by decide +kernel
theorem dX11_lacks_63 : decode cX11_lacks 63 = .ok (.aload_n 0, 1) := by decide +kernel
theorem dX11_lacks_64 : decode cX11_lacks 64 = .ok (.getfield 48, 3) := by decide +kernel
theorem dX11_lacks_67 : decode cX11_lacks 67 = .ok (.getfield 302, 3) := by decide +kernel
theorem dX11_lacks_70 : decode cX11_lacks 70 = .ok (.getfield 261, 3) := by decide +kernel
theorem dX11_lacks_73 : decode cX11_lacks 73 = .ok (.bipush 6, 2) := by decide +kernel
theorem dX11_lacks_75 : decode cX11_lacks 75 = .ok (.iaload, 1) := by decide +kernel
theorem dX11_lacks_76 : decode cX11_lacks 76 = .ok (.aload_n 0, 1) := by decide +kernel
theorem dX11_lacks_77 : decode cX11_lacks 77 = .ok (.getfield 37, 3) := by decide +kernel
theorem dX11_lacks_80 : decode cX11_lacks 80 = .ok (.getfield 126, 3) := by decide +kernel
theorem dX11_lacks_83 : decode cX11_lacks 83 = .ok (.getfield 261, 3) := by decide +kernel
theorem dX11_lacks_86 : decode cX11_lacks 86 = .ok (.bipush 6, 2) := by decide +kernel
theorem dX11_lacks_88 : decode cX11_lacks 88 = .ok (.iaload, 1) := by decide +kernel
theorem dX11_lacks_89 : decode cX11_lacks 89 = .ok (.isub, 1) := by decide +kernel
theorem dX11_lacks_90 : decode cX11_lacks 90 = .ok (.ireturn, 1) := by decide +kernel
theorem dX11_lacks_91 : decode cX11_lacks 91 = .ok (.aload_n 0, 1) := by decide +kernel
theorem dX11_lacks_92 : decode cX11_lacks 92 = .ok (.getfield 48, 3) := by decide +kernel
theorem dX11_lacks_95 : decode cX11_lacks 95 = .ok (.getfield 302, 3) := by decide +kernel
theorem dX11_lacks_98 : decode cX11_lacks 98 = .ok (.getfield 234, 3) := by decide +kernel
theorem dX11_lacks_101 : decode cX11_lacks 101 = .ok (.iload_n 1, 1) := by decide +kernel
theorem dX11_lacks_102 : decode cX11_lacks 102 = .ok (.iaload, 1) := by decide +kernel
theorem dX11_lacks_103 : decode cX11_lacks 103 = .ok (.aload_n 0, 1) := by decide +kernel
theorem dX11_lacks_104 : decode cX11_lacks 104 = .ok (.getfield 37, 3) := by decide +kernel
theorem dX11_lacks_107 : decode cX11_lacks 107 = .ok (.getfield 126, 3) := by decide +kernel
theorem dX11_lacks_110 : decode cX11_lacks 110 = .ok (.getfield 234, 3) := by decide +kernel
theorem dX11_lacks_113 : decode cX11_lacks 113 = .ok (.iload_n 1, 1) := by decide +kernel
theorem dX11_lacks_114 : decode cX11_lacks 114 = .ok (.iaload, 1) := by decide +kernel
theorem dX11_lacks_115 : decode cX11_lacks 115 = .ok (.isub, 1) := by decide +kernel
theorem dX11_lacks_116 : decode cX11_lacks 116 = .ok (.ireturn, 1) := by decide +kernel
abbrev rm_CK_lacks : Room := { frames := 6, cells := 0, slots := 0, locals := 134 }
def CK_lacks_j34 (σ : Sg) (x1 : Int32) (x2 : Int32) : Option (Int32 × Sg) :=
  zmr2 3 29 (σ 0 3) fun q39 =>
  (Outlook_look σ q39 55 x2).bind fun r47 =>
  (Outlook_run r47 x2).bind fun r55 =>
  if x1 = (-1) then (
    zrd r55 90 7 6 fun v75 =>
    zrd r55 64 7 6 fun v88 =>
    some ((v75 - v88), r55)
  ) else (
    zrd r55 89 10 x1 fun v102 =>
    zrd r55 63 10 x1 fun v114 =>
    some ((v102 - v114), r55)
  )
set_option maxRecDepth 20000 in
theorem t_CK_lacks_j34 {X : Zx} {Q : State → Prop} {σ : Sg} {x1 : Int32} {x2 : Int32} (ok : Zok X cX11_lacks RX11 rm_CK_lacks 198 3)  {out : (Int32 × Sg)} (hf : CK_lacks_j34 σ x1 x2 = some out) (hk : ZrI cX11_lacks X Q out.1 out.2) : ZAt X Q 0 0 34 σ [(0, .ref (X.ad 0)), (1, .int x1), (2, .int x2)] [] := by
  unfold CK_lacks_j34 at hf
  refine z_aload_n ok dX11_lacks_34 0 rfl ?_
  refine z_getr (q := 81) ok kc_0 zc_11 hin_11 12 (by decide) fl_11_48 rfl dX11_lacks_35 ?_
  refine z_aload_n ok dX11_lacks_38 0 rfl ?_
  refine z_getm2 (p := 3) (q := 29) ok kc_0 zc_11 hin_11 3 (by decide) fl_11_23 rfl (by decide) (by decide) dX11_lacks_39 hf (fun q39 e39 hf => ?_)
  have hq39 : zI_Works q39 198 := by rcases e39 with rfl | rfl; exact kI_Works_3; exact kI_Works_29
  obtain ⟨hq39_0, hq39_1, hq39_2, hq39_3, hq39_4, hq39_5, hq39_6, hq39_7, hq39_8, hq39_9, hq39_10, hq39_11, hq39_12, hq39_13, hq39_14, hq39_15, hq39_16, hq39_17, hq39_18, hq39_19, hq39_20, hq39_21, hq39_22, hq39_23, hq39_24, hq39_25⟩ := id hq39
  refine z_aload_n ok dX11_lacks_42 0 rfl ?_
  refine z_getr (q := 55) ok kc_0 zc_11 hin_11 8 (by decide) fl_11_37 rfl dX11_lacks_43 ?_
  refine z_iload_n ok dX11_lacks_46 2 rfl ?_
  refine z_call hf (fun r47 h47 hf => ?_)
  refine z_cVv (As := [.ref (X.ad q39), .ref (X.ad 55), .int x2]) (rest := []) (w := 81) ok kc_81 zc_4 (c_Outlook_look hq39 kI_Moment_55 h47) rfl ⟨ml_11_295, w_Outlook_look⟩ hy_Outlook_look ⟨rfl, rfl⟩ ⟨Nat.le_of_ble_eq_true rfl, Nat.le_of_ble_eq_true rfl⟩ ⟨Nat.zero_le _, Nat.zero_le _⟩ rfl (Nat.le_of_ble_eq_true rfl) dX11_lacks_47 ?_
  refine z_aload_n ok dX11_lacks_50 0 rfl ?_
  refine z_getr (q := 81) ok kc_0 zc_11 hin_11 12 (by decide) fl_11_48 rfl dX11_lacks_51 ?_
  refine z_iload_n ok dX11_lacks_54 2 rfl ?_
  refine z_call hf (fun r55 h55 hf => ?_)
  refine z_cVv (As := [.int x2]) (rest := []) (w := 81) ok kc_81 zc_4 (c_Outlook_run h55) rfl ⟨ml_11_299, w_Outlook_run⟩ hy_Outlook_run ⟨rfl, rfl⟩ ⟨Nat.le_of_ble_eq_true rfl, Nat.le_of_ble_eq_true rfl⟩ ⟨Nat.zero_le _, Nat.zero_le _⟩ rfl (Nat.le_of_ble_eq_true rfl) dX11_lacks_55 ?_
  refine z_iload_n ok dX11_lacks_58 1 rfl ?_
  refine z_iconst (v := (-1)) ok dX11_lacks_59 (by decide) ?_
  refine z_icmp_ne (tgt := 91) ok dX11_lacks_60 (by decide) hf (fun _ hf => ?_) (fun _ hf => ?_)
  · refine z_aload_n ok dX11_lacks_63 0 rfl ?_
    refine z_getr (q := 81) ok kc_0 zc_11 hin_11 12 (by decide) fl_11_48 rfl dX11_lacks_64 ?_
    refine z_getr (q := 82) ok kc_81 zc_4 hin_4 0 (by decide) fl_11_302 rfl dX11_lacks_67 ?_
    refine z_getr (q := 90) ok kc_82 zc_9 hin_9 10 (by decide) fl_11_261 rfl dX11_lacks_70 ?_
    refine z_bipush (v := 6) ok dX11_lacks_73 (by decide) ?_
    refine z_iald ok kc_90 dX11_lacks_75 hf (fun v75 hf => ?_)
    refine z_aload_n ok dX11_lacks_76 0 rfl ?_
    refine z_getr (q := 55) ok kc_0 zc_11 hin_11 8 (by decide) fl_11_37 rfl dX11_lacks_77 ?_
    refine z_getr (q := 56) ok kc_55 zc_1 hin_1 0 (by decide) fl_11_126 rfl dX11_lacks_80 ?_
    refine z_getr (q := 64) ok kc_56 zc_9 hin_9 10 (by decide) fl_11_261 rfl dX11_lacks_83 ?_
    refine z_bipush (v := 6) ok dX11_lacks_86 (by decide) ?_
    refine z_iald ok kc_64 dX11_lacks_88 hf (fun v88 hf => ?_)
    refine z_isub ok dX11_lacks_89 ?_
    obtain rfl := Option.some.inj hf
    exact hk _ _ dX11_lacks_90
  · refine z_aload_n ok dX11_lacks_91 0 rfl ?_
    refine z_getr (q := 81) ok kc_0 zc_11 hin_11 12 (by decide) fl_11_48 rfl dX11_lacks_92 ?_
    refine z_getr (q := 82) ok kc_81 zc_4 hin_4 0 (by decide) fl_11_302 rfl dX11_lacks_95 ?_
    refine z_getr (q := 89) ok kc_82 zc_9 hin_9 9 (by decide) fl_11_234 rfl dX11_lacks_98 ?_
    refine z_iload_n ok dX11_lacks_101 1 rfl ?_
    refine z_iald ok kc_89 dX11_lacks_102 hf (fun v102 hf => ?_)
    refine z_aload_n ok dX11_lacks_103 0 rfl ?_
    refine z_getr (q := 55) ok kc_0 zc_11 hin_11 8 (by decide) fl_11_37 rfl dX11_lacks_104 ?_
    refine z_getr (q := 56) ok kc_55 zc_1 hin_1 0 (by decide) fl_11_126 rfl dX11_lacks_107 ?_
    refine z_getr (q := 63) ok kc_56 zc_9 hin_9 9 (by decide) fl_11_234 rfl dX11_lacks_110 ?_
    refine z_iload_n ok dX11_lacks_113 1 rfl ?_
    refine z_iald ok kc_63 dX11_lacks_114 hf (fun v114 hf => ?_)
    refine z_isub ok dX11_lacks_115 ?_
    obtain rfl := Option.some.inj hf
    exact hk _ _ dX11_lacks_116
def CK_lacks (σ : Sg) (x1 : Int32) (x2 : Int32) : Option (Int32 × Sg) :=
  zgt σ 0 5 fun v1 =>
  if v1 = 0 then (
    some ((-1), σ)
  ) else (
    if x2 < 1 then (
      some ((-1), σ)
    ) else (
      if 200 < x2 then (
        some ((-1), σ)
      ) else (
        if x1 = (-1) then (
          CK_lacks_j34 σ x1 x2
        ) else (
          (CK_isOutlet σ x1).bind fun r26 =>
          if (zb r26) = 0 then (
            some ((-1), σ)
          ) else (
            CK_lacks_j34 σ x1 x2
          )
        )
      )
    )
  )
set_option maxRecDepth 20000 in
theorem t_CK_lacks {X : Zx} {Q : State → Prop} {σ : Sg} {x1 : Int32} {x2 : Int32} (ok : Zok X cX11_lacks RX11 rm_CK_lacks 198 3)  {out : (Int32 × Sg)} (hf : CK_lacks σ x1 x2 = some out) (hk : ZrI cX11_lacks X Q out.1 out.2) : ZAt X Q 0 0 0 σ [(0, .ref (X.ad 0)), (1, .int x1), (2, .int x2)] [] := by
  unfold CK_lacks at hf
  refine z_aload_n ok dX11_lacks_0 0 rfl ?_
  refine z_geti ok kc_0 zc_11 hin_11 5 (by decide) fl_11_94 rfl dX11_lacks_1 hf (fun v1 hf => ?_)
  refine z_if_eq (tgt := 32) ok dX11_lacks_4 (by decide) hf (fun _ hf => ?_) (fun _ hf => ?_)
  · refine z_iconst (v := (-1)) ok dX11_lacks_32 (by decide) ?_
    obtain rfl := Option.some.inj hf
    exact hk _ _ dX11_lacks_33
  · refine z_iload_n ok dX11_lacks_7 2 rfl ?_
    refine z_iconst (v := 1) ok dX11_lacks_8 (by decide) ?_
    refine z_icmp_lt (tgt := 32) ok dX11_lacks_9 (by decide) hf (fun _ hf => ?_) (fun _ hf => ?_)
    · refine z_iconst (v := (-1)) ok dX11_lacks_32 (by decide) ?_
      obtain rfl := Option.some.inj hf
      exact hk _ _ dX11_lacks_33
    · refine z_iload_n ok dX11_lacks_12 2 rfl ?_
      refine z_sipush (v := 200) ok dX11_lacks_13 (by decide) ?_
      refine z_icmp_gt (tgt := 32) ok dX11_lacks_16 (by decide) hf (fun _ hf => ?_) (fun _ hf => ?_)
      · refine z_iconst (v := (-1)) ok dX11_lacks_32 (by decide) ?_
        obtain rfl := Option.some.inj hf
        exact hk _ _ dX11_lacks_33
      · refine z_iload_n ok dX11_lacks_19 1 rfl ?_
        refine z_iconst (v := (-1)) ok dX11_lacks_20 (by decide) ?_
        refine z_icmp_eq (tgt := 34) ok dX11_lacks_21 (by decide) hf (fun _ hf => ?_) (fun _ hf => ?_)
        · exact z_sub [0, 1, 2] rfl (t_CK_lacks_j34 ok hf hk)
        · refine z_aload_n ok dX11_lacks_24 0 rfl ?_
          refine z_iload_n ok dX11_lacks_25 1 rfl ?_
          refine z_call hf (fun r26 h26 hf => ?_)
          refine z_cV (As := [.int x1]) (rest := []) (w := 0) ok kc_0 zc_11 (c_CK_isOutlet h26) rfl ⟨ml_11_164, w_CK_isOutlet⟩ hy_CK_isOutlet ⟨rfl, rfl⟩ ⟨Nat.le_of_ble_eq_true rfl, Nat.le_of_ble_eq_true rfl⟩ ⟨Nat.zero_le _, Nat.zero_le _⟩ rfl (Nat.le_of_ble_eq_true rfl) dX11_lacks_26 ?_
          refine z_if_ne (tgt := 34) ok dX11_lacks_29 (by decide) hf (fun _ hf => ?_) (fun _ hf => ?_)
          · refine z_iconst (v := (-1)) ok dX11_lacks_32 (by decide) ?_
            obtain rfl := Option.some.inj hf
            exact hk _ _ dX11_lacks_33
          · exact z_sub [0, 1, 2] rfl (t_CK_lacks_j34 ok hf hk)
theorem c_CK_lacks {σ : Sg} {x1 : Int32} {x2 : Int32} {r : (Int32 × Sg)} (h : CK_lacks σ x1 x2 = some r) : ZcI yX11_lacks cX11_lacks 3 .int rm_CK_lacks 198 (fun ad => [.ref (ad 0), .int x1, .int x2]) σ r.1 r.2 :=
  zmetI pn_11 rfl (fun _ => rfl) (fun _ => Nat.le_of_ble_eq_true rfl) rfl (fun X Q ok hk => t_CK_lacks ok h hk)
theorem dX4_lookAgain_0 : decode cX4_lookAgain 0 = .ok (.aload_n 0, 1) := by decide +kernel
theorem dX4_lookAgain_1 : decode cX4_lookAgain 1 = .ok (.getfield 12, 3) := by decide +kernel
theorem dX4_lookAgain_4 : decode cX4_lookAgain 4 = .ok (.aload_n 0, 1) := by decide +kernel
theorem dX4_lookAgain_5 : decode cX4_lookAgain 5 = .ok (.getfield 36, 3) := by decide +kernel
theorem dX4_lookAgain_8 : decode cX4_lookAgain 8 = .ok (.getfield 43, 3) := by decide +kernel
theorem dX4_lookAgain_11 : decode cX4_lookAgain 11 = .ok (.invokevirtual 52, 3) := by decide +kernel
theorem dX4_lookAgain_14 : decode cX4_lookAgain 14 = .ok (.return_, 1) := by decide +kernel
abbrev rm_Outlook_lookAgain : Room := { frames := 2, cells := 0, slots := 0, locals := 81 }
def Outlook_lookAgain (σ : Sg)  : Option Sg :=
  zmr1 55 (σ 81 4) <|
  (Water_copyFrom σ 82 56).bind fun r11 =>
  some r11
set_option maxRecDepth 20000 in
theorem t_Outlook_lookAgain {X : Zx} {Q : State → Prop} {σ : Sg}  (ok : Zok X cX4_lookAgain RX4 rm_Outlook_lookAgain 198 1)  {out : Sg} (hf : Outlook_lookAgain σ = some out) (hk : ZrV cX4_lookAgain X Q out) : ZAt X Q 0 0 0 σ [(0, .ref (X.ad 81))] [] := by
  unfold Outlook_lookAgain at hf
  refine z_aload_n ok dX4_lookAgain_0 0 rfl ?_
  refine z_getr (q := 82) ok kc_81 zc_4 hin_4 0 (by decide) fl_4_12 rfl dX4_lookAgain_1 ?_
  refine z_aload_n ok dX4_lookAgain_4 0 rfl ?_
  refine z_getm1 (p := 55) ok kc_81 zc_4 hin_4 4 (by decide) fl_4_36 rfl (by decide) dX4_lookAgain_5 hf (fun hf => ?_)
  refine z_getr (q := 56) ok kc_55 zc_1 hin_1 0 (by decide) fl_4_43 rfl dX4_lookAgain_8 ?_
  refine z_call hf (fun r11 h11 hf => ?_)
  refine z_cVv (As := [.ref (X.ad 56)]) (rest := []) (w := 82) ok kc_82 zc_9 (c_Water_copyFrom kI_Water_82 kI_Water_56 h11) rfl ⟨ml_4_52, w_Water_copyFrom⟩ hy_Water_copyFrom ⟨rfl, rfl⟩ ⟨Nat.le_of_ble_eq_true rfl, Nat.le_of_ble_eq_true rfl⟩ ⟨Nat.zero_le _, Nat.zero_le _⟩ rfl (Nat.le_of_ble_eq_true rfl) dX4_lookAgain_11 ?_
  obtain rfl := Option.some.inj hf
  exact hk _ _ dX4_lookAgain_14
theorem c_Outlook_lookAgain {σ : Sg} {r : Sg} (h : Outlook_lookAgain σ = some r) : ZcV yX4_lookAgain cX4_lookAgain 1 rm_Outlook_lookAgain 198 (fun ad => [.ref (ad 81)]) σ r :=
  zmetV pn_4 rfl (fun _ => rfl) (fun _ => Nat.le_of_ble_eq_true rfl) (fun X Q ok hk => t_Outlook_lookAgain ok h hk)
theorem dX4_staysWithin_0 : decode cX4_staysWithin 0 = .ok (.aload_n 0, 1) := by decide +kernel
theorem dX4_staysWithin_1 : decode cX4_staysWithin 1 = .ok (.iconst 0, 1) := by decide +kernel
theorem dX4_staysWithin_2 : decode cX4_staysWithin 2 = .ok (.putfield 84, 3) := by decide +kernel
theorem dX4_staysWithin_5 : decode cX4_staysWithin 5 = .ok (.iconst 0, 1) := by decide +kernel
theorem dX4_staysWithin_6 : decode cX4_staysWithin 6 = .ok (.istore_n 3, 1) := by decide +kernel
theorem dX4_staysWithin_7 : decode cX4_staysWithin 7 = .ok (.iload_n 3, 1) := by decide +kernel
theorem dX4_staysWithin_8 : decode cX4_staysWithin 8 = .ok (.iload_n 1, 1) := by decide +kernel
theorem dX4_staysWithin_9 : decode cX4_staysWithin 9 = .ok (.if_icmp .ge 70, 3) := by decide +kernel
theorem dX4_staysWithin_12 : decode cX4_staysWithin 12 = .ok (.aload_n 0, 1) := by decide +kernel
theorem dX4_staysWithin_13 : decode cX4_staysWithin 13 = .ok (.invokevirtual 56, 3) := by decide +kernel
theorem dX4_staysWithin_16 : decode cX4_staysWithin 16 = .ok (.aload_n 0, 1) := by decide +kernel
theorem dX4_staysWithin_17 : decode cX4_staysWithin 17 = .ok (.dup, 1) := by decide +kernel
theorem dX4_staysWithin_18 : decode cX4_staysWithin 18 = .ok (.getfield 84, 3) := by decide +kernel
theorem dX4_staysWithin_21 : decode cX4_staysWithin 21 = .ok (.aload_n 0, 1) := by decide +kernel
theorem dX4_staysWithin_22 : decode cX4_staysWithin 22 = .ok (.getfield 12, 3) := by decide +kernel
theorem dX4_staysWithin_25 : decode cX4_staysWithin 25 = .ok (.getfield 101, 3) := by decide +kernel
theorem dX4_staysWithin_28 : decode cX4_staysWithin 28 = .ok (.getfield 105, 3) := by decide +kernel
theorem dX4_staysWithin_31 : decode cX4_staysWithin 31 = .ok (.iconst 0, 1) := by decide +kernel
theorem dX4_staysWithin_32 : decode cX4_staysWithin 32 = .ok (.iaload, 1) := by decide +kernel
theorem dX4_staysWithin_33 : decode cX4_staysWithin 33 = .ok (.aload_n 0, 1) := by decide +kernel
theorem dX4_staysWithin_34 : decode cX4_staysWithin 34 = .ok (.getfield 12, 3) := by decide +kernel
theorem dX4_staysWithin_37 : decode cX4_staysWithin 37 = .ok (.getfield 101, 3) := by decide +kernel
theorem dX4_staysWithin_40 : decode cX4_staysWithin 40 = .ok (.getfield 110, 3) := by decide +kernel
theorem dX4_staysWithin_43 : decode cX4_staysWithin 43 = .ok (.iconst 0, 1) := by decide +kernel
theorem dX4_staysWithin_44 : decode cX4_staysWithin 44 = .ok (.iaload, 1) := by decide +kernel
theorem dX4_staysWithin_45 : decode cX4_staysWithin 45 = .ok (.if_icmp .ge 7, 3) := by decide +kernel
theorem dX4_staysWithin_48 : decode cX4_staysWithin 48 = .ok (.iconst 1, 1) := by decide +kernel
theorem dX4_staysWithin_49 : decode cX4_staysWithin 49 = .ok (.goto 4, 3) := by decide +kernel
theorem dX4_staysWithin_52 : decode cX4_staysWithin 52 = .ok (.iconst 0, 1) := by decide +kernel
theorem dX4_staysWithin_53 : decode cX4_staysWithin 53 = .ok (.ior, 1) := by decide +kernel
theorem dX4_staysWithin_54 : decode cX4_staysWithin 54 = .ok (.putfield 84, 3) := by decide +kernel
theorem dX4_staysWithin_57 : decode cX4_staysWithin 57 = .ok (.aload_n 0, 1) := by decide +kernel
theorem dX4_staysWithin_58 : decode cX4_staysWithin 58 = .ok (.getfield 12, 3) := by decide +kernel
theorem dX4_staysWithin_61 : decode cX4_staysWithin 61 = .ok (.getfield 94, 3) := by decide +kernel
theorem dX4_staysWithin_64 : decode cX4_staysWithin 64 = .ok (.bipush 6, 2) := by decide +kernel
theorem dX4_staysWithin_66 : decode cX4_staysWithin 66 = .ok (.iaload, 1) := by decide +kernel
theorem dX4_staysWithin_67 : decode cX4_staysWithin 67 = .ok (.iload_n 2, 1) := by decide +kernel
theorem dX4_staysWithin_68 : decode cX4_staysWithin 68 = .ok (.if_icmp .le 5, 3) := by decide +kernel
theorem dX4_staysWithin_71 : decode cX4_staysWithin 71 = .ok (.iconst 0, 1) := by decide +kernel
theorem dX4_staysWithin_72 : decode cX4_staysWithin 72 = .ok (.ireturn, 1) := by decide +kernel
theorem dX4_staysWithin_73 : decode cX4_staysWithin 73 = .ok (.iinc 3 1, 3) := by decide +kernel
theorem dX4_staysWithin_76 : decode cX4_staysWithin 76 = .ok (.goto (-69), 3) := by decide +kernel
theorem dX4_staysWithin_79 : decode cX4_staysWithin 79 = .ok (.iconst 1, 1) := by decide +kernel
theorem dX4_staysWithin_80 : decode cX4_staysWithin 80 = .ok (.ireturn, 1) := by decide +kernel
abbrev rm_Outlook_staysWithin : Room := { frames := 5, cells := 0, slots := 0, locals := 112 }
def Outlook_staysWithin_j7_53 (σ : Sg) (x1 : Int32) (x2 : Int32) (x3 : Int32) (s1 : Int32) (s2 : Int32) : Option ((Sg × Int32) ⊕ ((Bool × Sg) ⊕ (Sg × Int32))) :=
  zbo (s1 ||| s2) <| zpt σ 81 7 (s1 ||| s2) fun σ54 =>
  zrd σ54 90 7 6 fun v66 =>
  if v66 ≤ x2 then (
    zlt (x3 + 1) fun v73 =>
    some (.inl (σ54, v73))
  ) else (
    some (.inr (.inl (false, σ54)))
  )
set_option maxRecDepth 20000 in
theorem t_Outlook_staysWithin_j7_53 {X : Zx} {Q : State → Prop} {σ : Sg} {x1 : Int32} {x2 : Int32} {x3 : Int32} {s1 : Int32} {s2 : Int32} (ok : Zok X cX4_staysWithin RX4 rm_Outlook_staysWithin 198 4)  {out : ((Sg × Int32) ⊕ ((Bool × Sg) ⊕ (Sg × Int32)))} (hf : Outlook_staysWithin_j7_53 σ x1 x2 x3 s1 s2 = some out) (hk : zout (fun (s : (Sg × Int32)) => ZAt X Q 0 0 7 s.1 [(0, .ref (X.ad 81)), (1, .int x1), (2, .int x2), (3, .int s.2)] []) (zout (fun (r : (Bool × Sg)) => ZrI cX4_staysWithin X Q (zb r.1) r.2) (fun (s : (Sg × Int32)) => ZAt X Q 0 0 79 s.1 [] [])) out) : ZAt X Q 0 0 53 σ [(0, .ref (X.ad 81)), (1, .int x1), (2, .int x2), (3, .int x3)] [.int s2, .int s1, .ref (X.ad 81)] := by
  unfold Outlook_staysWithin_j7_53 at hf
  refine z_ior ok dX4_staysWithin_53 ?_
  refine z_putz ok kc_81 zc_4 hin_4 tyX4 tyX4_ok nmX4 7 (by decide) fl_4_84 rfl rfl (tyX4_ok 7 (by decide)) dX4_staysWithin_54 hf (fun σ54 hf => ?_)
  refine z_aload_n ok dX4_staysWithin_57 0 rfl ?_
  refine z_getr (q := 82) ok kc_81 zc_4 hin_4 0 (by decide) fl_4_12 rfl dX4_staysWithin_58 ?_
  refine z_getr (q := 90) ok kc_82 zc_9 hin_9 10 (by decide) fl_4_94 rfl dX4_staysWithin_61 ?_
  refine z_bipush (v := 6) ok dX4_staysWithin_64 (by decide) ?_
  refine z_iald ok kc_90 dX4_staysWithin_66 hf (fun v66 hf => ?_)
  refine z_iload_n ok dX4_staysWithin_67 2 rfl ?_
  refine z_icmp_le (tgt := 73) ok dX4_staysWithin_68 (by decide) hf (fun _ hf => ?_) (fun _ hf => ?_)
  · refine z_iinc (w := 1) (lv' := fun v73 => [(3, .int v73), (0, .ref (X.ad 81)), (1, .int x1), (2, .int x2)]) ok dX4_staysWithin_73 3 rfl (by decide) (by decide) (fun _ => rfl) hf (fun v73 hf => ?_)
    refine z_goto (tgt := 7) ok dX4_staysWithin_76 (by decide) ?_
    obtain rfl := Option.some.inj hf
    exact z_sub [1, 2, 3, 0] rfl hk
  · refine z_iconst (v := 0) ok dX4_staysWithin_71 (by decide) ?_
    obtain rfl := Option.some.inj hf
    exact hk _ _ dX4_staysWithin_72
def Outlook_staysWithin_l7 (σ : Sg) (x1 : Int32) (x2 : Int32) (x3 : Int32) : Option ((Sg × Int32) ⊕ ((Bool × Sg) ⊕ (Sg × Int32))) :=
  if x1 ≤ x3 then (
    some (.inr (.inr (σ, x3)))
  ) else (
    (Outlook_runOne σ).bind fun r13 =>
    zgt r13 81 7 fun v18 =>
    zrd r13 95 8 0 fun v32 =>
    zrd r13 96 8 0 fun v44 =>
    if v44 ≤ v32 then (
      Outlook_staysWithin_j7_53 r13 x1 x2 x3 v18 0
    ) else (
      Outlook_staysWithin_j7_53 r13 x1 x2 x3 v18 1
    )
  )
set_option maxRecDepth 20000 in
theorem t_Outlook_staysWithin_l7 {X : Zx} {Q : State → Prop} {σ : Sg} {x1 : Int32} {x2 : Int32} {x3 : Int32} (ok : Zok X cX4_staysWithin RX4 rm_Outlook_staysWithin 198 4)  {out : ((Sg × Int32) ⊕ ((Bool × Sg) ⊕ (Sg × Int32)))} (hf : Outlook_staysWithin_l7 σ x1 x2 x3 = some out) (hk : zout (fun (s : (Sg × Int32)) => ZAt X Q 0 0 7 s.1 [(0, .ref (X.ad 81)), (1, .int x1), (2, .int x2), (3, .int s.2)] []) (zout (fun (r : (Bool × Sg)) => ZrI cX4_staysWithin X Q (zb r.1) r.2) (fun (s : (Sg × Int32)) => ZAt X Q 0 0 79 s.1 [] [])) out) : ZAt X Q 0 0 7 σ [(0, .ref (X.ad 81)), (1, .int x1), (2, .int x2), (3, .int x3)] [] := by
  unfold Outlook_staysWithin_l7 at hf
  refine z_iload_n ok dX4_staysWithin_7 3 rfl ?_
  refine z_iload_n ok dX4_staysWithin_8 1 rfl ?_
  refine z_icmp_ge (tgt := 79) ok dX4_staysWithin_9 (by decide) hf (fun _ hf => ?_) (fun _ hf => ?_)
  · obtain rfl := Option.some.inj hf
    exact z_sub [] rfl hk
  · refine z_aload_n ok dX4_staysWithin_12 0 rfl ?_
    refine z_call hf (fun r13 h13 hf => ?_)
    refine z_cVv (As := []) (rest := []) (w := 81) ok kc_81 zc_4 (c_Outlook_runOne h13) rfl ⟨ml_4_56, w_Outlook_runOne⟩ hy_Outlook_runOne ⟨rfl, rfl⟩ ⟨Nat.le_of_ble_eq_true rfl, Nat.le_of_ble_eq_true rfl⟩ ⟨Nat.zero_le _, Nat.zero_le _⟩ rfl (Nat.le_of_ble_eq_true rfl) dX4_staysWithin_13 ?_
    refine z_aload_n ok dX4_staysWithin_16 0 rfl ?_
    refine z_dup ok dX4_staysWithin_17 rfl ?_
    refine z_geti ok kc_81 zc_4 hin_4 7 (by decide) fl_4_84 rfl dX4_staysWithin_18 hf (fun v18 hf => ?_)
    refine z_aload_n ok dX4_staysWithin_21 0 rfl ?_
    refine z_getr (q := 82) ok kc_81 zc_4 hin_4 0 (by decide) fl_4_12 rfl dX4_staysWithin_22 ?_
    refine z_getr (q := 91) ok kc_82 zc_9 hin_9 11 (by decide) fl_4_101 rfl dX4_staysWithin_25 ?_
    refine z_getr (q := 95) ok kc_91 zc_2 hin_2 3 (by decide) fl_4_105 rfl dX4_staysWithin_28 ?_
    refine z_iconst (v := 0) ok dX4_staysWithin_31 (by decide) ?_
    refine z_iald ok kc_95 dX4_staysWithin_32 hf (fun v32 hf => ?_)
    refine z_aload_n ok dX4_staysWithin_33 0 rfl ?_
    refine z_getr (q := 82) ok kc_81 zc_4 hin_4 0 (by decide) fl_4_12 rfl dX4_staysWithin_34 ?_
    refine z_getr (q := 91) ok kc_82 zc_9 hin_9 11 (by decide) fl_4_101 rfl dX4_staysWithin_37 ?_
    refine z_getr (q := 96) ok kc_91 zc_2 hin_2 4 (by decide) fl_4_110 rfl dX4_staysWithin_40 ?_
    refine z_iconst (v := 0) ok dX4_staysWithin_43 (by decide) ?_
    refine z_iald ok kc_96 dX4_staysWithin_44 hf (fun v44 hf => ?_)
    refine z_icmp_ge (tgt := 52) ok dX4_staysWithin_45 (by decide) hf (fun _ hf => ?_) (fun _ hf => ?_)
    · refine z_iconst (v := 0) ok dX4_staysWithin_52 (by decide) ?_
      exact z_sub [0, 1, 2, 3] rfl (t_Outlook_staysWithin_j7_53 ok hf hk)
    · refine z_iconst (v := 1) ok dX4_staysWithin_48 (by decide) ?_
      refine z_goto (tgt := 53) ok dX4_staysWithin_49 (by decide) ?_
      exact z_sub [0, 1, 2, 3] rfl (t_Outlook_staysWithin_j7_53 ok hf hk)
def Outlook_staysWithin (σ : Sg) (x1 : Int32) (x2 : Int32) : Option (Bool × Sg) :=
  zbo 0 <| zpt σ 81 7 0 fun σ2 =>
  zlt 0 fun v6 =>
  (zit (fun (s : (Sg × Int32)) => Outlook_staysWithin_l7 s.1 x1 x2 s.2) zFU (σ2, v6)).bind fun r => r.elim (fun r =>
  some r
  ) (fun r =>
  some (true, r.1)
  )
set_option maxRecDepth 20000 in
theorem t_Outlook_staysWithin {X : Zx} {Q : State → Prop} {σ : Sg} {x1 : Int32} {x2 : Int32} (ok : Zok X cX4_staysWithin RX4 rm_Outlook_staysWithin 198 4)  {out : (Bool × Sg)} (hf : Outlook_staysWithin σ x1 x2 = some out) (hk : ZrI cX4_staysWithin X Q (zb out.1) out.2) : ZAt X Q 0 0 0 σ [(0, .ref (X.ad 81)), (1, .int x1), (2, .int x2)] [] := by
  unfold Outlook_staysWithin at hf
  refine z_aload_n ok dX4_staysWithin_0 0 rfl ?_
  refine z_iconst (v := 0) ok dX4_staysWithin_1 (by decide) ?_
  refine z_putz ok kc_81 zc_4 hin_4 tyX4 tyX4_ok nmX4 7 (by decide) fl_4_84 rfl rfl (tyX4_ok 7 (by decide)) dX4_staysWithin_2 hf (fun σ2 hf => ?_)
  refine z_iconst (v := 0) ok dX4_staysWithin_5 (by decide) ?_
  refine z_nm hf (fun v6 hf => ?_)
  refine z_istore_n (lv' := [(3, .int v6), (0, .ref (X.ad 81)), (1, .int x1), (2, .int x2)]) ok dX4_staysWithin_6 (by decide) rfl ?_
  refine z_call hf (fun r hr hf => ?_)
  refine z_sub [1, 2, 3, 0] rfl (z_iter (fun (s : (Sg × Int32)) => s.1) (fun (s : (Sg × Int32)) => [(0, .ref (X.ad 81)), (1, .int x1), (2, .int x2), (3, .int s.2)]) (fun s o h1 h2 => t_Outlook_staysWithin_l7 ok h1 h2) _ _ _ hr ?_)
  cases r with
  | inl r =>
    obtain rfl := Option.some.inj hf
    exact hk
  | inr r =>
    simp only [Sum.elim_inr] at hf
    show ZAt X Q 0 0 79 r.1 [] []
    refine z_iconst (v := 1) ok dX4_staysWithin_79 (by decide) ?_
    obtain rfl := Option.some.inj hf
    exact hk _ _ dX4_staysWithin_80
theorem c_Outlook_staysWithin {σ : Sg} {x1 : Int32} {x2 : Int32} {r : (Bool × Sg)} (h : Outlook_staysWithin σ x1 x2 = some r) : ZcI yX4_staysWithin cX4_staysWithin 4 .boolean rm_Outlook_staysWithin 198 (fun ad => [.ref (ad 81), .int x1, .int x2]) σ (zb r.1) r.2 :=
  zmetI pn_4 rfl (fun _ => rfl) (fun _ => Nat.le_of_ble_eq_true rfl) (zb_nar _) (fun X Q ok hk => t_Outlook_staysWithin ok h hk)
theorem dX4_leastGives_0 : decode cX4_leastGives 0 = .ok (.aload_n 0, 1) := by decide +kernel
theorem dX4_leastGives_1 : decode cX4_leastGives 1 = .ok (.aload_n 1, 1) := by decide +kernel
theorem dX4_leastGives_2 : decode cX4_leastGives 2 = .ok (.aload_n 2, 1) := by decide +kernel
theorem dX4_leastGives_3 : decode cX4_leastGives 3 = .ok (.iload_n 3, 1) := by decide +kernel
theorem dX4_leastGives_4 : decode cX4_leastGives 4 = .ok (.invokevirtual 72, 3) := by decide +kernel
theorem dX4_leastGives_7 : decode cX4_leastGives 7 = .ok (.aload_n 0, 1) := by decide +kernel
theorem dX4_leastGives_8 : decode cX4_leastGives 8 = .ok (.iconst 1, 1) := by decide +kernel
theorem dX4_leastGives_9 : decode cX4_leastGives 9 = .ok (.putfield 84, 3) := by decide +kernel
theorem dX4_leastGives_12 : decode cX4_leastGives 12 = .ok (.iconst 0, 1) := by decide +kernel
theorem dX4_leastGives_13 : decode cX4_leastGives 13 = .ok (.istore 4, 2) := by decide +kernel
theorem dX4_leastGives_15 : decode cX4_leastGives 15 = .ok (.iload 4, 2) := by decide +kernel
theorem dX4_leastGives_17 : decode cX4_leastGives 17 = .ok (.sipush 999, 3) := by decide +kernel
theorem dX4_leastGives_20 : decode cX4_leastGives 20 = .ok (.if_icmp .gt 53, 3) := by decide +kernel
theorem dX4_leastGives_23 : decode cX4_leastGives 23 = .ok (.aload_n 0, 1) := by decide +kernel
theorem dX4_leastGives_24 : decode cX4_leastGives 24 = .ok (.getfield 84, 3) := by decide +kernel
theorem dX4_leastGives_27 : decode cX4_leastGives 27 = .ok (.ifCond .eq 46, 3) := by decide +kernel
theorem dX4_leastGives_30 : decode cX4_leastGives 30 = .ok (.aload_n 0, 1) := by decide +kernel
theorem dX4_leastGives_31 : decode cX4_leastGives 31 = .ok (.invokevirtual 88, 3) := by decide +kernel
theorem dX4_leastGives_34 : decode cX4_leastGives 34 = .ok (.aload_n 0, 1) := by decide +kernel
theorem dX4_leastGives_35 : decode cX4_leastGives 35 = .ok (.getfield 12, 3) := by decide +kernel
theorem dX4_leastGives_38 : decode cX4_leastGives 38 = .ok (.iload 4, 2) := by decide +kernel
theorem dX4_leastGives_40 : decode cX4_leastGives 40 = .ok (.putfield 91, 3) := by decide +kernel
theorem dX4_leastGives_43 : decode cX4_leastGives 43 = .ok (.aload_n 0, 1) := by decide +kernel
theorem dX4_leastGives_44 : decode cX4_leastGives 44 = .ok (.iload_n 3, 1) := by decide +kernel
theorem dX4_leastGives_45 : decode cX4_leastGives 45 = .ok (.aload_n 0, 1) := by decide +kernel
theorem dX4_leastGives_46 : decode cX4_leastGives 46 = .ok (.getfield 36, 3) := by decide +kernel
theorem dX4_leastGives_49 : decode cX4_leastGives 49 = .ok (.getfield 43, 3) := by decide +kernel
theorem dX4_leastGives_52 : decode cX4_leastGives 52 = .ok (.getfield 94, 3) := by decide +kernel
theorem dX4_leastGives_55 : decode cX4_leastGives 55 = .ok (.bipush 6, 2) := by decide +kernel
theorem dX4_leastGives_57 : decode cX4_leastGives 57 = .ok (.iaload, 1) := by decide +kernel
theorem dX4_leastGives_58 : decode cX4_leastGives 58 = .ok (.invokevirtual 97, 3) := by decide +kernel
theorem dX4_leastGives_61 : decode cX4_leastGives 61 = .ok (.ifCond .eq 6, 3) := by decide +kernel
theorem dX4_leastGives_64 : decode cX4_leastGives 64 = .ok (.iload 4, 2) := by decide +kernel
theorem dX4_leastGives_66 : decode cX4_leastGives 66 = .ok (.ireturn, 1) := by decide +kernel
theorem dX4_leastGives_67 : decode cX4_leastGives 67 = .ok (.iinc 4 1, 3) := by decide +kernel
theorem dX4_leastGives_70 : decode cX4_leastGives 70 = .ok (.goto (-55), 3) := by decide +kernel
theorem dX4_leastGives_73 : decode cX4_leastGives 73 = .ok (.iconst (-1), 1) := by decide +kernel
theorem dX4_leastGives_74 : decode cX4_leastGives 74 = .ok (.ireturn, 1) := by decide +kernel
abbrev rm_Outlook_leastGives : Room := { frames := 6, cells := 0, slots := 0, locals := 135 }
def Outlook_leastGives_l15 (σ : Sg) (x3 : Int32) (x4 : Int32) : Option ((Sg × Int32) ⊕ ((Int32 × Sg) ⊕ (Sg × Int32))) :=
  if 999 < x4 then (
    some (.inr (.inr (σ, x4)))
  ) else (
    zgt σ 81 7 fun v24 =>
    if v24 = 0 then (
      some (.inr (.inr (σ, x4)))
    ) else (
      (Outlook_lookAgain σ).bind fun r31 =>
      zpt r31 82 1 x4 fun σ40 =>
      zmr1 55 (σ40 81 4) <|
      zrd σ40 64 7 6 fun v57 =>
      (Outlook_staysWithin σ40 x3 v57).bind fun r58 =>
      if (zb r58.1) = 0 then (
        zlt (x4 + 1) fun v67 =>
        some (.inl (r58.2, v67))
      ) else (
        some (.inr (.inl (x4, r58.2)))
      )
    )
  )
set_option maxRecDepth 20000 in
theorem t_Outlook_leastGives_l15 {X : Zx} {Q : State → Prop} {σ : Sg} {x3 : Int32} {x4 : Int32} (ok : Zok X cX4_leastGives RX4 rm_Outlook_leastGives 198 5)  {out : ((Sg × Int32) ⊕ ((Int32 × Sg) ⊕ (Sg × Int32)))} (hf : Outlook_leastGives_l15 σ x3 x4 = some out) (hk : zout (fun (s : (Sg × Int32)) => ZAt X Q 0 0 15 s.1 [(0, .ref (X.ad 81)), (3, .int x3), (4, .int s.2)] []) (zout (fun (r : (Int32 × Sg)) => ZrI cX4_leastGives X Q r.1 r.2) (fun (s : (Sg × Int32)) => ZAt X Q 0 0 73 s.1 [] [])) out) : ZAt X Q 0 0 15 σ [(0, .ref (X.ad 81)), (3, .int x3), (4, .int x4)] [] := by
  unfold Outlook_leastGives_l15 at hf
  refine z_iload ok dX4_leastGives_15 2 rfl ?_
  refine z_sipush (v := 999) ok dX4_leastGives_17 (by decide) ?_
  refine z_icmp_gt (tgt := 73) ok dX4_leastGives_20 (by decide) hf (fun _ hf => ?_) (fun _ hf => ?_)
  · obtain rfl := Option.some.inj hf
    exact z_sub [] rfl hk
  · refine z_aload_n ok dX4_leastGives_23 0 rfl ?_
    refine z_geti ok kc_81 zc_4 hin_4 7 (by decide) fl_4_84 rfl dX4_leastGives_24 hf (fun v24 hf => ?_)
    refine z_if_eq (tgt := 73) ok dX4_leastGives_27 (by decide) hf (fun _ hf => ?_) (fun _ hf => ?_)
    · obtain rfl := Option.some.inj hf
      exact z_sub [] rfl hk
    · refine z_aload_n ok dX4_leastGives_30 0 rfl ?_
      refine z_call hf (fun r31 h31 hf => ?_)
      refine z_cVv (As := []) (rest := []) (w := 81) ok kc_81 zc_4 (c_Outlook_lookAgain h31) rfl ⟨ml_4_88, w_Outlook_lookAgain⟩ hy_Outlook_lookAgain ⟨rfl, rfl⟩ ⟨Nat.le_of_ble_eq_true rfl, Nat.le_of_ble_eq_true rfl⟩ ⟨Nat.zero_le _, Nat.zero_le _⟩ rfl (Nat.le_of_ble_eq_true rfl) dX4_leastGives_31 ?_
      refine z_aload_n ok dX4_leastGives_34 0 rfl ?_
      refine z_getr (q := 82) ok kc_81 zc_4 hin_4 0 (by decide) fl_4_12 rfl dX4_leastGives_35 ?_
      refine z_iload ok dX4_leastGives_38 2 rfl ?_
      refine z_puti ok kc_82 zc_9 hin_9 tyX9 tyX9_ok nmX9 1 (by decide) fl_4_91 rfl rfl (tyX9_ok 1 (by decide)) dX4_leastGives_40 hf (fun σ40 hf => ?_)
      refine z_aload_n ok dX4_leastGives_43 0 rfl ?_
      refine z_iload_n ok dX4_leastGives_44 1 rfl ?_
      refine z_aload_n ok dX4_leastGives_45 0 rfl ?_
      refine z_getm1 (p := 55) ok kc_81 zc_4 hin_4 4 (by decide) fl_4_36 rfl (by decide) dX4_leastGives_46 hf (fun hf => ?_)
      refine z_getr (q := 56) ok kc_55 zc_1 hin_1 0 (by decide) fl_4_43 rfl dX4_leastGives_49 ?_
      refine z_getr (q := 64) ok kc_56 zc_9 hin_9 10 (by decide) fl_4_94 rfl dX4_leastGives_52 ?_
      refine z_bipush (v := 6) ok dX4_leastGives_55 (by decide) ?_
      refine z_iald ok kc_64 dX4_leastGives_57 hf (fun v57 hf => ?_)
      refine z_call hf (fun r58 h58 hf => ?_)
      refine z_cV (As := [.int x3, .int v57]) (rest := []) (w := 81) ok kc_81 zc_4 (c_Outlook_staysWithin h58) rfl ⟨ml_4_97, w_Outlook_staysWithin⟩ hy_Outlook_staysWithin ⟨rfl, rfl⟩ ⟨Nat.le_of_ble_eq_true rfl, Nat.le_of_ble_eq_true rfl⟩ ⟨Nat.zero_le _, Nat.zero_le _⟩ rfl (Nat.le_of_ble_eq_true rfl) dX4_leastGives_58 ?_
      refine z_if_eq (tgt := 67) ok dX4_leastGives_61 (by decide) hf (fun _ hf => ?_) (fun _ hf => ?_)
      · refine z_iinc (w := 1) (lv' := fun v67 => [(4, .int v67), (0, .ref (X.ad 81)), (3, .int x3)]) ok dX4_leastGives_67 2 rfl (by decide) (by decide) (fun _ => rfl) hf (fun v67 hf => ?_)
        refine z_goto (tgt := 15) ok dX4_leastGives_70 (by decide) ?_
        obtain rfl := Option.some.inj hf
        exact z_sub [1, 2, 0] rfl hk
      · refine z_iload ok dX4_leastGives_64 2 rfl ?_
        obtain rfl := Option.some.inj hf
        exact hk _ _ dX4_leastGives_66
def Outlook_leastGives (σ : Sg) (p1 : Nat) (p2 : Nat) (x3 : Int32) : Option (Int32 × Sg) :=
  (Outlook_look σ p1 p2 x3).bind fun r4 =>
  zbo 1 <| zpt r4 81 7 1 fun σ9 =>
  zlt 0 fun v13 =>
  (zit (fun (s : (Sg × Int32)) => Outlook_leastGives_l15 s.1 x3 s.2) zFU (σ9, v13)).bind fun r => r.elim (fun r =>
  some r
  ) (fun r =>
  some ((-1), r.1)
  )
set_option maxRecDepth 20000 in
theorem t_Outlook_leastGives {X : Zx} {Q : State → Prop} {σ : Sg} {p1 : Nat} {p2 : Nat} {x3 : Int32} (ok : Zok X cX4_leastGives RX4 rm_Outlook_leastGives 198 5) (hp1 : zI_Works p1 198) (hp2 : zI_Moment p2 198) {out : (Int32 × Sg)} (hf : Outlook_leastGives σ p1 p2 x3 = some out) (hk : ZrI cX4_leastGives X Q out.1 out.2) : ZAt X Q 0 0 0 σ [(0, .ref (X.ad 81)), (1, .ref (X.ad p1)), (2, .ref (X.ad p2)), (3, .int x3)] [] := by
  unfold Outlook_leastGives at hf
  obtain ⟨hp1_0, hp1_1, hp1_2, hp1_3, hp1_4, hp1_5, hp1_6, hp1_7, hp1_8, hp1_9, hp1_10, hp1_11, hp1_12, hp1_13, hp1_14, hp1_15, hp1_16, hp1_17, hp1_18, hp1_19, hp1_20, hp1_21, hp1_22, hp1_23, hp1_24, hp1_25⟩ := id hp1
  obtain ⟨hp2_0, hp2_1, hp2_2, hp2_3, hp2_4, hp2_5, hp2_6, hp2_7, hp2_8, hp2_9, hp2_10, hp2_11, hp2_12, hp2_13, hp2_14, hp2_15, hp2_16, hp2_17, hp2_18, hp2_19, hp2_20, hp2_21, hp2_22, hp2_23, hp2_24⟩ := id hp2
  refine z_aload_n ok dX4_leastGives_0 0 rfl ?_
  refine z_aload_n ok dX4_leastGives_1 1 rfl ?_
  refine z_aload_n ok dX4_leastGives_2 2 rfl ?_
  refine z_iload_n ok dX4_leastGives_3 3 rfl ?_
  refine z_call hf (fun r4 h4 hf => ?_)
  refine z_cVv (As := [.ref (X.ad p1), .ref (X.ad p2), .int x3]) (rest := []) (w := 81) ok kc_81 zc_4 (c_Outlook_look hp1 hp2 h4) rfl ⟨ml_4_72, w_Outlook_look⟩ hy_Outlook_look ⟨rfl, rfl⟩ ⟨Nat.le_of_ble_eq_true rfl, Nat.le_of_ble_eq_true rfl⟩ ⟨Nat.zero_le _, Nat.zero_le _⟩ rfl (Nat.le_of_ble_eq_true rfl) dX4_leastGives_4 ?_
  refine z_aload_n ok dX4_leastGives_7 0 rfl ?_
  refine z_iconst (v := 1) ok dX4_leastGives_8 (by decide) ?_
  refine z_putz ok kc_81 zc_4 hin_4 tyX4 tyX4_ok nmX4 7 (by decide) fl_4_84 rfl rfl (tyX4_ok 7 (by decide)) dX4_leastGives_9 hf (fun σ9 hf => ?_)
  refine z_iconst (v := 0) ok dX4_leastGives_12 (by decide) ?_
  refine z_nm hf (fun v13 hf => ?_)
  refine z_istore (lv' := [(4, .int v13), (0, .ref (X.ad 81)), (1, .ref (X.ad p1)), (2, .ref (X.ad p2)), (3, .int x3)]) ok dX4_leastGives_13 (by decide) rfl ?_
  refine z_call hf (fun r hr hf => ?_)
  refine z_sub [1, 4, 0] rfl (z_iter (fun (s : (Sg × Int32)) => s.1) (fun (s : (Sg × Int32)) => [(0, .ref (X.ad 81)), (3, .int x3), (4, .int s.2)]) (fun s o h1 h2 => t_Outlook_leastGives_l15 ok h1 h2) _ _ _ hr ?_)
  cases r with
  | inl r =>
    obtain rfl := Option.some.inj hf
    exact hk
  | inr r =>
    simp only [Sum.elim_inr] at hf
    show ZAt X Q 0 0 73 r.1 [] []
    refine z_iconst (v := (-1)) ok dX4_leastGives_73 (by decide) ?_
    obtain rfl := Option.some.inj hf
    exact hk _ _ dX4_leastGives_74
theorem c_Outlook_leastGives {σ : Sg} {p1 : Nat} {p2 : Nat} {x3 : Int32} (hp1 : zI_Works p1 198) (hp2 : zI_Moment p2 198) {r : (Int32 × Sg)} (h : Outlook_leastGives σ p1 p2 x3 = some r) : ZcI yX4_leastGives cX4_leastGives 5 .int rm_Outlook_leastGives 198 (fun ad => [.ref (ad 81), .ref (ad p1), .ref (ad p2), .int x3]) σ r.1 r.2 :=
  zmetI pn_4 rfl (fun _ => rfl) (fun _ => Nat.le_of_ble_eq_true rfl) rfl (fun X Q ok hk => t_Outlook_leastGives ok hp1 hp2 h hk)
theorem dX11_least_0 : decode cX11_least 0 = .ok (.aload_n 0, 1) := by decide +kernel
theorem dX11_least_1 : decode cX11_least 1 = .ok (.getfield 23, 3) := by decide +kernel
theorem dX11_least_4 : decode cX11_least 4 = .ok (.getfield 111, 3) := by decide +kernel
theorem dX11_least_7 : decode cX11_least 7 = .ok (.ifCond .eq 14, 3) := by decide +kernel
theorem dX11_least_10 : decode cX11_least 10 = .ok (.iload_n 1, 1) := by decide +kernel
theorem dX11_least_11 : decode cX11_least 11 = .ok (.iconst 1, 1) := by decide +kernel
theorem dX11_least_12 : decode cX11_least 12 = .ok (.if_icmp .lt 9, 3) := by decide +kernel
theorem dX11_least_15 : decode cX11_least 15 = .ok (.iload_n 1, 1) := by decide +kernel
theorem dX11_least_16 : decode cX11_least 16 = .ok (.bipush 60, 2) := by decide +kernel
theorem dX11_least_18 : decode cX11_least 18 = .ok (.if_icmp .le 5, 3) := by decide +kernel
theorem dX11_least_21 : decode cX11_least 21 = .ok (.iconst (-1), 1) := by decide +kernel
theorem dX11_least_22 : decode cX11_least 22 = .ok (.ireturn, 1) := by decide +kernel
theorem dX11_least_23 : decode cX11_least 23 = .ok (.aload_n 0, 1) := by decide +kernel
theorem dX11_least_24 : decode cX11_least 24 = .ok (.getfield 48, 3) := by decide +kernel
theorem dX11_least_27 : decode cX11_least 27 = .ok (.aload_n 0, 1) := by decide +kernel
theorem dX11_least_28 : decode cX11_least 28 = .ok (.getfield 23, 3) := by decide +kernel
theorem dX11_least_31 : decode cX11_least 31 = .ok (.aload_n 0, 1) := by decide +kernel
theorem dX11_least_32 : decode cX11_least 32 = .ok (.getfield 37, 3) := by decide +kernel
theorem dX11_least_35 : decode cX11_least 35 = .ok (.iload_n 1, 1) := by decide +kernel
theorem dX11_least_36 : decode cX11_least 36 = .ok (.invokevirtual 307, 3) := by decide +kernel
theorem dX11_least_39 : decode cX11_least 39 = .ok (.ireturn, 1) := by decide +kernel
abbrev rm_CK_least : Room := { frames := 7, cells := 0, slots := 0, locals := 159 }
def CK_least (σ : Sg) (x1 : Int32) : Option (Int32 × Sg) :=
  zmr2 3 29 (σ 0 3) fun q1 =>
  zgt σ q1 3 fun v4 =>
  if v4 = 0 then (
    some ((-1), σ)
  ) else (
    if x1 < 1 then (
      some ((-1), σ)
    ) else (
      if x1 ≤ 60 then (
        zmr2 3 29 (σ 0 3) fun q28 =>
        (Outlook_leastGives σ q28 55 x1).bind fun r36 =>
        some (r36.1, r36.2)
      ) else (
        some ((-1), σ)
      )
    )
  )
set_option maxRecDepth 20000 in
theorem t_CK_least {X : Zx} {Q : State → Prop} {σ : Sg} {x1 : Int32} (ok : Zok X cX11_least RX11 rm_CK_least 198 2)  {out : (Int32 × Sg)} (hf : CK_least σ x1 = some out) (hk : ZrI cX11_least X Q out.1 out.2) : ZAt X Q 0 0 0 σ [(0, .ref (X.ad 0)), (1, .int x1)] [] := by
  unfold CK_least at hf
  refine z_aload_n ok dX11_least_0 0 rfl ?_
  refine z_getm2 (p := 3) (q := 29) ok kc_0 zc_11 hin_11 3 (by decide) fl_11_23 rfl (by decide) (by decide) dX11_least_1 hf (fun q1 e1 hf => ?_)
  have hq1 : zI_Works q1 198 := by rcases e1 with rfl | rfl; exact kI_Works_3; exact kI_Works_29
  obtain ⟨hq1_0, hq1_1, hq1_2, hq1_3, hq1_4, hq1_5, hq1_6, hq1_7, hq1_8, hq1_9, hq1_10, hq1_11, hq1_12, hq1_13, hq1_14, hq1_15, hq1_16, hq1_17, hq1_18, hq1_19, hq1_20, hq1_21, hq1_22, hq1_23, hq1_24, hq1_25⟩ := id hq1
  refine z_geti ok hq1_0 zc_10 hin_10 3 (by decide) fl_11_111 rfl dX11_least_4 hf (fun v4 hf => ?_)
  refine z_if_eq (tgt := 21) ok dX11_least_7 (by decide) hf (fun _ hf => ?_) (fun _ hf => ?_)
  · refine z_iconst (v := (-1)) ok dX11_least_21 (by decide) ?_
    obtain rfl := Option.some.inj hf
    exact hk _ _ dX11_least_22
  · refine z_iload_n ok dX11_least_10 1 rfl ?_
    refine z_iconst (v := 1) ok dX11_least_11 (by decide) ?_
    refine z_icmp_lt (tgt := 21) ok dX11_least_12 (by decide) hf (fun _ hf => ?_) (fun _ hf => ?_)
    · refine z_iconst (v := (-1)) ok dX11_least_21 (by decide) ?_
      obtain rfl := Option.some.inj hf
      exact hk _ _ dX11_least_22
    · refine z_iload_n ok dX11_least_15 1 rfl ?_
      refine z_bipush (v := 60) ok dX11_least_16 (by decide) ?_
      refine z_icmp_le (tgt := 23) ok dX11_least_18 (by decide) hf (fun _ hf => ?_) (fun _ hf => ?_)
      · refine z_aload_n ok dX11_least_23 0 rfl ?_
        refine z_getr (q := 81) ok kc_0 zc_11 hin_11 12 (by decide) fl_11_48 rfl dX11_least_24 ?_
        refine z_aload_n ok dX11_least_27 0 rfl ?_
        refine z_getm2 (p := 3) (q := 29) ok kc_0 zc_11 hin_11 3 (by decide) fl_11_23 rfl (by decide) (by decide) dX11_least_28 hf (fun q28 e28 hf => ?_)
        have hq28 : zI_Works q28 198 := by rcases e28 with rfl | rfl; exact kI_Works_3; exact kI_Works_29
        obtain ⟨hq28_0, hq28_1, hq28_2, hq28_3, hq28_4, hq28_5, hq28_6, hq28_7, hq28_8, hq28_9, hq28_10, hq28_11, hq28_12, hq28_13, hq28_14, hq28_15, hq28_16, hq28_17, hq28_18, hq28_19, hq28_20, hq28_21, hq28_22, hq28_23, hq28_24, hq28_25⟩ := id hq28
        refine z_aload_n ok dX11_least_31 0 rfl ?_
        refine z_getr (q := 55) ok kc_0 zc_11 hin_11 8 (by decide) fl_11_37 rfl dX11_least_32 ?_
        refine z_iload_n ok dX11_least_35 1 rfl ?_
        refine z_call hf (fun r36 h36 hf => ?_)
        refine z_cV (As := [.ref (X.ad q28), .ref (X.ad 55), .int x1]) (rest := []) (w := 81) ok kc_81 zc_4 (c_Outlook_leastGives hq28 kI_Moment_55 h36) rfl ⟨ml_11_307, w_Outlook_leastGives⟩ hy_Outlook_leastGives ⟨rfl, rfl⟩ ⟨Nat.le_of_ble_eq_true rfl, Nat.le_of_ble_eq_true rfl⟩ ⟨Nat.zero_le _, Nat.zero_le _⟩ rfl (Nat.le_of_ble_eq_true rfl) dX11_least_36 ?_
        obtain rfl := Option.some.inj hf
        exact hk _ _ dX11_least_39
      · refine z_iconst (v := (-1)) ok dX11_least_21 (by decide) ?_
        obtain rfl := Option.some.inj hf
        exact hk _ _ dX11_least_22
theorem c_CK_least {σ : Sg} {x1 : Int32} {r : (Int32 × Sg)} (h : CK_least σ x1 = some r) : ZcI yX11_least cX11_least 2 .int rm_CK_least 198 (fun ad => [.ref (ad 0), .int x1]) σ r.1 r.2 :=
  zmetI pn_11 rfl (fun _ => rfl) (fun _ => Nat.le_of_ble_eq_true rfl) rfl (fun X Q ok hk => t_CK_least ok h hk)
theorem dX4_timesOut_0 : decode cX4_timesOut 0 = .ok (.iconst 0, 1) := by decide +kernel
theorem dX4_timesOut_1 : decode cX4_timesOut 1 = .ok (.istore 4, 2) := by decide +kernel
theorem dX4_timesOut_3 : decode cX4_timesOut 3 = .ok (.iconst 0, 1) := by decide +kernel
theorem dX4_timesOut_4 : decode cX4_timesOut 4 = .ok (.istore 5, 2) := by decide +kernel
theorem dX4_timesOut_6 : decode cX4_timesOut 6 = .ok (.iload 5, 2) := by decide +kernel
theorem dX4_timesOut_8 : decode cX4_timesOut 8 = .ok (.iload_n 3, 1) := by decide +kernel
theorem dX4_timesOut_9 : decode cX4_timesOut 9 = .ok (.if_icmp .ge 53, 3) := by decide +kernel
theorem dX4_timesOut_12 : decode cX4_timesOut 12 = .ok (.aload_n 0, 1) := by decide +kernel
theorem dX4_timesOut_13 : decode cX4_timesOut 13 = .ok (.invokevirtual 56, 3) := by decide +kernel
theorem dX4_timesOut_16 : decode cX4_timesOut 16 = .ok (.iload_n 1, 1) := by decide +kernel
theorem dX4_timesOut_17 : decode cX4_timesOut 17 = .ok (.istore 6, 2) := by decide +kernel
theorem dX4_timesOut_19 : decode cX4_timesOut 19 = .ok (.iload 6, 2) := by decide +kernel
theorem dX4_timesOut_21 : decode cX4_timesOut 21 = .ok (.iload_n 2, 1) := by decide +kernel
theorem dX4_timesOut_22 : decode cX4_timesOut 22 = .ok (.if_icmp .ge 34, 3) := by decide +kernel
theorem dX4_timesOut_25 : decode cX4_timesOut 25 = .ok (.aload_n 0, 1) := by decide +kernel
theorem dX4_timesOut_26 : decode cX4_timesOut 26 = .ok (.getfield 32, 3) := by decide +kernel
theorem dX4_timesOut_29 : decode cX4_timesOut 29 = .ok (.iload 6, 2) := by decide +kernel
theorem dX4_timesOut_31 : decode cX4_timesOut 31 = .ok (.aload_n 0, 1) := by decide +kernel
theorem dX4_timesOut_32 : decode cX4_timesOut 32 = .ok (.getfield 12, 3) := by decide +kernel
theorem dX4_timesOut_35 : decode cX4_timesOut 35 = .ok (.getfield 76, 3) := by decide +kernel
theorem dX4_timesOut_38 : decode cX4_timesOut 38 = .ok (.iload 6, 2) := by decide +kernel
theorem dX4_timesOut_40 : decode cX4_timesOut 40 = .ok (.iaload, 1) := by decide +kernel
theorem dX4_timesOut_41 : decode cX4_timesOut 41 = .ok (.invokevirtual 80, 3) := by decide +kernel
theorem dX4_timesOut_44 : decode cX4_timesOut 44 = .ok (.ifCond .eq 6, 3) := by decide +kernel
theorem dX4_timesOut_47 : decode cX4_timesOut 47 = .ok (.iinc 4 1, 3) := by decide +kernel
theorem dX4_timesOut_50 : decode cX4_timesOut 50 = .ok (.iinc 6 1, 3) := by decide +kernel
theorem dX4_timesOut_53 : decode cX4_timesOut 53 = .ok (.goto (-34), 3) := by decide +kernel
theorem dX4_timesOut_56 : decode cX4_timesOut 56 = .ok (.iinc 5 1, 3) := by decide +kernel
theorem dX4_timesOut_59 : decode cX4_timesOut 59 = .ok (.goto (-53), 3) := by decide +kernel
theorem dX4_timesOut_62 : decode cX4_timesOut 62 = .ok (.iload 4, 2) := by decide +kernel
theorem dX4_timesOut_64 : decode cX4_timesOut 64 = .ok (.ireturn, 1) := by decide +kernel
abbrev rm_Outlook_timesOut : Room := { frames := 5, cells := 0, slots := 0, locals := 112 }
def Outlook_timesOut_l19 (σ : Sg) (x1 : Int32) (x2 : Int32) (x3 : Int32) (x4 : Int32) (x5 : Int32) (x6 : Int32) : Option ((Int32 × Int32) ⊕ (Int32 × Int32)) :=
  if x2 ≤ x6 then (
    some (.inr (x4, x6))
  ) else (
    zmr2 3 29 (σ 81 3) fun q26 =>
    zrd σ 83 8 x6 fun v40 =>
    (Works_bandOf σ q26 x6 v40).bind fun r41 =>
    if r41 = 0 then (
      zlt (x6 + 1) fun v50 =>
      some (.inl (x4, v50))
    ) else (
      zlt (x4 + 1) fun v47 =>
      zlt (x6 + 1) fun v50 =>
      some (.inl (v47, v50))
    )
  )
set_option maxRecDepth 20000 in
theorem t_Outlook_timesOut_l19 {X : Zx} {Q : State → Prop} {σ : Sg} {x1 : Int32} {x2 : Int32} {x3 : Int32} {x4 : Int32} {x5 : Int32} {x6 : Int32} (ok : Zok X cX4_timesOut RX4 rm_Outlook_timesOut 198 7)  {out : ((Int32 × Int32) ⊕ (Int32 × Int32))} (hf : Outlook_timesOut_l19 σ x1 x2 x3 x4 x5 x6 = some out) (hk : zout (fun (s : (Int32 × Int32)) => ZAt X Q 0 0 19 σ [(0, .ref (X.ad 81)), (1, .int x1), (2, .int x2), (3, .int x3), (4, .int s.1), (5, .int x5), (6, .int s.2)] []) (fun (s : (Int32 × Int32)) => ZAt X Q 0 0 56 σ [(0, .ref (X.ad 81)), (1, .int x1), (2, .int x2), (3, .int x3), (4, .int s.1), (5, .int x5)] []) out) : ZAt X Q 0 0 19 σ [(0, .ref (X.ad 81)), (1, .int x1), (2, .int x2), (3, .int x3), (4, .int x4), (5, .int x5), (6, .int x6)] [] := by
  unfold Outlook_timesOut_l19 at hf
  refine z_iload ok dX4_timesOut_19 6 rfl ?_
  refine z_iload_n ok dX4_timesOut_21 2 rfl ?_
  refine z_icmp_ge (tgt := 56) ok dX4_timesOut_22 (by decide) hf (fun _ hf => ?_) (fun _ hf => ?_)
  · obtain rfl := Option.some.inj hf
    exact z_sub [0, 1, 2, 3, 4, 5] rfl hk
  · refine z_aload_n ok dX4_timesOut_25 0 rfl ?_
    refine z_getm2 (p := 3) (q := 29) ok kc_81 zc_4 hin_4 3 (by decide) fl_4_32 rfl (by decide) (by decide) dX4_timesOut_26 hf (fun q26 e26 hf => ?_)
    have hq26 : zI_Works q26 198 := by rcases e26 with rfl | rfl; exact kI_Works_3; exact kI_Works_29
    obtain ⟨hq26_0, hq26_1, hq26_2, hq26_3, hq26_4, hq26_5, hq26_6, hq26_7, hq26_8, hq26_9, hq26_10, hq26_11, hq26_12, hq26_13, hq26_14, hq26_15, hq26_16, hq26_17, hq26_18, hq26_19, hq26_20, hq26_21, hq26_22, hq26_23, hq26_24, hq26_25⟩ := id hq26
    refine z_iload ok dX4_timesOut_29 6 rfl ?_
    refine z_aload_n ok dX4_timesOut_31 0 rfl ?_
    refine z_getr (q := 82) ok kc_81 zc_4 hin_4 0 (by decide) fl_4_12 rfl dX4_timesOut_32 ?_
    refine z_getr (q := 83) ok kc_82 zc_9 hin_9 3 (by decide) fl_4_76 rfl dX4_timesOut_35 ?_
    refine z_iload ok dX4_timesOut_38 6 rfl ?_
    refine z_iald ok kc_83 dX4_timesOut_40 hf (fun v40 hf => ?_)
    refine z_call hf (fun r41 h41 hf => ?_)
    refine z_cV (As := [.int x6, .int v40]) (rest := []) (w := q26) ok hq26_0 zc_10 (c_Works_bandOf hq26 h41) rfl ⟨ml_4_80, w_Works_bandOf⟩ hy_Works_bandOf ⟨rfl, rfl⟩ ⟨Nat.le_of_ble_eq_true rfl, Nat.le_of_ble_eq_true rfl⟩ ⟨Nat.zero_le _, Nat.zero_le _⟩ rfl (Nat.le_of_ble_eq_true rfl) dX4_timesOut_41 ?_
    refine z_if_eq (tgt := 50) ok dX4_timesOut_44 (by decide) hf (fun _ hf => ?_) (fun _ hf => ?_)
    · refine z_iinc (w := 1) (lv' := fun v50 => [(6, .int v50), (0, .ref (X.ad 81)), (1, .int x1), (2, .int x2), (3, .int x3), (4, .int x4), (5, .int x5)]) ok dX4_timesOut_50 6 rfl (by decide) (by decide) (fun _ => rfl) hf (fun v50 hf => ?_)
      refine z_goto (tgt := 19) ok dX4_timesOut_53 (by decide) ?_
      obtain rfl := Option.some.inj hf
      exact z_sub [1, 2, 3, 4, 5, 6, 0] rfl hk
    · refine z_iinc (w := 1) (lv' := fun v47 => [(4, .int v47), (0, .ref (X.ad 81)), (1, .int x1), (2, .int x2), (3, .int x3), (5, .int x5), (6, .int x6)]) ok dX4_timesOut_47 4 rfl (by decide) (by decide) (fun _ => rfl) hf (fun v47 hf => ?_)
      refine z_iinc (w := 1) (lv' := fun v50 => [(6, .int v50), (4, .int v47), (0, .ref (X.ad 81)), (1, .int x1), (2, .int x2), (3, .int x3), (5, .int x5)]) ok dX4_timesOut_50 6 rfl (by decide) (by decide) (fun _ => rfl) hf (fun v50 hf => ?_)
      refine z_goto (tgt := 19) ok dX4_timesOut_53 (by decide) ?_
      obtain rfl := Option.some.inj hf
      exact z_sub [2, 3, 4, 5, 1, 6, 0] rfl hk
def Outlook_timesOut_l6 (σ : Sg) (x1 : Int32) (x2 : Int32) (x3 : Int32) (x4 : Int32) (x5 : Int32) : Option ((Sg × Int32 × Int32) ⊕ (Sg × Int32 × Int32)) :=
  if x3 ≤ x5 then (
    some (.inr (σ, x4, x5))
  ) else (
    (Outlook_runOne σ).bind fun r13 =>
    (zit (fun (s : (Int32 × Int32)) => Outlook_timesOut_l19 r13 x1 x2 x3 s.1 x5 s.2) zFU (x4, x1)).bind fun r =>
    zlt (x5 + 1) fun v56 =>
    some (.inl (r13, r.1, v56))
  )
set_option maxRecDepth 20000 in
theorem t_Outlook_timesOut_l6 {X : Zx} {Q : State → Prop} {σ : Sg} {x1 : Int32} {x2 : Int32} {x3 : Int32} {x4 : Int32} {x5 : Int32} (ok : Zok X cX4_timesOut RX4 rm_Outlook_timesOut 198 7)  {out : ((Sg × Int32 × Int32) ⊕ (Sg × Int32 × Int32))} (hf : Outlook_timesOut_l6 σ x1 x2 x3 x4 x5 = some out) (hk : zout (fun (s : (Sg × Int32 × Int32)) => ZAt X Q 0 0 6 s.1 [(0, .ref (X.ad 81)), (1, .int x1), (2, .int x2), (3, .int x3), (4, .int s.2.1), (5, .int s.2.2)] []) (fun (s : (Sg × Int32 × Int32)) => ZAt X Q 0 0 62 s.1 [(4, .int s.2.1)] []) out) : ZAt X Q 0 0 6 σ [(0, .ref (X.ad 81)), (1, .int x1), (2, .int x2), (3, .int x3), (4, .int x4), (5, .int x5)] [] := by
  unfold Outlook_timesOut_l6 at hf
  refine z_iload ok dX4_timesOut_6 5 rfl ?_
  refine z_iload_n ok dX4_timesOut_8 3 rfl ?_
  refine z_icmp_ge (tgt := 62) ok dX4_timesOut_9 (by decide) hf (fun _ hf => ?_) (fun _ hf => ?_)
  · obtain rfl := Option.some.inj hf
    exact z_sub [4] rfl hk
  · refine z_aload_n ok dX4_timesOut_12 0 rfl ?_
    refine z_call hf (fun r13 h13 hf => ?_)
    refine z_cVv (As := []) (rest := []) (w := 81) ok kc_81 zc_4 (c_Outlook_runOne h13) rfl ⟨ml_4_56, w_Outlook_runOne⟩ hy_Outlook_runOne ⟨rfl, rfl⟩ ⟨Nat.le_of_ble_eq_true rfl, Nat.le_of_ble_eq_true rfl⟩ ⟨Nat.zero_le _, Nat.zero_le _⟩ rfl (Nat.le_of_ble_eq_true rfl) dX4_timesOut_13 ?_
    refine z_iload_n ok dX4_timesOut_16 1 rfl ?_
    refine z_istore (lv' := [(6, .int x1), (0, .ref (X.ad 81)), (1, .int x1), (2, .int x2), (3, .int x3), (4, .int x4), (5, .int x5)]) ok dX4_timesOut_17 (by decide) rfl ?_
    refine z_call hf (fun r hr hf => ?_)
    refine z_sub [1, 2, 3, 4, 5, 6, 0] rfl (z_iter (fun (s : (Int32 × Int32)) => r13) (fun (s : (Int32 × Int32)) => [(0, .ref (X.ad 81)), (1, .int x1), (2, .int x2), (3, .int x3), (4, .int s.1), (5, .int x5), (6, .int s.2)]) (fun s o h1 h2 => t_Outlook_timesOut_l19 ok h1 h2) _ _ _ hr ?_)
    show ZAt X Q 0 0 56 r13 [(0, .ref (X.ad 81)), (1, .int x1), (2, .int x2), (3, .int x3), (4, .int r.1), (5, .int x5)] []
    refine z_iinc (w := 1) (lv' := fun v56 => [(5, .int v56), (0, .ref (X.ad 81)), (1, .int x1), (2, .int x2), (3, .int x3), (4, .int r.1)]) ok dX4_timesOut_56 5 rfl (by decide) (by decide) (fun _ => rfl) hf (fun v56 hf => ?_)
    refine z_goto (tgt := 6) ok dX4_timesOut_59 (by decide) ?_
    obtain rfl := Option.some.inj hf
    exact z_sub [1, 2, 3, 4, 5, 0] rfl hk
def Outlook_timesOut (σ : Sg) (x1 : Int32) (x2 : Int32) (x3 : Int32) : Option (Int32 × Sg) :=
  zlt 0 fun v1 =>
  zlt 0 fun v4 =>
  (zit (fun (s : (Sg × Int32 × Int32)) => Outlook_timesOut_l6 s.1 x1 x2 x3 s.2.1 s.2.2) zFU (σ, v1, v4)).bind fun r =>
  some (r.2.1, r.1)
set_option maxRecDepth 20000 in
theorem t_Outlook_timesOut {X : Zx} {Q : State → Prop} {σ : Sg} {x1 : Int32} {x2 : Int32} {x3 : Int32} (ok : Zok X cX4_timesOut RX4 rm_Outlook_timesOut 198 7)  {out : (Int32 × Sg)} (hf : Outlook_timesOut σ x1 x2 x3 = some out) (hk : ZrI cX4_timesOut X Q out.1 out.2) : ZAt X Q 0 0 0 σ [(0, .ref (X.ad 81)), (1, .int x1), (2, .int x2), (3, .int x3)] [] := by
  unfold Outlook_timesOut at hf
  refine z_iconst (v := 0) ok dX4_timesOut_0 (by decide) ?_
  refine z_nm hf (fun v1 hf => ?_)
  refine z_istore (lv' := [(4, .int v1), (0, .ref (X.ad 81)), (1, .int x1), (2, .int x2), (3, .int x3)]) ok dX4_timesOut_1 (by decide) rfl ?_
  refine z_iconst (v := 0) ok dX4_timesOut_3 (by decide) ?_
  refine z_nm hf (fun v4 hf => ?_)
  refine z_istore (lv' := [(5, .int v4), (4, .int v1), (0, .ref (X.ad 81)), (1, .int x1), (2, .int x2), (3, .int x3)]) ok dX4_timesOut_4 (by decide) rfl ?_
  refine z_call hf (fun r hr hf => ?_)
  refine z_sub [2, 3, 4, 5, 1, 0] rfl (z_iter (fun (s : (Sg × Int32 × Int32)) => s.1) (fun (s : (Sg × Int32 × Int32)) => [(0, .ref (X.ad 81)), (1, .int x1), (2, .int x2), (3, .int x3), (4, .int s.2.1), (5, .int s.2.2)]) (fun s o h1 h2 => t_Outlook_timesOut_l6 ok h1 h2) _ _ _ hr ?_)
  show ZAt X Q 0 0 62 r.1 [(4, .int r.2.1)] []
  refine z_iload ok dX4_timesOut_62 0 rfl ?_
  obtain rfl := Option.some.inj hf
  exact hk _ _ dX4_timesOut_64
theorem c_Outlook_timesOut {σ : Sg} {x1 : Int32} {x2 : Int32} {x3 : Int32} {r : (Int32 × Sg)} (h : Outlook_timesOut σ x1 x2 x3 = some r) : ZcI yX4_timesOut cX4_timesOut 7 .int rm_Outlook_timesOut 198 (fun ad => [.ref (ad 81), .int x1, .int x2, .int x3]) σ r.1 r.2 :=
  zmetI pn_4 rfl (fun _ => rfl) (fun _ => Nat.le_of_ble_eq_true rfl) rfl (fun X Q ok hk => t_Outlook_timesOut ok h hk)
theorem dX4_weigh_0 : decode cX4_weigh 0 = .ok (.iload_n 2, 1) := by decide +kernel
theorem dX4_weigh_1 : decode cX4_weigh 1 = .ok (.aload_n 0, 1) := by decide +kernel
theorem dX4_weigh_2 : decode cX4_weigh 2 = .ok (.getfield 114, 3) := by decide +kernel
theorem dX4_weigh_5 : decode cX4_weigh 5 = .ok (.if_icmp .ge 13, 3) := by decide +kernel
theorem dX4_weigh_8 : decode cX4_weigh 8 = .ok (.aload_n 0, 1) := by decide +kernel
theorem dX4_weigh_9 : decode cX4_weigh 9 = .ok (.iload_n 2, 1) := by decide +kernel
theorem dX4_weigh_10 : decode cX4_weigh 10 = .ok (.putfield 114, 3) := by decide +kernel
theorem dX4_weigh_13 : decode cX4_weigh 13 = .ok (.aload_n 0, 1) := by decide +kernel
theorem dX4_weigh_14 : decode cX4_weigh 14 = .ok (.iload_n 1, 1) := by decide +kernel
theorem dX4_weigh_15 : decode cX4_weigh 15 = .ok (.putfield 141, 3) := by decide +kernel
theorem dX4_weigh_18 : decode cX4_weigh 18 = .ok (.return_, 1) := by decide +kernel
abbrev rm_Outlook_weigh : Room := { frames := 0, cells := 0, slots := 0, locals := 0 }
def Outlook_weigh (σ : Sg) (x1 : Int32) (x2 : Int32) : Option Sg :=
  zgt σ 81 6 fun v2 =>
  if v2 ≤ x2 then (
    some σ
  ) else (
    zpt σ 81 6 x2 fun σ10 =>
    zpt σ10 81 5 x1 fun σ15 =>
    some σ15
  )
set_option maxRecDepth 20000 in
theorem t_Outlook_weigh {X : Zx} {Q : State → Prop} {σ : Sg} {x1 : Int32} {x2 : Int32} (ok : Zok X cX4_weigh RX4 rm_Outlook_weigh 198 3)  {out : Sg} (hf : Outlook_weigh σ x1 x2 = some out) (hk : ZrV cX4_weigh X Q out) : ZAt X Q 0 0 0 σ [(0, .ref (X.ad 81)), (1, .int x1), (2, .int x2)] [] := by
  unfold Outlook_weigh at hf
  refine z_iload_n ok dX4_weigh_0 2 rfl ?_
  refine z_aload_n ok dX4_weigh_1 0 rfl ?_
  refine z_geti ok kc_81 zc_4 hin_4 6 (by decide) fl_4_114 rfl dX4_weigh_2 hf (fun v2 hf => ?_)
  refine z_icmp_ge (tgt := 18) ok dX4_weigh_5 (by decide) hf (fun _ hf => ?_) (fun _ hf => ?_)
  · obtain rfl := Option.some.inj hf
    exact hk _ _ dX4_weigh_18
  · refine z_aload_n ok dX4_weigh_8 0 rfl ?_
    refine z_iload_n ok dX4_weigh_9 2 rfl ?_
    refine z_puti ok kc_81 zc_4 hin_4 tyX4 tyX4_ok nmX4 6 (by decide) fl_4_114 rfl rfl (tyX4_ok 6 (by decide)) dX4_weigh_10 hf (fun σ10 hf => ?_)
    refine z_aload_n ok dX4_weigh_13 0 rfl ?_
    refine z_iload_n ok dX4_weigh_14 1 rfl ?_
    refine z_puti ok kc_81 zc_4 hin_4 tyX4 tyX4_ok nmX4 5 (by decide) fl_4_141 rfl rfl (tyX4_ok 5 (by decide)) dX4_weigh_15 hf (fun σ15 hf => ?_)
    obtain rfl := Option.some.inj hf
    exact hk _ _ dX4_weigh_18
theorem c_Outlook_weigh {σ : Sg} {x1 : Int32} {x2 : Int32} {r : Sg} (h : Outlook_weigh σ x1 x2 = some r) : ZcV yX4_weigh cX4_weigh 3 rm_Outlook_weigh 198 (fun ad => [.ref (ad 81), .int x1, .int x2]) σ r :=
  zmetV pn_4 rfl (fun _ => rfl) (fun _ => Nat.le_of_ble_eq_true rfl) (fun X Q ok hk => t_Outlook_weigh ok h hk)
theorem dX4_chooseGain_0 : decode cX4_chooseGain 0 = .ok (.aload_n 0, 1) := by decide +kernel
theorem dX4_chooseGain_1 : decode cX4_chooseGain 1 = .ok (.aload_n 1, 1) := by decide +kernel
theorem dX4_chooseGain_2 : decode cX4_chooseGain 2 = .ok (.aload_n 2, 1) := by decide +kernel
theorem dX4_chooseGain_3 : decode cX4_chooseGain 3 = .ok (.iload_n 3, 1) := by decide +kernel
theorem dX4_chooseGain_4 : decode cX4_chooseGain 4 = .ok (.invokevirtual 72, 3) := by decide +kernel
theorem dX4_chooseGain_7 : decode cX4_chooseGain 7 = .ok (.aload_n 0, 1) := by decide +kernel
theorem dX4_chooseGain_8 : decode cX4_chooseGain 8 = .ok (.ldc 113, 2) := by decide +kernel
theorem dX4_chooseGain_10 : decode cX4_chooseGain 10 = .ok (.putfield 114, 3) := by decide +kernel
theorem dX4_chooseGain_13 : decode cX4_chooseGain 13 = .ok (.iconst 1, 1) := by decide +kernel
theorem dX4_chooseGain_14 : decode cX4_chooseGain 14 = .ok (.istore 4, 2) := by decide +kernel
theorem dX4_chooseGain_16 : decode cX4_chooseGain 16 = .ok (.iload 4, 2) := by decide +kernel
theorem dX4_chooseGain_18 : decode cX4_chooseGain 18 = .ok (.bipush 30, 2) := by decide +kernel
theorem dX4_chooseGain_20 : decode cX4_chooseGain 20 = .ok (.if_icmp .gt 41, 3) := by decide +kernel
theorem dX4_chooseGain_23 : decode cX4_chooseGain 23 = .ok (.aload_n 0, 1) := by decide +kernel
theorem dX4_chooseGain_24 : decode cX4_chooseGain 24 = .ok (.invokevirtual 88, 3) := by decide +kernel
theorem dX4_chooseGain_27 : decode cX4_chooseGain 27 = .ok (.aload_n 0, 1) := by decide +kernel
theorem dX4_chooseGain_28 : decode cX4_chooseGain 28 = .ok (.getfield 12, 3) := by decide +kernel
theorem dX4_chooseGain_31 : decode cX4_chooseGain 31 = .ok (.iload 4, 2) := by decide +kernel
theorem dX4_chooseGain_33 : decode cX4_chooseGain 33 = .ok (.putfield 117, 3) := by decide +kernel
theorem dX4_chooseGain_36 : decode cX4_chooseGain 36 = .ok (.aload_n 0, 1) := by decide +kernel
theorem dX4_chooseGain_37 : decode cX4_chooseGain 37 = .ok (.iload 4, 2) := by decide +kernel
theorem dX4_chooseGain_39 : decode cX4_chooseGain 39 = .ok (.aload_n 0, 1) := by decide +kernel
theorem dX4_chooseGain_40 : decode cX4_chooseGain 40 = .ok (.iconst 0, 1) := by decide +kernel
theorem dX4_chooseGain_41 : decode cX4_chooseGain 41 = .ok (.aload_n 0, 1) := by decide +kernel
theorem dX4_chooseGain_42 : decode cX4_chooseGain 42 = .ok (.getfield 32, 3) := by decide +kernel
theorem dX4_chooseGain_45 : decode cX4_chooseGain 45 = .ok (.getfield 59, 3) := by decide +kernel
theorem dX4_chooseGain_48 : decode cX4_chooseGain 48 = .ok (.iload_n 3, 1) := by decide +kernel
theorem dX4_chooseGain_49 : decode cX4_chooseGain 49 = .ok (.invokevirtual 120, 3) := by decide +kernel
theorem dX4_chooseGain_52 : decode cX4_chooseGain 52 = .ok (.invokevirtual 124, 3) := by decide +kernel
theorem dX4_chooseGain_55 : decode cX4_chooseGain 55 = .ok (.iinc 4 1, 3) := by decide +kernel
theorem dX4_chooseGain_58 : decode cX4_chooseGain 58 = .ok (.goto (-42), 3) := by decide +kernel
theorem dX4_chooseGain_61 : decode cX4_chooseGain 61 = .ok (.return_, 1) := by decide +kernel
abbrev rm_Outlook_chooseGain : Room := { frames := 6, cells := 0, slots := 0, locals := 138 }
def Outlook_chooseGain_l16 (σ : Sg) (x3 : Int32) (x4 : Int32) : Option ((Sg × Int32) ⊕ (Sg × Int32)) :=
  if 30 < x4 then (
    some (.inr (σ, x4))
  ) else (
    (Outlook_lookAgain σ).bind fun r24 =>
    zpt r24 82 2 x4 fun σ33 =>
    zmr2 3 29 (σ33 81 3) fun q42 =>
    zgt σ33 q42 3 fun v45 =>
    (Outlook_timesOut σ33 0 v45 x3).bind fun r49 =>
    (Outlook_weigh r49.2 x4 r49.1).bind fun r52 =>
    zlt (x4 + 1) fun v55 =>
    some (.inl (r52, v55))
  )
set_option maxRecDepth 20000 in
theorem t_Outlook_chooseGain_l16 {X : Zx} {Q : State → Prop} {σ : Sg} {x3 : Int32} {x4 : Int32} (ok : Zok X cX4_chooseGain RX4 rm_Outlook_chooseGain 198 5)  {out : ((Sg × Int32) ⊕ (Sg × Int32))} (hf : Outlook_chooseGain_l16 σ x3 x4 = some out) (hk : zout (fun (s : (Sg × Int32)) => ZAt X Q 0 0 16 s.1 [(0, .ref (X.ad 81)), (3, .int x3), (4, .int s.2)] []) (fun (s : (Sg × Int32)) => ZAt X Q 0 0 61 s.1 [] []) out) : ZAt X Q 0 0 16 σ [(0, .ref (X.ad 81)), (3, .int x3), (4, .int x4)] [] := by
  unfold Outlook_chooseGain_l16 at hf
  refine z_iload ok dX4_chooseGain_16 2 rfl ?_
  refine z_bipush (v := 30) ok dX4_chooseGain_18 (by decide) ?_
  refine z_icmp_gt (tgt := 61) ok dX4_chooseGain_20 (by decide) hf (fun _ hf => ?_) (fun _ hf => ?_)
  · obtain rfl := Option.some.inj hf
    exact z_sub [] rfl hk
  · refine z_aload_n ok dX4_chooseGain_23 0 rfl ?_
    refine z_call hf (fun r24 h24 hf => ?_)
    refine z_cVv (As := []) (rest := []) (w := 81) ok kc_81 zc_4 (c_Outlook_lookAgain h24) rfl ⟨ml_4_88, w_Outlook_lookAgain⟩ hy_Outlook_lookAgain ⟨rfl, rfl⟩ ⟨Nat.le_of_ble_eq_true rfl, Nat.le_of_ble_eq_true rfl⟩ ⟨Nat.zero_le _, Nat.zero_le _⟩ rfl (Nat.le_of_ble_eq_true rfl) dX4_chooseGain_24 ?_
    refine z_aload_n ok dX4_chooseGain_27 0 rfl ?_
    refine z_getr (q := 82) ok kc_81 zc_4 hin_4 0 (by decide) fl_4_12 rfl dX4_chooseGain_28 ?_
    refine z_iload ok dX4_chooseGain_31 2 rfl ?_
    refine z_puti ok kc_82 zc_9 hin_9 tyX9 tyX9_ok nmX9 2 (by decide) fl_4_117 rfl rfl (tyX9_ok 2 (by decide)) dX4_chooseGain_33 hf (fun σ33 hf => ?_)
    refine z_aload_n ok dX4_chooseGain_36 0 rfl ?_
    refine z_iload ok dX4_chooseGain_37 2 rfl ?_
    refine z_aload_n ok dX4_chooseGain_39 0 rfl ?_
    refine z_iconst (v := 0) ok dX4_chooseGain_40 (by decide) ?_
    refine z_aload_n ok dX4_chooseGain_41 0 rfl ?_
    refine z_getm2 (p := 3) (q := 29) ok kc_81 zc_4 hin_4 3 (by decide) fl_4_32 rfl (by decide) (by decide) dX4_chooseGain_42 hf (fun q42 e42 hf => ?_)
    have hq42 : zI_Works q42 198 := by rcases e42 with rfl | rfl; exact kI_Works_3; exact kI_Works_29
    obtain ⟨hq42_0, hq42_1, hq42_2, hq42_3, hq42_4, hq42_5, hq42_6, hq42_7, hq42_8, hq42_9, hq42_10, hq42_11, hq42_12, hq42_13, hq42_14, hq42_15, hq42_16, hq42_17, hq42_18, hq42_19, hq42_20, hq42_21, hq42_22, hq42_23, hq42_24, hq42_25⟩ := id hq42
    refine z_geti ok hq42_0 zc_10 hin_10 3 (by decide) fl_4_59 rfl dX4_chooseGain_45 hf (fun v45 hf => ?_)
    refine z_iload_n ok dX4_chooseGain_48 1 rfl ?_
    refine z_call hf (fun r49 h49 hf => ?_)
    refine z_cV (As := [.int 0, .int v45, .int x3]) (rest := [.int x4, .ref (X.ad 81)]) (w := 81) ok kc_81 zc_4 (c_Outlook_timesOut h49) rfl ⟨ml_4_120, w_Outlook_timesOut⟩ hy_Outlook_timesOut ⟨rfl, rfl⟩ ⟨Nat.le_of_ble_eq_true rfl, Nat.le_of_ble_eq_true rfl⟩ ⟨Nat.zero_le _, Nat.zero_le _⟩ rfl (Nat.le_of_ble_eq_true rfl) dX4_chooseGain_49 ?_
    refine z_call hf (fun r52 h52 hf => ?_)
    refine z_cVv (As := [.int x4, .int r49.1]) (rest := []) (w := 81) ok kc_81 zc_4 (c_Outlook_weigh h52) rfl ⟨ml_4_124, w_Outlook_weigh⟩ hy_Outlook_weigh ⟨rfl, rfl⟩ ⟨Nat.le_of_ble_eq_true rfl, Nat.le_of_ble_eq_true rfl⟩ ⟨Nat.zero_le _, Nat.zero_le _⟩ rfl (Nat.le_of_ble_eq_true rfl) dX4_chooseGain_52 ?_
    refine z_iinc (w := 1) (lv' := fun v55 => [(4, .int v55), (0, .ref (X.ad 81)), (3, .int x3)]) ok dX4_chooseGain_55 2 rfl (by decide) (by decide) (fun _ => rfl) hf (fun v55 hf => ?_)
    refine z_goto (tgt := 16) ok dX4_chooseGain_58 (by decide) ?_
    obtain rfl := Option.some.inj hf
    exact z_sub [1, 2, 0] rfl hk
def Outlook_chooseGain (σ : Sg) (p1 : Nat) (p2 : Nat) (x3 : Int32) : Option Sg :=
  (Outlook_look σ p1 p2 x3).bind fun r4 =>
  zpt r4 81 6 1000000000 fun σ10 =>
  zlt 1 fun v14 =>
  (zit (fun (s : (Sg × Int32)) => Outlook_chooseGain_l16 s.1 x3 s.2) zFU (σ10, v14)).bind fun r =>
  some r.1
set_option maxRecDepth 20000 in
theorem t_Outlook_chooseGain {X : Zx} {Q : State → Prop} {σ : Sg} {p1 : Nat} {p2 : Nat} {x3 : Int32} (ok : Zok X cX4_chooseGain RX4 rm_Outlook_chooseGain 198 5) (hp1 : zI_Works p1 198) (hp2 : zI_Moment p2 198) {out : Sg} (hf : Outlook_chooseGain σ p1 p2 x3 = some out) (hk : ZrV cX4_chooseGain X Q out) : ZAt X Q 0 0 0 σ [(0, .ref (X.ad 81)), (1, .ref (X.ad p1)), (2, .ref (X.ad p2)), (3, .int x3)] [] := by
  unfold Outlook_chooseGain at hf
  obtain ⟨hp1_0, hp1_1, hp1_2, hp1_3, hp1_4, hp1_5, hp1_6, hp1_7, hp1_8, hp1_9, hp1_10, hp1_11, hp1_12, hp1_13, hp1_14, hp1_15, hp1_16, hp1_17, hp1_18, hp1_19, hp1_20, hp1_21, hp1_22, hp1_23, hp1_24, hp1_25⟩ := id hp1
  obtain ⟨hp2_0, hp2_1, hp2_2, hp2_3, hp2_4, hp2_5, hp2_6, hp2_7, hp2_8, hp2_9, hp2_10, hp2_11, hp2_12, hp2_13, hp2_14, hp2_15, hp2_16, hp2_17, hp2_18, hp2_19, hp2_20, hp2_21, hp2_22, hp2_23, hp2_24⟩ := id hp2
  refine z_aload_n ok dX4_chooseGain_0 0 rfl ?_
  refine z_aload_n ok dX4_chooseGain_1 1 rfl ?_
  refine z_aload_n ok dX4_chooseGain_2 2 rfl ?_
  refine z_iload_n ok dX4_chooseGain_3 3 rfl ?_
  refine z_call hf (fun r4 h4 hf => ?_)
  refine z_cVv (As := [.ref (X.ad p1), .ref (X.ad p2), .int x3]) (rest := []) (w := 81) ok kc_81 zc_4 (c_Outlook_look hp1 hp2 h4) rfl ⟨ml_4_72, w_Outlook_look⟩ hy_Outlook_look ⟨rfl, rfl⟩ ⟨Nat.le_of_ble_eq_true rfl, Nat.le_of_ble_eq_true rfl⟩ ⟨Nat.zero_le _, Nat.zero_le _⟩ rfl (Nat.le_of_ble_eq_true rfl) dX4_chooseGain_4 ?_
  refine z_aload_n ok dX4_chooseGain_7 0 rfl ?_
  refine z_ldc (v := 1000000000) ok dX4_chooseGain_8 wc_4_113 ?_
  refine z_puti ok kc_81 zc_4 hin_4 tyX4 tyX4_ok nmX4 6 (by decide) fl_4_114 rfl rfl (tyX4_ok 6 (by decide)) dX4_chooseGain_10 hf (fun σ10 hf => ?_)
  refine z_iconst (v := 1) ok dX4_chooseGain_13 (by decide) ?_
  refine z_nm hf (fun v14 hf => ?_)
  refine z_istore (lv' := [(4, .int v14), (0, .ref (X.ad 81)), (1, .ref (X.ad p1)), (2, .ref (X.ad p2)), (3, .int x3)]) ok dX4_chooseGain_14 (by decide) rfl ?_
  refine z_call hf (fun r hr hf => ?_)
  refine z_sub [1, 4, 0] rfl (z_iter (fun (s : (Sg × Int32)) => s.1) (fun (s : (Sg × Int32)) => [(0, .ref (X.ad 81)), (3, .int x3), (4, .int s.2)]) (fun s o h1 h2 => t_Outlook_chooseGain_l16 ok h1 h2) _ _ _ hr ?_)
  show ZAt X Q 0 0 61 r.1 [] []
  obtain rfl := Option.some.inj hf
  exact hk _ _ dX4_chooseGain_61
theorem c_Outlook_chooseGain {σ : Sg} {p1 : Nat} {p2 : Nat} {x3 : Int32} (hp1 : zI_Works p1 198) (hp2 : zI_Moment p2 198) {r : Sg} (h : Outlook_chooseGain σ p1 p2 x3 = some r) : ZcV yX4_chooseGain cX4_chooseGain 5 rm_Outlook_chooseGain 198 (fun ad => [.ref (ad 81), .ref (ad p1), .ref (ad p2), .int x3]) σ r :=
  zmetV pn_4 rfl (fun _ => rfl) (fun _ => Nat.le_of_ble_eq_true rfl) (fun X Q ok hk => t_Outlook_chooseGain ok hp1 hp2 h hk)
theorem dX11_gain_0 : decode cX11_gain 0 = .ok (.aload_n 0, 1) := by decide +kernel
theorem dX11_gain_1 : decode cX11_gain 1 = .ok (.getfield 23, 3) := by decide +kernel
theorem dX11_gain_4 : decode cX11_gain 4 = .ok (.getfield 111, 3) := by decide +kernel
theorem dX11_gain_7 : decode cX11_gain 7 = .ok (.ifCond .eq 23, 3) := by decide +kernel
theorem dX11_gain_10 : decode cX11_gain 10 = .ok (.iload_n 1, 1) := by decide +kernel
theorem dX11_gain_11 : decode cX11_gain 11 = .ok (.iconst 1, 1) := by decide +kernel
theorem dX11_gain_12 : decode cX11_gain 12 = .ok (.if_icmp .lt 18, 3) := by decide +kernel
theorem dX11_gain_15 : decode cX11_gain 15 = .ok (.iload_n 1, 1) := by decide +kernel
theorem dX11_gain_16 : decode cX11_gain 16 = .ok (.bipush 100, 2) := by decide +kernel
theorem dX11_gain_18 : decode cX11_gain 18 = .ok (.if_icmp .gt 12, 3) := by decide +kernel
theorem dX11_gain_21 : decode cX11_gain 21 = .ok (.iload_n 2, 1) := by decide +kernel
theorem dX11_gain_22 : decode cX11_gain 22 = .ok (.ifCond .lt 8, 3) := by decide +kernel
theorem dX11_gain_25 : decode cX11_gain 25 = .ok (.iload_n 2, 1) := by decide +kernel
theorem dX11_gain_26 : decode cX11_gain 26 = .ok (.iconst 1, 1) := by decide +kernel
theorem dX11_gain_27 : decode cX11_gain 27 = .ok (.if_icmp .le 5, 3) := by decide +kernel
theorem dX11_gain_30 : decode cX11_gain 30 = .ok (.iconst (-1), 1) := by decide +kernel
theorem dX11_gain_31 : decode cX11_gain 31 = .ok (.ireturn, 1) := by decide +kernel
theorem dX11_gain_32 : decode cX11_gain 32 = .ok (.aload_n 0, 1) := by decide +kernel
theorem dX11_gain_33 : decode cX11_gain 33 = .ok (.getfield 48, 3) := by decide +kernel
theorem dX11_gain_36 : decode cX11_gain 36 = .ok (.aload_n 0, 1) := by decide +kernel
theorem dX11_gain_37 : decode cX11_gain 37 = .ok (.getfield 23, 3) := by decide +kernel
theorem dX11_gain_40 : decode cX11_gain 40 = .ok (.aload_n 0, 1) := by decide +kernel
theorem dX11_gain_41 : decode cX11_gain 41 = .ok (.getfield 37, 3) := by decide +kernel
theorem dX11_gain_44 : decode cX11_gain 44 = .ok (.iload_n 1, 1) := by decide +kernel
theorem dX11_gain_45 : decode cX11_gain 45 = .ok (.invokevirtual 311, 3) := by decide +kernel
theorem dX11_gain_48 : decode cX11_gain 48 = .ok (.iload_n 2, 1) := by decide +kernel
theorem dX11_gain_49 : decode cX11_gain 49 = .ok (.ifCond .ne 13, 3) := by decide +kernel
theorem dX11_gain_52 : decode cX11_gain 52 = .ok (.aload_n 0, 1) := by decide +kernel
theorem dX11_gain_53 : decode cX11_gain 53 = .ok (.getfield 48, 3) := by decide +kernel
theorem dX11_gain_56 : decode cX11_gain 56 = .ok (.getfield 314, 3) := by decide +kernel
theorem dX11_gain_59 : decode cX11_gain 59 = .ok (.goto 10, 3) := by decide +kernel
theorem dX11_gain_62 : decode cX11_gain 62 = .ok (.aload_n 0, 1) := by decide +kernel
theorem dX11_gain_63 : decode cX11_gain 63 = .ok (.getfield 48, 3) := by decide +kernel
theorem dX11_gain_66 : decode cX11_gain 66 = .ok (.getfield 317, 3) := by decide +kernel
theorem dX11_gain_69 : decode cX11_gain 69 = .ok (.ireturn, 1) := by decide +kernel
abbrev rm_CK_gain : Room := { frames := 7, cells := 0, slots := 0, locals := 162 }
def CK_gain (σ : Sg) (x1 : Int32) (x2 : Int32) : Option (Int32 × Sg) :=
  zmr2 3 29 (σ 0 3) fun q1 =>
  zgt σ q1 3 fun v4 =>
  if v4 = 0 then (
    some ((-1), σ)
  ) else (
    if x1 < 1 then (
      some ((-1), σ)
    ) else (
      if 100 < x1 then (
        some ((-1), σ)
      ) else (
        if x2 < 0 then (
          some ((-1), σ)
        ) else (
          if x2 ≤ 1 then (
            zmr2 3 29 (σ 0 3) fun q37 =>
            (Outlook_chooseGain σ q37 55 x1).bind fun r45 =>
            if x2 = 0 then (
              zgt r45 81 5 fun v56 =>
              some (v56, r45)
            ) else (
              zgt r45 81 6 fun v66 =>
              some (v66, r45)
            )
          ) else (
            some ((-1), σ)
          )
        )
      )
    )
  )
set_option maxRecDepth 20000 in
theorem t_CK_gain {X : Zx} {Q : State → Prop} {σ : Sg} {x1 : Int32} {x2 : Int32} (ok : Zok X cX11_gain RX11 rm_CK_gain 198 3)  {out : (Int32 × Sg)} (hf : CK_gain σ x1 x2 = some out) (hk : ZrI cX11_gain X Q out.1 out.2) : ZAt X Q 0 0 0 σ [(0, .ref (X.ad 0)), (1, .int x1), (2, .int x2)] [] := by
  unfold CK_gain at hf
  refine z_aload_n ok dX11_gain_0 0 rfl ?_
  refine z_getm2 (p := 3) (q := 29) ok kc_0 zc_11 hin_11 3 (by decide) fl_11_23 rfl (by decide) (by decide) dX11_gain_1 hf (fun q1 e1 hf => ?_)
  have hq1 : zI_Works q1 198 := by rcases e1 with rfl | rfl; exact kI_Works_3; exact kI_Works_29
  obtain ⟨hq1_0, hq1_1, hq1_2, hq1_3, hq1_4, hq1_5, hq1_6, hq1_7, hq1_8, hq1_9, hq1_10, hq1_11, hq1_12, hq1_13, hq1_14, hq1_15, hq1_16, hq1_17, hq1_18, hq1_19, hq1_20, hq1_21, hq1_22, hq1_23, hq1_24, hq1_25⟩ := id hq1
  refine z_geti ok hq1_0 zc_10 hin_10 3 (by decide) fl_11_111 rfl dX11_gain_4 hf (fun v4 hf => ?_)
  refine z_if_eq (tgt := 30) ok dX11_gain_7 (by decide) hf (fun _ hf => ?_) (fun _ hf => ?_)
  · refine z_iconst (v := (-1)) ok dX11_gain_30 (by decide) ?_
    obtain rfl := Option.some.inj hf
    exact hk _ _ dX11_gain_31
  · refine z_iload_n ok dX11_gain_10 1 rfl ?_
    refine z_iconst (v := 1) ok dX11_gain_11 (by decide) ?_
    refine z_icmp_lt (tgt := 30) ok dX11_gain_12 (by decide) hf (fun _ hf => ?_) (fun _ hf => ?_)
    · refine z_iconst (v := (-1)) ok dX11_gain_30 (by decide) ?_
      obtain rfl := Option.some.inj hf
      exact hk _ _ dX11_gain_31
    · refine z_iload_n ok dX11_gain_15 1 rfl ?_
      refine z_bipush (v := 100) ok dX11_gain_16 (by decide) ?_
      refine z_icmp_gt (tgt := 30) ok dX11_gain_18 (by decide) hf (fun _ hf => ?_) (fun _ hf => ?_)
      · refine z_iconst (v := (-1)) ok dX11_gain_30 (by decide) ?_
        obtain rfl := Option.some.inj hf
        exact hk _ _ dX11_gain_31
      · refine z_iload_n ok dX11_gain_21 2 rfl ?_
        refine z_if_lt (tgt := 30) ok dX11_gain_22 (by decide) hf (fun _ hf => ?_) (fun _ hf => ?_)
        · refine z_iconst (v := (-1)) ok dX11_gain_30 (by decide) ?_
          obtain rfl := Option.some.inj hf
          exact hk _ _ dX11_gain_31
        · refine z_iload_n ok dX11_gain_25 2 rfl ?_
          refine z_iconst (v := 1) ok dX11_gain_26 (by decide) ?_
          refine z_icmp_le (tgt := 32) ok dX11_gain_27 (by decide) hf (fun _ hf => ?_) (fun _ hf => ?_)
          · refine z_aload_n ok dX11_gain_32 0 rfl ?_
            refine z_getr (q := 81) ok kc_0 zc_11 hin_11 12 (by decide) fl_11_48 rfl dX11_gain_33 ?_
            refine z_aload_n ok dX11_gain_36 0 rfl ?_
            refine z_getm2 (p := 3) (q := 29) ok kc_0 zc_11 hin_11 3 (by decide) fl_11_23 rfl (by decide) (by decide) dX11_gain_37 hf (fun q37 e37 hf => ?_)
            have hq37 : zI_Works q37 198 := by rcases e37 with rfl | rfl; exact kI_Works_3; exact kI_Works_29
            obtain ⟨hq37_0, hq37_1, hq37_2, hq37_3, hq37_4, hq37_5, hq37_6, hq37_7, hq37_8, hq37_9, hq37_10, hq37_11, hq37_12, hq37_13, hq37_14, hq37_15, hq37_16, hq37_17, hq37_18, hq37_19, hq37_20, hq37_21, hq37_22, hq37_23, hq37_24, hq37_25⟩ := id hq37
            refine z_aload_n ok dX11_gain_40 0 rfl ?_
            refine z_getr (q := 55) ok kc_0 zc_11 hin_11 8 (by decide) fl_11_37 rfl dX11_gain_41 ?_
            refine z_iload_n ok dX11_gain_44 1 rfl ?_
            refine z_call hf (fun r45 h45 hf => ?_)
            refine z_cVv (As := [.ref (X.ad q37), .ref (X.ad 55), .int x1]) (rest := []) (w := 81) ok kc_81 zc_4 (c_Outlook_chooseGain hq37 kI_Moment_55 h45) rfl ⟨ml_11_311, w_Outlook_chooseGain⟩ hy_Outlook_chooseGain ⟨rfl, rfl⟩ ⟨Nat.le_of_ble_eq_true rfl, Nat.le_of_ble_eq_true rfl⟩ ⟨Nat.zero_le _, Nat.zero_le _⟩ rfl (Nat.le_of_ble_eq_true rfl) dX11_gain_45 ?_
            refine z_iload_n ok dX11_gain_48 2 rfl ?_
            refine z_if_ne (tgt := 62) ok dX11_gain_49 (by decide) hf (fun _ hf => ?_) (fun _ hf => ?_)
            · refine z_aload_n ok dX11_gain_52 0 rfl ?_
              refine z_getr (q := 81) ok kc_0 zc_11 hin_11 12 (by decide) fl_11_48 rfl dX11_gain_53 ?_
              refine z_geti ok kc_81 zc_4 hin_4 5 (by decide) fl_11_314 rfl dX11_gain_56 hf (fun v56 hf => ?_)
              refine z_goto (tgt := 69) ok dX11_gain_59 (by decide) ?_
              obtain rfl := Option.some.inj hf
              exact hk _ _ dX11_gain_69
            · refine z_aload_n ok dX11_gain_62 0 rfl ?_
              refine z_getr (q := 81) ok kc_0 zc_11 hin_11 12 (by decide) fl_11_48 rfl dX11_gain_63 ?_
              refine z_geti ok kc_81 zc_4 hin_4 6 (by decide) fl_11_317 rfl dX11_gain_66 hf (fun v66 hf => ?_)
              obtain rfl := Option.some.inj hf
              exact hk _ _ dX11_gain_69
          · refine z_iconst (v := (-1)) ok dX11_gain_30 (by decide) ?_
            obtain rfl := Option.some.inj hf
            exact hk _ _ dX11_gain_31
theorem c_CK_gain {σ : Sg} {x1 : Int32} {x2 : Int32} {r : (Int32 × Sg)} (h : CK_gain σ x1 x2 = some r) : ZcI yX11_gain cX11_gain 3 .int rm_CK_gain 198 (fun ad => [.ref (ad 0), .int x1, .int x2]) σ r.1 r.2 :=
  zmetI pn_11 rfl (fun _ => rfl) (fun _ => Nat.le_of_ble_eq_true rfl) rfl (fun X Q ok hk => t_CK_gain ok h hk)
theorem dX4_chooseHand_0 : decode cX4_chooseHand 0 = .ok (.aload_n 0, 1) := by decide +kernel
theorem dX4_chooseHand_1 : decode cX4_chooseHand 1 = .ok (.aload_n 1, 1) := by decide +kernel
theorem dX4_chooseHand_2 : decode cX4_chooseHand 2 = .ok (.aload_n 2, 1) := by decide +kernel
theorem dX4_chooseHand_3 : decode cX4_chooseHand 3 = .ok (.iload 4, 2) := by decide +kernel
theorem dX4_chooseHand_5 : decode cX4_chooseHand 5 = .ok (.invokevirtual 72, 3) := by decide +kernel
theorem dX4_chooseHand_8 : decode cX4_chooseHand 8 = .ok (.aload_n 0, 1) := by decide +kernel
theorem dX4_chooseHand_9 : decode cX4_chooseHand 9 = .ok (.ldc 113, 2) := by decide +kernel
theorem dX4_chooseHand_11 : decode cX4_chooseHand 11 = .ok (.putfield 114, 3) := by decide +kernel
theorem dX4_chooseHand_14 : decode cX4_chooseHand 14 = .ok (.aload_n 0, 1) := by decide +kernel
theorem dX4_chooseHand_15 : decode cX4_chooseHand 15 = .ok (.getfield 36, 3) := by decide +kernel
theorem dX4_chooseHand_18 : decode cX4_chooseHand 18 = .ok (.getfield 43, 3) := by decide +kernel
theorem dX4_chooseHand_21 : decode cX4_chooseHand 21 = .ok (.getfield 128, 3) := by decide +kernel
theorem dX4_chooseHand_24 : decode cX4_chooseHand 24 = .ok (.iload_n 3, 1) := by decide +kernel
theorem dX4_chooseHand_25 : decode cX4_chooseHand 25 = .ok (.iaload, 1) := by decide +kernel
theorem dX4_chooseHand_26 : decode cX4_chooseHand 26 = .ok (.aload_n 0, 1) := by decide +kernel
theorem dX4_chooseHand_27 : decode cX4_chooseHand 27 = .ok (.getfield 32, 3) := by decide +kernel
theorem dX4_chooseHand_30 : decode cX4_chooseHand 30 = .ok (.getfield 129, 3) := by decide +kernel
theorem dX4_chooseHand_33 : decode cX4_chooseHand 33 = .ok (.bipush 7, 2) := by decide +kernel
theorem dX4_chooseHand_35 : decode cX4_chooseHand 35 = .ok (.aaload, 1) := by decide +kernel
theorem dX4_chooseHand_36 : decode cX4_chooseHand 36 = .ok (.iload_n 3, 1) := by decide +kernel
theorem dX4_chooseHand_37 : decode cX4_chooseHand 37 = .ok (.iaload, 1) := by decide +kernel
theorem dX4_chooseHand_38 : decode cX4_chooseHand 38 = .ok (.iload 4, 2) := by decide +kernel
theorem dX4_chooseHand_40 : decode cX4_chooseHand 40 = .ok (.imul, 1) := by decide +kernel
theorem dX4_chooseHand_41 : decode cX4_chooseHand 41 = .ok (.iadd, 1) := by decide +kernel
theorem dX4_chooseHand_42 : decode cX4_chooseHand 42 = .ok (.istore 5, 2) := by decide +kernel
theorem dX4_chooseHand_44 : decode cX4_chooseHand 44 = .ok (.iconst 0, 1) := by decide +kernel
theorem dX4_chooseHand_45 : decode cX4_chooseHand 45 = .ok (.istore 6, 2) := by decide +kernel
theorem dX4_chooseHand_47 : decode cX4_chooseHand 47 = .ok (.iload 6, 2) := by decide +kernel
theorem dX4_chooseHand_49 : decode cX4_chooseHand 49 = .ok (.aload_n 0, 1) := by decide +kernel
theorem dX4_chooseHand_50 : decode cX4_chooseHand 50 = .ok (.getfield 32, 3) := by decide +kernel
theorem dX4_chooseHand_53 : decode cX4_chooseHand 53 = .ok (.getfield 129, 3) := by decide +kernel
theorem dX4_chooseHand_56 : decode cX4_chooseHand 56 = .ok (.bipush 6, 2) := by decide +kernel
theorem dX4_chooseHand_58 : decode cX4_chooseHand 58 = .ok (.aaload, 1) := by decide +kernel
theorem dX4_chooseHand_59 : decode cX4_chooseHand 59 = .ok (.iload_n 3, 1) := by decide +kernel
theorem dX4_chooseHand_60 : decode cX4_chooseHand 60 = .ok (.iaload, 1) := by decide +kernel
theorem dX4_chooseHand_61 : decode cX4_chooseHand 61 = .ok (.iload 5, 2) := by decide +kernel
theorem dX4_chooseHand_63 : decode cX4_chooseHand 63 = .ok (.invokestatic 133, 3) := by decide +kernel
theorem dX4_chooseHand_66 : decode cX4_chooseHand 66 = .ok (.if_icmp .gt 40, 3) := by decide +kernel
theorem dX4_chooseHand_69 : decode cX4_chooseHand 69 = .ok (.aload_n 0, 1) := by decide +kernel
theorem dX4_chooseHand_70 : decode cX4_chooseHand 70 = .ok (.invokevirtual 88, 3) := by decide +kernel
theorem dX4_chooseHand_73 : decode cX4_chooseHand 73 = .ok (.aload_n 0, 1) := by decide +kernel
theorem dX4_chooseHand_74 : decode cX4_chooseHand 74 = .ok (.getfield 12, 3) := by decide +kernel
theorem dX4_chooseHand_77 : decode cX4_chooseHand 77 = .ok (.getfield 138, 3) := by decide +kernel
theorem dX4_chooseHand_80 : decode cX4_chooseHand 80 = .ok (.iload_n 3, 1) := by decide +kernel
theorem dX4_chooseHand_81 : decode cX4_chooseHand 81 = .ok (.iload 6, 2) := by decide +kernel
theorem dX4_chooseHand_83 : decode cX4_chooseHand 83 = .ok (.iastore, 1) := by decide +kernel
theorem dX4_chooseHand_84 : decode cX4_chooseHand 84 = .ok (.aload_n 0, 1) := by decide +kernel
theorem dX4_chooseHand_85 : decode cX4_chooseHand 85 = .ok (.iload 6, 2) := by decide +kernel
theorem dX4_chooseHand_87 : decode cX4_chooseHand 87 = .ok (.aload_n 0, 1) := by decide +kernel
theorem dX4_chooseHand_88 : decode cX4_chooseHand 88 = .ok (.iload_n 3, 1) := by decide +kernel
theorem dX4_chooseHand_89 : decode cX4_chooseHand 89 = .ok (.iload_n 3, 1) := by decide +kernel
theorem dX4_chooseHand_90 : decode cX4_chooseHand 90 = .ok (.iconst 1, 1) := by decide +kernel
theorem dX4_chooseHand_91 : decode cX4_chooseHand 91 = .ok (.iadd, 1) := by decide +kernel
theorem dX4_chooseHand_92 : decode cX4_chooseHand 92 = .ok (.iload 4, 2) := by decide +kernel
theorem dX4_chooseHand_94 : decode cX4_chooseHand 94 = .ok (.invokevirtual 120, 3) := by decide +kernel
theorem dX4_chooseHand_97 : decode cX4_chooseHand 97 = .ok (.invokevirtual 124, 3) := by decide +kernel
theorem dX4_chooseHand_100 : decode cX4_chooseHand 100 = .ok (.iinc 6 1, 3) := by decide +kernel
theorem dX4_chooseHand_103 : decode cX4_chooseHand 103 = .ok (.goto (-56), 3) := by decide +kernel
theorem dX4_chooseHand_106 : decode cX4_chooseHand 106 = .ok (.return_, 1) := by decide +kernel
abbrev rm_Outlook_chooseHand : Room := { frames := 6, cells := 0, slots := 0, locals := 138 }
def Outlook_chooseHand_l47 (σ : Sg) (x3 : Int32) (x4 : Int32) (x5 : Int32) (x6 : Int32) : Option ((Sg × Int32) ⊕ (Sg × Int32)) :=
  zmr2 3 29 (σ 81 3) fun q50 =>
  zrd σ (q50 + 9) 8 x3 fun v60 =>
  if (if x5 < v60 then x5 else v60) < x6 then (
    some (.inr (σ, x6))
  ) else (
    (Outlook_lookAgain σ).bind fun r70 =>
    zwr r70 86 8 x3 x6 fun σ83 =>
    (Outlook_timesOut σ83 x3 (x3 + 1) x4).bind fun r94 =>
    (Outlook_weigh r94.2 x6 r94.1).bind fun r97 =>
    zlt (x6 + 1) fun v100 =>
    some (.inl (r97, v100))
  )
set_option maxRecDepth 20000 in
theorem t_Outlook_chooseHand_l47 {X : Zx} {Q : State → Prop} {σ : Sg} {x3 : Int32} {x4 : Int32} {x5 : Int32} {x6 : Int32} (ok : Zok X cX4_chooseHand RX4 rm_Outlook_chooseHand 198 7)  {out : ((Sg × Int32) ⊕ (Sg × Int32))} (hf : Outlook_chooseHand_l47 σ x3 x4 x5 x6 = some out) (hk : zout (fun (s : (Sg × Int32)) => ZAt X Q 0 0 47 s.1 [(0, .ref (X.ad 81)), (3, .int x3), (4, .int x4), (5, .int x5), (6, .int s.2)] []) (fun (s : (Sg × Int32)) => ZAt X Q 0 0 106 s.1 [] []) out) : ZAt X Q 0 0 47 σ [(0, .ref (X.ad 81)), (3, .int x3), (4, .int x4), (5, .int x5), (6, .int x6)] [] := by
  unfold Outlook_chooseHand_l47 at hf
  refine z_iload ok dX4_chooseHand_47 4 rfl ?_
  refine z_aload_n ok dX4_chooseHand_49 0 rfl ?_
  refine z_getm2 (p := 3) (q := 29) ok kc_81 zc_4 hin_4 3 (by decide) fl_4_32 rfl (by decide) (by decide) dX4_chooseHand_50 hf (fun q50 e50 hf => ?_)
  have hq50 : zI_Works q50 198 := by rcases e50 with rfl | rfl; exact kI_Works_3; exact kI_Works_29
  obtain ⟨hq50_0, hq50_1, hq50_2, hq50_3, hq50_4, hq50_5, hq50_6, hq50_7, hq50_8, hq50_9, hq50_10, hq50_11, hq50_12, hq50_13, hq50_14, hq50_15, hq50_16, hq50_17, hq50_18, hq50_19, hq50_20, hq50_21, hq50_22, hq50_23, hq50_24, hq50_25⟩ := id hq50
  refine z_getr (q := (q50 + 2)) ok hq50_0 zc_10 hin_10 5 (by decide) fl_4_129 rfl dX4_chooseHand_53 ?_
  refine z_bipush (v := 6) ok dX4_chooseHand_56 (by decide) ?_
  refine z_aaldc (q := (q50 + 9)) ok hq50_2 (by decide) rfl (by decide) rfl dX4_chooseHand_58 ?_
  refine z_iload_n ok dX4_chooseHand_59 1 rfl ?_
  refine z_iald ok hq50_9 dX4_chooseHand_60 hf (fun v60 hf => ?_)
  refine z_iload ok dX4_chooseHand_61 3 rfl ?_
  refine z_mmin ok ml_4_133 (Nat.le_of_ble_eq_true rfl) (Nat.le_of_ble_eq_true rfl) ⟨Nat.zero_le _, Nat.zero_le _⟩ dX4_chooseHand_63 ?_
  refine z_icmp_gt (tgt := 106) ok dX4_chooseHand_66 (by decide) hf (fun _ hf => ?_) (fun _ hf => ?_)
  · obtain rfl := Option.some.inj hf
    exact z_sub [] rfl hk
  · refine z_aload_n ok dX4_chooseHand_69 0 rfl ?_
    refine z_call hf (fun r70 h70 hf => ?_)
    refine z_cVv (As := []) (rest := []) (w := 81) ok kc_81 zc_4 (c_Outlook_lookAgain h70) rfl ⟨ml_4_88, w_Outlook_lookAgain⟩ hy_Outlook_lookAgain ⟨rfl, rfl⟩ ⟨Nat.le_of_ble_eq_true rfl, Nat.le_of_ble_eq_true rfl⟩ ⟨Nat.zero_le _, Nat.zero_le _⟩ rfl (Nat.le_of_ble_eq_true rfl) dX4_chooseHand_70 ?_
    refine z_aload_n ok dX4_chooseHand_73 0 rfl ?_
    refine z_getr (q := 82) ok kc_81 zc_4 hin_4 0 (by decide) fl_4_12 rfl dX4_chooseHand_74 ?_
    refine z_getr (q := 86) ok kc_82 zc_9 hin_9 6 (by decide) fl_4_138 rfl dX4_chooseHand_77 ?_
    refine z_iload_n ok dX4_chooseHand_80 1 rfl ?_
    refine z_iload ok dX4_chooseHand_81 4 rfl ?_
    refine z_iast ok kc_86 dX4_chooseHand_83 hf (fun σ83 hf => ?_)
    refine z_aload_n ok dX4_chooseHand_84 0 rfl ?_
    refine z_iload ok dX4_chooseHand_85 4 rfl ?_
    refine z_aload_n ok dX4_chooseHand_87 0 rfl ?_
    refine z_iload_n ok dX4_chooseHand_88 1 rfl ?_
    refine z_iload_n ok dX4_chooseHand_89 1 rfl ?_
    refine z_iconst (v := 1) ok dX4_chooseHand_90 (by decide) ?_
    refine z_iadd ok dX4_chooseHand_91 ?_
    refine z_iload ok dX4_chooseHand_92 2 rfl ?_
    refine z_call hf (fun r94 h94 hf => ?_)
    refine z_cV (As := [.int x3, .int (x3 + 1), .int x4]) (rest := [.int x6, .ref (X.ad 81)]) (w := 81) ok kc_81 zc_4 (c_Outlook_timesOut h94) rfl ⟨ml_4_120, w_Outlook_timesOut⟩ hy_Outlook_timesOut ⟨rfl, rfl⟩ ⟨Nat.le_of_ble_eq_true rfl, Nat.le_of_ble_eq_true rfl⟩ ⟨Nat.zero_le _, Nat.zero_le _⟩ rfl (Nat.le_of_ble_eq_true rfl) dX4_chooseHand_94 ?_
    refine z_call hf (fun r97 h97 hf => ?_)
    refine z_cVv (As := [.int x6, .int r94.1]) (rest := []) (w := 81) ok kc_81 zc_4 (c_Outlook_weigh h97) rfl ⟨ml_4_124, w_Outlook_weigh⟩ hy_Outlook_weigh ⟨rfl, rfl⟩ ⟨Nat.le_of_ble_eq_true rfl, Nat.le_of_ble_eq_true rfl⟩ ⟨Nat.zero_le _, Nat.zero_le _⟩ rfl (Nat.le_of_ble_eq_true rfl) dX4_chooseHand_97 ?_
    refine z_iinc (w := 1) (lv' := fun v100 => [(6, .int v100), (0, .ref (X.ad 81)), (3, .int x3), (4, .int x4), (5, .int x5)]) ok dX4_chooseHand_100 4 rfl (by decide) (by decide) (fun _ => rfl) hf (fun v100 hf => ?_)
    refine z_goto (tgt := 47) ok dX4_chooseHand_103 (by decide) ?_
    obtain rfl := Option.some.inj hf
    exact z_sub [1, 2, 3, 4, 0] rfl hk
def Outlook_chooseHand (σ : Sg) (p1 : Nat) (p2 : Nat) (x3 : Int32) (x4 : Int32) : Option Sg :=
  (Outlook_look σ p1 p2 x4).bind fun r5 =>
  zpt r5 81 6 1000000000 fun σ11 =>
  zmr1 55 (σ11 81 4) <|
  zrd σ11 58 8 x3 fun v25 =>
  zmr2 3 29 (σ11 81 3) fun q27 =>
  zrd σ11 (q27 + 10) 8 x3 fun v37 =>
  zlt (v25 + (v37 * x4)) fun v42 =>
  zlt 0 fun v45 =>
  (zit (fun (s : (Sg × Int32)) => Outlook_chooseHand_l47 s.1 x3 x4 v42 s.2) zFU (σ11, v45)).bind fun r =>
  some r.1
set_option maxRecDepth 20000 in
theorem t_Outlook_chooseHand {X : Zx} {Q : State → Prop} {σ : Sg} {p1 : Nat} {p2 : Nat} {x3 : Int32} {x4 : Int32} (ok : Zok X cX4_chooseHand RX4 rm_Outlook_chooseHand 198 7) (hp1 : zI_Works p1 198) (hp2 : zI_Moment p2 198) {out : Sg} (hf : Outlook_chooseHand σ p1 p2 x3 x4 = some out) (hk : ZrV cX4_chooseHand X Q out) : ZAt X Q 0 0 0 σ [(0, .ref (X.ad 81)), (1, .ref (X.ad p1)), (2, .ref (X.ad p2)), (3, .int x3), (4, .int x4)] [] := by
  unfold Outlook_chooseHand at hf
  obtain ⟨hp1_0, hp1_1, hp1_2, hp1_3, hp1_4, hp1_5, hp1_6, hp1_7, hp1_8, hp1_9, hp1_10, hp1_11, hp1_12, hp1_13, hp1_14, hp1_15, hp1_16, hp1_17, hp1_18, hp1_19, hp1_20, hp1_21, hp1_22, hp1_23, hp1_24, hp1_25⟩ := id hp1
  obtain ⟨hp2_0, hp2_1, hp2_2, hp2_3, hp2_4, hp2_5, hp2_6, hp2_7, hp2_8, hp2_9, hp2_10, hp2_11, hp2_12, hp2_13, hp2_14, hp2_15, hp2_16, hp2_17, hp2_18, hp2_19, hp2_20, hp2_21, hp2_22, hp2_23, hp2_24⟩ := id hp2
  refine z_aload_n ok dX4_chooseHand_0 0 rfl ?_
  refine z_aload_n ok dX4_chooseHand_1 1 rfl ?_
  refine z_aload_n ok dX4_chooseHand_2 2 rfl ?_
  refine z_iload ok dX4_chooseHand_3 4 rfl ?_
  refine z_call hf (fun r5 h5 hf => ?_)
  refine z_cVv (As := [.ref (X.ad p1), .ref (X.ad p2), .int x4]) (rest := []) (w := 81) ok kc_81 zc_4 (c_Outlook_look hp1 hp2 h5) rfl ⟨ml_4_72, w_Outlook_look⟩ hy_Outlook_look ⟨rfl, rfl⟩ ⟨Nat.le_of_ble_eq_true rfl, Nat.le_of_ble_eq_true rfl⟩ ⟨Nat.zero_le _, Nat.zero_le _⟩ rfl (Nat.le_of_ble_eq_true rfl) dX4_chooseHand_5 ?_
  refine z_aload_n ok dX4_chooseHand_8 0 rfl ?_
  refine z_ldc (v := 1000000000) ok dX4_chooseHand_9 wc_4_113 ?_
  refine z_puti ok kc_81 zc_4 hin_4 tyX4 tyX4_ok nmX4 6 (by decide) fl_4_114 rfl rfl (tyX4_ok 6 (by decide)) dX4_chooseHand_11 hf (fun σ11 hf => ?_)
  refine z_aload_n ok dX4_chooseHand_14 0 rfl ?_
  refine z_getm1 (p := 55) ok kc_81 zc_4 hin_4 4 (by decide) fl_4_36 rfl (by decide) dX4_chooseHand_15 hf (fun hf => ?_)
  refine z_getr (q := 56) ok kc_55 zc_1 hin_1 0 (by decide) fl_4_43 rfl dX4_chooseHand_18 ?_
  refine z_getr (q := 58) ok kc_56 zc_9 hin_9 4 (by decide) fl_4_128 rfl dX4_chooseHand_21 ?_
  refine z_iload_n ok dX4_chooseHand_24 3 rfl ?_
  refine z_iald ok kc_58 dX4_chooseHand_25 hf (fun v25 hf => ?_)
  refine z_aload_n ok dX4_chooseHand_26 0 rfl ?_
  refine z_getm2 (p := 3) (q := 29) ok kc_81 zc_4 hin_4 3 (by decide) fl_4_32 rfl (by decide) (by decide) dX4_chooseHand_27 hf (fun q27 e27 hf => ?_)
  have hq27 : zI_Works q27 198 := by rcases e27 with rfl | rfl; exact kI_Works_3; exact kI_Works_29
  obtain ⟨hq27_0, hq27_1, hq27_2, hq27_3, hq27_4, hq27_5, hq27_6, hq27_7, hq27_8, hq27_9, hq27_10, hq27_11, hq27_12, hq27_13, hq27_14, hq27_15, hq27_16, hq27_17, hq27_18, hq27_19, hq27_20, hq27_21, hq27_22, hq27_23, hq27_24, hq27_25⟩ := id hq27
  refine z_getr (q := (q27 + 2)) ok hq27_0 zc_10 hin_10 5 (by decide) fl_4_129 rfl dX4_chooseHand_30 ?_
  refine z_bipush (v := 7) ok dX4_chooseHand_33 (by decide) ?_
  refine z_aaldc (q := (q27 + 10)) ok hq27_2 (by decide) rfl (by decide) rfl dX4_chooseHand_35 ?_
  refine z_iload_n ok dX4_chooseHand_36 3 rfl ?_
  refine z_iald ok hq27_10 dX4_chooseHand_37 hf (fun v37 hf => ?_)
  refine z_iload ok dX4_chooseHand_38 4 rfl ?_
  refine z_imul ok dX4_chooseHand_40 ?_
  refine z_iadd ok dX4_chooseHand_41 ?_
  refine z_nm hf (fun v42 hf => ?_)
  refine z_istore (lv' := [(5, .int v42), (0, .ref (X.ad 81)), (1, .ref (X.ad p1)), (2, .ref (X.ad p2)), (3, .int x3), (4, .int x4)]) ok dX4_chooseHand_42 (by decide) rfl ?_
  refine z_iconst (v := 0) ok dX4_chooseHand_44 (by decide) ?_
  refine z_nm hf (fun v45 hf => ?_)
  refine z_istore (lv' := [(6, .int v45), (5, .int v42), (0, .ref (X.ad 81)), (1, .ref (X.ad p1)), (2, .ref (X.ad p2)), (3, .int x3), (4, .int x4)]) ok dX4_chooseHand_45 (by decide) rfl ?_
  refine z_call hf (fun r hr hf => ?_)
  refine z_sub [2, 5, 6, 1, 0] rfl (z_iter (fun (s : (Sg × Int32)) => s.1) (fun (s : (Sg × Int32)) => [(0, .ref (X.ad 81)), (3, .int x3), (4, .int x4), (5, .int v42), (6, .int s.2)]) (fun s o h1 h2 => t_Outlook_chooseHand_l47 ok h1 h2) _ _ _ hr ?_)
  show ZAt X Q 0 0 106 r.1 [] []
  obtain rfl := Option.some.inj hf
  exact hk _ _ dX4_chooseHand_106
theorem c_Outlook_chooseHand {σ : Sg} {p1 : Nat} {p2 : Nat} {x3 : Int32} {x4 : Int32} (hp1 : zI_Works p1 198) (hp2 : zI_Moment p2 198) {r : Sg} (h : Outlook_chooseHand σ p1 p2 x3 x4 = some r) : ZcV yX4_chooseHand cX4_chooseHand 7 rm_Outlook_chooseHand 198 (fun ad => [.ref (ad 81), .ref (ad p1), .ref (ad p2), .int x3, .int x4]) σ r :=
  zmetV pn_4 rfl (fun _ => rfl) (fun _ => Nat.le_of_ble_eq_true rfl) (fun X Q ok hk => t_Outlook_chooseHand ok hp1 hp2 h hk)
theorem dX11_best_0 : decode cX11_best 0 = .ok (.aload_n 0, 1) := by decide +kernel
theorem dX11_best_1 : decode cX11_best 1 = .ok (.iload_n 1, 1) := by decide +kernel
theorem dX11_best_2 : decode cX11_best 2 = .ok (.invokevirtual 154, 3) := by decide +kernel
theorem dX11_best_5 : decode cX11_best 5 = .ok (.ifCond .eq 23, 3) := by decide +kernel
theorem dX11_best_8 : decode cX11_best 8 = .ok (.iload_n 2, 1) := by decide +kernel
theorem dX11_best_9 : decode cX11_best 9 = .ok (.iconst 1, 1) := by decide +kernel
theorem dX11_best_10 : decode cX11_best 10 = .ok (.if_icmp .lt 18, 3) := by decide +kernel
theorem dX11_best_13 : decode cX11_best 13 = .ok (.iload_n 2, 1) := by decide +kernel
theorem dX11_best_14 : decode cX11_best 14 = .ok (.bipush 40, 2) := by decide +kernel
theorem dX11_best_16 : decode cX11_best 16 = .ok (.if_icmp .gt 12, 3) := by decide +kernel
theorem dX11_best_19 : decode cX11_best 19 = .ok (.iload_n 3, 1) := by decide +kernel
theorem dX11_best_20 : decode cX11_best 20 = .ok (.ifCond .lt 8, 3) := by decide +kernel
theorem dX11_best_23 : decode cX11_best 23 = .ok (.iload_n 3, 1) := by decide +kernel
theorem dX11_best_24 : decode cX11_best 24 = .ok (.iconst 1, 1) := by decide +kernel
theorem dX11_best_25 : decode cX11_best 25 = .ok (.if_icmp .le 5, 3) := by decide +kernel
theorem dX11_best_28 : decode cX11_best 28 = .ok (.iconst (-1), 1) := by decide +kernel
theorem dX11_best_29 : decode cX11_best 29 = .ok (.ireturn, 1) := by decide +kernel
theorem dX11_best_30 : decode cX11_best 30 = .ok (.aload_n 0, 1) := by decide +kernel
theorem dX11_best_31 : decode cX11_best 31 = .ok (.getfield 48, 3) := by decide +kernel
theorem dX11_best_34 : decode cX11_best 34 = .ok (.aload_n 0, 1) := by decide +kernel
theorem dX11_best_35 : decode cX11_best 35 = .ok (.getfield 23, 3) := by decide +kernel
theorem dX11_best_38 : decode cX11_best 38 = .ok (.aload_n 0, 1) := by decide +kernel
theorem dX11_best_39 : decode cX11_best 39 = .ok (.getfield 37, 3) := by decide +kernel
theorem dX11_best_42 : decode cX11_best 42 = .ok (.iload_n 1, 1) := by decide +kernel
theorem dX11_best_43 : decode cX11_best 43 = .ok (.iload_n 2, 1) := by decide +kernel
theorem dX11_best_44 : decode cX11_best 44 = .ok (.invokevirtual 320, 3) := by decide +kernel
theorem dX11_best_47 : decode cX11_best 47 = .ok (.iload_n 3, 1) := by decide +kernel
theorem dX11_best_48 : decode cX11_best 48 = .ok (.ifCond .ne 13, 3) := by decide +kernel
theorem dX11_best_51 : decode cX11_best 51 = .ok (.aload_n 0, 1) := by decide +kernel
theorem dX11_best_52 : decode cX11_best 52 = .ok (.getfield 48, 3) := by decide +kernel
theorem dX11_best_55 : decode cX11_best 55 = .ok (.getfield 314, 3) := by decide +kernel
theorem dX11_best_58 : decode cX11_best 58 = .ok (.goto 10, 3) := by decide +kernel
theorem dX11_best_61 : decode cX11_best 61 = .ok (.aload_n 0, 1) := by decide +kernel
theorem dX11_best_62 : decode cX11_best 62 = .ok (.getfield 48, 3) := by decide +kernel
theorem dX11_best_65 : decode cX11_best 65 = .ok (.getfield 317, 3) := by decide +kernel
theorem dX11_best_68 : decode cX11_best 68 = .ok (.ireturn, 1) := by decide +kernel
abbrev rm_CK_best : Room := { frames := 7, cells := 0, slots := 0, locals := 164 }
def CK_best (σ : Sg) (x1 : Int32) (x2 : Int32) (x3 : Int32) : Option (Int32 × Sg) :=
  (CK_isPool σ x1).bind fun r2 =>
  if (zb r2) = 0 then (
    some ((-1), σ)
  ) else (
    if x2 < 1 then (
      some ((-1), σ)
    ) else (
      if 40 < x2 then (
        some ((-1), σ)
      ) else (
        if x3 < 0 then (
          some ((-1), σ)
        ) else (
          if x3 ≤ 1 then (
            zmr2 3 29 (σ 0 3) fun q35 =>
            (Outlook_chooseHand σ q35 55 x1 x2).bind fun r44 =>
            if x3 = 0 then (
              zgt r44 81 5 fun v55 =>
              some (v55, r44)
            ) else (
              zgt r44 81 6 fun v65 =>
              some (v65, r44)
            )
          ) else (
            some ((-1), σ)
          )
        )
      )
    )
  )
set_option maxRecDepth 20000 in
theorem t_CK_best {X : Zx} {Q : State → Prop} {σ : Sg} {x1 : Int32} {x2 : Int32} {x3 : Int32} (ok : Zok X cX11_best RX11 rm_CK_best 198 4)  {out : (Int32 × Sg)} (hf : CK_best σ x1 x2 x3 = some out) (hk : ZrI cX11_best X Q out.1 out.2) : ZAt X Q 0 0 0 σ [(0, .ref (X.ad 0)), (1, .int x1), (2, .int x2), (3, .int x3)] [] := by
  unfold CK_best at hf
  refine z_aload_n ok dX11_best_0 0 rfl ?_
  refine z_iload_n ok dX11_best_1 1 rfl ?_
  refine z_call hf (fun r2 h2 hf => ?_)
  refine z_cV (As := [.int x1]) (rest := []) (w := 0) ok kc_0 zc_11 (c_CK_isPool h2) rfl ⟨ml_11_154, w_CK_isPool⟩ hy_CK_isPool ⟨rfl, rfl⟩ ⟨Nat.le_of_ble_eq_true rfl, Nat.le_of_ble_eq_true rfl⟩ ⟨Nat.zero_le _, Nat.zero_le _⟩ rfl (Nat.le_of_ble_eq_true rfl) dX11_best_2 ?_
  refine z_if_eq (tgt := 28) ok dX11_best_5 (by decide) hf (fun _ hf => ?_) (fun _ hf => ?_)
  · refine z_iconst (v := (-1)) ok dX11_best_28 (by decide) ?_
    obtain rfl := Option.some.inj hf
    exact hk _ _ dX11_best_29
  · refine z_iload_n ok dX11_best_8 2 rfl ?_
    refine z_iconst (v := 1) ok dX11_best_9 (by decide) ?_
    refine z_icmp_lt (tgt := 28) ok dX11_best_10 (by decide) hf (fun _ hf => ?_) (fun _ hf => ?_)
    · refine z_iconst (v := (-1)) ok dX11_best_28 (by decide) ?_
      obtain rfl := Option.some.inj hf
      exact hk _ _ dX11_best_29
    · refine z_iload_n ok dX11_best_13 2 rfl ?_
      refine z_bipush (v := 40) ok dX11_best_14 (by decide) ?_
      refine z_icmp_gt (tgt := 28) ok dX11_best_16 (by decide) hf (fun _ hf => ?_) (fun _ hf => ?_)
      · refine z_iconst (v := (-1)) ok dX11_best_28 (by decide) ?_
        obtain rfl := Option.some.inj hf
        exact hk _ _ dX11_best_29
      · refine z_iload_n ok dX11_best_19 3 rfl ?_
        refine z_if_lt (tgt := 28) ok dX11_best_20 (by decide) hf (fun _ hf => ?_) (fun _ hf => ?_)
        · refine z_iconst (v := (-1)) ok dX11_best_28 (by decide) ?_
          obtain rfl := Option.some.inj hf
          exact hk _ _ dX11_best_29
        · refine z_iload_n ok dX11_best_23 3 rfl ?_
          refine z_iconst (v := 1) ok dX11_best_24 (by decide) ?_
          refine z_icmp_le (tgt := 30) ok dX11_best_25 (by decide) hf (fun _ hf => ?_) (fun _ hf => ?_)
          · refine z_aload_n ok dX11_best_30 0 rfl ?_
            refine z_getr (q := 81) ok kc_0 zc_11 hin_11 12 (by decide) fl_11_48 rfl dX11_best_31 ?_
            refine z_aload_n ok dX11_best_34 0 rfl ?_
            refine z_getm2 (p := 3) (q := 29) ok kc_0 zc_11 hin_11 3 (by decide) fl_11_23 rfl (by decide) (by decide) dX11_best_35 hf (fun q35 e35 hf => ?_)
            have hq35 : zI_Works q35 198 := by rcases e35 with rfl | rfl; exact kI_Works_3; exact kI_Works_29
            obtain ⟨hq35_0, hq35_1, hq35_2, hq35_3, hq35_4, hq35_5, hq35_6, hq35_7, hq35_8, hq35_9, hq35_10, hq35_11, hq35_12, hq35_13, hq35_14, hq35_15, hq35_16, hq35_17, hq35_18, hq35_19, hq35_20, hq35_21, hq35_22, hq35_23, hq35_24, hq35_25⟩ := id hq35
            refine z_aload_n ok dX11_best_38 0 rfl ?_
            refine z_getr (q := 55) ok kc_0 zc_11 hin_11 8 (by decide) fl_11_37 rfl dX11_best_39 ?_
            refine z_iload_n ok dX11_best_42 1 rfl ?_
            refine z_iload_n ok dX11_best_43 2 rfl ?_
            refine z_call hf (fun r44 h44 hf => ?_)
            refine z_cVv (As := [.ref (X.ad q35), .ref (X.ad 55), .int x1, .int x2]) (rest := []) (w := 81) ok kc_81 zc_4 (c_Outlook_chooseHand hq35 kI_Moment_55 h44) rfl ⟨ml_11_320, w_Outlook_chooseHand⟩ hy_Outlook_chooseHand ⟨rfl, rfl⟩ ⟨Nat.le_of_ble_eq_true rfl, Nat.le_of_ble_eq_true rfl⟩ ⟨Nat.zero_le _, Nat.zero_le _⟩ rfl (Nat.le_of_ble_eq_true rfl) dX11_best_44 ?_
            refine z_iload_n ok dX11_best_47 3 rfl ?_
            refine z_if_ne (tgt := 61) ok dX11_best_48 (by decide) hf (fun _ hf => ?_) (fun _ hf => ?_)
            · refine z_aload_n ok dX11_best_51 0 rfl ?_
              refine z_getr (q := 81) ok kc_0 zc_11 hin_11 12 (by decide) fl_11_48 rfl dX11_best_52 ?_
              refine z_geti ok kc_81 zc_4 hin_4 5 (by decide) fl_11_314 rfl dX11_best_55 hf (fun v55 hf => ?_)
              refine z_goto (tgt := 68) ok dX11_best_58 (by decide) ?_
              obtain rfl := Option.some.inj hf
              exact hk _ _ dX11_best_68
            · refine z_aload_n ok dX11_best_61 0 rfl ?_
              refine z_getr (q := 81) ok kc_0 zc_11 hin_11 12 (by decide) fl_11_48 rfl dX11_best_62 ?_
              refine z_geti ok kc_81 zc_4 hin_4 6 (by decide) fl_11_317 rfl dX11_best_65 hf (fun v65 hf => ?_)
              obtain rfl := Option.some.inj hf
              exact hk _ _ dX11_best_68
          · refine z_iconst (v := (-1)) ok dX11_best_28 (by decide) ?_
            obtain rfl := Option.some.inj hf
            exact hk _ _ dX11_best_29
theorem c_CK_best {σ : Sg} {x1 : Int32} {x2 : Int32} {x3 : Int32} {r : (Int32 × Sg)} (h : CK_best σ x1 x2 x3 = some r) : ZcI yX11_best cX11_best 4 .int rm_CK_best 198 (fun ad => [.ref (ad 0), .int x1, .int x2, .int x3]) σ r.1 r.2 :=
  zmetI pn_11 rfl (fun _ => rfl) (fun _ => Nat.le_of_ble_eq_true rfl) rfl (fun X Q ok hk => t_CK_best ok h hk)
theorem dX6_planAgain_0 : decode cX6_planAgain 0 = .ok (.aload_n 0, 1) := by decide +kernel
theorem dX6_planAgain_1 : decode cX6_planAgain 1 = .ok (.aload_n 1, 1) := by decide +kernel
theorem dX6_planAgain_2 : decode cX6_planAgain 2 = .ok (.aload_n 2, 1) := by decide +kernel
theorem dX6_planAgain_3 : decode cX6_planAgain 3 = .ok (.iload_n 3, 1) := by decide +kernel
theorem dX6_planAgain_4 : decode cX6_planAgain 4 = .ok (.invokevirtual 48, 3) := by decide +kernel
theorem dX6_planAgain_7 : decode cX6_planAgain 7 = .ok (.aload_n 0, 1) := by decide +kernel
theorem dX6_planAgain_8 : decode cX6_planAgain 8 = .ok (.aload_n 1, 1) := by decide +kernel
theorem dX6_planAgain_9 : decode cX6_planAgain 9 = .ok (.invokevirtual 52, 3) := by decide +kernel
theorem dX6_planAgain_12 : decode cX6_planAgain 12 = .ok (.return_, 1) := by decide +kernel
abbrev rm_Schedule_planAgain : Room := { frames := 3, cells := 0, slots := 0, locals := 72 }
def Schedule_planAgain (σ : Sg) (p1 : Nat) (p2 : Nat) (x3 : Int32) : Option Sg :=
  (Schedule_planOutlet σ p1 p2 x3).bind fun r4 =>
  (Schedule_sumDemands r4 p1).bind fun r9 =>
  some r9
set_option maxRecDepth 20000 in
theorem t_Schedule_planAgain {X : Zx} {Q : State → Prop} {σ : Sg} {p1 : Nat} {p2 : Nat} {x3 : Int32} (ok : Zok X cX6_planAgain RX6 rm_Schedule_planAgain 198 4) (hp1 : zI_Works p1 198) (hp2 : zI_Orders p2 198) {out : Sg} (hf : Schedule_planAgain σ p1 p2 x3 = some out) (hk : ZrV cX6_planAgain X Q out) : ZAt X Q 0 0 0 σ [(0, .ref (X.ad 103)), (1, .ref (X.ad p1)), (2, .ref (X.ad p2)), (3, .int x3)] [] := by
  unfold Schedule_planAgain at hf
  obtain ⟨hp1_0, hp1_1, hp1_2, hp1_3, hp1_4, hp1_5, hp1_6, hp1_7, hp1_8, hp1_9, hp1_10, hp1_11, hp1_12, hp1_13, hp1_14, hp1_15, hp1_16, hp1_17, hp1_18, hp1_19, hp1_20, hp1_21, hp1_22, hp1_23, hp1_24, hp1_25⟩ := id hp1
  obtain ⟨hp2_0, hp2_1, hp2_2, hp2_3⟩ := id hp2
  refine z_aload_n ok dX6_planAgain_0 0 rfl ?_
  refine z_aload_n ok dX6_planAgain_1 1 rfl ?_
  refine z_aload_n ok dX6_planAgain_2 2 rfl ?_
  refine z_iload_n ok dX6_planAgain_3 3 rfl ?_
  refine z_call hf (fun r4 h4 hf => ?_)
  refine z_cVv (As := [.ref (X.ad p1), .ref (X.ad p2), .int x3]) (rest := []) (w := 103) ok kc_103 zc_6 (c_Schedule_planOutlet hp1 hp2 h4) rfl ⟨ml_6_48, w_Schedule_planOutlet⟩ hy_Schedule_planOutlet ⟨rfl, rfl⟩ ⟨Nat.le_of_ble_eq_true rfl, Nat.le_of_ble_eq_true rfl⟩ ⟨Nat.zero_le _, Nat.zero_le _⟩ rfl (Nat.le_of_ble_eq_true rfl) dX6_planAgain_4 ?_
  refine z_aload_n ok dX6_planAgain_7 0 rfl ?_
  refine z_aload_n ok dX6_planAgain_8 1 rfl ?_
  refine z_call hf (fun r9 h9 hf => ?_)
  refine z_cVv (As := [.ref (X.ad p1)]) (rest := []) (w := 103) ok kc_103 zc_6 (c_Schedule_sumDemands hp1 h9) rfl ⟨ml_6_52, w_Schedule_sumDemands⟩ hy_Schedule_sumDemands ⟨rfl, rfl⟩ ⟨Nat.le_of_ble_eq_true rfl, Nat.le_of_ble_eq_true rfl⟩ ⟨Nat.zero_le _, Nat.zero_le _⟩ rfl (Nat.le_of_ble_eq_true rfl) dX6_planAgain_9 ?_
  obtain rfl := Option.some.inj hf
  exact hk _ _ dX6_planAgain_12
theorem c_Schedule_planAgain {σ : Sg} {p1 : Nat} {p2 : Nat} {x3 : Int32} (hp1 : zI_Works p1 198) (hp2 : zI_Orders p2 198) {r : Sg} (h : Schedule_planAgain σ p1 p2 x3 = some r) : ZcV yX6_planAgain cX6_planAgain 4 rm_Schedule_planAgain 198 (fun ad => [.ref (ad 103), .ref (ad p1), .ref (ad p2), .int x3]) σ r :=
  zmetV pn_6 rfl (fun _ => rfl) (fun _ => Nat.le_of_ble_eq_true rfl) (fun X Q ok hk => t_Schedule_planAgain ok hp1 hp2 h hk)
theorem dX4_firstHarmless_0 : decode cX4_firstHarmless 0 = .ok (.aload_n 0, 1) := by decide +kernel
theorem dX4_firstHarmless_1 : decode cX4_firstHarmless 1 = .ok (.aload_n 1, 1) := by decide +kernel
theorem dX4_firstHarmless_2 : decode cX4_firstHarmless 2 = .ok (.aload_n 2, 1) := by decide +kernel
theorem dX4_firstHarmless_3 : decode cX4_firstHarmless 3 = .ok (.sipush 200, 3) := by decide +kernel
theorem dX4_firstHarmless_6 : decode cX4_firstHarmless 6 = .ok (.invokevirtual 72, 3) := by decide +kernel
theorem dX4_firstHarmless_9 : decode cX4_firstHarmless 9 = .ok (.aload_n 0, 1) := by decide +kernel
theorem dX4_firstHarmless_10 : decode cX4_firstHarmless 10 = .ok (.sipush 200, 3) := by decide +kernel
theorem dX4_firstHarmless_13 : decode cX4_firstHarmless 13 = .ok (.invokevirtual 144, 3) := by decide +kernel
theorem dX4_firstHarmless_16 : decode cX4_firstHarmless 16 = .ok (.aload_n 0, 1) := by decide +kernel
theorem dX4_firstHarmless_17 : decode cX4_firstHarmless 17 = .ok (.getfield 12, 3) := by decide +kernel
theorem dX4_firstHarmless_20 : decode cX4_firstHarmless 20 = .ok (.getfield 94, 3) := by decide +kernel
theorem dX4_firstHarmless_23 : decode cX4_firstHarmless 23 = .ok (.bipush 6, 2) := by decide +kernel
theorem dX4_firstHarmless_25 : decode cX4_firstHarmless 25 = .ok (.iaload, 1) := by decide +kernel
theorem dX4_firstHarmless_26 : decode cX4_firstHarmless 26 = .ok (.istore 5, 2) := by decide +kernel
theorem dX4_firstHarmless_28 : decode cX4_firstHarmless 28 = .ok (.aload_n 0, 1) := by decide +kernel
theorem dX4_firstHarmless_29 : decode cX4_firstHarmless 29 = .ok (.getfield 36, 3) := by decide +kernel
theorem dX4_firstHarmless_32 : decode cX4_firstHarmless 32 = .ok (.getfield 43, 3) := by decide +kernel
theorem dX4_firstHarmless_35 : decode cX4_firstHarmless 35 = .ok (.getfield 44, 3) := by decide +kernel
theorem dX4_firstHarmless_38 : decode cX4_firstHarmless 38 = .ok (.istore 6, 2) := by decide +kernel
theorem dX4_firstHarmless_40 : decode cX4_firstHarmless 40 = .ok (.aload_n 0, 1) := by decide +kernel
theorem dX4_firstHarmless_41 : decode cX4_firstHarmless 41 = .ok (.getfield 21, 3) := by decide +kernel
theorem dX4_firstHarmless_44 : decode cX4_firstHarmless 44 = .ok (.aload_n 0, 1) := by decide +kernel
theorem dX4_firstHarmless_45 : decode cX4_firstHarmless 45 = .ok (.getfield 36, 3) := by decide +kernel
theorem dX4_firstHarmless_48 : decode cX4_firstHarmless 48 = .ok (.getfield 40, 3) := by decide +kernel
theorem dX4_firstHarmless_51 : decode cX4_firstHarmless 51 = .ok (.invokevirtual 147, 3) := by decide +kernel
theorem dX4_firstHarmless_54 : decode cX4_firstHarmless 54 = .ok (.aload_n 0, 1) := by decide +kernel
theorem dX4_firstHarmless_55 : decode cX4_firstHarmless 55 = .ok (.getfield 21, 3) := by decide +kernel
theorem dX4_firstHarmless_58 : decode cX4_firstHarmless 58 = .ok (.iload_n 3, 1) := by decide +kernel
theorem dX4_firstHarmless_59 : decode cX4_firstHarmless 59 = .ok (.iload 6, 2) := by decide +kernel
theorem dX4_firstHarmless_61 : decode cX4_firstHarmless 61 = .ok (.iload 4, 2) := by decide +kernel
theorem dX4_firstHarmless_63 : decode cX4_firstHarmless 63 = .ok (.invokevirtual 150, 3) := by decide +kernel
theorem dX4_firstHarmless_66 : decode cX4_firstHarmless 66 = .ok (.istore 7, 2) := by decide +kernel
theorem dX4_firstHarmless_68 : decode cX4_firstHarmless 68 = .ok (.iconst 0, 1) := by decide +kernel
theorem dX4_firstHarmless_69 : decode cX4_firstHarmless 69 = .ok (.istore 8, 2) := by decide +kernel
theorem dX4_firstHarmless_71 : decode cX4_firstHarmless 71 = .ok (.iload 8, 2) := by decide +kernel
theorem dX4_firstHarmless_73 : decode cX4_firstHarmless 73 = .ok (.bipush 60, 2) := by decide +kernel
theorem dX4_firstHarmless_75 : decode cX4_firstHarmless 75 = .ok (.if_icmp .ge 68, 3) := by decide +kernel
theorem dX4_firstHarmless_78 : decode cX4_firstHarmless 78 = .ok (.iload 7, 2) := by decide +kernel
theorem dX4_firstHarmless_80 : decode cX4_firstHarmless 80 = .ok (.iconst (-1), 1) := by decide +kernel
theorem dX4_firstHarmless_81 : decode cX4_firstHarmless 81 = .ok (.if_icmp .eq 62, 3) := by decide +kernel
theorem dX4_firstHarmless_84 : decode cX4_firstHarmless 84 = .ok (.aload_n 0, 1) := by decide +kernel
theorem dX4_firstHarmless_85 : decode cX4_firstHarmless 85 = .ok (.getfield 21, 3) := by decide +kernel
theorem dX4_firstHarmless_88 : decode cX4_firstHarmless 88 = .ok (.getfield 153, 3) := by decide +kernel
theorem dX4_firstHarmless_91 : decode cX4_firstHarmless 91 = .ok (.iload 7, 2) := by decide +kernel
theorem dX4_firstHarmless_93 : decode cX4_firstHarmless 93 = .ok (.iload 6, 2) := by decide +kernel
theorem dX4_firstHarmless_95 : decode cX4_firstHarmless 95 = .ok (.iload 8, 2) := by decide +kernel
theorem dX4_firstHarmless_97 : decode cX4_firstHarmless 97 = .ok (.iadd, 1) := by decide +kernel
theorem dX4_firstHarmless_98 : decode cX4_firstHarmless 98 = .ok (.iastore, 1) := by decide +kernel
theorem dX4_firstHarmless_99 : decode cX4_firstHarmless 99 = .ok (.aload_n 0, 1) := by decide +kernel
theorem dX4_firstHarmless_100 : decode cX4_firstHarmless 100 = .ok (.getfield 28, 3) := by decide +kernel
theorem dX4_firstHarmless_103 : decode cX4_firstHarmless 103 = .ok (.aload_n 0, 1) := by decide +kernel
theorem dX4_firstHarmless_104 : decode cX4_firstHarmless 104 = .ok (.getfield 32, 3) := by decide +kernel
theorem dX4_firstHarmless_107 : decode cX4_firstHarmless 107 = .ok (.aload_n 0, 1) := by decide +kernel
theorem dX4_firstHarmless_108 : decode cX4_firstHarmless 108 = .ok (.getfield 21, 3) := by decide +kernel
theorem dX4_firstHarmless_111 : decode cX4_firstHarmless 111 = .ok (.iload_n 3, 1) := by decide +kernel
theorem dX4_firstHarmless_112 : decode cX4_firstHarmless 112 = .ok (.invokevirtual 156, 3) := by decide +kernel
theorem dX4_firstHarmless_115 : decode cX4_firstHarmless 115 = .ok (.aload_n 0, 1) := by decide +kernel
theorem dX4_firstHarmless_116 : decode cX4_firstHarmless 116 = .ok (.invokevirtual 88, 3) := by decide +kernel
theorem dX4_firstHarmless_119 : decode cX4_firstHarmless 119 = .ok (.aload_n 0, 1) := by decide +kernel
theorem dX4_firstHarmless_120 : decode cX4_firstHarmless 120 = .ok (.sipush 200, 3) := by decide +kernel
theorem dX4_firstHarmless_123 : decode cX4_firstHarmless 123 = .ok (.iload 5, 2) := by decide +kernel
theorem dX4_firstHarmless_125 : decode cX4_firstHarmless 125 = .ok (.invokevirtual 97, 3) := by decide +kernel
theorem dX4_firstHarmless_128 : decode cX4_firstHarmless 128 = .ok (.ifCond .eq 9, 3) := by decide +kernel
theorem dX4_firstHarmless_131 : decode cX4_firstHarmless 131 = .ok (.iload 6, 2) := by decide +kernel
theorem dX4_firstHarmless_133 : decode cX4_firstHarmless 133 = .ok (.iload 8, 2) := by decide +kernel
theorem dX4_firstHarmless_135 : decode cX4_firstHarmless 135 = .ok (.iadd, 1) := by decide +kernel
theorem dX4_firstHarmless_136 : decode cX4_firstHarmless 136 = .ok (.ireturn, 1) := by decide +kernel
theorem dX4_firstHarmless_137 : decode cX4_firstHarmless 137 = .ok (.iinc 8 1, 3) := by decide +kernel
theorem dX4_firstHarmless_140 : decode cX4_firstHarmless 140 = .ok (.goto (-69), 3) := by decide +kernel
theorem dX4_firstHarmless_143 : decode cX4_firstHarmless 143 = .ok (.iconst (-1), 1) := by decide +kernel
theorem dX4_firstHarmless_144 : decode cX4_firstHarmless 144 = .ok (.ireturn, 1) := by decide +kernel
abbrev rm_Outlook_firstHarmless : Room := { frames := 6, cells := 0, slots := 0, locals := 135 }
def Outlook_firstHarmless_l71 (σ : Sg) (x3 : Int32) (x5 : Int32) (x6 : Int32) (x7 : Int32) (x8 : Int32) : Option ((Sg × Int32) ⊕ ((Int32 × Sg) ⊕ (Sg × Int32))) :=
  if 60 ≤ x8 then (
    some (.inr (.inr (σ, x8)))
  ) else (
    if x7 = (-1) then (
      some (.inr (.inr (σ, x8)))
    ) else (
      zwr σ 101 16 x7 (x6 + x8) fun σ98 =>
      zmr2 3 29 (σ98 81 3) fun q104 =>
      (Schedule_planAgain σ98 q104 99 x3).bind fun r112 =>
      (Outlook_lookAgain r112).bind fun r116 =>
      (Outlook_staysWithin r116 200 x5).bind fun r125 =>
      if (zb r125.1) = 0 then (
        zlt (x8 + 1) fun v137 =>
        some (.inl (r125.2, v137))
      ) else (
        some (.inr (.inl ((x6 + x8), r125.2)))
      )
    )
  )
set_option maxRecDepth 20000 in
theorem t_Outlook_firstHarmless_l71 {X : Zx} {Q : State → Prop} {σ : Sg} {x3 : Int32} {x5 : Int32} {x6 : Int32} {x7 : Int32} {x8 : Int32} (ok : Zok X cX4_firstHarmless RX4 rm_Outlook_firstHarmless 198 9)  {out : ((Sg × Int32) ⊕ ((Int32 × Sg) ⊕ (Sg × Int32)))} (hf : Outlook_firstHarmless_l71 σ x3 x5 x6 x7 x8 = some out) (hk : zout (fun (s : (Sg × Int32)) => ZAt X Q 0 0 71 s.1 [(0, .ref (X.ad 81)), (3, .int x3), (5, .int x5), (6, .int x6), (7, .int x7), (8, .int s.2)] []) (zout (fun (r : (Int32 × Sg)) => ZrI cX4_firstHarmless X Q r.1 r.2) (fun (s : (Sg × Int32)) => ZAt X Q 0 0 143 s.1 [] [])) out) : ZAt X Q 0 0 71 σ [(0, .ref (X.ad 81)), (3, .int x3), (5, .int x5), (6, .int x6), (7, .int x7), (8, .int x8)] [] := by
  unfold Outlook_firstHarmless_l71 at hf
  refine z_iload ok dX4_firstHarmless_71 5 rfl ?_
  refine z_bipush (v := 60) ok dX4_firstHarmless_73 (by decide) ?_
  refine z_icmp_ge (tgt := 143) ok dX4_firstHarmless_75 (by decide) hf (fun _ hf => ?_) (fun _ hf => ?_)
  · obtain rfl := Option.some.inj hf
    exact z_sub [] rfl hk
  · refine z_iload ok dX4_firstHarmless_78 4 rfl ?_
    refine z_iconst (v := (-1)) ok dX4_firstHarmless_80 (by decide) ?_
    refine z_icmp_eq (tgt := 143) ok dX4_firstHarmless_81 (by decide) hf (fun _ hf => ?_) (fun _ hf => ?_)
    · obtain rfl := Option.some.inj hf
      exact z_sub [] rfl hk
    · refine z_aload_n ok dX4_firstHarmless_84 0 rfl ?_
      refine z_getr (q := 99) ok kc_81 zc_4 hin_4 1 (by decide) fl_4_21 rfl dX4_firstHarmless_85 ?_
      refine z_getr (q := 101) ok kc_99 zc_3 hin_3 2 (by decide) fl_4_153 rfl dX4_firstHarmless_88 ?_
      refine z_iload ok dX4_firstHarmless_91 4 rfl ?_
      refine z_iload ok dX4_firstHarmless_93 3 rfl ?_
      refine z_iload ok dX4_firstHarmless_95 5 rfl ?_
      refine z_iadd ok dX4_firstHarmless_97 ?_
      refine z_iast ok kc_101 dX4_firstHarmless_98 hf (fun σ98 hf => ?_)
      refine z_aload_n ok dX4_firstHarmless_99 0 rfl ?_
      refine z_getr (q := 103) ok kc_81 zc_4 hin_4 2 (by decide) fl_4_28 rfl dX4_firstHarmless_100 ?_
      refine z_aload_n ok dX4_firstHarmless_103 0 rfl ?_
      refine z_getm2 (p := 3) (q := 29) ok kc_81 zc_4 hin_4 3 (by decide) fl_4_32 rfl (by decide) (by decide) dX4_firstHarmless_104 hf (fun q104 e104 hf => ?_)
      have hq104 : zI_Works q104 198 := by rcases e104 with rfl | rfl; exact kI_Works_3; exact kI_Works_29
      obtain ⟨hq104_0, hq104_1, hq104_2, hq104_3, hq104_4, hq104_5, hq104_6, hq104_7, hq104_8, hq104_9, hq104_10, hq104_11, hq104_12, hq104_13, hq104_14, hq104_15, hq104_16, hq104_17, hq104_18, hq104_19, hq104_20, hq104_21, hq104_22, hq104_23, hq104_24, hq104_25⟩ := id hq104
      refine z_aload_n ok dX4_firstHarmless_107 0 rfl ?_
      refine z_getr (q := 99) ok kc_81 zc_4 hin_4 1 (by decide) fl_4_21 rfl dX4_firstHarmless_108 ?_
      refine z_iload_n ok dX4_firstHarmless_111 1 rfl ?_
      refine z_call hf (fun r112 h112 hf => ?_)
      refine z_cVv (As := [.ref (X.ad q104), .ref (X.ad 99), .int x3]) (rest := []) (w := 103) ok kc_103 zc_6 (c_Schedule_planAgain hq104 kI_Orders_99 h112) rfl ⟨ml_4_156, w_Schedule_planAgain⟩ hy_Schedule_planAgain ⟨rfl, rfl⟩ ⟨Nat.le_of_ble_eq_true rfl, Nat.le_of_ble_eq_true rfl⟩ ⟨Nat.zero_le _, Nat.zero_le _⟩ rfl (Nat.le_of_ble_eq_true rfl) dX4_firstHarmless_112 ?_
      refine z_aload_n ok dX4_firstHarmless_115 0 rfl ?_
      refine z_call hf (fun r116 h116 hf => ?_)
      refine z_cVv (As := []) (rest := []) (w := 81) ok kc_81 zc_4 (c_Outlook_lookAgain h116) rfl ⟨ml_4_88, w_Outlook_lookAgain⟩ hy_Outlook_lookAgain ⟨rfl, rfl⟩ ⟨Nat.le_of_ble_eq_true rfl, Nat.le_of_ble_eq_true rfl⟩ ⟨Nat.zero_le _, Nat.zero_le _⟩ rfl (Nat.le_of_ble_eq_true rfl) dX4_firstHarmless_116 ?_
      refine z_aload_n ok dX4_firstHarmless_119 0 rfl ?_
      refine z_sipush (v := 200) ok dX4_firstHarmless_120 (by decide) ?_
      refine z_iload ok dX4_firstHarmless_123 2 rfl ?_
      refine z_call hf (fun r125 h125 hf => ?_)
      refine z_cV (As := [.int 200, .int x5]) (rest := []) (w := 81) ok kc_81 zc_4 (c_Outlook_staysWithin h125) rfl ⟨ml_4_97, w_Outlook_staysWithin⟩ hy_Outlook_staysWithin ⟨rfl, rfl⟩ ⟨Nat.le_of_ble_eq_true rfl, Nat.le_of_ble_eq_true rfl⟩ ⟨Nat.zero_le _, Nat.zero_le _⟩ rfl (Nat.le_of_ble_eq_true rfl) dX4_firstHarmless_125 ?_
      refine z_if_eq (tgt := 137) ok dX4_firstHarmless_128 (by decide) hf (fun _ hf => ?_) (fun _ hf => ?_)
      · refine z_iinc (w := 1) (lv' := fun v137 => [(8, .int v137), (0, .ref (X.ad 81)), (3, .int x3), (5, .int x5), (6, .int x6), (7, .int x7)]) ok dX4_firstHarmless_137 5 rfl (by decide) (by decide) (fun _ => rfl) hf (fun v137 hf => ?_)
        refine z_goto (tgt := 71) ok dX4_firstHarmless_140 (by decide) ?_
        obtain rfl := Option.some.inj hf
        exact z_sub [1, 2, 3, 4, 5, 0] rfl hk
      · refine z_iload ok dX4_firstHarmless_131 3 rfl ?_
        refine z_iload ok dX4_firstHarmless_133 5 rfl ?_
        refine z_iadd ok dX4_firstHarmless_135 ?_
        obtain rfl := Option.some.inj hf
        exact hk _ _ dX4_firstHarmless_136
def Outlook_firstHarmless (σ : Sg) (p1 : Nat) (p2 : Nat) (x3 : Int32) (x4 : Int32) : Option (Int32 × Sg) :=
  (Outlook_look σ p1 p2 200).bind fun r6 =>
  (Outlook_run r6 200).bind fun r13 =>
  zrd r13 90 7 6 fun v25 =>
  zmr1 55 (r13 81 4) <|
  zgt r13 56 0 fun v35 =>
  zmr1 55 (r13 81 4) <|
  (Orders_copyFrom r13 99 73).bind fun r51 =>
  (Orders_add r51 99 x3 v35 x4).bind fun r63 =>
  zlt r63.1 fun v66 =>
  zlt 0 fun v69 =>
  (zit (fun (s : (Sg × Int32)) => Outlook_firstHarmless_l71 s.1 x3 v25 v35 v66 s.2) zFU (r63.2, v69)).bind fun r => r.elim (fun r =>
  some r
  ) (fun r =>
  some ((-1), r.1)
  )
set_option maxRecDepth 20000 in
theorem t_Outlook_firstHarmless {X : Zx} {Q : State → Prop} {σ : Sg} {p1 : Nat} {p2 : Nat} {x3 : Int32} {x4 : Int32} (ok : Zok X cX4_firstHarmless RX4 rm_Outlook_firstHarmless 198 9) (hp1 : zI_Works p1 198) (hp2 : zI_Moment p2 198) {out : (Int32 × Sg)} (hf : Outlook_firstHarmless σ p1 p2 x3 x4 = some out) (hk : ZrI cX4_firstHarmless X Q out.1 out.2) : ZAt X Q 0 0 0 σ [(0, .ref (X.ad 81)), (1, .ref (X.ad p1)), (2, .ref (X.ad p2)), (3, .int x3), (4, .int x4)] [] := by
  unfold Outlook_firstHarmless at hf
  obtain ⟨hp1_0, hp1_1, hp1_2, hp1_3, hp1_4, hp1_5, hp1_6, hp1_7, hp1_8, hp1_9, hp1_10, hp1_11, hp1_12, hp1_13, hp1_14, hp1_15, hp1_16, hp1_17, hp1_18, hp1_19, hp1_20, hp1_21, hp1_22, hp1_23, hp1_24, hp1_25⟩ := id hp1
  obtain ⟨hp2_0, hp2_1, hp2_2, hp2_3, hp2_4, hp2_5, hp2_6, hp2_7, hp2_8, hp2_9, hp2_10, hp2_11, hp2_12, hp2_13, hp2_14, hp2_15, hp2_16, hp2_17, hp2_18, hp2_19, hp2_20, hp2_21, hp2_22, hp2_23, hp2_24⟩ := id hp2
  refine z_aload_n ok dX4_firstHarmless_0 0 rfl ?_
  refine z_aload_n ok dX4_firstHarmless_1 1 rfl ?_
  refine z_aload_n ok dX4_firstHarmless_2 2 rfl ?_
  refine z_sipush (v := 200) ok dX4_firstHarmless_3 (by decide) ?_
  refine z_call hf (fun r6 h6 hf => ?_)
  refine z_cVv (As := [.ref (X.ad p1), .ref (X.ad p2), .int 200]) (rest := []) (w := 81) ok kc_81 zc_4 (c_Outlook_look hp1 hp2 h6) rfl ⟨ml_4_72, w_Outlook_look⟩ hy_Outlook_look ⟨rfl, rfl⟩ ⟨Nat.le_of_ble_eq_true rfl, Nat.le_of_ble_eq_true rfl⟩ ⟨Nat.zero_le _, Nat.zero_le _⟩ rfl (Nat.le_of_ble_eq_true rfl) dX4_firstHarmless_6 ?_
  refine z_aload_n ok dX4_firstHarmless_9 0 rfl ?_
  refine z_sipush (v := 200) ok dX4_firstHarmless_10 (by decide) ?_
  refine z_call hf (fun r13 h13 hf => ?_)
  refine z_cVv (As := [.int 200]) (rest := []) (w := 81) ok kc_81 zc_4 (c_Outlook_run h13) rfl ⟨ml_4_144, w_Outlook_run⟩ hy_Outlook_run ⟨rfl, rfl⟩ ⟨Nat.le_of_ble_eq_true rfl, Nat.le_of_ble_eq_true rfl⟩ ⟨Nat.zero_le _, Nat.zero_le _⟩ rfl (Nat.le_of_ble_eq_true rfl) dX4_firstHarmless_13 ?_
  refine z_aload_n ok dX4_firstHarmless_16 0 rfl ?_
  refine z_getr (q := 82) ok kc_81 zc_4 hin_4 0 (by decide) fl_4_12 rfl dX4_firstHarmless_17 ?_
  refine z_getr (q := 90) ok kc_82 zc_9 hin_9 10 (by decide) fl_4_94 rfl dX4_firstHarmless_20 ?_
  refine z_bipush (v := 6) ok dX4_firstHarmless_23 (by decide) ?_
  refine z_iald ok kc_90 dX4_firstHarmless_25 hf (fun v25 hf => ?_)
  refine z_istore (lv' := [(5, .int v25), (0, .ref (X.ad 81)), (1, .ref (X.ad p1)), (2, .ref (X.ad p2)), (3, .int x3), (4, .int x4)]) ok dX4_firstHarmless_26 (by decide) rfl ?_
  refine z_aload_n ok dX4_firstHarmless_28 1 rfl ?_
  refine z_getm1 (p := 55) ok kc_81 zc_4 hin_4 4 (by decide) fl_4_36 rfl (by decide) dX4_firstHarmless_29 hf (fun hf => ?_)
  refine z_getr (q := 56) ok kc_55 zc_1 hin_1 0 (by decide) fl_4_43 rfl dX4_firstHarmless_32 ?_
  refine z_geti ok kc_56 zc_9 hin_9 0 (by decide) fl_4_44 rfl dX4_firstHarmless_35 hf (fun v35 hf => ?_)
  refine z_istore (lv' := [(6, .int v35), (5, .int v25), (0, .ref (X.ad 81)), (1, .ref (X.ad p1)), (2, .ref (X.ad p2)), (3, .int x3), (4, .int x4)]) ok dX4_firstHarmless_38 (by decide) rfl ?_
  refine z_aload_n ok dX4_firstHarmless_40 2 rfl ?_
  refine z_getr (q := 99) ok kc_81 zc_4 hin_4 1 (by decide) fl_4_21 rfl dX4_firstHarmless_41 ?_
  refine z_aload_n ok dX4_firstHarmless_44 2 rfl ?_
  refine z_getm1 (p := 55) ok kc_81 zc_4 hin_4 4 (by decide) fl_4_36 rfl (by decide) dX4_firstHarmless_45 hf (fun hf => ?_)
  refine z_getr (q := 73) ok kc_55 zc_1 hin_1 1 (by decide) fl_4_40 rfl dX4_firstHarmless_48 ?_
  refine z_call hf (fun r51 h51 hf => ?_)
  refine z_cVv (As := [.ref (X.ad 73)]) (rest := []) (w := 99) ok kc_99 zc_3 (c_Orders_copyFrom kI_Orders_99 kI_Orders_73 h51) rfl ⟨ml_4_147, w_Orders_copyFrom⟩ hy_Orders_copyFrom ⟨rfl, rfl⟩ ⟨Nat.le_of_ble_eq_true rfl, Nat.le_of_ble_eq_true rfl⟩ ⟨Nat.zero_le _, Nat.zero_le _⟩ rfl (Nat.le_of_ble_eq_true rfl) dX4_firstHarmless_51 ?_
  refine z_aload_n ok dX4_firstHarmless_54 2 rfl ?_
  refine z_getr (q := 99) ok kc_81 zc_4 hin_4 1 (by decide) fl_4_21 rfl dX4_firstHarmless_55 ?_
  refine z_iload_n ok dX4_firstHarmless_58 5 rfl ?_
  refine z_iload ok dX4_firstHarmless_59 0 rfl ?_
  refine z_iload ok dX4_firstHarmless_61 6 rfl ?_
  refine z_call hf (fun r63 h63 hf => ?_)
  refine z_cV (As := [.int x3, .int v35, .int x4]) (rest := []) (w := 99) ok kc_99 zc_3 (c_Orders_add kI_Orders_99 h63) rfl ⟨ml_4_150, w_Orders_add⟩ hy_Orders_add ⟨rfl, rfl⟩ ⟨Nat.le_of_ble_eq_true rfl, Nat.le_of_ble_eq_true rfl⟩ ⟨Nat.zero_le _, Nat.zero_le _⟩ rfl (Nat.le_of_ble_eq_true rfl) dX4_firstHarmless_63 ?_
  refine z_nm hf (fun v66 hf => ?_)
  refine z_istore (lv' := [(7, .int v66), (6, .int v35), (5, .int v25), (0, .ref (X.ad 81)), (1, .ref (X.ad p1)), (2, .ref (X.ad p2)), (3, .int x3), (4, .int x4)]) ok dX4_firstHarmless_66 (by decide) rfl ?_
  refine z_iconst (v := 0) ok dX4_firstHarmless_68 (by decide) ?_
  refine z_nm hf (fun v69 hf => ?_)
  refine z_istore (lv' := [(8, .int v69), (7, .int v66), (6, .int v35), (5, .int v25), (0, .ref (X.ad 81)), (1, .ref (X.ad p1)), (2, .ref (X.ad p2)), (3, .int x3), (4, .int x4)]) ok dX4_firstHarmless_69 (by decide) rfl ?_
  refine z_call hf (fun r hr hf => ?_)
  refine z_sub [4, 7, 3, 2, 1, 0] rfl (z_iter (fun (s : (Sg × Int32)) => s.1) (fun (s : (Sg × Int32)) => [(0, .ref (X.ad 81)), (3, .int x3), (5, .int v25), (6, .int v35), (7, .int v66), (8, .int s.2)]) (fun s o h1 h2 => t_Outlook_firstHarmless_l71 ok h1 h2) _ _ _ hr ?_)
  cases r with
  | inl r =>
    obtain rfl := Option.some.inj hf
    exact hk
  | inr r =>
    simp only [Sum.elim_inr] at hf
    show ZAt X Q 0 0 143 r.1 [] []
    refine z_iconst (v := (-1)) ok dX4_firstHarmless_143 (by decide) ?_
    obtain rfl := Option.some.inj hf
    exact hk _ _ dX4_firstHarmless_144
theorem c_Outlook_firstHarmless {σ : Sg} {p1 : Nat} {p2 : Nat} {x3 : Int32} {x4 : Int32} (hp1 : zI_Works p1 198) (hp2 : zI_Moment p2 198) {r : (Int32 × Sg)} (h : Outlook_firstHarmless σ p1 p2 x3 x4 = some r) : ZcI yX4_firstHarmless cX4_firstHarmless 9 .int rm_Outlook_firstHarmless 198 (fun ad => [.ref (ad 81), .ref (ad p1), .ref (ad p2), .int x3, .int x4]) σ r.1 r.2 :=
  zmetI pn_4 rfl (fun _ => rfl) (fun _ => Nat.le_of_ble_eq_true rfl) rfl (fun X Q ok hk => t_Outlook_firstHarmless ok hp1 hp2 h hk)
theorem dX11_fits_0 : decode cX11_fits 0 = .ok (.aload_n 0, 1) := by decide +kernel
theorem dX11_fits_1 : decode cX11_fits 1 = .ok (.iload_n 1, 1) := by decide +kernel
theorem dX11_fits_2 : decode cX11_fits 2 = .ok (.invokevirtual 164, 3) := by decide +kernel
theorem dX11_fits_5 : decode cX11_fits 5 = .ok (.ifCond .eq 29, 3) := by decide +kernel
theorem dX11_fits_8 : decode cX11_fits 8 = .ok (.iload_n 2, 1) := by decide +kernel
theorem dX11_fits_9 : decode cX11_fits 9 = .ok (.iconst 1, 1) := by decide +kernel
theorem dX11_fits_10 : decode cX11_fits 10 = .ok (.if_icmp .lt 24, 3) := by decide +kernel
theorem dX11_fits_13 : decode cX11_fits 13 = .ok (.iload_n 2, 1) := by decide +kernel
theorem dX11_fits_14 : decode cX11_fits 14 = .ok (.bipush 99, 2) := by decide +kernel
theorem dX11_fits_16 : decode cX11_fits 16 = .ok (.if_icmp .gt 18, 3) := by decide +kernel
theorem dX11_fits_19 : decode cX11_fits 19 = .ok (.aload_n 0, 1) := by decide +kernel
theorem dX11_fits_20 : decode cX11_fits 20 = .ok (.getfield 37, 3) := by decide +kernel
theorem dX11_fits_23 : decode cX11_fits 23 = .ok (.getfield 117, 3) := by decide +kernel
theorem dX11_fits_26 : decode cX11_fits 26 = .ok (.getfield 121, 3) := by decide +kernel
theorem dX11_fits_29 : decode cX11_fits 29 = .ok (.bipush 16, 2) := by decide +kernel
theorem dX11_fits_31 : decode cX11_fits 31 = .ok (.if_icmp .lt 5, 3) := by decide +kernel
theorem dX11_fits_34 : decode cX11_fits 34 = .ok (.iconst (-1), 1) := by decide +kernel
theorem dX11_fits_35 : decode cX11_fits 35 = .ok (.ireturn, 1) := by decide +kernel
theorem dX11_fits_36 : decode cX11_fits 36 = .ok (.aload_n 0, 1) := by decide +kernel
theorem dX11_fits_37 : decode cX11_fits 37 = .ok (.getfield 48, 3) := by decide +kernel
theorem dX11_fits_40 : decode cX11_fits 40 = .ok (.aload_n 0, 1) := by decide +kernel
theorem dX11_fits_41 : decode cX11_fits 41 = .ok (.getfield 23, 3) := by decide +kernel
theorem dX11_fits_44 : decode cX11_fits 44 = .ok (.aload_n 0, 1) := by decide +kernel
theorem dX11_fits_45 : decode cX11_fits 45 = .ok (.getfield 37, 3) := by decide +kernel
theorem dX11_fits_48 : decode cX11_fits 48 = .ok (.iload_n 1, 1) := by decide +kernel
theorem dX11_fits_49 : decode cX11_fits 49 = .ok (.iload_n 2, 1) := by decide +kernel
theorem dX11_fits_50 : decode cX11_fits 50 = .ok (.invokevirtual 324, 3) := by decide +kernel
theorem dX11_fits_53 : decode cX11_fits 53 = .ok (.ireturn, 1) := by decide +kernel
abbrev rm_CK_fits : Room := { frames := 7, cells := 0, slots := 0, locals := 163 }
def CK_fits (σ : Sg) (x1 : Int32) (x2 : Int32) : Option (Int32 × Sg) :=
  (CK_isOutlet σ x1).bind fun r2 =>
  if (zb r2) = 0 then (
    some ((-1), σ)
  ) else (
    if x2 < 1 then (
      some ((-1), σ)
    ) else (
      if 99 < x2 then (
        some ((-1), σ)
      ) else (
        zgt σ 73 0 fun v26 =>
        if v26 < 16 then (
          zmr2 3 29 (σ 0 3) fun q41 =>
          (Outlook_firstHarmless σ q41 55 x1 x2).bind fun r50 =>
          some (r50.1, r50.2)
        ) else (
          some ((-1), σ)
        )
      )
    )
  )
set_option maxRecDepth 20000 in
theorem t_CK_fits {X : Zx} {Q : State → Prop} {σ : Sg} {x1 : Int32} {x2 : Int32} (ok : Zok X cX11_fits RX11 rm_CK_fits 198 3)  {out : (Int32 × Sg)} (hf : CK_fits σ x1 x2 = some out) (hk : ZrI cX11_fits X Q out.1 out.2) : ZAt X Q 0 0 0 σ [(0, .ref (X.ad 0)), (1, .int x1), (2, .int x2)] [] := by
  unfold CK_fits at hf
  refine z_aload_n ok dX11_fits_0 0 rfl ?_
  refine z_iload_n ok dX11_fits_1 1 rfl ?_
  refine z_call hf (fun r2 h2 hf => ?_)
  refine z_cV (As := [.int x1]) (rest := []) (w := 0) ok kc_0 zc_11 (c_CK_isOutlet h2) rfl ⟨ml_11_164, w_CK_isOutlet⟩ hy_CK_isOutlet ⟨rfl, rfl⟩ ⟨Nat.le_of_ble_eq_true rfl, Nat.le_of_ble_eq_true rfl⟩ ⟨Nat.zero_le _, Nat.zero_le _⟩ rfl (Nat.le_of_ble_eq_true rfl) dX11_fits_2 ?_
  refine z_if_eq (tgt := 34) ok dX11_fits_5 (by decide) hf (fun _ hf => ?_) (fun _ hf => ?_)
  · refine z_iconst (v := (-1)) ok dX11_fits_34 (by decide) ?_
    obtain rfl := Option.some.inj hf
    exact hk _ _ dX11_fits_35
  · refine z_iload_n ok dX11_fits_8 2 rfl ?_
    refine z_iconst (v := 1) ok dX11_fits_9 (by decide) ?_
    refine z_icmp_lt (tgt := 34) ok dX11_fits_10 (by decide) hf (fun _ hf => ?_) (fun _ hf => ?_)
    · refine z_iconst (v := (-1)) ok dX11_fits_34 (by decide) ?_
      obtain rfl := Option.some.inj hf
      exact hk _ _ dX11_fits_35
    · refine z_iload_n ok dX11_fits_13 2 rfl ?_
      refine z_bipush (v := 99) ok dX11_fits_14 (by decide) ?_
      refine z_icmp_gt (tgt := 34) ok dX11_fits_16 (by decide) hf (fun _ hf => ?_) (fun _ hf => ?_)
      · refine z_iconst (v := (-1)) ok dX11_fits_34 (by decide) ?_
        obtain rfl := Option.some.inj hf
        exact hk _ _ dX11_fits_35
      · refine z_aload_n ok dX11_fits_19 0 rfl ?_
        refine z_getr (q := 55) ok kc_0 zc_11 hin_11 8 (by decide) fl_11_37 rfl dX11_fits_20 ?_
        refine z_getr (q := 73) ok kc_55 zc_1 hin_1 1 (by decide) fl_11_117 rfl dX11_fits_23 ?_
        refine z_geti ok kc_73 zc_3 hin_3 0 (by decide) fl_11_121 rfl dX11_fits_26 hf (fun v26 hf => ?_)
        refine z_bipush (v := 16) ok dX11_fits_29 (by decide) ?_
        refine z_icmp_lt (tgt := 36) ok dX11_fits_31 (by decide) hf (fun _ hf => ?_) (fun _ hf => ?_)
        · refine z_aload_n ok dX11_fits_36 0 rfl ?_
          refine z_getr (q := 81) ok kc_0 zc_11 hin_11 12 (by decide) fl_11_48 rfl dX11_fits_37 ?_
          refine z_aload_n ok dX11_fits_40 0 rfl ?_
          refine z_getm2 (p := 3) (q := 29) ok kc_0 zc_11 hin_11 3 (by decide) fl_11_23 rfl (by decide) (by decide) dX11_fits_41 hf (fun q41 e41 hf => ?_)
          have hq41 : zI_Works q41 198 := by rcases e41 with rfl | rfl; exact kI_Works_3; exact kI_Works_29
          obtain ⟨hq41_0, hq41_1, hq41_2, hq41_3, hq41_4, hq41_5, hq41_6, hq41_7, hq41_8, hq41_9, hq41_10, hq41_11, hq41_12, hq41_13, hq41_14, hq41_15, hq41_16, hq41_17, hq41_18, hq41_19, hq41_20, hq41_21, hq41_22, hq41_23, hq41_24, hq41_25⟩ := id hq41
          refine z_aload_n ok dX11_fits_44 0 rfl ?_
          refine z_getr (q := 55) ok kc_0 zc_11 hin_11 8 (by decide) fl_11_37 rfl dX11_fits_45 ?_
          refine z_iload_n ok dX11_fits_48 1 rfl ?_
          refine z_iload_n ok dX11_fits_49 2 rfl ?_
          refine z_call hf (fun r50 h50 hf => ?_)
          refine z_cV (As := [.ref (X.ad q41), .ref (X.ad 55), .int x1, .int x2]) (rest := []) (w := 81) ok kc_81 zc_4 (c_Outlook_firstHarmless hq41 kI_Moment_55 h50) rfl ⟨ml_11_324, w_Outlook_firstHarmless⟩ hy_Outlook_firstHarmless ⟨rfl, rfl⟩ ⟨Nat.le_of_ble_eq_true rfl, Nat.le_of_ble_eq_true rfl⟩ ⟨Nat.zero_le _, Nat.zero_le _⟩ rfl (Nat.le_of_ble_eq_true rfl) dX11_fits_50 ?_
          obtain rfl := Option.some.inj hf
          exact hk _ _ dX11_fits_53
        · refine z_iconst (v := (-1)) ok dX11_fits_34 (by decide) ?_
          obtain rfl := Option.some.inj hf
          exact hk _ _ dX11_fits_35
theorem c_CK_fits {σ : Sg} {x1 : Int32} {x2 : Int32} {r : (Int32 × Sg)} (h : CK_fits σ x1 x2 = some r) : ZcI yX11_fits cX11_fits 3 .int rm_CK_fits 198 (fun ad => [.ref (ad 0), .int x1, .int x2]) σ r.1 r.2 :=
  zmetI pn_11 rfl (fun _ => rfl) (fun _ => Nat.le_of_ble_eq_true rfl) rfl (fun X Q ok hk => t_CK_fits ok h hk)
theorem dX7_isTelling_0 : decode cX7_isTelling 0 = .ok (.iload_n 1, 1) := by decide +kernel
theorem dX7_isTelling_1 : decode cX7_isTelling 1 = .ok (.iconst 3, 1) := by decide +kernel
theorem dX7_isTelling_2 : decode cX7_isTelling 2 = .ok (.if_icmp .lt 15, 3) := by decide +kernel
theorem dX7_isTelling_5 : decode cX7_isTelling 5 = .ok (.iload_n 1, 1) := by decide +kernel
theorem dX7_isTelling_6 : decode cX7_isTelling 6 = .ok (.bipush 30, 2) := by decide +kernel
theorem dX7_isTelling_8 : decode cX7_isTelling 8 = .ok (.if_icmp .gt 9, 3) := by decide +kernel
theorem dX7_isTelling_11 : decode cX7_isTelling 11 = .ok (.iload_n 1, 1) := by decide +kernel
theorem dX7_isTelling_12 : decode cX7_isTelling 12 = .ok (.iconst 3, 1) := by decide +kernel
theorem dX7_isTelling_13 : decode cX7_isTelling 13 = .ok (.irem, 1) := by decide +kernel
theorem dX7_isTelling_14 : decode cX7_isTelling 14 = .ok (.ifCond .eq 5, 3) := by decide +kernel
theorem dX7_isTelling_17 : decode cX7_isTelling 17 = .ok (.iconst 0, 1) := by decide +kernel
theorem dX7_isTelling_18 : decode cX7_isTelling 18 = .ok (.ireturn, 1) := by decide +kernel
theorem dX7_isTelling_19 : decode cX7_isTelling 19 = .ok (.iconst 0, 1) := by decide +kernel
theorem dX7_isTelling_20 : decode cX7_isTelling 20 = .ok (.istore_n 2, 1) := by decide +kernel
theorem dX7_isTelling_21 : decode cX7_isTelling 21 = .ok (.iload_n 2, 1) := by decide +kernel
theorem dX7_isTelling_22 : decode cX7_isTelling 22 = .ok (.iload_n 1, 1) := by decide +kernel
theorem dX7_isTelling_23 : decode cX7_isTelling 23 = .ok (.if_icmp .ge 30, 3) := by decide +kernel
theorem dX7_isTelling_26 : decode cX7_isTelling 26 = .ok (.aload_n 0, 1) := by decide +kernel
theorem dX7_isTelling_27 : decode cX7_isTelling 27 = .ok (.iload_n 2, 1) := by decide +kernel
theorem dX7_isTelling_28 : decode cX7_isTelling 28 = .ok (.baload, 1) := by decide +kernel
theorem dX7_isTelling_29 : decode cX7_isTelling 29 = .ok (.sipush 255, 3) := by decide +kernel
theorem dX7_isTelling_32 : decode cX7_isTelling 32 = .ok (.iand, 1) := by decide +kernel
theorem dX7_isTelling_33 : decode cX7_isTelling 33 = .ok (.istore_n 3, 1) := by decide +kernel
theorem dX7_isTelling_34 : decode cX7_isTelling 34 = .ok (.iload_n 3, 1) := by decide +kernel
theorem dX7_isTelling_35 : decode cX7_isTelling 35 = .ok (.iconst 1, 1) := by decide +kernel
theorem dX7_isTelling_36 : decode cX7_isTelling 36 = .ok (.if_icmp .lt 9, 3) := by decide +kernel
theorem dX7_isTelling_39 : decode cX7_isTelling 39 = .ok (.iload_n 3, 1) := by decide +kernel
theorem dX7_isTelling_40 : decode cX7_isTelling 40 = .ok (.bipush 40, 2) := by decide +kernel
theorem dX7_isTelling_42 : decode cX7_isTelling 42 = .ok (.if_icmp .le 5, 3) := by decide +kernel
theorem dX7_isTelling_45 : decode cX7_isTelling 45 = .ok (.iconst 0, 1) := by decide +kernel
theorem dX7_isTelling_46 : decode cX7_isTelling 46 = .ok (.ireturn, 1) := by decide +kernel
theorem dX7_isTelling_47 : decode cX7_isTelling 47 = .ok (.iinc 2 3, 3) := by decide +kernel
theorem dX7_isTelling_50 : decode cX7_isTelling 50 = .ok (.goto (-29), 3) := by decide +kernel
theorem dX7_isTelling_53 : decode cX7_isTelling 53 = .ok (.iconst 1, 1) := by decide +kernel
theorem dX7_isTelling_54 : decode cX7_isTelling 54 = .ok (.ireturn, 1) := by decide +kernel
abbrev rm_Sight_isTelling : Room := { frames := 0, cells := 0, slots := 0, locals := 0 }
def Sight_isTelling_l21 (σ : Sg) (a0 : Nat) (n0 : Nat) (x1 : Int32) (x2 : Int32) : Option (Int32 ⊕ (Bool ⊕ Int32)) :=
  if x1 ≤ x2 then (
    some (.inr (.inr x2))
  ) else (
    zrd σ a0 n0 x2 fun v28 =>
    zlt (v28 &&& 255) fun v33 =>
    if v33 < 1 then (
      some (.inr (.inl false))
    ) else (
      if v33 ≤ 40 then (
        zlt (x2 + 3) fun v47 =>
        some (.inl v47)
      ) else (
        some (.inr (.inl false))
      )
    )
  )
set_option maxRecDepth 20000 in
theorem t_Sight_isTelling_l21 {X : Zx} {Q : State → Prop} {σ : Sg} {a0 : Nat} {n0 : Nat} {x1 : Int32} {x2 : Int32} (ok : Zok X cX7_isTelling RX7 rm_Sight_isTelling 198 4) (ha0 : zk a0 198 (.inr (1, n0, []))) {out : (Int32 ⊕ (Bool ⊕ Int32))} (hf : Sight_isTelling_l21 σ a0 n0 x1 x2 = some out) (hk : zout (fun (s : Int32) => ZAt X Q 0 0 21 σ [(0, .ref (X.ad a0)), (1, .int x1), (2, .int s)] []) (zout (fun (r : Bool) => ZrI cX7_isTelling X Q (zb r) σ) (fun (s : Int32) => ZAt X Q 0 0 53 σ [] [])) out) : ZAt X Q 0 0 21 σ [(0, .ref (X.ad a0)), (1, .int x1), (2, .int x2)] [] := by
  unfold Sight_isTelling_l21 at hf
  refine z_iload_n ok dX7_isTelling_21 2 rfl ?_
  refine z_iload_n ok dX7_isTelling_22 1 rfl ?_
  refine z_icmp_ge (tgt := 53) ok dX7_isTelling_23 (by decide) hf (fun _ hf => ?_) (fun _ hf => ?_)
  · obtain rfl := Option.some.inj hf
    exact z_sub [] rfl hk
  · refine z_aload_n ok dX7_isTelling_26 0 rfl ?_
    refine z_iload_n ok dX7_isTelling_27 2 rfl ?_
    refine z_bald ok ha0 dX7_isTelling_28 hf (fun v28 hf => ?_)
    refine z_sipush (v := 255) ok dX7_isTelling_29 (by decide) ?_
    refine z_iand ok dX7_isTelling_32 ?_
    refine z_nm hf (fun v33 hf => ?_)
    refine z_istore_n (lv' := [(3, .int v33), (0, .ref (X.ad a0)), (1, .int x1), (2, .int x2)]) ok dX7_isTelling_33 (by decide) rfl ?_
    refine z_iload_n ok dX7_isTelling_34 0 rfl ?_
    refine z_iconst (v := 1) ok dX7_isTelling_35 (by decide) ?_
    refine z_icmp_lt (tgt := 45) ok dX7_isTelling_36 (by decide) hf (fun _ hf => ?_) (fun _ hf => ?_)
    · refine z_iconst (v := 0) ok dX7_isTelling_45 (by decide) ?_
      obtain rfl := Option.some.inj hf
      exact hk _ _ dX7_isTelling_46
    · refine z_iload_n ok dX7_isTelling_39 0 rfl ?_
      refine z_bipush (v := 40) ok dX7_isTelling_40 (by decide) ?_
      refine z_icmp_le (tgt := 47) ok dX7_isTelling_42 (by decide) hf (fun _ hf => ?_) (fun _ hf => ?_)
      · refine z_iinc (w := 3) (lv' := fun v47 => [(2, .int v47), (3, .int v33), (0, .ref (X.ad a0)), (1, .int x1)]) ok dX7_isTelling_47 3 rfl (by decide) (by decide) (fun _ => rfl) hf (fun v47 hf => ?_)
        refine z_goto (tgt := 21) ok dX7_isTelling_50 (by decide) ?_
        obtain rfl := Option.some.inj hf
        exact z_sub [2, 3, 0] rfl hk
      · refine z_iconst (v := 0) ok dX7_isTelling_45 (by decide) ?_
        obtain rfl := Option.some.inj hf
        exact hk _ _ dX7_isTelling_46
def Sight_isTelling (σ : Sg) (a0 : Nat) (n0 : Nat) (x1 : Int32) : Option Bool :=
  if x1 < 3 then (
    some false
  ) else (
    if 30 < x1 then (
      some false
    ) else (
      if (x1 - x1 / 3 * 3) = 0 then (
        zlt 0 fun v20 =>
        (zit (fun (s : Int32) => Sight_isTelling_l21 σ a0 n0 x1 s) zFU v20).bind fun r => r.elim (fun r =>
        some r
        ) (fun r =>
        some true
        )
      ) else (
        some false
      )
    )
  )
set_option maxRecDepth 20000 in
theorem t_Sight_isTelling {X : Zx} {Q : State → Prop} {σ : Sg} {a0 : Nat} {n0 : Nat} {x1 : Int32} (ok : Zok X cX7_isTelling RX7 rm_Sight_isTelling 198 4) (ha0 : zk a0 198 (.inr (1, n0, []))) {out : Bool} (hf : Sight_isTelling σ a0 n0 x1 = some out) (hk : ZrI cX7_isTelling X Q (zb out) σ) : ZAt X Q 0 0 0 σ [(0, .ref (X.ad a0)), (1, .int x1)] [] := by
  unfold Sight_isTelling at hf
  refine z_iload_n ok dX7_isTelling_0 1 rfl ?_
  refine z_iconst (v := 3) ok dX7_isTelling_1 (by decide) ?_
  refine z_icmp_lt (tgt := 17) ok dX7_isTelling_2 (by decide) hf (fun _ hf => ?_) (fun _ hf => ?_)
  · refine z_iconst (v := 0) ok dX7_isTelling_17 (by decide) ?_
    obtain rfl := Option.some.inj hf
    exact hk _ _ dX7_isTelling_18
  · refine z_iload_n ok dX7_isTelling_5 1 rfl ?_
    refine z_bipush (v := 30) ok dX7_isTelling_6 (by decide) ?_
    refine z_icmp_gt (tgt := 17) ok dX7_isTelling_8 (by decide) hf (fun _ hf => ?_) (fun _ hf => ?_)
    · refine z_iconst (v := 0) ok dX7_isTelling_17 (by decide) ?_
      obtain rfl := Option.some.inj hf
      exact hk _ _ dX7_isTelling_18
    · refine z_iload_n ok dX7_isTelling_11 1 rfl ?_
      refine z_iconst (v := 3) ok dX7_isTelling_12 (by decide) ?_
      refine z_iremc ok dX7_isTelling_13 (by decide) ?_
      refine z_if_eq (tgt := 19) ok dX7_isTelling_14 (by decide) hf (fun _ hf => ?_) (fun _ hf => ?_)
      · refine z_iconst (v := 0) ok dX7_isTelling_19 (by decide) ?_
        refine z_nm hf (fun v20 hf => ?_)
        refine z_istore_n (lv' := [(2, .int v20), (0, .ref (X.ad a0)), (1, .int x1)]) ok dX7_isTelling_20 (by decide) rfl ?_
        refine z_call hf (fun r hr hf => ?_)
        refine z_sub [1, 2, 0] rfl (z_iter (fun (s : Int32) => σ) (fun (s : Int32) => [(0, .ref (X.ad a0)), (1, .int x1), (2, .int s)]) (fun s o h1 h2 => t_Sight_isTelling_l21 ok ha0 h1 h2) _ _ _ hr ?_)
        cases r with
        | inl r =>
          obtain rfl := Option.some.inj hf
          exact hk
        | inr r =>
          simp only [Sum.elim_inr] at hf
          show ZAt X Q 0 0 53 σ [] []
          refine z_iconst (v := 1) ok dX7_isTelling_53 (by decide) ?_
          obtain rfl := Option.some.inj hf
          exact hk _ _ dX7_isTelling_54
      · refine z_iconst (v := 0) ok dX7_isTelling_17 (by decide) ?_
        obtain rfl := Option.some.inj hf
        exact hk _ _ dX7_isTelling_18
theorem c_Sight_isTelling {σ : Sg} {a0 : Nat} {n0 : Nat} {x1 : Int32} (ha0 : zk a0 198 (.inr (1, n0, []))) {r : Bool} (h : Sight_isTelling σ a0 n0 x1 = some r) : ZcI yX7_isTelling cX7_isTelling 4 .boolean rm_Sight_isTelling 198 (fun ad => [.ref (ad a0), .int x1]) σ (zb r) σ :=
  zmetI pn_7 rfl (fun _ => rfl) (fun _ => Nat.le_of_ble_eq_true rfl) (zb_nar _) (fun X Q ok hk => t_Sight_isTelling ok ha0 h hk)
theorem dX7_take_0 : decode cX7_take 0 = .ok (.aload_n 0, 1) := by decide +kernel
theorem dX7_take_1 : decode cX7_take 1 = .ok (.iload_n 1, 1) := by decide +kernel
theorem dX7_take_2 : decode cX7_take 2 = .ok (.putfield 26, 3) := by decide +kernel
theorem dX7_take_5 : decode cX7_take 5 = .ok (.aload_n 0, 1) := by decide +kernel
theorem dX7_take_6 : decode cX7_take 6 = .ok (.iload_n 3, 1) := by decide +kernel
theorem dX7_take_7 : decode cX7_take 7 = .ok (.iconst 3, 1) := by decide +kernel
theorem dX7_take_8 : decode cX7_take 8 = .ok (.idiv, 1) := by decide +kernel
theorem dX7_take_9 : decode cX7_take 9 = .ok (.bipush 10, 2) := by decide +kernel
theorem dX7_take_11 : decode cX7_take 11 = .ok (.invokestatic 30, 3) := by decide +kernel
theorem dX7_take_14 : decode cX7_take 14 = .ok (.putfield 36, 3) := by decide +kernel
theorem dX7_take_17 : decode cX7_take 17 = .ok (.iconst 0, 1) := by decide +kernel
theorem dX7_take_18 : decode cX7_take 18 = .ok (.istore 4, 2) := by decide +kernel
theorem dX7_take_20 : decode cX7_take 20 = .ok (.iload 4, 2) := by decide +kernel
theorem dX7_take_22 : decode cX7_take 22 = .ok (.aload_n 0, 1) := by decide +kernel
theorem dX7_take_23 : decode cX7_take 23 = .ok (.getfield 36, 3) := by decide +kernel
theorem dX7_take_26 : decode cX7_take 26 = .ok (.if_icmp .ge 62, 3) := by decide +kernel
theorem dX7_take_29 : decode cX7_take 29 = .ok (.aload_n 0, 1) := by decide +kernel
theorem dX7_take_30 : decode cX7_take 30 = .ok (.getfield 9, 3) := by decide +kernel
theorem dX7_take_33 : decode cX7_take 33 = .ok (.iload 4, 2) := by decide +kernel
theorem dX7_take_35 : decode cX7_take 35 = .ok (.aload_n 2, 1) := by decide +kernel
theorem dX7_take_36 : decode cX7_take 36 = .ok (.iload 4, 2) := by decide +kernel
theorem dX7_take_38 : decode cX7_take 38 = .ok (.iconst 3, 1) := by decide +kernel
theorem dX7_take_39 : decode cX7_take 39 = .ok (.imul, 1) := by decide +kernel
theorem dX7_take_40 : decode cX7_take 40 = .ok (.baload, 1) := by decide +kernel
theorem dX7_take_41 : decode cX7_take 41 = .ok (.sipush 255, 3) := by decide +kernel
theorem dX7_take_44 : decode cX7_take 44 = .ok (.iand, 1) := by decide +kernel
theorem dX7_take_45 : decode cX7_take 45 = .ok (.iastore, 1) := by decide +kernel
theorem dX7_take_46 : decode cX7_take 46 = .ok (.aload_n 0, 1) := by decide +kernel
theorem dX7_take_47 : decode cX7_take 47 = .ok (.getfield 15, 3) := by decide +kernel
theorem dX7_take_50 : decode cX7_take 50 = .ok (.iload 4, 2) := by decide +kernel
theorem dX7_take_52 : decode cX7_take 52 = .ok (.aload_n 2, 1) := by decide +kernel
theorem dX7_take_53 : decode cX7_take 53 = .ok (.iload 4, 2) := by decide +kernel
theorem dX7_take_55 : decode cX7_take 55 = .ok (.iconst 3, 1) := by decide +kernel
theorem dX7_take_56 : decode cX7_take 56 = .ok (.imul, 1) := by decide +kernel
theorem dX7_take_57 : decode cX7_take 57 = .ok (.iconst 1, 1) := by decide +kernel
theorem dX7_take_58 : decode cX7_take 58 = .ok (.iadd, 1) := by decide +kernel
theorem dX7_take_59 : decode cX7_take 59 = .ok (.baload, 1) := by decide +kernel
theorem dX7_take_60 : decode cX7_take 60 = .ok (.sipush 255, 3) := by decide +kernel
theorem dX7_take_63 : decode cX7_take 63 = .ok (.iand, 1) := by decide +kernel
theorem dX7_take_64 : decode cX7_take 64 = .ok (.sipush 256, 3) := by decide +kernel
theorem dX7_take_67 : decode cX7_take 67 = .ok (.imul, 1) := by decide +kernel
theorem dX7_take_68 : decode cX7_take 68 = .ok (.aload_n 2, 1) := by decide +kernel
theorem dX7_take_69 : decode cX7_take 69 = .ok (.iload 4, 2) := by decide +kernel
theorem dX7_take_71 : decode cX7_take 71 = .ok (.iconst 3, 1) := by decide +kernel
theorem dX7_take_72 : decode cX7_take 72 = .ok (.imul, 1) := by decide +kernel
theorem dX7_take_73 : decode cX7_take 73 = .ok (.iconst 2, 1) := by decide +kernel
theorem dX7_take_74 : decode cX7_take 74 = .ok (.iadd, 1) := by decide +kernel
theorem dX7_take_75 : decode cX7_take 75 = .ok (.baload, 1) := by decide +kernel
theorem dX7_take_76 : decode cX7_take 76 = .ok (.sipush 255, 3) := by decide +kernel
theorem dX7_take_79 : decode cX7_take 79 = .ok (.iand, 1) := by decide +kernel
theorem dX7_take_80 : decode cX7_take 80 = .ok (.iadd, 1) := by decide +kernel
theorem dX7_take_81 : decode cX7_take 81 = .ok (.iastore, 1) := by decide +kernel
theorem dX7_take_82 : decode cX7_take 82 = .ok (.iinc 4 1, 3) := by decide +kernel
theorem dX7_take_85 : decode cX7_take 85 = .ok (.goto (-65), 3) := by decide +kernel
theorem dX7_take_88 : decode cX7_take 88 = .ok (.return_, 1) := by decide +kernel
abbrev rm_Sight_take : Room := { frames := 1, cells := 0, slots := 0, locals := 21 }
def Sight_take_l20 (σ : Sg) (a2 : Nat) (n2 : Nat) (x4 : Int32) : Option ((Sg × Int32) ⊕ (Sg × Int32)) :=
  zgt σ 124 0 fun v23 =>
  if v23 ≤ x4 then (
    some (.inr (σ, x4))
  ) else (
    zrd σ a2 n2 (x4 * 3) fun v40 =>
    zwr σ 125 10 x4 (v40 &&& 255) fun σ45 =>
    zrd σ45 a2 n2 ((x4 * 3) + 1) fun v59 =>
    zrd σ45 a2 n2 ((x4 * 3) + 2) fun v75 =>
    zwr σ45 126 10 x4 (((v59 &&& 255) * 256) + (v75 &&& 255)) fun σ81 =>
    zlt (x4 + 1) fun v82 =>
    some (.inl (σ81, v82))
  )
set_option maxRecDepth 20000 in
theorem t_Sight_take_l20 {X : Zx} {Q : State → Prop} {σ : Sg} {a2 : Nat} {n2 : Nat} {x4 : Int32} (ok : Zok X cX7_take RX7 rm_Sight_take 198 5) (ha2 : zk a2 198 (.inr (1, n2, []))) {out : ((Sg × Int32) ⊕ (Sg × Int32))} (hf : Sight_take_l20 σ a2 n2 x4 = some out) (hk : zout (fun (s : (Sg × Int32)) => ZAt X Q 0 0 20 s.1 [(0, .ref (X.ad 124)), (2, .ref (X.ad a2)), (4, .int s.2)] []) (fun (s : (Sg × Int32)) => ZAt X Q 0 0 88 s.1 [] []) out) : ZAt X Q 0 0 20 σ [(0, .ref (X.ad 124)), (2, .ref (X.ad a2)), (4, .int x4)] [] := by
  unfold Sight_take_l20 at hf
  refine z_iload ok dX7_take_20 2 rfl ?_
  refine z_aload_n ok dX7_take_22 0 rfl ?_
  refine z_geti ok kc_124 zc_7 hin_7 0 (by decide) fl_7_36 rfl dX7_take_23 hf (fun v23 hf => ?_)
  refine z_icmp_ge (tgt := 88) ok dX7_take_26 (by decide) hf (fun _ hf => ?_) (fun _ hf => ?_)
  · obtain rfl := Option.some.inj hf
    exact z_sub [] rfl hk
  · refine z_aload_n ok dX7_take_29 0 rfl ?_
    refine z_getr (q := 125) ok kc_124 zc_7 hin_7 2 (by decide) fl_7_9 rfl dX7_take_30 ?_
    refine z_iload ok dX7_take_33 2 rfl ?_
    refine z_aload_n ok dX7_take_35 1 rfl ?_
    refine z_iload ok dX7_take_36 2 rfl ?_
    refine z_iconst (v := 3) ok dX7_take_38 (by decide) ?_
    refine z_imul ok dX7_take_39 ?_
    refine z_bald ok ha2 dX7_take_40 hf (fun v40 hf => ?_)
    refine z_sipush (v := 255) ok dX7_take_41 (by decide) ?_
    refine z_iand ok dX7_take_44 ?_
    refine z_iast ok kc_125 dX7_take_45 hf (fun σ45 hf => ?_)
    refine z_aload_n ok dX7_take_46 0 rfl ?_
    refine z_getr (q := 126) ok kc_124 zc_7 hin_7 3 (by decide) fl_7_15 rfl dX7_take_47 ?_
    refine z_iload ok dX7_take_50 2 rfl ?_
    refine z_aload_n ok dX7_take_52 1 rfl ?_
    refine z_iload ok dX7_take_53 2 rfl ?_
    refine z_iconst (v := 3) ok dX7_take_55 (by decide) ?_
    refine z_imul ok dX7_take_56 ?_
    refine z_iconst (v := 1) ok dX7_take_57 (by decide) ?_
    refine z_iadd ok dX7_take_58 ?_
    refine z_bald ok ha2 dX7_take_59 hf (fun v59 hf => ?_)
    refine z_sipush (v := 255) ok dX7_take_60 (by decide) ?_
    refine z_iand ok dX7_take_63 ?_
    refine z_sipush (v := 256) ok dX7_take_64 (by decide) ?_
    refine z_imul ok dX7_take_67 ?_
    refine z_aload_n ok dX7_take_68 1 rfl ?_
    refine z_iload ok dX7_take_69 2 rfl ?_
    refine z_iconst (v := 3) ok dX7_take_71 (by decide) ?_
    refine z_imul ok dX7_take_72 ?_
    refine z_iconst (v := 2) ok dX7_take_73 (by decide) ?_
    refine z_iadd ok dX7_take_74 ?_
    refine z_bald ok ha2 dX7_take_75 hf (fun v75 hf => ?_)
    refine z_sipush (v := 255) ok dX7_take_76 (by decide) ?_
    refine z_iand ok dX7_take_79 ?_
    refine z_iadd ok dX7_take_80 ?_
    refine z_iast ok kc_126 dX7_take_81 hf (fun σ81 hf => ?_)
    refine z_iinc (w := 1) (lv' := fun v82 => [(4, .int v82), (0, .ref (X.ad 124)), (2, .ref (X.ad a2))]) ok dX7_take_82 2 rfl (by decide) (by decide) (fun _ => rfl) hf (fun v82 hf => ?_)
    refine z_goto (tgt := 20) ok dX7_take_85 (by decide) ?_
    obtain rfl := Option.some.inj hf
    exact z_sub [1, 2, 0] rfl hk
def Sight_take (σ : Sg) (x1 : Int32) (a2 : Nat) (n2 : Nat) (x3 : Int32) : Option Sg :=
  zpt σ 124 1 x1 fun σ2 =>
  zpt σ2 124 0 (if 10 < (x3 / 3) then 10 else (x3 / 3)) fun σ14 =>
  zlt 0 fun v18 =>
  (zit (fun (s : (Sg × Int32)) => Sight_take_l20 s.1 a2 n2 s.2) zFU (σ14, v18)).bind fun r =>
  some r.1
set_option maxRecDepth 20000 in
theorem t_Sight_take {X : Zx} {Q : State → Prop} {σ : Sg} {x1 : Int32} {a2 : Nat} {n2 : Nat} {x3 : Int32} (ok : Zok X cX7_take RX7 rm_Sight_take 198 5) (ha2 : zk a2 198 (.inr (1, n2, []))) {out : Sg} (hf : Sight_take σ x1 a2 n2 x3 = some out) (hk : ZrV cX7_take X Q out) : ZAt X Q 0 0 0 σ [(0, .ref (X.ad 124)), (1, .int x1), (2, .ref (X.ad a2)), (3, .int x3)] [] := by
  unfold Sight_take at hf
  refine z_aload_n ok dX7_take_0 0 rfl ?_
  refine z_iload_n ok dX7_take_1 1 rfl ?_
  refine z_puti ok kc_124 zc_7 hin_7 tyX7 tyX7_ok nmX7 1 (by decide) fl_7_26 rfl rfl (tyX7_ok 1 (by decide)) dX7_take_2 hf (fun σ2 hf => ?_)
  refine z_aload_n ok dX7_take_5 0 rfl ?_
  refine z_iload_n ok dX7_take_6 3 rfl ?_
  refine z_iconst (v := 3) ok dX7_take_7 (by decide) ?_
  refine z_idivc ok dX7_take_8 (by decide) ?_
  refine z_bipush (v := 10) ok dX7_take_9 (by decide) ?_
  refine z_mmin ok ml_7_30 (Nat.le_of_ble_eq_true rfl) (Nat.le_of_ble_eq_true rfl) ⟨Nat.zero_le _, Nat.zero_le _⟩ dX7_take_11 ?_
  refine z_puti ok kc_124 zc_7 hin_7 tyX7 tyX7_ok nmX7 0 (by decide) fl_7_36 rfl rfl (tyX7_ok 0 (by decide)) dX7_take_14 hf (fun σ14 hf => ?_)
  refine z_iconst (v := 0) ok dX7_take_17 (by decide) ?_
  refine z_nm hf (fun v18 hf => ?_)
  refine z_istore (lv' := [(4, .int v18), (0, .ref (X.ad 124)), (1, .int x1), (2, .ref (X.ad a2)), (3, .int x3)]) ok dX7_take_18 (by decide) rfl ?_
  refine z_call hf (fun r hr hf => ?_)
  refine z_sub [1, 3, 0] rfl (z_iter (fun (s : (Sg × Int32)) => s.1) (fun (s : (Sg × Int32)) => [(0, .ref (X.ad 124)), (2, .ref (X.ad a2)), (4, .int s.2)]) (fun s o h1 h2 => t_Sight_take_l20 ok ha2 h1 h2) _ _ _ hr ?_)
  show ZAt X Q 0 0 88 r.1 [] []
  obtain rfl := Option.some.inj hf
  exact hk _ _ dX7_take_88
theorem c_Sight_take {σ : Sg} {x1 : Int32} {a2 : Nat} {n2 : Nat} {x3 : Int32} (ha2 : zk a2 198 (.inr (1, n2, []))) {r : Sg} (h : Sight_take σ x1 a2 n2 x3 = some r) : ZcV yX7_take cX7_take 5 rm_Sight_take 198 (fun ad => [.ref (ad 124), .int x1, .ref (ad a2), .int x3]) σ r :=
  zmetV pn_7 rfl (fun _ => rfl) (fun _ => Nat.le_of_ble_eq_true rfl) (fun X Q ok hk => t_Sight_take ok ha2 h hk)
