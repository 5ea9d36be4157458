theorem wc_3_31 : Cond.constant RX3 31 1000000000 ∈ zT := zT_of (i := 1019) (by decide +kernel) rfl
theorem wc_11_294 : Cond.constant RX11 294 (-1000000) ∈ zT := zT_of (i := 1090) (by decide +kernel) rfl
theorem fl_0_9 : Cond.fieldLink RX0 9 (TX0 1).1 (TX0 1).2.1 (TX0 1).2.2.1 ∈ zT := zT_of (i := 452) (by decide +kernel) rfl
theorem fl_11_231 : Cond.fieldLink RX11 231 (TX9 8).1 (TX9 8).2.1 (TX9 8).2.2.1 ∈ zT := zT_of (i := 408) (by decide +kernel) rfl
theorem fl_11_234 : Cond.fieldLink RX11 234 (TX9 9).1 (TX9 9).2.1 (TX9 9).2.2.1 ∈ zT := zT_of (i := 410) (by decide +kernel) rfl
theorem fl_11_243 : Cond.fieldLink RX11 243 (TX3 1).1 (TX3 1).2.1 (TX3 1).2.2.1 ∈ zT := zT_of (i := 204) (by decide +kernel) rfl
theorem fl_11_246 : Cond.fieldLink RX11 246 (TX3 2).1 (TX3 2).2.1 (TX3 2).2.2.1 ∈ zT := zT_of (i := 206) (by decide +kernel) rfl
theorem fl_11_249 : Cond.fieldLink RX11 249 (TX3 3).1 (TX3 3).2.1 (TX3 3).2.2.1 ∈ zT := zT_of (i := 209) (by decide +kernel) rfl
theorem fl_11_261 : Cond.fieldLink RX11 261 (TX9 10).1 (TX9 10).2.1 (TX9 10).2.2.1 ∈ zT := zT_of (i := 413) (by decide +kernel) rfl
theorem fl_6_13 : Cond.fieldLink RX6 13 (TX6 3).1 (TX6 3).2.1 (TX6 3).2.2.1 ∈ zT := zT_of (i := 499) (by decide +kernel) rfl
theorem fl_6_18 : Cond.fieldLink RX6 18 (TX6 4).1 (TX6 4).2.1 (TX6 4).2.2.1 ∈ zT := zT_of (i := 500) (by decide +kernel) rfl
theorem fl_6_21 : Cond.fieldLink RX6 21 (TX6 0).1 (TX6 0).2.1 (TX6 0).2.2.1 ∈ zT := zT_of (i := 496) (by decide +kernel) rfl
theorem fl_6_31 : Cond.fieldLink RX6 31 (TX6 1).1 (TX6 1).2.1 (TX6 1).2.2.1 ∈ zT := zT_of (i := 497) (by decide +kernel) rfl
theorem fl_6_42 : Cond.fieldLink RX6 42 (TX6 2).1 (TX6 2).2.1 (TX6 2).2.2.1 ∈ zT := zT_of (i := 498) (by decide +kernel) rfl
theorem fl_6_60 : Cond.fieldLink RX6 60 (TX10 9).1 (TX10 9).2.1 (TX10 9).2.2.1 ∈ zT := zT_of (i := 283) (by decide +kernel) rfl
theorem fl_6_68 : Cond.fieldLink RX6 68 (TX10 10).1 (TX10 10).2.1 (TX10 10).2.2.1 ∈ zT := zT_of (i := 288) (by decide +kernel) rfl
theorem ml_0_34 : Cond.methodLink RX0 34 yX0_toldCount ∈ zT := zT_of (i := 1068) (by decide +kernel) rfl
theorem ml_0_38 : Cond.methodLink RX0 38 yX0_alarmNumber ∈ zT := zT_of (i := 1077) (by decide +kernel) rfl
theorem ml_11_240 : Cond.methodLink RX11 240 yX11_isOrder ∈ zT := zT_of (i := 983) (by decide +kernel) rfl
theorem ml_11_252 : Cond.methodLink RX11 252 yX3_stateAt ∈ zT := zT_of (i := 987) (by decide +kernel) rfl
theorem ml_11_255 : Cond.methodLink RX11 255 yX11_isStep ∈ zT := zT_of (i := 995) (by decide +kernel) rfl
theorem ml_11_258 : Cond.methodLink RX11 258 yX9_there ∈ zT := zT_of (i := 1006) (by decide +kernel) rfl
theorem ml_11_264 : Cond.methodLink RX11 264 yX3_countEvents ∈ zT := zT_of (i := 1015) (by decide +kernel) rfl
theorem ml_11_267 : Cond.methodLink RX11 267 yX3_eventKey ∈ zT := zT_of (i := 1031) (by decide +kernel) rfl
theorem ml_11_270 : Cond.methodLink RX11 270 yX3_stepOfKey ∈ zT := zT_of (i := 1035) (by decide +kernel) rfl
theorem ml_11_273 : Cond.methodLink RX11 273 yX3_outletOfKey ∈ zT := zT_of (i := 1036) (by decide +kernel) rfl
theorem ml_11_276 : Cond.methodLink RX11 276 yX3_orderOfKey ∈ zT := zT_of (i := 1039) (by decide +kernel) rfl
theorem ml_11_279 : Cond.methodLink RX11 279 yX3_beginsOfKey ∈ zT := zT_of (i := 1042) (by decide +kernel) rfl
theorem ml_11_282 : Cond.methodLink RX11 282 yX11_countFarther ∈ zT := zT_of (i := 1049) (by decide +kernel) rfl
theorem ml_11_285 : Cond.methodLink RX11 285 yX0_alarmNumber ∈ zT := zT_of (i := 1064) (by decide +kernel) rfl
theorem ml_11_288 : Cond.methodLink RX11 288 yX0_countAlarms ∈ zT := zT_of (i := 1073) (by decide +kernel) rfl
theorem ml_11_291 : Cond.methodLink RX11 291 yX11_wereSteps ∈ zT := zT_of (i := 1082) (by decide +kernel) rfl
theorem ml_11_389 : Cond.methodLink RX11 389 Lib.Math.abs.name ∈ zT := zT_of (i := 1057) (by decide +kernel) rfl
theorem ml_11_394 : Cond.methodLink RX11 394 yX11_farFromMiddle ∈ zT := zT_of (i := 1053) (by decide +kernel) rfl
theorem ml_3_32 : Cond.methodLink RX3 32 yX3_countKeysBelow ∈ zT := zT_of (i := 1020) (by decide +kernel) rfl
theorem ml_3_36 : Cond.methodLink RX3 36 yX3_keyOf ∈ zT := zT_of (i := 1024) (by decide +kernel) rfl
theorem ml_3_39 : Cond.methodLink RX3 39 yX3_stepOfKey ∈ zT := zT_of (i := 1028) (by decide +kernel) rfl
theorem ml_6_39 : Cond.methodLink RX6 39 yX10_needs ∈ zT := zT_of (i := 1104) (by decide +kernel) rfl
theorem ml_6_56 : Cond.methodLink RX6 56 yX10_isOpen ∈ zT := zT_of (i := 1109) (by decide +kernel) rfl
theorem ml_9_73 : Cond.methodLink RX9 73 yX9_onItsWay ∈ zT := zT_of (i := 1010) (by decide +kernel) rfl
theorem w_Log_alarmNumber : Cond.instanceMethod yX0_alarmNumber ∈ zT ∧ Cond.selects yX0_alarmNumber.cls yX0_alarmNumber yX0_alarmNumber ∈ zT ∧ Cond.initialized yX0_alarmNumber.cls ∈ zT ∧ Cond.code yX0_alarmNumber cX0_alarmNumber 3 (some .int) ∈ zT := ⟨zT_of (i := 1065) (by decide +kernel) rfl, zT_of (i := 1066) (by decide +kernel) rfl, zT_of (i := 131) (by decide +kernel) rfl, zT_of (i := 1067) (by decide +kernel) rfl⟩
theorem hy_Log_alarmNumber : yX0_alarmNumber.cls ≠ "java/lang/invoke/MethodHandle" ∧ yX0_alarmNumber.cls ≠ "java/lang/invoke/VarHandle" ∧ (parseMethodDescriptor yX0_alarmNumber.desc).map (fun d => d.parameters.length) = some 2 := by decide +kernel
theorem w_Log_countAlarms : Cond.instanceMethod yX0_countAlarms ∈ zT ∧ Cond.selects yX0_countAlarms.cls yX0_countAlarms yX0_countAlarms ∈ zT ∧ Cond.initialized yX0_countAlarms.cls ∈ zT ∧ Cond.code yX0_countAlarms cX0_countAlarms 5 (some .int) ∈ zT := ⟨zT_of (i := 1074) (by decide +kernel) rfl, zT_of (i := 1075) (by decide +kernel) rfl, zT_of (i := 131) (by decide +kernel) rfl, zT_of (i := 1076) (by decide +kernel) rfl⟩
theorem hy_Log_countAlarms : yX0_countAlarms.cls ≠ "java/lang/invoke/MethodHandle" ∧ yX0_countAlarms.cls ≠ "java/lang/invoke/VarHandle" ∧ (parseMethodDescriptor yX0_countAlarms.desc).map (fun d => d.parameters.length) = some 2 := by decide +kernel
theorem w_Orders_beginsOfKey : Cond.static yX3_beginsOfKey ∈ zT ∧ Cond.initialized yX3_beginsOfKey.cls ∈ zT ∧ Cond.code yX3_beginsOfKey cX3_beginsOfKey 1 (some .int) ∈ zT := ⟨zT_of (i := 1043) (by decide +kernel) rfl, zT_of (i := 126) (by decide +kernel) rfl, zT_of (i := 1044) (by decide +kernel) rfl⟩
theorem hy_Orders_beginsOfKey : yX3_beginsOfKey.cls ≠ "java/lang/invoke/MethodHandle" ∧ yX3_beginsOfKey.cls ≠ "java/lang/invoke/VarHandle" ∧ (parseMethodDescriptor yX3_beginsOfKey.desc).map (fun d => d.parameters.length) = some 1 := by decide +kernel
theorem w_Orders_countEvents : Cond.instanceMethod yX3_countEvents ∈ zT ∧ Cond.selects yX3_countEvents.cls yX3_countEvents yX3_countEvents ∈ zT ∧ Cond.initialized yX3_countEvents.cls ∈ zT ∧ Cond.code yX3_countEvents cX3_countEvents 2 (some .int) ∈ zT := ⟨zT_of (i := 1016) (by decide +kernel) rfl, zT_of (i := 1017) (by decide +kernel) rfl, zT_of (i := 126) (by decide +kernel) rfl, zT_of (i := 1018) (by decide +kernel) rfl⟩
theorem hy_Orders_countEvents : yX3_countEvents.cls ≠ "java/lang/invoke/MethodHandle" ∧ yX3_countEvents.cls ≠ "java/lang/invoke/VarHandle" ∧ (parseMethodDescriptor yX3_countEvents.desc).map (fun d => d.parameters.length) = some 1 := by decide +kernel
theorem w_Orders_countKeysBelow : Cond.instanceMethod yX3_countKeysBelow ∈ zT ∧ Cond.selects yX3_countKeysBelow.cls yX3_countKeysBelow yX3_countKeysBelow ∈ zT ∧ Cond.initialized yX3_countKeysBelow.cls ∈ zT ∧ Cond.code yX3_countKeysBelow cX3_countKeysBelow 6 (some .int) ∈ zT := ⟨zT_of (i := 1022) (by decide +kernel) rfl, zT_of (i := 31) (by decide +kernel) rfl, zT_of (i := 126) (by decide +kernel) rfl, zT_of (i := 1023) (by decide +kernel) rfl⟩
theorem hy_Orders_countKeysBelow : yX3_countKeysBelow.cls ≠ "java/lang/invoke/MethodHandle" ∧ yX3_countKeysBelow.cls ≠ "java/lang/invoke/VarHandle" ∧ (parseMethodDescriptor yX3_countKeysBelow.desc).map (fun d => d.parameters.length) = some 2 := by decide +kernel
theorem w_Orders_eventKey : Cond.instanceMethod yX3_eventKey ∈ zT ∧ Cond.selects yX3_eventKey.cls yX3_eventKey yX3_eventKey ∈ zT ∧ Cond.initialized yX3_eventKey.cls ∈ zT ∧ Cond.code yX3_eventKey cX3_eventKey 5 (some .int) ∈ zT := ⟨zT_of (i := 1032) (by decide +kernel) rfl, zT_of (i := 1033) (by decide +kernel) rfl, zT_of (i := 126) (by decide +kernel) rfl, zT_of (i := 1034) (by decide +kernel) rfl⟩
theorem hy_Orders_eventKey : yX3_eventKey.cls ≠ "java/lang/invoke/MethodHandle" ∧ yX3_eventKey.cls ≠ "java/lang/invoke/VarHandle" ∧ (parseMethodDescriptor yX3_eventKey.desc).map (fun d => d.parameters.length) = some 2 := by decide +kernel
theorem w_Orders_keyOf : Cond.instanceMethod yX3_keyOf ∈ zT ∧ Cond.selects yX3_keyOf.cls yX3_keyOf yX3_keyOf ∈ zT ∧ Cond.initialized yX3_keyOf.cls ∈ zT ∧ Cond.code yX3_keyOf cX3_keyOf 4 (some .int) ∈ zT := ⟨zT_of (i := 1026) (by decide +kernel) rfl, zT_of (i := 32) (by decide +kernel) rfl, zT_of (i := 126) (by decide +kernel) rfl, zT_of (i := 1027) (by decide +kernel) rfl⟩
theorem hy_Orders_keyOf : yX3_keyOf.cls ≠ "java/lang/invoke/MethodHandle" ∧ yX3_keyOf.cls ≠ "java/lang/invoke/VarHandle" ∧ (parseMethodDescriptor yX3_keyOf.desc).map (fun d => d.parameters.length) = some 2 := by decide +kernel
theorem w_Orders_orderOfKey : Cond.static yX3_orderOfKey ∈ zT ∧ Cond.initialized yX3_orderOfKey.cls ∈ zT ∧ Cond.code yX3_orderOfKey cX3_orderOfKey 1 (some .int) ∈ zT := ⟨zT_of (i := 1040) (by decide +kernel) rfl, zT_of (i := 126) (by decide +kernel) rfl, zT_of (i := 1041) (by decide +kernel) rfl⟩
theorem hy_Orders_orderOfKey : yX3_orderOfKey.cls ≠ "java/lang/invoke/MethodHandle" ∧ yX3_orderOfKey.cls ≠ "java/lang/invoke/VarHandle" ∧ (parseMethodDescriptor yX3_orderOfKey.desc).map (fun d => d.parameters.length) = some 1 := by decide +kernel
theorem w_Orders_outletOfKey : Cond.static yX3_outletOfKey ∈ zT ∧ Cond.initialized yX3_outletOfKey.cls ∈ zT ∧ Cond.code yX3_outletOfKey cX3_outletOfKey 1 (some .int) ∈ zT := ⟨zT_of (i := 1037) (by decide +kernel) rfl, zT_of (i := 126) (by decide +kernel) rfl, zT_of (i := 1038) (by decide +kernel) rfl⟩
theorem hy_Orders_outletOfKey : yX3_outletOfKey.cls ≠ "java/lang/invoke/MethodHandle" ∧ yX3_outletOfKey.cls ≠ "java/lang/invoke/VarHandle" ∧ (parseMethodDescriptor yX3_outletOfKey.desc).map (fun d => d.parameters.length) = some 1 := by decide +kernel
theorem w_Orders_stateAt : Cond.instanceMethod yX3_stateAt ∈ zT ∧ Cond.selects yX3_stateAt.cls yX3_stateAt yX3_stateAt ∈ zT ∧ Cond.initialized yX3_stateAt.cls ∈ zT ∧ Cond.code yX3_stateAt cX3_stateAt 3 (some .int) ∈ zT := ⟨zT_of (i := 988) (by decide +kernel) rfl, zT_of (i := 989) (by decide +kernel) rfl, zT_of (i := 126) (by decide +kernel) rfl, zT_of (i := 990) (by decide +kernel) rfl⟩
theorem hy_Orders_stateAt : yX3_stateAt.cls ≠ "java/lang/invoke/MethodHandle" ∧ yX3_stateAt.cls ≠ "java/lang/invoke/VarHandle" ∧ (parseMethodDescriptor yX3_stateAt.desc).map (fun d => d.parameters.length) = some 2 := by decide +kernel
theorem w_Orders_stepOfKey : Cond.static yX3_stepOfKey ∈ zT ∧ Cond.initialized yX3_stepOfKey.cls ∈ zT ∧ Cond.code yX3_stepOfKey cX3_stepOfKey 1 (some .int) ∈ zT := ⟨zT_of (i := 1029) (by decide +kernel) rfl, zT_of (i := 126) (by decide +kernel) rfl, zT_of (i := 1030) (by decide +kernel) rfl⟩
theorem hy_Orders_stepOfKey : yX3_stepOfKey.cls ≠ "java/lang/invoke/MethodHandle" ∧ yX3_stepOfKey.cls ≠ "java/lang/invoke/VarHandle" ∧ (parseMethodDescriptor yX3_stepOfKey.desc).map (fun d => d.parameters.length) = some 1 := by decide +kernel
theorem w_Schedule_addDemand : Cond.instanceMethod yX6_addDemand ∈ zT ∧ Cond.selects yX6_addDemand.cls yX6_addDemand yX6_addDemand ∈ zT ∧ Cond.initialized yX6_addDemand.cls ∈ zT ∧ Cond.code yX6_addDemand cX6_addDemand 6 none ∈ zT := ⟨zT_of (i := 1116) (by decide +kernel) rfl, zT_of (i := 38) (by decide +kernel) rfl, zT_of (i := 133) (by decide +kernel) rfl, zT_of (i := 1117) (by decide +kernel) rfl⟩
theorem hy_Schedule_addDemand : yX6_addDemand.cls ≠ "java/lang/invoke/MethodHandle" ∧ yX6_addDemand.cls ≠ "java/lang/invoke/VarHandle" ∧ (parseMethodDescriptor yX6_addDemand.desc).map (fun d => d.parameters.length) = some 3 := by decide +kernel
theorem w_Schedule_planOutlet : Cond.instanceMethod yX6_planOutlet ∈ zT ∧ Cond.selects yX6_planOutlet.cls yX6_planOutlet yX6_planOutlet ∈ zT ∧ Cond.initialized yX6_planOutlet.cls ∈ zT ∧ Cond.code yX6_planOutlet cX6_planOutlet 5 none ∈ zT := ⟨zT_of (i := 1107) (by decide +kernel) rfl, zT_of (i := 36) (by decide +kernel) rfl, zT_of (i := 133) (by decide +kernel) rfl, zT_of (i := 1108) (by decide +kernel) rfl⟩
theorem hy_Schedule_planOutlet : yX6_planOutlet.cls ≠ "java/lang/invoke/MethodHandle" ∧ yX6_planOutlet.cls ≠ "java/lang/invoke/VarHandle" ∧ (parseMethodDescriptor yX6_planOutlet.desc).map (fun d => d.parameters.length) = some 3 := by decide +kernel
theorem w_Water_there : Cond.instanceMethod yX9_there ∈ zT ∧ Cond.selects yX9_there.cls yX9_there yX9_there ∈ zT ∧ Cond.initialized yX9_there.cls ∈ zT ∧ Cond.code yX9_there cX9_there 4 (some .int) ∈ zT := ⟨zT_of (i := 1007) (by decide +kernel) rfl, zT_of (i := 1008) (by decide +kernel) rfl, zT_of (i := 129) (by decide +kernel) rfl, zT_of (i := 1009) (by decide +kernel) rfl⟩
theorem hy_Water_there : yX9_there.cls ≠ "java/lang/invoke/MethodHandle" ∧ yX9_there.cls ≠ "java/lang/invoke/VarHandle" ∧ (parseMethodDescriptor yX9_there.desc).map (fun d => d.parameters.length) = some 1 := by decide +kernel
theorem w_CK_account : Cond.instanceMethod yX11_account ∈ zT ∧ Cond.selects yX11_account.cls yX11_account yX11_account ∈ zT ∧ Cond.initialized yX11_account.cls ∈ zT ∧ Cond.code yX11_account cX11_account 2 (some .int) ∈ zT := ⟨zT_of (i := 1003) (by decide +kernel) rfl, zT_of (i := 1004) (by decide +kernel) rfl, zT_of (i := 123) (by decide +kernel) rfl, zT_of (i := 1005) (by decide +kernel) rfl⟩
theorem hy_CK_account : yX11_account.cls ≠ "java/lang/invoke/MethodHandle" ∧ yX11_account.cls ≠ "java/lang/invoke/VarHandle" ∧ (parseMethodDescriptor yX11_account.desc).map (fun d => d.parameters.length) = some 1 := by decide +kernel
theorem w_CK_alarm : Cond.instanceMethod yX11_alarm ∈ zT ∧ Cond.selects yX11_alarm.cls yX11_alarm yX11_alarm ∈ zT ∧ Cond.initialized yX11_alarm.cls ∈ zT ∧ Cond.code yX11_alarm cX11_alarm 3 (some .int) ∈ zT := ⟨zT_of (i := 1061) (by decide +kernel) rfl, zT_of (i := 1062) (by decide +kernel) rfl, zT_of (i := 123) (by decide +kernel) rfl, zT_of (i := 1063) (by decide +kernel) rfl⟩
theorem hy_CK_alarm : yX11_alarm.cls ≠ "java/lang/invoke/MethodHandle" ∧ yX11_alarm.cls ≠ "java/lang/invoke/VarHandle" ∧ (parseMethodDescriptor yX11_alarm.desc).map (fun d => d.parameters.length) = some 2 := by decide +kernel
theorem w_CK_alarms : Cond.instanceMethod yX11_alarms ∈ zT ∧ Cond.selects yX11_alarms.cls yX11_alarms yX11_alarms ∈ zT ∧ Cond.initialized yX11_alarms.cls ∈ zT ∧ Cond.code yX11_alarms cX11_alarms 3 (some .int) ∈ zT := ⟨zT_of (i := 1070) (by decide +kernel) rfl, zT_of (i := 1071) (by decide +kernel) rfl, zT_of (i := 123) (by decide +kernel) rfl, zT_of (i := 1072) (by decide +kernel) rfl⟩
theorem hy_CK_alarms : yX11_alarms.cls ≠ "java/lang/invoke/MethodHandle" ∧ yX11_alarms.cls ≠ "java/lang/invoke/VarHandle" ∧ (parseMethodDescriptor yX11_alarms.desc).map (fun d => d.parameters.length) = some 2 := by decide +kernel
theorem w_CK_countFarther : Cond.instanceMethod yX11_countFarther ∈ zT ∧ Cond.selects yX11_countFarther.cls yX11_countFarther yX11_countFarther ∈ zT ∧ Cond.initialized yX11_countFarther.cls ∈ zT ∧ Cond.code yX11_countFarther cX11_countFarther 6 (some .int) ∈ zT := ⟨zT_of (i := 1051) (by decide +kernel) rfl, zT_of (i := 33) (by decide +kernel) rfl, zT_of (i := 123) (by decide +kernel) rfl, zT_of (i := 1052) (by decide +kernel) rfl⟩
theorem hy_CK_countFarther : yX11_countFarther.cls ≠ "java/lang/invoke/MethodHandle" ∧ yX11_countFarther.cls ≠ "java/lang/invoke/VarHandle" ∧ (parseMethodDescriptor yX11_countFarther.desc).map (fun d => d.parameters.length) = some 1 := by decide +kernel
theorem w_CK_event : Cond.instanceMethod yX11_event ∈ zT ∧ Cond.selects yX11_event.cls yX11_event yX11_event ∈ zT ∧ Cond.initialized yX11_event.cls ∈ zT ∧ Cond.code yX11_event cX11_event 5 (some .int) ∈ zT := ⟨zT_of (i := 1012) (by decide +kernel) rfl, zT_of (i := 1013) (by decide +kernel) rfl, zT_of (i := 123) (by decide +kernel) rfl, zT_of (i := 1014) (by decide +kernel) rfl⟩
theorem hy_CK_event : yX11_event.cls ≠ "java/lang/invoke/MethodHandle" ∧ yX11_event.cls ≠ "java/lang/invoke/VarHandle" ∧ (parseMethodDescriptor yX11_event.desc).map (fun d => d.parameters.length) = some 2 := by decide +kernel
theorem w_CK_farFromMiddle : Cond.instanceMethod yX11_farFromMiddle ∈ zT ∧ Cond.selects yX11_farFromMiddle.cls yX11_farFromMiddle yX11_farFromMiddle ∈ zT ∧ Cond.initialized yX11_farFromMiddle.cls ∈ zT ∧ Cond.code yX11_farFromMiddle cX11_farFromMiddle 2 (some .int) ∈ zT := ⟨zT_of (i := 1055) (by decide +kernel) rfl, zT_of (i := 34) (by decide +kernel) rfl, zT_of (i := 123) (by decide +kernel) rfl, zT_of (i := 1056) (by decide +kernel) rfl⟩
theorem hy_CK_farFromMiddle : yX11_farFromMiddle.cls ≠ "java/lang/invoke/MethodHandle" ∧ yX11_farFromMiddle.cls ≠ "java/lang/invoke/VarHandle" ∧ (parseMethodDescriptor yX11_farFromMiddle.desc).map (fun d => d.parameters.length) = some 1 := by decide +kernel
theorem w_CK_flow : Cond.instanceMethod yX11_flow ∈ zT ∧ Cond.selects yX11_flow.cls yX11_flow yX11_flow ∈ zT ∧ Cond.initialized yX11_flow.cls ∈ zT ∧ Cond.code yX11_flow cX11_flow 4 (some .int) ∈ zT := ⟨zT_of (i := 1079) (by decide +kernel) rfl, zT_of (i := 1080) (by decide +kernel) rfl, zT_of (i := 123) (by decide +kernel) rfl, zT_of (i := 1081) (by decide +kernel) rfl⟩
theorem hy_CK_flow : yX11_flow.cls ≠ "java/lang/invoke/MethodHandle" ∧ yX11_flow.cls ≠ "java/lang/invoke/VarHandle" ∧ (parseMethodDescriptor yX11_flow.desc).map (fun d => d.parameters.length) = some 3 := by decide +kernel
theorem w_CK_isOrder : Cond.instanceMethod yX11_isOrder ∈ zT ∧ Cond.selects yX11_isOrder.cls yX11_isOrder yX11_isOrder ∈ zT ∧ Cond.initialized yX11_isOrder.cls ∈ zT ∧ Cond.code yX11_isOrder cX11_isOrder 2 (some .boolean) ∈ zT := ⟨zT_of (i := 985) (by decide +kernel) rfl, zT_of (i := 30) (by decide +kernel) rfl, zT_of (i := 123) (by decide +kernel) rfl, zT_of (i := 986) (by decide +kernel) rfl⟩
theorem hy_CK_isOrder : yX11_isOrder.cls ≠ "java/lang/invoke/MethodHandle" ∧ yX11_isOrder.cls ≠ "java/lang/invoke/VarHandle" ∧ (parseMethodDescriptor yX11_isOrder.desc).map (fun d => d.parameters.length) = some 1 := by decide +kernel
theorem w_CK_isStep : Cond.static yX11_isStep ∈ zT ∧ Cond.initialized yX11_isStep.cls ∈ zT ∧ Cond.code yX11_isStep cX11_isStep 1 (some .boolean) ∈ zT := ⟨zT_of (i := 996) (by decide +kernel) rfl, zT_of (i := 123) (by decide +kernel) rfl, zT_of (i := 997) (by decide +kernel) rfl⟩
theorem hy_CK_isStep : yX11_isStep.cls ≠ "java/lang/invoke/MethodHandle" ∧ yX11_isStep.cls ≠ "java/lang/invoke/VarHandle" ∧ (parseMethodDescriptor yX11_isStep.desc).map (fun d => d.parameters.length) = some 1 := by decide +kernel
theorem w_CK_load : Cond.instanceMethod yX11_load ∈ zT ∧ Cond.selects yX11_load.cls yX11_load yX11_load ∈ zT ∧ Cond.initialized yX11_load.cls ∈ zT ∧ Cond.code yX11_load cX11_load 3 (some .int) ∈ zT := ⟨zT_of (i := 999) (by decide +kernel) rfl, zT_of (i := 1000) (by decide +kernel) rfl, zT_of (i := 123) (by decide +kernel) rfl, zT_of (i := 1001) (by decide +kernel) rfl⟩
theorem hy_CK_load : yX11_load.cls ≠ "java/lang/invoke/MethodHandle" ∧ yX11_load.cls ≠ "java/lang/invoke/VarHandle" ∧ (parseMethodDescriptor yX11_load.desc).map (fun d => d.parameters.length) = some 2 := by decide +kernel
theorem w_CK_missing : Cond.instanceMethod yX11_missing ∈ zT ∧ Cond.selects yX11_missing.cls yX11_missing yX11_missing ∈ zT ∧ Cond.initialized yX11_missing.cls ∈ zT ∧ Cond.code yX11_missing cX11_missing 6 (some .int) ∈ zT := ⟨zT_of (i := 1087) (by decide +kernel) rfl, zT_of (i := 1088) (by decide +kernel) rfl, zT_of (i := 123) (by decide +kernel) rfl, zT_of (i := 1089) (by decide +kernel) rfl⟩
theorem hy_CK_missing : yX11_missing.cls ≠ "java/lang/invoke/MethodHandle" ∧ yX11_missing.cls ≠ "java/lang/invoke/VarHandle" ∧ (parseMethodDescriptor yX11_missing.desc).map (fun d => d.parameters.length) = some 2 := by decide +kernel
theorem w_CK_opens : Cond.instanceMethod yX11_opens ∈ zT ∧ Cond.selects yX11_opens.cls yX11_opens yX11_opens ∈ zT ∧ Cond.initialized yX11_opens.cls ∈ zT ∧ Cond.code yX11_opens cX11_opens 3 (some .int) ∈ zT := ⟨zT_of (i := 992) (by decide +kernel) rfl, zT_of (i := 993) (by decide +kernel) rfl, zT_of (i := 123) (by decide +kernel) rfl, zT_of (i := 994) (by decide +kernel) rfl⟩
theorem hy_CK_opens : yX11_opens.cls ≠ "java/lang/invoke/MethodHandle" ∧ yX11_opens.cls ≠ "java/lang/invoke/VarHandle" ∧ (parseMethodDescriptor yX11_opens.desc).map (fun d => d.parameters.length) = some 2 := by decide +kernel
theorem w_CK_order : Cond.instanceMethod yX11_order ∈ zT ∧ Cond.selects yX11_order.cls yX11_order yX11_order ∈ zT ∧ Cond.initialized yX11_order.cls ∈ zT ∧ Cond.code yX11_order cX11_order 3 (some .int) ∈ zT := ⟨zT_of (i := 980) (by decide +kernel) rfl, zT_of (i := 981) (by decide +kernel) rfl, zT_of (i := 123) (by decide +kernel) rfl, zT_of (i := 982) (by decide +kernel) rfl⟩
theorem hy_CK_order : yX11_order.cls ≠ "java/lang/invoke/MethodHandle" ∧ yX11_order.cls ≠ "java/lang/invoke/VarHandle" ∧ (parseMethodDescriptor yX11_order.desc).map (fun d => d.parameters.length) = some 2 := by decide +kernel
theorem w_CK_outlet : Cond.instanceMethod yX11_outlet ∈ zT ∧ Cond.selects yX11_outlet.cls yX11_outlet yX11_outlet ∈ zT ∧ Cond.initialized yX11_outlet.cls ∈ zT ∧ Cond.code yX11_outlet cX11_outlet 3 (some .int) ∈ zT := ⟨zT_of (i := 976) (by decide +kernel) rfl, zT_of (i := 977) (by decide +kernel) rfl, zT_of (i := 123) (by decide +kernel) rfl, zT_of (i := 978) (by decide +kernel) rfl⟩
theorem hy_CK_outlet : yX11_outlet.cls ≠ "java/lang/invoke/MethodHandle" ∧ yX11_outlet.cls ≠ "java/lang/invoke/VarHandle" ∧ (parseMethodDescriptor yX11_outlet.desc).map (fun d => d.parameters.length) = some 2 := by decide +kernel
theorem w_CK_rank : Cond.instanceMethod yX11_rank ∈ zT ∧ Cond.selects yX11_rank.cls yX11_rank yX11_rank ∈ zT ∧ Cond.initialized yX11_rank.cls ∈ zT ∧ Cond.code yX11_rank cX11_rank 3 (some .int) ∈ zT := ⟨zT_of (i := 1046) (by decide +kernel) rfl, zT_of (i := 1047) (by decide +kernel) rfl, zT_of (i := 123) (by decide +kernel) rfl, zT_of (i := 1048) (by decide +kernel) rfl⟩
theorem hy_CK_rank : yX11_rank.cls ≠ "java/lang/invoke/MethodHandle" ∧ yX11_rank.cls ≠ "java/lang/invoke/VarHandle" ∧ (parseMethodDescriptor yX11_rank.desc).map (fun d => d.parameters.length) = some 1 := by decide +kernel
theorem w_CK_wereSteps : Cond.instanceMethod yX11_wereSteps ∈ zT ∧ Cond.selects yX11_wereSteps.cls yX11_wereSteps yX11_wereSteps ∈ zT ∧ Cond.initialized yX11_wereSteps.cls ∈ zT ∧ Cond.code yX11_wereSteps cX11_wereSteps 2 (some .boolean) ∈ zT := ⟨zT_of (i := 1084) (by decide +kernel) rfl, zT_of (i := 35) (by decide +kernel) rfl, zT_of (i := 123) (by decide +kernel) rfl, zT_of (i := 1085) (by decide +kernel) rfl⟩
theorem hy_CK_wereSteps : yX11_wereSteps.cls ≠ "java/lang/invoke/MethodHandle" ∧ yX11_wereSteps.cls ≠ "java/lang/invoke/VarHandle" ∧ (parseMethodDescriptor yX11_wereSteps.desc).map (fun d => d.parameters.length) = some 1 := by decide +kernel
theorem dX11_outlet_0 : decode cX11_outlet 0 = .ok (.aload_n 0, 1) := by decide +kernel
theorem dX11_outlet_1 : decode cX11_outlet 1 = .ok (.iload_n 1, 1) := by decide +kernel
theorem dX11_outlet_2 : decode cX11_outlet 2 = .ok (.invokevirtual 164, 3) := by decide +kernel
theorem dX11_outlet_5 : decode cX11_outlet 5 = .ok (.ifCond .ne 5, 3) := by decide +kernel
theorem dX11_outlet_8 : decode cX11_outlet 8 = .ok (.iconst (-1), 1) := by decide +kernel
theorem dX11_outlet_9 : decode cX11_outlet 9 = .ok (.ireturn, 1) := by decide +kernel
theorem dX11_outlet_10 : decode cX11_outlet 10 = .ok (.iload_n 2, 1) := by decide +kernel
theorem dX11_outlet_11 : decode cX11_outlet 11 = .ok (.tableswitch 147 0 5 #[37, 49, 61, 97, 112, 127], 37) := by decide +kernel
theorem dX11_outlet_48 : decode cX11_outlet 48 = .ok (.aload_n 0, 1) := by decide +kernel
theorem dX11_outlet_49 : decode cX11_outlet 49 = .ok (.getfield 23, 3) := by decide +kernel
theorem dX11_outlet_52 : decode cX11_outlet 52 = .ok (.getfield 221, 3) := by decide +kernel
theorem dX11_outlet_55 : decode cX11_outlet 55 = .ok (.iload_n 1, 1) := by decide +kernel
theorem dX11_outlet_56 : decode cX11_outlet 56 = .ok (.iaload, 1) := by decide +kernel
theorem dX11_outlet_57 : decode cX11_outlet 57 = .ok (.goto 102, 3) := by decide +kernel
theorem dX11_outlet_60 : decode cX11_outlet 60 = .ok (.aload_n 0, 1) := by decide +kernel
theorem dX11_outlet_61 : decode cX11_outlet 61 = .ok (.getfield 23, 3) := by decide +kernel
theorem dX11_outlet_64 : decode cX11_outlet 64 = .ok (.getfield 224, 3) := by decide +kernel
theorem dX11_outlet_67 : decode cX11_outlet 67 = .ok (.iload_n 1, 1) := by decide +kernel
theorem dX11_outlet_68 : decode cX11_outlet 68 = .ok (.iaload, 1) := by decide +kernel
theorem dX11_outlet_69 : decode cX11_outlet 69 = .ok (.goto 90, 3) := by decide +kernel
theorem dX11_outlet_72 : decode cX11_outlet 72 = .ok (.aload_n 0, 1) := by decide +kernel
theorem dX11_outlet_73 : decode cX11_outlet 73 = .ok (.getfield 23, 3) := by decide +kernel
theorem dX11_outlet_76 : decode cX11_outlet 76 = .ok (.aload_n 0, 1) := by decide +kernel
theorem dX11_outlet_77 : decode cX11_outlet 77 = .ok (.getfield 37, 3) := by decide +kernel
theorem dX11_outlet_80 : decode cX11_outlet 80 = .ok (.getfield 117, 3) := by decide +kernel
theorem dX11_outlet_83 : decode cX11_outlet 83 = .ok (.iload_n 1, 1) := by decide +kernel
theorem dX11_outlet_84 : decode cX11_outlet 84 = .ok (.aload_n 0, 1) := by decide +kernel
theorem dX11_outlet_85 : decode cX11_outlet 85 = .ok (.getfield 37, 3) := by decide +kernel
theorem dX11_outlet_88 : decode cX11_outlet 88 = .ok (.getfield 126, 3) := by decide +kernel
theorem dX11_outlet_91 : decode cX11_outlet 91 = .ok (.getfield 130, 3) := by decide +kernel
theorem dX11_outlet_94 : decode cX11_outlet 94 = .ok (.invokevirtual 227, 3) := by decide +kernel
theorem dX11_outlet_97 : decode cX11_outlet 97 = .ok (.ifCond .eq 7, 3) := by decide +kernel
theorem dX11_outlet_100 : decode cX11_outlet 100 = .ok (.iconst 1, 1) := by decide +kernel
theorem dX11_outlet_101 : decode cX11_outlet 101 = .ok (.goto 58, 3) := by decide +kernel
theorem dX11_outlet_104 : decode cX11_outlet 104 = .ok (.iconst 0, 1) := by decide +kernel
theorem dX11_outlet_105 : decode cX11_outlet 105 = .ok (.goto 54, 3) := by decide +kernel
theorem dX11_outlet_108 : decode cX11_outlet 108 = .ok (.aload_n 0, 1) := by decide +kernel
theorem dX11_outlet_109 : decode cX11_outlet 109 = .ok (.getfield 37, 3) := by decide +kernel
theorem dX11_outlet_112 : decode cX11_outlet 112 = .ok (.getfield 126, 3) := by decide +kernel
theorem dX11_outlet_115 : decode cX11_outlet 115 = .ok (.getfield 231, 3) := by decide +kernel
theorem dX11_outlet_118 : decode cX11_outlet 118 = .ok (.iload_n 1, 1) := by decide +kernel
theorem dX11_outlet_119 : decode cX11_outlet 119 = .ok (.iaload, 1) := by decide +kernel
theorem dX11_outlet_120 : decode cX11_outlet 120 = .ok (.goto 39, 3) := by decide +kernel
theorem dX11_outlet_123 : decode cX11_outlet 123 = .ok (.aload_n 0, 1) := by decide +kernel
theorem dX11_outlet_124 : decode cX11_outlet 124 = .ok (.getfield 37, 3) := by decide +kernel
theorem dX11_outlet_127 : decode cX11_outlet 127 = .ok (.getfield 126, 3) := by decide +kernel
theorem dX11_outlet_130 : decode cX11_outlet 130 = .ok (.getfield 234, 3) := by decide +kernel
theorem dX11_outlet_133 : decode cX11_outlet 133 = .ok (.iload_n 1, 1) := by decide +kernel
theorem dX11_outlet_134 : decode cX11_outlet 134 = .ok (.iaload, 1) := by decide +kernel
theorem dX11_outlet_135 : decode cX11_outlet 135 = .ok (.goto 24, 3) := by decide +kernel
theorem dX11_outlet_138 : decode cX11_outlet 138 = .ok (.aload_n 0, 1) := by decide +kernel
theorem dX11_outlet_139 : decode cX11_outlet 139 = .ok (.getfield 23, 3) := by decide +kernel
theorem dX11_outlet_142 : decode cX11_outlet 142 = .ok (.iconst 0, 1) := by decide +kernel
theorem dX11_outlet_143 : decode cX11_outlet 143 = .ok (.aload_n 0, 1) := by decide +kernel
theorem dX11_outlet_144 : decode cX11_outlet 144 = .ok (.getfield 23, 3) := by decide +kernel
theorem dX11_outlet_147 : decode cX11_outlet 147 = .ok (.getfield 221, 3) := by decide +kernel
theorem dX11_outlet_150 : decode cX11_outlet 150 = .ok (.iload_n 1, 1) := by decide +kernel
theorem dX11_outlet_151 : decode cX11_outlet 151 = .ok (.iaload, 1) := by decide +kernel
theorem dX11_outlet_152 : decode cX11_outlet 152 = .ok (.invokevirtual 237, 3) := by decide +kernel
theorem dX11_outlet_155 : decode cX11_outlet 155 = .ok (.goto 4, 3) := by decide +kernel
theorem dX11_outlet_158 : decode cX11_outlet 158 = .ok (.iconst (-1), 1) := by decide +kernel
theorem dX11_outlet_159 : decode cX11_outlet 159 = .ok (.ireturn, 1) := by decide +kernel
abbrev rm_CK_outlet : Room := { frames := 2, cells := 0, slots := 0, locals := 46 }
def CK_outlet (σ : Sg) (x1 : Int32) (x2 : Int32) : Option Int32 :=
  (CK_isOutlet σ x1).bind fun r2 =>
  if (zb r2) = 0 then (
    some (-1)
  ) else (
    if x2 = 0 then (
      zmr2 3 29 (σ 0 3) fun q49 =>
      zrd σ (q49 + 14) 10 x1 fun v56 =>
      some v56
    ) else (
    if x2 = 1 then (
      zmr2 3 29 (σ 0 3) fun q61 =>
      zrd σ (q61 + 15) 10 x1 fun v68 =>
      some v68
    ) else (
    if x2 = 2 then (
      zmr2 3 29 (σ 0 3) fun q73 =>
      zgt σ 56 0 fun v91 =>
      (Works_isOpen σ q73 73 x1 v91).bind fun r94 =>
      if (zb r94) = 0 then (
        some 0
      ) else (
        some 1
      )
    ) else (
    if x2 = 3 then (
      zrd σ 62 10 x1 fun v119 =>
      some v119
    ) else (
    if x2 = 4 then (
      zrd σ 63 10 x1 fun v134 =>
      some v134
    ) else (
    if x2 = 5 then (
      zmr2 3 29 (σ 0 3) fun q139 =>
      zmr2 3 29 (σ 0 3) fun q144 =>
      zrd σ (q144 + 14) 10 x1 fun v151 =>
      (Works_needs σ q139 0 v151).bind fun r152 =>
      some r152
    ) else (
      some (-1)
    ))))))
  )
set_option maxRecDepth 20000 in
theorem t_CK_outlet {X : Zx} {Q : State → Prop} {σ : Sg} {x1 : Int32} {x2 : Int32} (ok : Zok X cX11_outlet RX11 rm_CK_outlet 198 3)  {out : Int32} (hf : CK_outlet σ x1 x2 = some out) (hk : ZrI cX11_outlet X Q out σ) : ZAt X Q 0 0 0 σ [(0, .ref (X.ad 0)), (1, .int x1), (2, .int x2)] [] := by
  unfold CK_outlet at hf
  refine z_aload_n ok dX11_outlet_0 0 rfl ?_
  refine z_iload_n ok dX11_outlet_1 1 rfl ?_
  refine z_call hf (fun r2 h2 hf => ?_)
  refine z_cV (As := [.int x1]) (rest := []) (w := 0) ok kc_0 zc_11 (c_CK_isOutlet h2) rfl ⟨ml_11_164, w_CK_isOutlet⟩ hy_CK_isOutlet ⟨rfl, rfl⟩ ⟨Nat.le_of_ble_eq_true rfl, Nat.le_of_ble_eq_true rfl⟩ ⟨Nat.zero_le _, Nat.zero_le _⟩ rfl (Nat.le_of_ble_eq_true rfl) dX11_outlet_2 ?_
  refine z_if_ne (tgt := 10) ok dX11_outlet_5 (by decide) hf (fun _ hf => ?_) (fun _ hf => ?_)
  · refine z_iconst (v := (-1)) ok dX11_outlet_8 (by decide) ?_
    obtain rfl := Option.some.inj hf
    exact hk _ _ dX11_outlet_9
  · refine z_iload_n ok dX11_outlet_10 2 rfl ?_
    refine z_swc (v := 0) hf (fun hf => ?_) (fun n11_0 hf => ?_)
    · refine z_tableIn (tgt := 48) ok dX11_outlet_11 (by decide) (by decide) rfl (by decide) ?_
      refine z_aload_n ok dX11_outlet_48 0 rfl ?_
      refine z_getm2 (p := 3) (q := 29) ok kc_0 zc_11 hin_11 3 (by decide) fl_11_23 rfl (by decide) (by decide) dX11_outlet_49 hf (fun q49 e49 hf => ?_)
      have hq49 : zI_Works q49 198 := by rcases e49 with rfl | rfl; exact kI_Works_3; exact kI_Works_29
      obtain ⟨hq49_0, hq49_1, hq49_2, hq49_3, hq49_4, hq49_5, hq49_6, hq49_7, hq49_8, hq49_9, hq49_10, hq49_11, hq49_12, hq49_13, hq49_14, hq49_15, hq49_16, hq49_17, hq49_18, hq49_19, hq49_20, hq49_21, hq49_22, hq49_23, hq49_24, hq49_25⟩ := id hq49
      refine z_getr (q := (q49 + 14)) ok hq49_0 zc_10 hin_10 9 (by decide) fl_11_221 rfl dX11_outlet_52 ?_
      refine z_iload_n ok dX11_outlet_55 1 rfl ?_
      refine z_iald ok hq49_14 dX11_outlet_56 hf (fun v56 hf => ?_)
      refine z_goto (tgt := 159) ok dX11_outlet_57 (by decide) ?_
      obtain rfl := Option.some.inj hf
      exact hk _ _ dX11_outlet_159
    refine z_swc (v := 1) hf (fun hf => ?_) (fun n11_1 hf => ?_)
    · refine z_tableIn (tgt := 60) ok dX11_outlet_11 (by decide) (by decide) rfl (by decide) ?_
      refine z_aload_n ok dX11_outlet_60 0 rfl ?_
      refine z_getm2 (p := 3) (q := 29) ok kc_0 zc_11 hin_11 3 (by decide) fl_11_23 rfl (by decide) (by decide) dX11_outlet_61 hf (fun q61 e61 hf => ?_)
      have hq61 : zI_Works q61 198 := by rcases e61 with rfl | rfl; exact kI_Works_3; exact kI_Works_29
      obtain ⟨hq61_0, hq61_1, hq61_2, hq61_3, hq61_4, hq61_5, hq61_6, hq61_7, hq61_8, hq61_9, hq61_10, hq61_11, hq61_12, hq61_13, hq61_14, hq61_15, hq61_16, hq61_17, hq61_18, hq61_19, hq61_20, hq61_21, hq61_22, hq61_23, hq61_24, hq61_25⟩ := id hq61
      refine z_getr (q := (q61 + 15)) ok hq61_0 zc_10 hin_10 10 (by decide) fl_11_224 rfl dX11_outlet_64 ?_
      refine z_iload_n ok dX11_outlet_67 1 rfl ?_
      refine z_iald ok hq61_15 dX11_outlet_68 hf (fun v68 hf => ?_)
      refine z_goto (tgt := 159) ok dX11_outlet_69 (by decide) ?_
      obtain rfl := Option.some.inj hf
      exact hk _ _ dX11_outlet_159
    refine z_swc (v := 2) hf (fun hf => ?_) (fun n11_2 hf => ?_)
    · refine z_tableIn (tgt := 72) ok dX11_outlet_11 (by decide) (by decide) rfl (by decide) ?_
      refine z_aload_n ok dX11_outlet_72 0 rfl ?_
      refine z_getm2 (p := 3) (q := 29) ok kc_0 zc_11 hin_11 3 (by decide) fl_11_23 rfl (by decide) (by decide) dX11_outlet_73 hf (fun q73 e73 hf => ?_)
      have hq73 : zI_Works q73 198 := by rcases e73 with rfl | rfl; exact kI_Works_3; exact kI_Works_29
      obtain ⟨hq73_0, hq73_1, hq73_2, hq73_3, hq73_4, hq73_5, hq73_6, hq73_7, hq73_8, hq73_9, hq73_10, hq73_11, hq73_12, hq73_13, hq73_14, hq73_15, hq73_16, hq73_17, hq73_18, hq73_19, hq73_20, hq73_21, hq73_22, hq73_23, hq73_24, hq73_25⟩ := id hq73
      refine z_aload_n ok dX11_outlet_76 0 rfl ?_
      refine z_getr (q := 55) ok kc_0 zc_11 hin_11 8 (by decide) fl_11_37 rfl dX11_outlet_77 ?_
      refine z_getr (q := 73) ok kc_55 zc_1 hin_1 1 (by decide) fl_11_117 rfl dX11_outlet_80 ?_
      refine z_iload_n ok dX11_outlet_83 1 rfl ?_
      refine z_aload_n ok dX11_outlet_84 0 rfl ?_
      refine z_getr (q := 55) ok kc_0 zc_11 hin_11 8 (by decide) fl_11_37 rfl dX11_outlet_85 ?_
      refine z_getr (q := 56) ok kc_55 zc_1 hin_1 0 (by decide) fl_11_126 rfl dX11_outlet_88 ?_
      refine z_geti ok kc_56 zc_9 hin_9 0 (by decide) fl_11_130 rfl dX11_outlet_91 hf (fun v91 hf => ?_)
      refine z_call hf (fun r94 h94 hf => ?_)
      refine z_cV (As := [.ref (X.ad 73), .int x1, .int v91]) (rest := []) (w := q73) ok hq73_0 zc_10 (c_Works_isOpen hq73 kI_Orders_73 h94) rfl ⟨ml_11_227, w_Works_isOpen⟩ hy_Works_isOpen ⟨rfl, rfl⟩ ⟨Nat.le_of_ble_eq_true rfl, Nat.le_of_ble_eq_true rfl⟩ ⟨Nat.zero_le _, Nat.zero_le _⟩ rfl (Nat.le_of_ble_eq_true rfl) dX11_outlet_94 ?_
      refine z_if_eq (tgt := 104) ok dX11_outlet_97 (by decide) hf (fun _ hf => ?_) (fun _ hf => ?_)
      · refine z_iconst (v := 0) ok dX11_outlet_104 (by decide) ?_
        refine z_goto (tgt := 159) ok dX11_outlet_105 (by decide) ?_
        obtain rfl := Option.some.inj hf
        exact hk _ _ dX11_outlet_159
      · refine z_iconst (v := 1) ok dX11_outlet_100 (by decide) ?_
        refine z_goto (tgt := 159) ok dX11_outlet_101 (by decide) ?_
        obtain rfl := Option.some.inj hf
        exact hk _ _ dX11_outlet_159
    refine z_swc (v := 3) hf (fun hf => ?_) (fun n11_3 hf => ?_)
    · refine z_tableIn (tgt := 108) ok dX11_outlet_11 (by decide) (by decide) rfl (by decide) ?_
      refine z_aload_n ok dX11_outlet_108 0 rfl ?_
      refine z_getr (q := 55) ok kc_0 zc_11 hin_11 8 (by decide) fl_11_37 rfl dX11_outlet_109 ?_
      refine z_getr (q := 56) ok kc_55 zc_1 hin_1 0 (by decide) fl_11_126 rfl dX11_outlet_112 ?_
      refine z_getr (q := 62) ok kc_56 zc_9 hin_9 8 (by decide) fl_11_231 rfl dX11_outlet_115 ?_
      refine z_iload_n ok dX11_outlet_118 1 rfl ?_
      refine z_iald ok kc_62 dX11_outlet_119 hf (fun v119 hf => ?_)
      refine z_goto (tgt := 159) ok dX11_outlet_120 (by decide) ?_
      obtain rfl := Option.some.inj hf
      exact hk _ _ dX11_outlet_159
    refine z_swc (v := 4) hf (fun hf => ?_) (fun n11_4 hf => ?_)
    · refine z_tableIn (tgt := 123) ok dX11_outlet_11 (by decide) (by decide) rfl (by decide) ?_
      refine z_aload_n ok dX11_outlet_123 0 rfl ?_
      refine z_getr (q := 55) ok kc_0 zc_11 hin_11 8 (by decide) fl_11_37 rfl dX11_outlet_124 ?_
      refine z_getr (q := 56) ok kc_55 zc_1 hin_1 0 (by decide) fl_11_126 rfl dX11_outlet_127 ?_
      refine z_getr (q := 63) ok kc_56 zc_9 hin_9 9 (by decide) fl_11_234 rfl dX11_outlet_130 ?_
      refine z_iload_n ok dX11_outlet_133 1 rfl ?_
      refine z_iald ok kc_63 dX11_outlet_134 hf (fun v134 hf => ?_)
      refine z_goto (tgt := 159) ok dX11_outlet_135 (by decide) ?_
      obtain rfl := Option.some.inj hf
      exact hk _ _ dX11_outlet_159
    refine z_swc (v := 5) hf (fun hf => ?_) (fun n11_5 hf => ?_)
    · refine z_tableIn (tgt := 138) ok dX11_outlet_11 (by decide) (by decide) rfl (by decide) ?_
      refine z_aload_n ok dX11_outlet_138 0 rfl ?_
      refine z_getm2 (p := 3) (q := 29) ok kc_0 zc_11 hin_11 3 (by decide) fl_11_23 rfl (by decide) (by decide) dX11_outlet_139 hf (fun q139 e139 hf => ?_)
      have hq139 : zI_Works q139 198 := by rcases e139 with rfl | rfl; exact kI_Works_3; exact kI_Works_29
      obtain ⟨hq139_0, hq139_1, hq139_2, hq139_3, hq139_4, hq139_5, hq139_6, hq139_7, hq139_8, hq139_9, hq139_10, hq139_11, hq139_12, hq139_13, hq139_14, hq139_15, hq139_16, hq139_17, hq139_18, hq139_19, hq139_20, hq139_21, hq139_22, hq139_23, hq139_24, hq139_25⟩ := id hq139
      refine z_iconst (v := 0) ok dX11_outlet_142 (by decide) ?_
      refine z_aload_n ok dX11_outlet_143 0 rfl ?_
      refine z_getm2 (p := 3) (q := 29) ok kc_0 zc_11 hin_11 3 (by decide) fl_11_23 rfl (by decide) (by decide) dX11_outlet_144 hf (fun q144 e144 hf => ?_)
      have hq144 : zI_Works q144 198 := by rcases e144 with rfl | rfl; exact kI_Works_3; exact kI_Works_29
      obtain ⟨hq144_0, hq144_1, hq144_2, hq144_3, hq144_4, hq144_5, hq144_6, hq144_7, hq144_8, hq144_9, hq144_10, hq144_11, hq144_12, hq144_13, hq144_14, hq144_15, hq144_16, hq144_17, hq144_18, hq144_19, hq144_20, hq144_21, hq144_22, hq144_23, hq144_24, hq144_25⟩ := id hq144
      refine z_getr (q := (q144 + 14)) ok hq144_0 zc_10 hin_10 9 (by decide) fl_11_221 rfl dX11_outlet_147 ?_
      refine z_iload_n ok dX11_outlet_150 1 rfl ?_
      refine z_iald ok hq144_14 dX11_outlet_151 hf (fun v151 hf => ?_)
      refine z_call hf (fun r152 h152 hf => ?_)
      refine z_cV (As := [.int 0, .int v151]) (rest := []) (w := q139) ok hq139_0 zc_10 (c_Works_needs hq139 h152) rfl ⟨ml_11_237, w_Works_needs⟩ hy_Works_needs ⟨rfl, rfl⟩ ⟨Nat.le_of_ble_eq_true rfl, Nat.le_of_ble_eq_true rfl⟩ ⟨Nat.zero_le _, Nat.zero_le _⟩ rfl (Nat.le_of_ble_eq_true rfl) dX11_outlet_152 ?_
      refine z_goto (tgt := 159) ok dX11_outlet_155 (by decide) ?_
      obtain rfl := Option.some.inj hf
      exact hk _ _ dX11_outlet_159
    refine z_tableOut (tgt := 158) ok dX11_outlet_11 (zsw_out 0 5 [0, 1, 2, 3, 4, 5] (by decide) (List.forall_mem_cons.mpr ⟨n11_0, (List.forall_mem_cons.mpr ⟨n11_1, (List.forall_mem_cons.mpr ⟨n11_2, (List.forall_mem_cons.mpr ⟨n11_3, (List.forall_mem_cons.mpr ⟨n11_4, (List.forall_mem_cons.mpr ⟨n11_5, (fun _ h => absurd h List.not_mem_nil)⟩)⟩)⟩)⟩)⟩)⟩)) (by decide) ?_
    refine z_iconst (v := (-1)) ok dX11_outlet_158 (by decide) ?_
    obtain rfl := Option.some.inj hf
    exact hk _ _ dX11_outlet_159
theorem c_CK_outlet {σ : Sg} {x1 : Int32} {x2 : Int32} {r : Int32} (h : CK_outlet σ x1 x2 = some r) : ZcI yX11_outlet cX11_outlet 3 .int rm_CK_outlet 198 (fun ad => [.ref (ad 0), .int x1, .int x2]) σ r σ :=
  zmetI pn_11 rfl (fun _ => rfl) (fun _ => Nat.le_of_ble_eq_true rfl) rfl (fun X Q ok hk => t_CK_outlet ok h hk)
theorem dX11_isOrder_0 : decode cX11_isOrder 0 = .ok (.iload_n 1, 1) := by decide +kernel
theorem dX11_isOrder_1 : decode cX11_isOrder 1 = .ok (.ifCond .lt 21, 3) := by decide +kernel
theorem dX11_isOrder_4 : decode cX11_isOrder 4 = .ok (.iload_n 1, 1) := by decide +kernel
theorem dX11_isOrder_5 : decode cX11_isOrder 5 = .ok (.aload_n 0, 1) := by decide +kernel
theorem dX11_isOrder_6 : decode cX11_isOrder 6 = .ok (.getfield 37, 3) := by decide +kernel
theorem dX11_isOrder_9 : decode cX11_isOrder 9 = .ok (.getfield 117, 3) := by decide +kernel
theorem dX11_isOrder_12 : decode cX11_isOrder 12 = .ok (.getfield 121, 3) := by decide +kernel
theorem dX11_isOrder_15 : decode cX11_isOrder 15 = .ok (.if_icmp .ge 7, 3) := by decide +kernel
theorem dX11_isOrder_18 : decode cX11_isOrder 18 = .ok (.iconst 1, 1) := by decide +kernel
theorem dX11_isOrder_19 : decode cX11_isOrder 19 = .ok (.goto 4, 3) := by decide +kernel
theorem dX11_isOrder_22 : decode cX11_isOrder 22 = .ok (.iconst 0, 1) := by decide +kernel
theorem dX11_isOrder_23 : decode cX11_isOrder 23 = .ok (.ireturn, 1) := by decide +kernel
abbrev rm_CK_isOrder : Room := { frames := 0, cells := 0, slots := 0, locals := 0 }
def CK_isOrder (σ : Sg) (x1 : Int32) : Option Bool :=
  if x1 < 0 then (
    some false
  ) else (
    zgt σ 73 0 fun v12 =>
    if v12 ≤ x1 then (
      some false
    ) else (
      some true
    )
  )
set_option maxRecDepth 20000 in
theorem t_CK_isOrder {X : Zx} {Q : State → Prop} {σ : Sg} {x1 : Int32} (ok : Zok X cX11_isOrder RX11 rm_CK_isOrder 198 2)  {out : Bool} (hf : CK_isOrder σ x1 = some out) (hk : ZrI cX11_isOrder X Q (zb out) σ) : ZAt X Q 0 0 0 σ [(0, .ref (X.ad 0)), (1, .int x1)] [] := by
  unfold CK_isOrder at hf
  refine z_iload_n ok dX11_isOrder_0 1 rfl ?_
  refine z_if_lt (tgt := 22) ok dX11_isOrder_1 (by decide) hf (fun _ hf => ?_) (fun _ hf => ?_)
  · refine z_iconst (v := 0) ok dX11_isOrder_22 (by decide) ?_
    obtain rfl := Option.some.inj hf
    exact hk _ _ dX11_isOrder_23
  · refine z_iload_n ok dX11_isOrder_4 1 rfl ?_
    refine z_aload_n ok dX11_isOrder_5 0 rfl ?_
    refine z_getr (q := 55) ok kc_0 zc_11 hin_11 8 (by decide) fl_11_37 rfl dX11_isOrder_6 ?_
    refine z_getr (q := 73) ok kc_55 zc_1 hin_1 1 (by decide) fl_11_117 rfl dX11_isOrder_9 ?_
    refine z_geti ok kc_73 zc_3 hin_3 0 (by decide) fl_11_121 rfl dX11_isOrder_12 hf (fun v12 hf => ?_)
    refine z_icmp_ge (tgt := 22) ok dX11_isOrder_15 (by decide) hf (fun _ hf => ?_) (fun _ hf => ?_)
    · refine z_iconst (v := 0) ok dX11_isOrder_22 (by decide) ?_
      obtain rfl := Option.some.inj hf
      exact hk _ _ dX11_isOrder_23
    · refine z_iconst (v := 1) ok dX11_isOrder_18 (by decide) ?_
      refine z_goto (tgt := 23) ok dX11_isOrder_19 (by decide) ?_
      obtain rfl := Option.some.inj hf
      exact hk _ _ dX11_isOrder_23
theorem c_CK_isOrder {σ : Sg} {x1 : Int32} {r : Bool} (h : CK_isOrder σ x1 = some r) : ZcI yX11_isOrder cX11_isOrder 2 .boolean rm_CK_isOrder 198 (fun ad => [.ref (ad 0), .int x1]) σ (zb r) σ :=
  zmetI pn_11 rfl (fun _ => rfl) (fun _ => Nat.le_of_ble_eq_true rfl) (zb_nar _) (fun X Q ok hk => t_CK_isOrder ok h hk)
theorem dX3_stateAt_0 : decode cX3_stateAt 0 = .ok (.iload_n 2, 1) := by decide +kernel
theorem dX3_stateAt_1 : decode cX3_stateAt 1 = .ok (.aload_n 0, 1) := by decide +kernel
theorem dX3_stateAt_2 : decode cX3_stateAt 2 = .ok (.getfield 15, 3) := by decide +kernel
theorem dX3_stateAt_5 : decode cX3_stateAt 5 = .ok (.iload_n 1, 1) := by decide +kernel
theorem dX3_stateAt_6 : decode cX3_stateAt 6 = .ok (.iaload, 1) := by decide +kernel
theorem dX3_stateAt_7 : decode cX3_stateAt 7 = .ok (.if_icmp .ge 5, 3) := by decide +kernel
theorem dX3_stateAt_10 : decode cX3_stateAt 10 = .ok (.iconst 0, 1) := by decide +kernel
theorem dX3_stateAt_11 : decode cX3_stateAt 11 = .ok (.ireturn, 1) := by decide +kernel
theorem dX3_stateAt_12 : decode cX3_stateAt 12 = .ok (.iload_n 2, 1) := by decide +kernel
theorem dX3_stateAt_13 : decode cX3_stateAt 13 = .ok (.aload_n 0, 1) := by decide +kernel
theorem dX3_stateAt_14 : decode cX3_stateAt 14 = .ok (.getfield 15, 3) := by decide +kernel
theorem dX3_stateAt_17 : decode cX3_stateAt 17 = .ok (.iload_n 1, 1) := by decide +kernel
theorem dX3_stateAt_18 : decode cX3_stateAt 18 = .ok (.iaload, 1) := by decide +kernel
theorem dX3_stateAt_19 : decode cX3_stateAt 19 = .ok (.aload_n 0, 1) := by decide +kernel
theorem dX3_stateAt_20 : decode cX3_stateAt 20 = .ok (.getfield 18, 3) := by decide +kernel
theorem dX3_stateAt_23 : decode cX3_stateAt 23 = .ok (.iload_n 1, 1) := by decide +kernel
theorem dX3_stateAt_24 : decode cX3_stateAt 24 = .ok (.iaload, 1) := by decide +kernel
theorem dX3_stateAt_25 : decode cX3_stateAt 25 = .ok (.iadd, 1) := by decide +kernel
theorem dX3_stateAt_26 : decode cX3_stateAt 26 = .ok (.if_icmp .ge 7, 3) := by decide +kernel
theorem dX3_stateAt_29 : decode cX3_stateAt 29 = .ok (.iconst 1, 1) := by decide +kernel
theorem dX3_stateAt_30 : decode cX3_stateAt 30 = .ok (.goto 4, 3) := by decide +kernel
theorem dX3_stateAt_33 : decode cX3_stateAt 33 = .ok (.iconst 2, 1) := by decide +kernel
theorem dX3_stateAt_34 : decode cX3_stateAt 34 = .ok (.ireturn, 1) := by decide +kernel
abbrev rm_Orders_stateAt : Room := { frames := 0, cells := 0, slots := 0, locals := 0 }
def Orders_stateAt (σ : Sg) (w : Nat) (x1 : Int32) (x2 : Int32) : Option Int32 :=
  zrd σ (w + 2) 16 x1 fun v6 =>
  if v6 ≤ x2 then (
    zrd σ (w + 2) 16 x1 fun v18 =>
    zrd σ (w + 3) 16 x1 fun v24 =>
    if (v18 + v24) ≤ x2 then (
      some 2
    ) else (
      some 1
    )
  ) else (
    some 0
  )
set_option maxRecDepth 20000 in
theorem t_Orders_stateAt {X : Zx} {Q : State → Prop} {σ : Sg} {w : Nat} {x1 : Int32} {x2 : Int32} (ok : Zok X cX3_stateAt RX3 rm_Orders_stateAt 198 3) (hw : zI_Orders w 198) {out : Int32} (hf : Orders_stateAt σ w x1 x2 = some out) (hk : ZrI cX3_stateAt X Q out σ) : ZAt X Q 0 0 0 σ [(0, .ref (X.ad w)), (1, .int x1), (2, .int x2)] [] := by
  unfold Orders_stateAt at hf
  obtain ⟨hw_0, hw_1, hw_2, hw_3⟩ := id hw
  refine z_iload_n ok dX3_stateAt_0 2 rfl ?_
  refine z_aload_n ok dX3_stateAt_1 0 rfl ?_
  refine z_getr (q := (w + 2)) ok hw_0 zc_3 hin_3 2 (by decide) fl_3_15 rfl dX3_stateAt_2 ?_
  refine z_iload_n ok dX3_stateAt_5 1 rfl ?_
  refine z_iald ok hw_2 dX3_stateAt_6 hf (fun v6 hf => ?_)
  refine z_icmp_ge (tgt := 12) ok dX3_stateAt_7 (by decide) hf (fun _ hf => ?_) (fun _ hf => ?_)
  · refine z_iload_n ok dX3_stateAt_12 2 rfl ?_
    refine z_aload_n ok dX3_stateAt_13 0 rfl ?_
    refine z_getr (q := (w + 2)) ok hw_0 zc_3 hin_3 2 (by decide) fl_3_15 rfl dX3_stateAt_14 ?_
    refine z_iload_n ok dX3_stateAt_17 1 rfl ?_
    refine z_iald ok hw_2 dX3_stateAt_18 hf (fun v18 hf => ?_)
    refine z_aload_n ok dX3_stateAt_19 0 rfl ?_
    refine z_getr (q := (w + 3)) ok hw_0 zc_3 hin_3 3 (by decide) fl_3_18 rfl dX3_stateAt_20 ?_
    refine z_iload_n ok dX3_stateAt_23 1 rfl ?_
    refine z_iald ok hw_3 dX3_stateAt_24 hf (fun v24 hf => ?_)
    refine z_iadd ok dX3_stateAt_25 ?_
    refine z_icmp_ge (tgt := 33) ok dX3_stateAt_26 (by decide) hf (fun _ hf => ?_) (fun _ hf => ?_)
    · refine z_iconst (v := 2) ok dX3_stateAt_33 (by decide) ?_
      obtain rfl := Option.some.inj hf
      exact hk _ _ dX3_stateAt_34
    · refine z_iconst (v := 1) ok dX3_stateAt_29 (by decide) ?_
      refine z_goto (tgt := 34) ok dX3_stateAt_30 (by decide) ?_
      obtain rfl := Option.some.inj hf
      exact hk _ _ dX3_stateAt_34
  · refine z_iconst (v := 0) ok dX3_stateAt_10 (by decide) ?_
    obtain rfl := Option.some.inj hf
    exact hk _ _ dX3_stateAt_11
theorem c_Orders_stateAt {σ : Sg} {w : Nat} {x1 : Int32} {x2 : Int32} (hw : zI_Orders w 198) {r : Int32} (h : Orders_stateAt σ w x1 x2 = some r) : ZcI yX3_stateAt cX3_stateAt 3 .int rm_Orders_stateAt 198 (fun ad => [.ref (ad w), .int x1, .int x2]) σ r σ :=
  zmetI pn_3 rfl (fun _ => rfl) (fun _ => Nat.le_of_ble_eq_true rfl) rfl (fun X Q ok hk => t_Orders_stateAt ok hw h hk)
theorem dX11_order_0 : decode cX11_order 0 = .ok (.aload_n 0, 1) := by decide +kernel
theorem dX11_order_1 : decode cX11_order 1 = .ok (.iload_n 1, 1) := by decide +kernel
theorem dX11_order_2 : decode cX11_order 2 = .ok (.invokevirtual 240, 3) := by decide +kernel
theorem dX11_order_5 : decode cX11_order 5 = .ok (.ifCond .ne 5, 3) := by decide +kernel
theorem dX11_order_8 : decode cX11_order 8 = .ok (.iconst (-1), 1) := by decide +kernel
theorem dX11_order_9 : decode cX11_order 9 = .ok (.ireturn, 1) := by decide +kernel
theorem dX11_order_10 : decode cX11_order 10 = .ok (.iload_n 2, 1) := by decide +kernel
theorem dX11_order_11 : decode cX11_order 11 = .ok (.tableswitch 98 0 3 #[29, 44, 59, 74], 29) := by decide +kernel
theorem dX11_order_40 : decode cX11_order 40 = .ok (.aload_n 0, 1) := by decide +kernel
theorem dX11_order_41 : decode cX11_order 41 = .ok (.getfield 37, 3) := by decide +kernel
theorem dX11_order_44 : decode cX11_order 44 = .ok (.getfield 117, 3) := by decide +kernel
theorem dX11_order_47 : decode cX11_order 47 = .ok (.getfield 243, 3) := by decide +kernel
theorem dX11_order_50 : decode cX11_order 50 = .ok (.iload_n 1, 1) := by decide +kernel
theorem dX11_order_51 : decode cX11_order 51 = .ok (.iaload, 1) := by decide +kernel
theorem dX11_order_52 : decode cX11_order 52 = .ok (.goto 58, 3) := by decide +kernel
theorem dX11_order_55 : decode cX11_order 55 = .ok (.aload_n 0, 1) := by decide +kernel
theorem dX11_order_56 : decode cX11_order 56 = .ok (.getfield 37, 3) := by decide +kernel
theorem dX11_order_59 : decode cX11_order 59 = .ok (.getfield 117, 3) := by decide +kernel
theorem dX11_order_62 : decode cX11_order 62 = .ok (.getfield 246, 3) := by decide +kernel
theorem dX11_order_65 : decode cX11_order 65 = .ok (.iload_n 1, 1) := by decide +kernel
theorem dX11_order_66 : decode cX11_order 66 = .ok (.iaload, 1) := by decide +kernel
theorem dX11_order_67 : decode cX11_order 67 = .ok (.goto 43, 3) := by decide +kernel
theorem dX11_order_70 : decode cX11_order 70 = .ok (.aload_n 0, 1) := by decide +kernel
theorem dX11_order_71 : decode cX11_order 71 = .ok (.getfield 37, 3) := by decide +kernel
theorem dX11_order_74 : decode cX11_order 74 = .ok (.getfield 117, 3) := by decide +kernel
theorem dX11_order_77 : decode cX11_order 77 = .ok (.getfield 249, 3) := by decide +kernel
theorem dX11_order_80 : decode cX11_order 80 = .ok (.iload_n 1, 1) := by decide +kernel
theorem dX11_order_81 : decode cX11_order 81 = .ok (.iaload, 1) := by decide +kernel
theorem dX11_order_82 : decode cX11_order 82 = .ok (.goto 28, 3) := by decide +kernel
theorem dX11_order_85 : decode cX11_order 85 = .ok (.aload_n 0, 1) := by decide +kernel
theorem dX11_order_86 : decode cX11_order 86 = .ok (.getfield 37, 3) := by decide +kernel
theorem dX11_order_89 : decode cX11_order 89 = .ok (.getfield 117, 3) := by decide +kernel
theorem dX11_order_92 : decode cX11_order 92 = .ok (.iload_n 1, 1) := by decide +kernel
theorem dX11_order_93 : decode cX11_order 93 = .ok (.aload_n 0, 1) := by decide +kernel
theorem dX11_order_94 : decode cX11_order 94 = .ok (.getfield 37, 3) := by decide +kernel
theorem dX11_order_97 : decode cX11_order 97 = .ok (.getfield 126, 3) := by decide +kernel
theorem dX11_order_100 : decode cX11_order 100 = .ok (.getfield 130, 3) := by decide +kernel
theorem dX11_order_103 : decode cX11_order 103 = .ok (.invokevirtual 252, 3) := by decide +kernel
theorem dX11_order_106 : decode cX11_order 106 = .ok (.goto 4, 3) := by decide +kernel
theorem dX11_order_109 : decode cX11_order 109 = .ok (.iconst (-1), 1) := by decide +kernel
theorem dX11_order_110 : decode cX11_order 110 = .ok (.ireturn, 1) := by decide +kernel
abbrev rm_CK_order : Room := { frames := 1, cells := 0, slots := 0, locals := 22 }
def CK_order (σ : Sg) (x1 : Int32) (x2 : Int32) : Option Int32 :=
  (CK_isOrder σ x1).bind fun r2 =>
  if (zb r2) = 0 then (
    some (-1)
  ) else (
    if x2 = 0 then (
      zrd σ 74 16 x1 fun v51 =>
      some v51
    ) else (
    if x2 = 1 then (
      zrd σ 75 16 x1 fun v66 =>
      some v66
    ) else (
    if x2 = 2 then (
      zrd σ 76 16 x1 fun v81 =>
      some v81
    ) else (
    if x2 = 3 then (
      zgt σ 56 0 fun v100 =>
      (Orders_stateAt σ 73 x1 v100).bind fun r103 =>
      some r103
    ) else (
      some (-1)
    ))))
  )
set_option maxRecDepth 20000 in
theorem t_CK_order {X : Zx} {Q : State → Prop} {σ : Sg} {x1 : Int32} {x2 : Int32} (ok : Zok X cX11_order RX11 rm_CK_order 198 3)  {out : Int32} (hf : CK_order σ x1 x2 = some out) (hk : ZrI cX11_order X Q out σ) : ZAt X Q 0 0 0 σ [(0, .ref (X.ad 0)), (1, .int x1), (2, .int x2)] [] := by
  unfold CK_order at hf
  refine z_aload_n ok dX11_order_0 0 rfl ?_
  refine z_iload_n ok dX11_order_1 1 rfl ?_
  refine z_call hf (fun r2 h2 hf => ?_)
  refine z_cV (As := [.int x1]) (rest := []) (w := 0) ok kc_0 zc_11 (c_CK_isOrder h2) rfl ⟨ml_11_240, w_CK_isOrder⟩ hy_CK_isOrder ⟨rfl, rfl⟩ ⟨Nat.le_of_ble_eq_true rfl, Nat.le_of_ble_eq_true rfl⟩ ⟨Nat.zero_le _, Nat.zero_le _⟩ rfl (Nat.le_of_ble_eq_true rfl) dX11_order_2 ?_
  refine z_if_ne (tgt := 10) ok dX11_order_5 (by decide) hf (fun _ hf => ?_) (fun _ hf => ?_)
  · refine z_iconst (v := (-1)) ok dX11_order_8 (by decide) ?_
    obtain rfl := Option.some.inj hf
    exact hk _ _ dX11_order_9
  · refine z_iload_n ok dX11_order_10 2 rfl ?_
    refine z_swc (v := 0) hf (fun hf => ?_) (fun n11_0 hf => ?_)
    · refine z_tableIn (tgt := 40) ok dX11_order_11 (by decide) (by decide) rfl (by decide) ?_
      refine z_aload_n ok dX11_order_40 0 rfl ?_
      refine z_getr (q := 55) ok kc_0 zc_11 hin_11 8 (by decide) fl_11_37 rfl dX11_order_41 ?_
      refine z_getr (q := 73) ok kc_55 zc_1 hin_1 1 (by decide) fl_11_117 rfl dX11_order_44 ?_
      refine z_getr (q := 74) ok kc_73 zc_3 hin_3 1 (by decide) fl_11_243 rfl dX11_order_47 ?_
      refine z_iload_n ok dX11_order_50 1 rfl ?_
      refine z_iald ok kc_74 dX11_order_51 hf (fun v51 hf => ?_)
      refine z_goto (tgt := 110) ok dX11_order_52 (by decide) ?_
      obtain rfl := Option.some.inj hf
      exact hk _ _ dX11_order_110
    refine z_swc (v := 1) hf (fun hf => ?_) (fun n11_1 hf => ?_)
    · refine z_tableIn (tgt := 55) ok dX11_order_11 (by decide) (by decide) rfl (by decide) ?_
      refine z_aload_n ok dX11_order_55 0 rfl ?_
      refine z_getr (q := 55) ok kc_0 zc_11 hin_11 8 (by decide) fl_11_37 rfl dX11_order_56 ?_
      refine z_getr (q := 73) ok kc_55 zc_1 hin_1 1 (by decide) fl_11_117 rfl dX11_order_59 ?_
      refine z_getr (q := 75) ok kc_73 zc_3 hin_3 2 (by decide) fl_11_246 rfl dX11_order_62 ?_
      refine z_iload_n ok dX11_order_65 1 rfl ?_
      refine z_iald ok kc_75 dX11_order_66 hf (fun v66 hf => ?_)
      refine z_goto (tgt := 110) ok dX11_order_67 (by decide) ?_
      obtain rfl := Option.some.inj hf
      exact hk _ _ dX11_order_110
    refine z_swc (v := 2) hf (fun hf => ?_) (fun n11_2 hf => ?_)
    · refine z_tableIn (tgt := 70) ok dX11_order_11 (by decide) (by decide) rfl (by decide) ?_
      refine z_aload_n ok dX11_order_70 0 rfl ?_
      refine z_getr (q := 55) ok kc_0 zc_11 hin_11 8 (by decide) fl_11_37 rfl dX11_order_71 ?_
      refine z_getr (q := 73) ok kc_55 zc_1 hin_1 1 (by decide) fl_11_117 rfl dX11_order_74 ?_
      refine z_getr (q := 76) ok kc_73 zc_3 hin_3 3 (by decide) fl_11_249 rfl dX11_order_77 ?_
      refine z_iload_n ok dX11_order_80 1 rfl ?_
      refine z_iald ok kc_76 dX11_order_81 hf (fun v81 hf => ?_)
      refine z_goto (tgt := 110) ok dX11_order_82 (by decide) ?_
      obtain rfl := Option.some.inj hf
      exact hk _ _ dX11_order_110
    refine z_swc (v := 3) hf (fun hf => ?_) (fun n11_3 hf => ?_)
    · refine z_tableIn (tgt := 85) ok dX11_order_11 (by decide) (by decide) rfl (by decide) ?_
      refine z_aload_n ok dX11_order_85 0 rfl ?_
      refine z_getr (q := 55) ok kc_0 zc_11 hin_11 8 (by decide) fl_11_37 rfl dX11_order_86 ?_
      refine z_getr (q := 73) ok kc_55 zc_1 hin_1 1 (by decide) fl_11_117 rfl dX11_order_89 ?_
      refine z_iload_n ok dX11_order_92 1 rfl ?_
      refine z_aload_n ok dX11_order_93 0 rfl ?_
      refine z_getr (q := 55) ok kc_0 zc_11 hin_11 8 (by decide) fl_11_37 rfl dX11_order_94 ?_
      refine z_getr (q := 56) ok kc_55 zc_1 hin_1 0 (by decide) fl_11_126 rfl dX11_order_97 ?_
      refine z_geti ok kc_56 zc_9 hin_9 0 (by decide) fl_11_130 rfl dX11_order_100 hf (fun v100 hf => ?_)
      refine z_call hf (fun r103 h103 hf => ?_)
      refine z_cV (As := [.int x1, .int v100]) (rest := []) (w := 73) ok kc_73 zc_3 (c_Orders_stateAt kI_Orders_73 h103) rfl ⟨ml_11_252, w_Orders_stateAt⟩ hy_Orders_stateAt ⟨rfl, rfl⟩ ⟨Nat.le_of_ble_eq_true rfl, Nat.le_of_ble_eq_true rfl⟩ ⟨Nat.zero_le _, Nat.zero_le _⟩ rfl (Nat.le_of_ble_eq_true rfl) dX11_order_103 ?_
      refine z_goto (tgt := 110) ok dX11_order_106 (by decide) ?_
      obtain rfl := Option.some.inj hf
      exact hk _ _ dX11_order_110
    refine z_tableOut (tgt := 109) ok dX11_order_11 (zsw_out 0 3 [0, 1, 2, 3] (by decide) (List.forall_mem_cons.mpr ⟨n11_0, (List.forall_mem_cons.mpr ⟨n11_1, (List.forall_mem_cons.mpr ⟨n11_2, (List.forall_mem_cons.mpr ⟨n11_3, (fun _ h => absurd h List.not_mem_nil)⟩)⟩)⟩)⟩)) (by decide) ?_
    refine z_iconst (v := (-1)) ok dX11_order_109 (by decide) ?_
    obtain rfl := Option.some.inj hf
    exact hk _ _ dX11_order_110
theorem c_CK_order {σ : Sg} {x1 : Int32} {x2 : Int32} {r : Int32} (h : CK_order σ x1 x2 = some r) : ZcI yX11_order cX11_order 3 .int rm_CK_order 198 (fun ad => [.ref (ad 0), .int x1, .int x2]) σ r σ :=
  zmetI pn_11 rfl (fun _ => rfl) (fun _ => Nat.le_of_ble_eq_true rfl) rfl (fun X Q ok hk => t_CK_order ok h hk)
theorem dX11_isStep_0 : decode cX11_isStep 0 = .ok (.iload_n 0, 1) := by decide +kernel
theorem dX11_isStep_1 : decode cX11_isStep 1 = .ok (.ifCond .lt 14, 3) := by decide +kernel
theorem dX11_isStep_4 : decode cX11_isStep 4 = .ok (.iload_n 0, 1) := by decide +kernel
theorem dX11_isStep_5 : decode cX11_isStep 5 = .ok (.sipush 9999, 3) := by decide +kernel
theorem dX11_isStep_8 : decode cX11_isStep 8 = .ok (.if_icmp .gt 7, 3) := by decide +kernel
theorem dX11_isStep_11 : decode cX11_isStep 11 = .ok (.iconst 1, 1) := by decide +kernel
theorem dX11_isStep_12 : decode cX11_isStep 12 = .ok (.goto 4, 3) := by decide +kernel
theorem dX11_isStep_15 : decode cX11_isStep 15 = .ok (.iconst 0, 1) := by decide +kernel
theorem dX11_isStep_16 : decode cX11_isStep 16 = .ok (.ireturn, 1) := by decide +kernel
abbrev rm_CK_isStep : Room := { frames := 0, cells := 0, slots := 0, locals := 0 }
def CK_isStep (x0 : Int32) : Option Bool :=
  if x0 < 0 then (
    some false
  ) else (
    if 9999 < x0 then (
      some false
    ) else (
      some true
    )
  )
set_option maxRecDepth 20000 in
theorem t_CK_isStep {X : Zx} {Q : State → Prop} {σ : Sg} {x0 : Int32} (ok : Zok X cX11_isStep RX11 rm_CK_isStep 198 1)  {out : Bool} (hf : CK_isStep x0 = some out) (hk : ZrI cX11_isStep X Q (zb out) σ) : ZAt X Q 0 0 0 σ [(0, .int x0)] [] := by
  unfold CK_isStep at hf
  refine z_iload_n ok dX11_isStep_0 0 rfl ?_
  refine z_if_lt (tgt := 15) ok dX11_isStep_1 (by decide) hf (fun _ hf => ?_) (fun _ hf => ?_)
  · refine z_iconst (v := 0) ok dX11_isStep_15 (by decide) ?_
    obtain rfl := Option.some.inj hf
    exact hk _ _ dX11_isStep_16
  · refine z_iload_n ok dX11_isStep_4 0 rfl ?_
    refine z_sipush (v := 9999) ok dX11_isStep_5 (by decide) ?_
    refine z_icmp_gt (tgt := 15) ok dX11_isStep_8 (by decide) hf (fun _ hf => ?_) (fun _ hf => ?_)
    · refine z_iconst (v := 0) ok dX11_isStep_15 (by decide) ?_
      obtain rfl := Option.some.inj hf
      exact hk _ _ dX11_isStep_16
    · refine z_iconst (v := 1) ok dX11_isStep_11 (by decide) ?_
      refine z_goto (tgt := 16) ok dX11_isStep_12 (by decide) ?_
      obtain rfl := Option.some.inj hf
      exact hk _ _ dX11_isStep_16
theorem c_CK_isStep {σ : Sg} {x0 : Int32} {r : Bool} (h : CK_isStep x0 = some r) : ZcI yX11_isStep cX11_isStep 1 .boolean rm_CK_isStep 198 (fun ad => [.int x0]) σ (zb r) σ :=
  zmetI pn_11 rfl (fun _ => rfl) (fun _ => Nat.le_of_ble_eq_true rfl) (zb_nar _) (fun X Q ok hk => t_CK_isStep ok h hk)
theorem dX11_opens_0 : decode cX11_opens 0 = .ok (.aload_n 0, 1) := by decide +kernel
theorem dX11_opens_1 : decode cX11_opens 1 = .ok (.iload_n 1, 1) := by decide +kernel
theorem dX11_opens_2 : decode cX11_opens 2 = .ok (.invokevirtual 164, 3) := by decide +kernel
theorem dX11_opens_5 : decode cX11_opens 5 = .ok (.ifCond .eq 10, 3) := by decide +kernel
theorem dX11_opens_8 : decode cX11_opens 8 = .ok (.iload_n 2, 1) := by decide +kernel
theorem dX11_opens_9 : decode cX11_opens 9 = .ok (.invokestatic 255, 3) := by decide +kernel
theorem dX11_opens_12 : decode cX11_opens 12 = .ok (.ifCond .ne 5, 3) := by decide +kernel
theorem dX11_opens_15 : decode cX11_opens 15 = .ok (.iconst (-1), 1) := by decide +kernel
theorem dX11_opens_16 : decode cX11_opens 16 = .ok (.ireturn, 1) := by decide +kernel
theorem dX11_opens_17 : decode cX11_opens 17 = .ok (.aload_n 0, 1) := by decide +kernel
theorem dX11_opens_18 : decode cX11_opens 18 = .ok (.getfield 23, 3) := by decide +kernel
theorem dX11_opens_21 : decode cX11_opens 21 = .ok (.aload_n 0, 1) := by decide +kernel
theorem dX11_opens_22 : decode cX11_opens 22 = .ok (.getfield 37, 3) := by decide +kernel
theorem dX11_opens_25 : decode cX11_opens 25 = .ok (.getfield 117, 3) := by decide +kernel
theorem dX11_opens_28 : decode cX11_opens 28 = .ok (.iload_n 1, 1) := by decide +kernel
theorem dX11_opens_29 : decode cX11_opens 29 = .ok (.iload_n 2, 1) := by decide +kernel
theorem dX11_opens_30 : decode cX11_opens 30 = .ok (.invokevirtual 227, 3) := by decide +kernel
theorem dX11_opens_33 : decode cX11_opens 33 = .ok (.ifCond .eq 7, 3) := by decide +kernel
theorem dX11_opens_36 : decode cX11_opens 36 = .ok (.iconst 1, 1) := by decide +kernel
theorem dX11_opens_37 : decode cX11_opens 37 = .ok (.goto 4, 3) := by decide +kernel
theorem dX11_opens_40 : decode cX11_opens 40 = .ok (.iconst 0, 1) := by decide +kernel
theorem dX11_opens_41 : decode cX11_opens 41 = .ok (.ireturn, 1) := by decide +kernel
abbrev rm_CK_opens : Room := { frames := 2, cells := 0, slots := 0, locals := 46 }
def CK_opens (σ : Sg) (x1 : Int32) (x2 : Int32) : Option Int32 :=
  (CK_isOutlet σ x1).bind fun r2 =>
  if (zb r2) = 0 then (
    some (-1)
  ) else (
    (CK_isStep x2).bind fun r9 =>
    if (zb r9) = 0 then (
      some (-1)
    ) else (
      zmr2 3 29 (σ 0 3) fun q18 =>
      (Works_isOpen σ q18 73 x1 x2).bind fun r30 =>
      if (zb r30) = 0 then (
        some 0
      ) else (
        some 1
      )
    )
  )
set_option maxRecDepth 20000 in
theorem t_CK_opens {X : Zx} {Q : State → Prop} {σ : Sg} {x1 : Int32} {x2 : Int32} (ok : Zok X cX11_opens RX11 rm_CK_opens 198 3)  {out : Int32} (hf : CK_opens σ x1 x2 = some out) (hk : ZrI cX11_opens X Q out σ) : ZAt X Q 0 0 0 σ [(0, .ref (X.ad 0)), (1, .int x1), (2, .int x2)] [] := by
  unfold CK_opens at hf
  refine z_aload_n ok dX11_opens_0 0 rfl ?_
  refine z_iload_n ok dX11_opens_1 1 rfl ?_
  refine z_call hf (fun r2 h2 hf => ?_)
  refine z_cV (As := [.int x1]) (rest := []) (w := 0) ok kc_0 zc_11 (c_CK_isOutlet h2) rfl ⟨ml_11_164, w_CK_isOutlet⟩ hy_CK_isOutlet ⟨rfl, rfl⟩ ⟨Nat.le_of_ble_eq_true rfl, Nat.le_of_ble_eq_true rfl⟩ ⟨Nat.zero_le _, Nat.zero_le _⟩ rfl (Nat.le_of_ble_eq_true rfl) dX11_opens_2 ?_
  refine z_if_eq (tgt := 15) ok dX11_opens_5 (by decide) hf (fun _ hf => ?_) (fun _ hf => ?_)
  · refine z_iconst (v := (-1)) ok dX11_opens_15 (by decide) ?_
    obtain rfl := Option.some.inj hf
    exact hk _ _ dX11_opens_16
  · refine z_iload_n ok dX11_opens_8 2 rfl ?_
    refine z_call hf (fun r9 h9 hf => ?_)
    refine z_cS (As := [.int x2]) (rest := []) ok (c_CK_isStep h9) rfl ⟨ml_11_255, w_CK_isStep⟩ hy_CK_isStep ⟨rfl, rfl⟩ ⟨Nat.le_of_ble_eq_true rfl, Nat.le_of_ble_eq_true rfl⟩ ⟨Nat.zero_le _, Nat.zero_le _⟩ rfl (Nat.le_of_ble_eq_true rfl) dX11_opens_9 ?_
    refine z_if_ne (tgt := 17) ok dX11_opens_12 (by decide) hf (fun _ hf => ?_) (fun _ hf => ?_)
    · refine z_iconst (v := (-1)) ok dX11_opens_15 (by decide) ?_
      obtain rfl := Option.some.inj hf
      exact hk _ _ dX11_opens_16
    · refine z_aload_n ok dX11_opens_17 0 rfl ?_
      refine z_getm2 (p := 3) (q := 29) ok kc_0 zc_11 hin_11 3 (by decide) fl_11_23 rfl (by decide) (by decide) dX11_opens_18 hf (fun q18 e18 hf => ?_)
      have hq18 : zI_Works q18 198 := by rcases e18 with rfl | rfl; exact kI_Works_3; exact kI_Works_29
      obtain ⟨hq18_0, hq18_1, hq18_2, hq18_3, hq18_4, hq18_5, hq18_6, hq18_7, hq18_8, hq18_9, hq18_10, hq18_11, hq18_12, hq18_13, hq18_14, hq18_15, hq18_16, hq18_17, hq18_18, hq18_19, hq18_20, hq18_21, hq18_22, hq18_23, hq18_24, hq18_25⟩ := id hq18
      refine z_aload_n ok dX11_opens_21 0 rfl ?_
      refine z_getr (q := 55) ok kc_0 zc_11 hin_11 8 (by decide) fl_11_37 rfl dX11_opens_22 ?_
      refine z_getr (q := 73) ok kc_55 zc_1 hin_1 1 (by decide) fl_11_117 rfl dX11_opens_25 ?_
      refine z_iload_n ok dX11_opens_28 1 rfl ?_
      refine z_iload_n ok dX11_opens_29 2 rfl ?_
      refine z_call hf (fun r30 h30 hf => ?_)
      refine z_cV (As := [.ref (X.ad 73), .int x1, .int x2]) (rest := []) (w := q18) ok hq18_0 zc_10 (c_Works_isOpen hq18 kI_Orders_73 h30) rfl ⟨ml_11_227, w_Works_isOpen⟩ hy_Works_isOpen ⟨rfl, rfl⟩ ⟨Nat.le_of_ble_eq_true rfl, Nat.le_of_ble_eq_true rfl⟩ ⟨Nat.zero_le _, Nat.zero_le _⟩ rfl (Nat.le_of_ble_eq_true rfl) dX11_opens_30 ?_
      refine z_if_eq (tgt := 40) ok dX11_opens_33 (by decide) hf (fun _ hf => ?_) (fun _ hf => ?_)
      · refine z_iconst (v := 0) ok dX11_opens_40 (by decide) ?_
        obtain rfl := Option.some.inj hf
        exact hk _ _ dX11_opens_41
      · refine z_iconst (v := 1) ok dX11_opens_36 (by decide) ?_
        refine z_goto (tgt := 41) ok dX11_opens_37 (by decide) ?_
        obtain rfl := Option.some.inj hf
        exact hk _ _ dX11_opens_41
theorem c_CK_opens {σ : Sg} {x1 : Int32} {x2 : Int32} {r : Int32} (h : CK_opens σ x1 x2 = some r) : ZcI yX11_opens cX11_opens 3 .int rm_CK_opens 198 (fun ad => [.ref (ad 0), .int x1, .int x2]) σ r σ :=
  zmetI pn_11 rfl (fun _ => rfl) (fun _ => Nat.le_of_ble_eq_true rfl) rfl (fun X Q ok hk => t_CK_opens ok h hk)
theorem dX11_load_0 : decode cX11_load 0 = .ok (.aload_n 0, 1) := by decide +kernel
theorem dX11_load_1 : decode cX11_load 1 = .ok (.iload_n 1, 1) := by decide +kernel
theorem dX11_load_2 : decode cX11_load 2 = .ok (.invokevirtual 154, 3) := by decide +kernel
theorem dX11_load_5 : decode cX11_load 5 = .ok (.ifCond .eq 10, 3) := by decide +kernel
theorem dX11_load_8 : decode cX11_load 8 = .ok (.iload_n 2, 1) := by decide +kernel
theorem dX11_load_9 : decode cX11_load 9 = .ok (.invokestatic 255, 3) := by decide +kernel
theorem dX11_load_12 : decode cX11_load 12 = .ok (.ifCond .ne 5, 3) := by decide +kernel
theorem dX11_load_15 : decode cX11_load 15 = .ok (.iconst (-1), 1) := by decide +kernel
theorem dX11_load_16 : decode cX11_load 16 = .ok (.ireturn, 1) := by decide +kernel
theorem dX11_load_17 : decode cX11_load 17 = .ok (.aload_n 0, 1) := by decide +kernel
theorem dX11_load_18 : decode cX11_load 18 = .ok (.iload_n 1, 1) := by decide +kernel
theorem dX11_load_19 : decode cX11_load 19 = .ok (.iload_n 2, 1) := by decide +kernel
theorem dX11_load_20 : decode cX11_load 20 = .ok (.invokevirtual 201, 3) := by decide +kernel
theorem dX11_load_23 : decode cX11_load 23 = .ok (.ireturn, 1) := by decide +kernel
abbrev rm_CK_load : Room := { frames := 3, cells := 0, slots := 0, locals := 71 }
def CK_load (σ : Sg) (x1 : Int32) (x2 : Int32) : Option Int32 :=
  (CK_isPool σ x1).bind fun r2 =>
  if (zb r2) = 0 then (
    some (-1)
  ) else (
    (CK_isStep x2).bind fun r9 =>
    if (zb r9) = 0 then (
      some (-1)
    ) else (
      (CK_loadAt σ x1 x2).bind fun r20 =>
      some r20
    )
  )
set_option maxRecDepth 20000 in
theorem t_CK_load {X : Zx} {Q : State → Prop} {σ : Sg} {x1 : Int32} {x2 : Int32} (ok : Zok X cX11_load RX11 rm_CK_load 198 3)  {out : Int32} (hf : CK_load σ x1 x2 = some out) (hk : ZrI cX11_load X Q out σ) : ZAt X Q 0 0 0 σ [(0, .ref (X.ad 0)), (1, .int x1), (2, .int x2)] [] := by
  unfold CK_load at hf
  refine z_aload_n ok dX11_load_0 0 rfl ?_
  refine z_iload_n ok dX11_load_1 1 rfl ?_
  refine z_call hf (fun r2 h2 hf => ?_)
  refine z_cV (As := [.int x1]) (rest := []) (w := 0) ok kc_0 zc_11 (c_CK_isPool h2) rfl ⟨ml_11_154, w_CK_isPool⟩ hy_CK_isPool ⟨rfl, rfl⟩ ⟨Nat.le_of_ble_eq_true rfl, Nat.le_of_ble_eq_true rfl⟩ ⟨Nat.zero_le _, Nat.zero_le _⟩ rfl (Nat.le_of_ble_eq_true rfl) dX11_load_2 ?_
  refine z_if_eq (tgt := 15) ok dX11_load_5 (by decide) hf (fun _ hf => ?_) (fun _ hf => ?_)
  · refine z_iconst (v := (-1)) ok dX11_load_15 (by decide) ?_
    obtain rfl := Option.some.inj hf
    exact hk _ _ dX11_load_16
  · refine z_iload_n ok dX11_load_8 2 rfl ?_
    refine z_call hf (fun r9 h9 hf => ?_)
    refine z_cS (As := [.int x2]) (rest := []) ok (c_CK_isStep h9) rfl ⟨ml_11_255, w_CK_isStep⟩ hy_CK_isStep ⟨rfl, rfl⟩ ⟨Nat.le_of_ble_eq_true rfl, Nat.le_of_ble_eq_true rfl⟩ ⟨Nat.zero_le _, Nat.zero_le _⟩ rfl (Nat.le_of_ble_eq_true rfl) dX11_load_9 ?_
    refine z_if_ne (tgt := 17) ok dX11_load_12 (by decide) hf (fun _ hf => ?_) (fun _ hf => ?_)
    · refine z_iconst (v := (-1)) ok dX11_load_15 (by decide) ?_
      obtain rfl := Option.some.inj hf
      exact hk _ _ dX11_load_16
    · refine z_aload_n ok dX11_load_17 0 rfl ?_
      refine z_iload_n ok dX11_load_18 1 rfl ?_
      refine z_iload_n ok dX11_load_19 2 rfl ?_
      refine z_call hf (fun r20 h20 hf => ?_)
      refine z_cV (As := [.int x1, .int x2]) (rest := []) (w := 0) ok kc_0 zc_11 (c_CK_loadAt h20) rfl ⟨ml_11_201, w_CK_loadAt⟩ hy_CK_loadAt ⟨rfl, rfl⟩ ⟨Nat.le_of_ble_eq_true rfl, Nat.le_of_ble_eq_true rfl⟩ ⟨Nat.zero_le _, Nat.zero_le _⟩ rfl (Nat.le_of_ble_eq_true rfl) dX11_load_20 ?_
      obtain rfl := Option.some.inj hf
      exact hk _ _ dX11_load_23
theorem c_CK_load {σ : Sg} {x1 : Int32} {x2 : Int32} {r : Int32} (h : CK_load σ x1 x2 = some r) : ZcI yX11_load cX11_load 3 .int rm_CK_load 198 (fun ad => [.ref (ad 0), .int x1, .int x2]) σ r σ :=
  zmetI pn_11 rfl (fun _ => rfl) (fun _ => Nat.le_of_ble_eq_true rfl) rfl (fun X Q ok hk => t_CK_load ok h hk)
theorem dX9_there_0 : decode cX9_there 0 = .ok (.iconst 0, 1) := by decide +kernel
theorem dX9_there_1 : decode cX9_there 1 = .ok (.istore_n 2, 1) := by decide +kernel
theorem dX9_there_2 : decode cX9_there 2 = .ok (.iconst 0, 1) := by decide +kernel
theorem dX9_there_3 : decode cX9_there 3 = .ok (.istore_n 3, 1) := by decide +kernel
theorem dX9_there_4 : decode cX9_there 4 = .ok (.iload_n 3, 1) := by decide +kernel
theorem dX9_there_5 : decode cX9_there 5 = .ok (.iload_n 1, 1) := by decide +kernel
theorem dX9_there_6 : decode cX9_there 6 = .ok (.if_icmp .ge 24, 3) := by decide +kernel
theorem dX9_there_9 : decode cX9_there 9 = .ok (.iload_n 2, 1) := by decide +kernel
theorem dX9_there_10 : decode cX9_there 10 = .ok (.aload_n 0, 1) := by decide +kernel
theorem dX9_there_11 : decode cX9_there 11 = .ok (.getfield 9, 3) := by decide +kernel
theorem dX9_there_14 : decode cX9_there 14 = .ok (.iload_n 3, 1) := by decide +kernel
theorem dX9_there_15 : decode cX9_there 15 = .ok (.iaload, 1) := by decide +kernel
theorem dX9_there_16 : decode cX9_there 16 = .ok (.aload_n 0, 1) := by decide +kernel
theorem dX9_there_17 : decode cX9_there 17 = .ok (.iload_n 3, 1) := by decide +kernel
theorem dX9_there_18 : decode cX9_there 18 = .ok (.invokevirtual 73, 3) := by decide +kernel
theorem dX9_there_21 : decode cX9_there 21 = .ok (.iadd, 1) := by decide +kernel
theorem dX9_there_22 : decode cX9_there 22 = .ok (.iadd, 1) := by decide +kernel
theorem dX9_there_23 : decode cX9_there 23 = .ok (.istore_n 2, 1) := by decide +kernel
theorem dX9_there_24 : decode cX9_there 24 = .ok (.iinc 3 1, 3) := by decide +kernel
theorem dX9_there_27 : decode cX9_there 27 = .ok (.goto (-23), 3) := by decide +kernel
theorem dX9_there_30 : decode cX9_there 30 = .ok (.iload_n 2, 1) := by decide +kernel
theorem dX9_there_31 : decode cX9_there 31 = .ok (.ireturn, 1) := by decide +kernel
abbrev rm_Water_there : Room := { frames := 1, cells := 0, slots := 0, locals := 23 }
def Water_there_l4 (σ : Sg) (w : Nat) (x1 : Int32) (x2 : Int32) (x3 : Int32) : Option ((Int32 × Int32) ⊕ (Int32 × Int32)) :=
  if x1 ≤ x3 then (
    some (.inr (x2, x3))
  ) else (
    zrd σ (w + 1) 8 x3 fun v15 =>
    (Water_onItsWay σ w x3).bind fun r18 =>
    zlt (x2 + (v15 + r18)) fun v23 =>
    zlt (x3 + 1) fun v24 =>
    some (.inl (v23, v24))
  )
set_option maxRecDepth 20000 in
theorem t_Water_there_l4 {X : Zx} {Q : State → Prop} {σ : Sg} {w : Nat} {x1 : Int32} {x2 : Int32} {x3 : Int32} (ok : Zok X cX9_there RX9 rm_Water_there 198 4) (hw : zI_Water w 198) {out : ((Int32 × Int32) ⊕ (Int32 × Int32))} (hf : Water_there_l4 σ w x1 x2 x3 = some out) (hk : zout (fun (s : (Int32 × Int32)) => ZAt X Q 0 0 4 σ [(0, .ref (X.ad w)), (1, .int x1), (2, .int s.1), (3, .int s.2)] []) (fun (s : (Int32 × Int32)) => ZAt X Q 0 0 30 σ [(2, .int s.1)] []) out) : ZAt X Q 0 0 4 σ [(0, .ref (X.ad w)), (1, .int x1), (2, .int x2), (3, .int x3)] [] := by
  unfold Water_there_l4 at hf
  obtain ⟨hw_0, hw_1, hw_2, hw_3, hw_4, hw_5, hw_6, hw_7, hw_8, hw_9, hw_10, hw_11, hw_12, hw_13, hw_14, hw_15, hw_16⟩ := id hw
  refine z_iload_n ok dX9_there_4 3 rfl ?_
  refine z_iload_n ok dX9_there_5 1 rfl ?_
  refine z_icmp_ge (tgt := 30) ok dX9_there_6 (by decide) hf (fun _ hf => ?_) (fun _ hf => ?_)
  · obtain rfl := Option.some.inj hf
    exact z_sub [2] rfl hk
  · refine z_iload_n ok dX9_there_9 2 rfl ?_
    refine z_aload_n ok dX9_there_10 0 rfl ?_
    refine z_getr (q := (w + 1)) ok hw_0 zc_9 hin_9 3 (by decide) fl_9_9 rfl dX9_there_11 ?_
    refine z_iload_n ok dX9_there_14 3 rfl ?_
    refine z_iald ok hw_1 dX9_there_15 hf (fun v15 hf => ?_)
    refine z_aload_n ok dX9_there_16 0 rfl ?_
    refine z_iload_n ok dX9_there_17 3 rfl ?_
    refine z_call hf (fun r18 h18 hf => ?_)
    refine z_cV (As := [.int x3]) (rest := [.int v15, .int x2]) (w := w) ok hw_0 zc_9 (c_Water_onItsWay hw h18) rfl ⟨ml_9_73, w_Water_onItsWay⟩ hy_Water_onItsWay ⟨rfl, rfl⟩ ⟨Nat.le_of_ble_eq_true rfl, Nat.le_of_ble_eq_true rfl⟩ ⟨Nat.zero_le _, Nat.zero_le _⟩ rfl (Nat.le_of_ble_eq_true rfl) dX9_there_18 ?_
    refine z_iadd ok dX9_there_21 ?_
    refine z_iadd ok dX9_there_22 ?_
    refine z_nm hf (fun v23 hf => ?_)
    refine z_istore_n (lv' := [(2, .int v23), (0, .ref (X.ad w)), (1, .int x1), (3, .int x3)]) ok dX9_there_23 (by decide) rfl ?_
    refine z_iinc (w := 1) (lv' := fun v24 => [(3, .int v24), (2, .int v23), (0, .ref (X.ad w)), (1, .int x1)]) ok dX9_there_24 3 rfl (by decide) (by decide) (fun _ => rfl) hf (fun v24 hf => ?_)
    refine z_goto (tgt := 4) ok dX9_there_27 (by decide) ?_
    obtain rfl := Option.some.inj hf
    exact z_sub [2, 3, 1, 0] rfl hk
def Water_there (σ : Sg) (w : Nat) (x1 : Int32) : Option Int32 :=
  zlt 0 fun v1 =>
  zlt 0 fun v3 =>
  (zit (fun (s : (Int32 × Int32)) => Water_there_l4 σ w x1 s.1 s.2) zFU (v1, v3)).bind fun r =>
  some r.1
set_option maxRecDepth 20000 in
theorem t_Water_there {X : Zx} {Q : State → Prop} {σ : Sg} {w : Nat} {x1 : Int32} (ok : Zok X cX9_there RX9 rm_Water_there 198 4) (hw : zI_Water w 198) {out : Int32} (hf : Water_there σ w x1 = some out) (hk : ZrI cX9_there X Q out σ) : ZAt X Q 0 0 0 σ [(0, .ref (X.ad w)), (1, .int x1)] [] := by
  unfold Water_there at hf
  obtain ⟨hw_0, hw_1, hw_2, hw_3, hw_4, hw_5, hw_6, hw_7, hw_8, hw_9, hw_10, hw_11, hw_12, hw_13, hw_14, hw_15, hw_16⟩ := id hw
  refine z_iconst (v := 0) ok dX9_there_0 (by decide) ?_
  refine z_nm hf (fun v1 hf => ?_)
  refine z_istore_n (lv' := [(2, .int v1), (0, .ref (X.ad w)), (1, .int x1)]) ok dX9_there_1 (by decide) rfl ?_
  refine z_iconst (v := 0) ok dX9_there_2 (by decide) ?_
  refine z_nm hf (fun v3 hf => ?_)
  refine z_istore_n (lv' := [(3, .int v3), (2, .int v1), (0, .ref (X.ad w)), (1, .int x1)]) ok dX9_there_3 (by decide) rfl ?_
  refine z_call hf (fun r hr hf => ?_)
  refine z_sub [2, 3, 1, 0] rfl (z_iter (fun (s : (Int32 × Int32)) => σ) (fun (s : (Int32 × Int32)) => [(0, .ref (X.ad w)), (1, .int x1), (2, .int s.1), (3, .int s.2)]) (fun s o h1 h2 => t_Water_there_l4 ok hw h1 h2) _ _ _ hr ?_)
  show ZAt X Q 0 0 30 σ [(2, .int r.1)] []
  refine z_iload_n ok dX9_there_30 0 rfl ?_
  obtain rfl := Option.some.inj hf
  exact hk _ _ dX9_there_31
theorem c_Water_there {σ : Sg} {w : Nat} {x1 : Int32} (hw : zI_Water w 198) {r : Int32} (h : Water_there σ w x1 = some r) : ZcI yX9_there cX9_there 4 .int rm_Water_there 198 (fun ad => [.ref (ad w), .int x1]) σ r σ :=
  zmetI pn_9 rfl (fun _ => rfl) (fun _ => Nat.le_of_ble_eq_true rfl) rfl (fun X Q ok hk => t_Water_there ok hw h hk)
theorem dX11_account_0 : decode cX11_account 0 = .ok (.aload_n 0, 1) := by decide +kernel
theorem dX11_account_1 : decode cX11_account 1 = .ok (.getfield 94, 3) := by decide +kernel
theorem dX11_account_4 : decode cX11_account 4 = .ok (.ifCond .eq 13, 3) := by decide +kernel
theorem dX11_account_7 : decode cX11_account 7 = .ok (.iload_n 1, 1) := by decide +kernel
theorem dX11_account_8 : decode cX11_account 8 = .ok (.ifCond .lt 9, 3) := by decide +kernel
theorem dX11_account_11 : decode cX11_account 11 = .ok (.iload_n 1, 1) := by decide +kernel
theorem dX11_account_12 : decode cX11_account 12 = .ok (.bipush 7, 2) := by decide +kernel
theorem dX11_account_14 : decode cX11_account 14 = .ok (.if_icmp .lt 5, 3) := by decide +kernel
theorem dX11_account_17 : decode cX11_account 17 = .ok (.iconst (-1), 1) := by decide +kernel
theorem dX11_account_18 : decode cX11_account 18 = .ok (.ireturn, 1) := by decide +kernel
theorem dX11_account_19 : decode cX11_account 19 = .ok (.iload_n 1, 1) := by decide +kernel
theorem dX11_account_20 : decode cX11_account 20 = .ok (.iconst 5, 1) := by decide +kernel
theorem dX11_account_21 : decode cX11_account 21 = .ok (.if_icmp .ne 23, 3) := by decide +kernel
theorem dX11_account_24 : decode cX11_account 24 = .ok (.aload_n 0, 1) := by decide +kernel
theorem dX11_account_25 : decode cX11_account 25 = .ok (.getfield 37, 3) := by decide +kernel
theorem dX11_account_28 : decode cX11_account 28 = .ok (.getfield 126, 3) := by decide +kernel
theorem dX11_account_31 : decode cX11_account 31 = .ok (.aload_n 0, 1) := by decide +kernel
theorem dX11_account_32 : decode cX11_account 32 = .ok (.getfield 23, 3) := by decide +kernel
theorem dX11_account_35 : decode cX11_account 35 = .ok (.getfield 111, 3) := by decide +kernel
theorem dX11_account_38 : decode cX11_account 38 = .ok (.invokevirtual 258, 3) := by decide +kernel
theorem dX11_account_41 : decode cX11_account 41 = .ok (.goto 15, 3) := by decide +kernel
theorem dX11_account_44 : decode cX11_account 44 = .ok (.aload_n 0, 1) := by decide +kernel
theorem dX11_account_45 : decode cX11_account 45 = .ok (.getfield 37, 3) := by decide +kernel
theorem dX11_account_48 : decode cX11_account 48 = .ok (.getfield 126, 3) := by decide +kernel
theorem dX11_account_51 : decode cX11_account 51 = .ok (.getfield 261, 3) := by decide +kernel
theorem dX11_account_54 : decode cX11_account 54 = .ok (.iload_n 1, 1) := by decide +kernel
theorem dX11_account_55 : decode cX11_account 55 = .ok (.iaload, 1) := by decide +kernel
theorem dX11_account_56 : decode cX11_account 56 = .ok (.ireturn, 1) := by decide +kernel
abbrev rm_CK_account : Room := { frames := 2, cells := 0, slots := 0, locals := 46 }
def CK_account (σ : Sg) (x1 : Int32) : Option Int32 :=
  zgt σ 0 5 fun v1 =>
  if v1 = 0 then (
    some (-1)
  ) else (
    if x1 < 0 then (
      some (-1)
    ) else (
      if x1 < 7 then (
        if x1 = 5 then (
          zmr2 3 29 (σ 0 3) fun q32 =>
          zgt σ q32 3 fun v35 =>
          (Water_there σ 56 v35).bind fun r38 =>
          some r38
        ) else (
          zrd σ 64 7 x1 fun v55 =>
          some v55
        )
      ) else (
        some (-1)
      )
    )
  )
set_option maxRecDepth 20000 in
theorem t_CK_account {X : Zx} {Q : State → Prop} {σ : Sg} {x1 : Int32} (ok : Zok X cX11_account RX11 rm_CK_account 198 2)  {out : Int32} (hf : CK_account σ x1 = some out) (hk : ZrI cX11_account X Q out σ) : ZAt X Q 0 0 0 σ [(0, .ref (X.ad 0)), (1, .int x1)] [] := by
  unfold CK_account at hf
  refine z_aload_n ok dX11_account_0 0 rfl ?_
  refine z_geti ok kc_0 zc_11 hin_11 5 (by decide) fl_11_94 rfl dX11_account_1 hf (fun v1 hf => ?_)
  refine z_if_eq (tgt := 17) ok dX11_account_4 (by decide) hf (fun _ hf => ?_) (fun _ hf => ?_)
  · refine z_iconst (v := (-1)) ok dX11_account_17 (by decide) ?_
    obtain rfl := Option.some.inj hf
    exact hk _ _ dX11_account_18
  · refine z_iload_n ok dX11_account_7 1 rfl ?_
    refine z_if_lt (tgt := 17) ok dX11_account_8 (by decide) hf (fun _ hf => ?_) (fun _ hf => ?_)
    · refine z_iconst (v := (-1)) ok dX11_account_17 (by decide) ?_
      obtain rfl := Option.some.inj hf
      exact hk _ _ dX11_account_18
    · refine z_iload_n ok dX11_account_11 1 rfl ?_
      refine z_bipush (v := 7) ok dX11_account_12 (by decide) ?_
      refine z_icmp_lt (tgt := 19) ok dX11_account_14 (by decide) hf (fun _ hf => ?_) (fun _ hf => ?_)
      · refine z_iload_n ok dX11_account_19 1 rfl ?_
        refine z_iconst (v := 5) ok dX11_account_20 (by decide) ?_
        refine z_icmp_ne (tgt := 44) ok dX11_account_21 (by decide) hf (fun _ hf => ?_) (fun _ hf => ?_)
        · refine z_aload_n ok dX11_account_24 0 rfl ?_
          refine z_getr (q := 55) ok kc_0 zc_11 hin_11 8 (by decide) fl_11_37 rfl dX11_account_25 ?_
          refine z_getr (q := 56) ok kc_55 zc_1 hin_1 0 (by decide) fl_11_126 rfl dX11_account_28 ?_
          refine z_aload_n ok dX11_account_31 0 rfl ?_
          refine z_getm2 (p := 3) (q := 29) ok kc_0 zc_11 hin_11 3 (by decide) fl_11_23 rfl (by decide) (by decide) dX11_account_32 hf (fun q32 e32 hf => ?_)
          have hq32 : zI_Works q32 198 := by rcases e32 with rfl | rfl; exact kI_Works_3; exact kI_Works_29
          obtain ⟨hq32_0, hq32_1, hq32_2, hq32_3, hq32_4, hq32_5, hq32_6, hq32_7, hq32_8, hq32_9, hq32_10, hq32_11, hq32_12, hq32_13, hq32_14, hq32_15, hq32_16, hq32_17, hq32_18, hq32_19, hq32_20, hq32_21, hq32_22, hq32_23, hq32_24, hq32_25⟩ := id hq32
          refine z_geti ok hq32_0 zc_10 hin_10 3 (by decide) fl_11_111 rfl dX11_account_35 hf (fun v35 hf => ?_)
          refine z_call hf (fun r38 h38 hf => ?_)
          refine z_cV (As := [.int v35]) (rest := []) (w := 56) ok kc_56 zc_9 (c_Water_there kI_Water_56 h38) rfl ⟨ml_11_258, w_Water_there⟩ hy_Water_there ⟨rfl, rfl⟩ ⟨Nat.le_of_ble_eq_true rfl, Nat.le_of_ble_eq_true rfl⟩ ⟨Nat.zero_le _, Nat.zero_le _⟩ rfl (Nat.le_of_ble_eq_true rfl) dX11_account_38 ?_
          refine z_goto (tgt := 56) ok dX11_account_41 (by decide) ?_
          obtain rfl := Option.some.inj hf
          exact hk _ _ dX11_account_56
        · refine z_aload_n ok dX11_account_44 0 rfl ?_
          refine z_getr (q := 55) ok kc_0 zc_11 hin_11 8 (by decide) fl_11_37 rfl dX11_account_45 ?_
          refine z_getr (q := 56) ok kc_55 zc_1 hin_1 0 (by decide) fl_11_126 rfl dX11_account_48 ?_
          refine z_getr (q := 64) ok kc_56 zc_9 hin_9 10 (by decide) fl_11_261 rfl dX11_account_51 ?_
          refine z_iload_n ok dX11_account_54 1 rfl ?_
          refine z_iald ok kc_64 dX11_account_55 hf (fun v55 hf => ?_)
          obtain rfl := Option.some.inj hf
          exact hk _ _ dX11_account_56
      · refine z_iconst (v := (-1)) ok dX11_account_17 (by decide) ?_
        obtain rfl := Option.some.inj hf
        exact hk _ _ dX11_account_18
theorem c_CK_account {σ : Sg} {x1 : Int32} {r : Int32} (h : CK_account σ x1 = some r) : ZcI yX11_account cX11_account 2 .int rm_CK_account 198 (fun ad => [.ref (ad 0), .int x1]) σ r σ :=
  zmetI pn_11 rfl (fun _ => rfl) (fun _ => Nat.le_of_ble_eq_true rfl) rfl (fun X Q ok hk => t_CK_account ok h hk)
theorem dX3_keyOf_0 : decode cX3_keyOf 0 = .ok (.iload_n 2, 1) := by decide +kernel
theorem dX3_keyOf_1 : decode cX3_keyOf 1 = .ok (.iconst 1, 1) := by decide +kernel
theorem dX3_keyOf_2 : decode cX3_keyOf 2 = .ok (.if_icmp .ne 12, 3) := by decide +kernel
theorem dX3_keyOf_5 : decode cX3_keyOf 5 = .ok (.aload_n 0, 1) := by decide +kernel
theorem dX3_keyOf_6 : decode cX3_keyOf 6 = .ok (.getfield 15, 3) := by decide +kernel
theorem dX3_keyOf_9 : decode cX3_keyOf 9 = .ok (.iload_n 1, 1) := by decide +kernel
theorem dX3_keyOf_10 : decode cX3_keyOf 10 = .ok (.iaload, 1) := by decide +kernel
theorem dX3_keyOf_11 : decode cX3_keyOf 11 = .ok (.goto 16, 3) := by decide +kernel
theorem dX3_keyOf_14 : decode cX3_keyOf 14 = .ok (.aload_n 0, 1) := by decide +kernel
theorem dX3_keyOf_15 : decode cX3_keyOf 15 = .ok (.getfield 15, 3) := by decide +kernel
theorem dX3_keyOf_18 : decode cX3_keyOf 18 = .ok (.iload_n 1, 1) := by decide +kernel
theorem dX3_keyOf_19 : decode cX3_keyOf 19 = .ok (.iaload, 1) := by decide +kernel
theorem dX3_keyOf_20 : decode cX3_keyOf 20 = .ok (.aload_n 0, 1) := by decide +kernel
theorem dX3_keyOf_21 : decode cX3_keyOf 21 = .ok (.getfield 18, 3) := by decide +kernel
theorem dX3_keyOf_24 : decode cX3_keyOf 24 = .ok (.iload_n 1, 1) := by decide +kernel
theorem dX3_keyOf_25 : decode cX3_keyOf 25 = .ok (.iaload, 1) := by decide +kernel
theorem dX3_keyOf_26 : decode cX3_keyOf 26 = .ok (.iadd, 1) := by decide +kernel
theorem dX3_keyOf_27 : decode cX3_keyOf 27 = .ok (.istore_n 3, 1) := by decide +kernel
theorem dX3_keyOf_28 : decode cX3_keyOf 28 = .ok (.iload_n 3, 1) := by decide +kernel
theorem dX3_keyOf_29 : decode cX3_keyOf 29 = .ok (.bipush 16, 2) := by decide +kernel
theorem dX3_keyOf_31 : decode cX3_keyOf 31 = .ok (.imul, 1) := by decide +kernel
theorem dX3_keyOf_32 : decode cX3_keyOf 32 = .ok (.aload_n 0, 1) := by decide +kernel
theorem dX3_keyOf_33 : decode cX3_keyOf 33 = .ok (.getfield 9, 3) := by decide +kernel
theorem dX3_keyOf_36 : decode cX3_keyOf 36 = .ok (.iload_n 1, 1) := by decide +kernel
theorem dX3_keyOf_37 : decode cX3_keyOf 37 = .ok (.iaload, 1) := by decide +kernel
theorem dX3_keyOf_38 : decode cX3_keyOf 38 = .ok (.iadd, 1) := by decide +kernel
theorem dX3_keyOf_39 : decode cX3_keyOf 39 = .ok (.iconst 2, 1) := by decide +kernel
theorem dX3_keyOf_40 : decode cX3_keyOf 40 = .ok (.imul, 1) := by decide +kernel
theorem dX3_keyOf_41 : decode cX3_keyOf 41 = .ok (.iload_n 2, 1) := by decide +kernel
theorem dX3_keyOf_42 : decode cX3_keyOf 42 = .ok (.iadd, 1) := by decide +kernel
theorem dX3_keyOf_43 : decode cX3_keyOf 43 = .ok (.bipush 16, 2) := by decide +kernel
theorem dX3_keyOf_45 : decode cX3_keyOf 45 = .ok (.imul, 1) := by decide +kernel
theorem dX3_keyOf_46 : decode cX3_keyOf 46 = .ok (.iload_n 1, 1) := by decide +kernel
theorem dX3_keyOf_47 : decode cX3_keyOf 47 = .ok (.iadd, 1) := by decide +kernel
theorem dX3_keyOf_48 : decode cX3_keyOf 48 = .ok (.ireturn, 1) := by decide +kernel
abbrev rm_Orders_keyOf : Room := { frames := 0, cells := 0, slots := 0, locals := 0 }
def Orders_keyOf_j27 (σ : Sg) (w : Nat) (x1 : Int32) (x2 : Int32) (s0 : Int32) : Option Int32 :=
  zrd σ (w + 1) 16 x1 fun v37 =>
  some ((((((s0 * 16) + v37) * 2) + x2) * 16) + x1)
set_option maxRecDepth 20000 in
theorem t_Orders_keyOf_j27 {X : Zx} {Q : State → Prop} {σ : Sg} {w : Nat} {x1 : Int32} {x2 : Int32} {s0 : Int32} (ok : Zok X cX3_keyOf RX3 rm_Orders_keyOf 198 4) (hw : zI_Orders w 198) {out : Int32} (hf : Orders_keyOf_j27 σ w x1 x2 s0 = some out) (hk : ZrI cX3_keyOf X Q out σ) : ZAt X Q 0 0 27 σ [(0, .ref (X.ad w)), (1, .int x1), (2, .int x2)] [.int s0] := by
  unfold Orders_keyOf_j27 at hf
  obtain ⟨hw_0, hw_1, hw_2, hw_3⟩ := id hw
  refine z_istore_n (lv' := [(3, .int s0), (0, .ref (X.ad w)), (1, .int x1), (2, .int x2)]) ok dX3_keyOf_27 (by decide) rfl ?_
  refine z_iload_n ok dX3_keyOf_28 0 rfl ?_
  refine z_bipush (v := 16) ok dX3_keyOf_29 (by decide) ?_
  refine z_imul ok dX3_keyOf_31 ?_
  refine z_aload_n ok dX3_keyOf_32 1 rfl ?_
  refine z_getr (q := (w + 1)) ok hw_0 zc_3 hin_3 1 (by decide) fl_3_9 rfl dX3_keyOf_33 ?_
  refine z_iload_n ok dX3_keyOf_36 2 rfl ?_
  refine z_iald ok hw_1 dX3_keyOf_37 hf (fun v37 hf => ?_)
  refine z_iadd ok dX3_keyOf_38 ?_
  refine z_iconst (v := 2) ok dX3_keyOf_39 (by decide) ?_
  refine z_imul ok dX3_keyOf_40 ?_
  refine z_iload_n ok dX3_keyOf_41 3 rfl ?_
  refine z_iadd ok dX3_keyOf_42 ?_
  refine z_bipush (v := 16) ok dX3_keyOf_43 (by decide) ?_
  refine z_imul ok dX3_keyOf_45 ?_
  refine z_iload_n ok dX3_keyOf_46 2 rfl ?_
  refine z_iadd ok dX3_keyOf_47 ?_
  obtain rfl := Option.some.inj hf
  exact hk _ _ dX3_keyOf_48
def Orders_keyOf (σ : Sg) (w : Nat) (x1 : Int32) (x2 : Int32) : Option Int32 :=
  if x2 = 1 then (
    zrd σ (w + 2) 16 x1 fun v10 =>
    Orders_keyOf_j27 σ w x1 x2 v10
  ) else (
    zrd σ (w + 2) 16 x1 fun v19 =>
    zrd σ (w + 3) 16 x1 fun v25 =>
    Orders_keyOf_j27 σ w x1 x2 (v19 + v25)
  )
set_option maxRecDepth 20000 in
theorem t_Orders_keyOf {X : Zx} {Q : State → Prop} {σ : Sg} {w : Nat} {x1 : Int32} {x2 : Int32} (ok : Zok X cX3_keyOf RX3 rm_Orders_keyOf 198 4) (hw : zI_Orders w 198) {out : Int32} (hf : Orders_keyOf σ w x1 x2 = some out) (hk : ZrI cX3_keyOf X Q out σ) : ZAt X Q 0 0 0 σ [(0, .ref (X.ad w)), (1, .int x1), (2, .int x2)] [] := by
  unfold Orders_keyOf at hf
  obtain ⟨hw_0, hw_1, hw_2, hw_3⟩ := id hw
  refine z_iload_n ok dX3_keyOf_0 2 rfl ?_
  refine z_iconst (v := 1) ok dX3_keyOf_1 (by decide) ?_
  refine z_icmp_ne (tgt := 14) ok dX3_keyOf_2 (by decide) hf (fun _ hf => ?_) (fun _ hf => ?_)
  · refine z_aload_n ok dX3_keyOf_5 0 rfl ?_
    refine z_getr (q := (w + 2)) ok hw_0 zc_3 hin_3 2 (by decide) fl_3_15 rfl dX3_keyOf_6 ?_
    refine z_iload_n ok dX3_keyOf_9 1 rfl ?_
    refine z_iald ok hw_2 dX3_keyOf_10 hf (fun v10 hf => ?_)
    refine z_goto (tgt := 27) ok dX3_keyOf_11 (by decide) ?_
    exact z_sub [0, 1, 2] rfl (t_Orders_keyOf_j27 ok hw hf hk)
  · refine z_aload_n ok dX3_keyOf_14 0 rfl ?_
    refine z_getr (q := (w + 2)) ok hw_0 zc_3 hin_3 2 (by decide) fl_3_15 rfl dX3_keyOf_15 ?_
    refine z_iload_n ok dX3_keyOf_18 1 rfl ?_
    refine z_iald ok hw_2 dX3_keyOf_19 hf (fun v19 hf => ?_)
    refine z_aload_n ok dX3_keyOf_20 0 rfl ?_
    refine z_getr (q := (w + 3)) ok hw_0 zc_3 hin_3 3 (by decide) fl_3_18 rfl dX3_keyOf_21 ?_
    refine z_iload_n ok dX3_keyOf_24 1 rfl ?_
    refine z_iald ok hw_3 dX3_keyOf_25 hf (fun v25 hf => ?_)
    refine z_iadd ok dX3_keyOf_26 ?_
    exact z_sub [0, 1, 2] rfl (t_Orders_keyOf_j27 ok hw hf hk)
theorem c_Orders_keyOf {σ : Sg} {w : Nat} {x1 : Int32} {x2 : Int32} (hw : zI_Orders w 198) {r : Int32} (h : Orders_keyOf σ w x1 x2 = some r) : ZcI yX3_keyOf cX3_keyOf 4 .int rm_Orders_keyOf 198 (fun ad => [.ref (ad w), .int x1, .int x2]) σ r σ :=
  zmetI pn_3 rfl (fun _ => rfl) (fun _ => Nat.le_of_ble_eq_true rfl) rfl (fun X Q ok hk => t_Orders_keyOf ok hw h hk)
theorem dX3_stepOfKey_0 : decode cX3_stepOfKey 0 = .ok (.iload_n 0, 1) := by decide +kernel
theorem dX3_stepOfKey_1 : decode cX3_stepOfKey 1 = .ok (.sipush 512, 3) := by decide +kernel
theorem dX3_stepOfKey_4 : decode cX3_stepOfKey 4 = .ok (.idiv, 1) := by decide +kernel
theorem dX3_stepOfKey_5 : decode cX3_stepOfKey 5 = .ok (.ireturn, 1) := by decide +kernel
abbrev rm_Orders_stepOfKey : Room := { frames := 0, cells := 0, slots := 0, locals := 0 }
def Orders_stepOfKey (x0 : Int32) : Option Int32 :=
  some (x0 / 512)
set_option maxRecDepth 20000 in
theorem t_Orders_stepOfKey {X : Zx} {Q : State → Prop} {σ : Sg} {x0 : Int32} (ok : Zok X cX3_stepOfKey RX3 rm_Orders_stepOfKey 198 1)  {out : Int32} (hf : Orders_stepOfKey x0 = some out) (hk : ZrI cX3_stepOfKey X Q out σ) : ZAt X Q 0 0 0 σ [(0, .int x0)] [] := by
  unfold Orders_stepOfKey at hf
  refine z_iload_n ok dX3_stepOfKey_0 0 rfl ?_
  refine z_sipush (v := 512) ok dX3_stepOfKey_1 (by decide) ?_
  refine z_idivc ok dX3_stepOfKey_4 (by decide) ?_
  obtain rfl := Option.some.inj hf
  exact hk _ _ dX3_stepOfKey_5
theorem c_Orders_stepOfKey {σ : Sg} {x0 : Int32} {r : Int32} (h : Orders_stepOfKey x0 = some r) : ZcI yX3_stepOfKey cX3_stepOfKey 1 .int rm_Orders_stepOfKey 198 (fun ad => [.int x0]) σ r σ :=
  zmetI pn_3 rfl (fun _ => rfl) (fun _ => Nat.le_of_ble_eq_true rfl) rfl (fun X Q ok hk => t_Orders_stepOfKey ok h hk)
theorem dX3_countKeysBelow_0 : decode cX3_countKeysBelow 0 = .ok (.iconst 0, 1) := by decide +kernel
theorem dX3_countKeysBelow_1 : decode cX3_countKeysBelow 1 = .ok (.istore_n 3, 1) := by decide +kernel
theorem dX3_countKeysBelow_2 : decode cX3_countKeysBelow 2 = .ok (.iconst 0, 1) := by decide +kernel
theorem dX3_countKeysBelow_3 : decode cX3_countKeysBelow 3 = .ok (.istore 4, 2) := by decide +kernel
theorem dX3_countKeysBelow_5 : decode cX3_countKeysBelow 5 = .ok (.iload 4, 2) := by decide +kernel
theorem dX3_countKeysBelow_7 : decode cX3_countKeysBelow 7 = .ok (.iconst 2, 1) := by decide +kernel
theorem dX3_countKeysBelow_8 : decode cX3_countKeysBelow 8 = .ok (.aload_n 0, 1) := by decide +kernel
theorem dX3_countKeysBelow_9 : decode cX3_countKeysBelow 9 = .ok (.getfield 21, 3) := by decide +kernel
theorem dX3_countKeysBelow_12 : decode cX3_countKeysBelow 12 = .ok (.imul, 1) := by decide +kernel
theorem dX3_countKeysBelow_13 : decode cX3_countKeysBelow 13 = .ok (.if_icmp .ge 41, 3) := by decide +kernel
theorem dX3_countKeysBelow_16 : decode cX3_countKeysBelow 16 = .ok (.aload_n 0, 1) := by decide +kernel
theorem dX3_countKeysBelow_17 : decode cX3_countKeysBelow 17 = .ok (.iload 4, 2) := by decide +kernel
theorem dX3_countKeysBelow_19 : decode cX3_countKeysBelow 19 = .ok (.iconst 2, 1) := by decide +kernel
theorem dX3_countKeysBelow_20 : decode cX3_countKeysBelow 20 = .ok (.idiv, 1) := by decide +kernel
theorem dX3_countKeysBelow_21 : decode cX3_countKeysBelow 21 = .ok (.iload 4, 2) := by decide +kernel
theorem dX3_countKeysBelow_23 : decode cX3_countKeysBelow 23 = .ok (.iconst 2, 1) := by decide +kernel
theorem dX3_countKeysBelow_24 : decode cX3_countKeysBelow 24 = .ok (.irem, 1) := by decide +kernel
theorem dX3_countKeysBelow_25 : decode cX3_countKeysBelow 25 = .ok (.invokevirtual 36, 3) := by decide +kernel
theorem dX3_countKeysBelow_28 : decode cX3_countKeysBelow 28 = .ok (.istore 5, 2) := by decide +kernel
theorem dX3_countKeysBelow_30 : decode cX3_countKeysBelow 30 = .ok (.iload 5, 2) := by decide +kernel
theorem dX3_countKeysBelow_32 : decode cX3_countKeysBelow 32 = .ok (.invokestatic 39, 3) := by decide +kernel
theorem dX3_countKeysBelow_35 : decode cX3_countKeysBelow 35 = .ok (.iload_n 2, 1) := by decide +kernel
theorem dX3_countKeysBelow_36 : decode cX3_countKeysBelow 36 = .ok (.if_icmp .lt 12, 3) := by decide +kernel
theorem dX3_countKeysBelow_39 : decode cX3_countKeysBelow 39 = .ok (.iload 5, 2) := by decide +kernel
theorem dX3_countKeysBelow_41 : decode cX3_countKeysBelow 41 = .ok (.iload_n 1, 1) := by decide +kernel
theorem dX3_countKeysBelow_42 : decode cX3_countKeysBelow 42 = .ok (.if_icmp .ge 6, 3) := by decide +kernel
theorem dX3_countKeysBelow_45 : decode cX3_countKeysBelow 45 = .ok (.iinc 3 1, 3) := by decide +kernel
theorem dX3_countKeysBelow_48 : decode cX3_countKeysBelow 48 = .ok (.iinc 4 1, 3) := by decide +kernel
theorem dX3_countKeysBelow_51 : decode cX3_countKeysBelow 51 = .ok (.goto (-46), 3) := by decide +kernel
theorem dX3_countKeysBelow_54 : decode cX3_countKeysBelow 54 = .ok (.iload_n 3, 1) := by decide +kernel
theorem dX3_countKeysBelow_55 : decode cX3_countKeysBelow 55 = .ok (.ireturn, 1) := by decide +kernel
abbrev rm_Orders_countKeysBelow : Room := { frames := 1, cells := 0, slots := 0, locals := 23 }
def Orders_countKeysBelow_l5 (σ : Sg) (w : Nat) (x1 : Int32) (x2 : Int32) (x3 : Int32) (x4 : Int32) : Option ((Int32 × Int32) ⊕ (Int32 × Int32)) :=
  zgt σ w 0 fun v9 =>
  if (2 * v9) ≤ x4 then (
    some (.inr (x3, x4))
  ) else (
    (Orders_keyOf σ w (x4 / 2) (x4 - x4 / 2 * 2)).bind fun r25 =>
    zlt r25 fun v28 =>
    (Orders_stepOfKey v28).bind fun r32 =>
    if r32 < x2 then (
      zlt (x4 + 1) fun v48 =>
      some (.inl (x3, v48))
    ) else (
      if x1 ≤ v28 then (
        zlt (x4 + 1) fun v48 =>
        some (.inl (x3, v48))
      ) else (
        zlt (x3 + 1) fun v45 =>
        zlt (x4 + 1) fun v48 =>
        some (.inl (v45, v48))
      )
    )
  )
set_option maxRecDepth 20000 in
theorem t_Orders_countKeysBelow_l5 {X : Zx} {Q : State → Prop} {σ : Sg} {w : Nat} {x1 : Int32} {x2 : Int32} {x3 : Int32} {x4 : Int32} (ok : Zok X cX3_countKeysBelow RX3 rm_Orders_countKeysBelow 198 6) (hw : zI_Orders w 198) {out : ((Int32 × Int32) ⊕ (Int32 × Int32))} (hf : Orders_countKeysBelow_l5 σ w x1 x2 x3 x4 = some out) (hk : zout (fun (s : (Int32 × Int32)) => ZAt X Q 0 0 5 σ [(0, .ref (X.ad w)), (1, .int x1), (2, .int x2), (3, .int s.1), (4, .int s.2)] []) (fun (s : (Int32 × Int32)) => ZAt X Q 0 0 54 σ [(3, .int s.1)] []) out) : ZAt X Q 0 0 5 σ [(0, .ref (X.ad w)), (1, .int x1), (2, .int x2), (3, .int x3), (4, .int x4)] [] := by
  unfold Orders_countKeysBelow_l5 at hf
  obtain ⟨hw_0, hw_1, hw_2, hw_3⟩ := id hw
  refine z_iload ok dX3_countKeysBelow_5 4 rfl ?_
  refine z_iconst (v := 2) ok dX3_countKeysBelow_7 (by decide) ?_
  refine z_aload_n ok dX3_countKeysBelow_8 0 rfl ?_
  refine z_geti ok hw_0 zc_3 hin_3 0 (by decide) fl_3_21 rfl dX3_countKeysBelow_9 hf (fun v9 hf => ?_)
  refine z_imul ok dX3_countKeysBelow_12 ?_
  refine z_icmp_ge (tgt := 54) ok dX3_countKeysBelow_13 (by decide) hf (fun _ hf => ?_) (fun _ hf => ?_)
  · obtain rfl := Option.some.inj hf
    exact z_sub [3] rfl hk
  · refine z_aload_n ok dX3_countKeysBelow_16 0 rfl ?_
    refine z_iload ok dX3_countKeysBelow_17 4 rfl ?_
    refine z_iconst (v := 2) ok dX3_countKeysBelow_19 (by decide) ?_
    refine z_idivc ok dX3_countKeysBelow_20 (by decide) ?_
    refine z_iload ok dX3_countKeysBelow_21 4 rfl ?_
    refine z_iconst (v := 2) ok dX3_countKeysBelow_23 (by decide) ?_
    refine z_iremc ok dX3_countKeysBelow_24 (by decide) ?_
    refine z_call hf (fun r25 h25 hf => ?_)
    refine z_cV (As := [.int (x4 / 2), .int (x4 - x4 / 2 * 2)]) (rest := []) (w := w) ok hw_0 zc_3 (c_Orders_keyOf hw h25) rfl ⟨ml_3_36, w_Orders_keyOf⟩ hy_Orders_keyOf ⟨rfl, rfl⟩ ⟨Nat.le_of_ble_eq_true rfl, Nat.le_of_ble_eq_true rfl⟩ ⟨Nat.zero_le _, Nat.zero_le _⟩ rfl (Nat.le_of_ble_eq_true rfl) dX3_countKeysBelow_25 ?_
    refine z_nm hf (fun v28 hf => ?_)
    refine z_istore (lv' := [(5, .int v28), (0, .ref (X.ad w)), (1, .int x1), (2, .int x2), (3, .int x3), (4, .int x4)]) ok dX3_countKeysBelow_28 (by decide) rfl ?_
    refine z_iload ok dX3_countKeysBelow_30 0 rfl ?_
    refine z_call hf (fun r32 h32 hf => ?_)
    refine z_cS (As := [.int v28]) (rest := []) ok (c_Orders_stepOfKey h32) rfl ⟨ml_3_39, w_Orders_stepOfKey⟩ hy_Orders_stepOfKey ⟨rfl, rfl⟩ ⟨Nat.le_of_ble_eq_true rfl, Nat.le_of_ble_eq_true rfl⟩ ⟨Nat.zero_le _, Nat.zero_le _⟩ rfl (Nat.le_of_ble_eq_true rfl) dX3_countKeysBelow_32 ?_
    refine z_iload_n ok dX3_countKeysBelow_35 3 rfl ?_
    refine z_icmp_lt (tgt := 48) ok dX3_countKeysBelow_36 (by decide) hf (fun _ hf => ?_) (fun _ hf => ?_)
    · refine z_iinc (w := 1) (lv' := fun v48 => [(4, .int v48), (5, .int v28), (0, .ref (X.ad w)), (1, .int x1), (2, .int x2), (3, .int x3)]) ok dX3_countKeysBelow_48 5 rfl (by decide) (by decide) (fun _ => rfl) hf (fun v48 hf => ?_)
      refine z_goto (tgt := 5) ok dX3_countKeysBelow_51 (by decide) ?_
      obtain rfl := Option.some.inj hf
      exact z_sub [2, 3, 4, 5, 0] rfl hk
    · refine z_iload ok dX3_countKeysBelow_39 0 rfl ?_
      refine z_iload_n ok dX3_countKeysBelow_41 2 rfl ?_
      refine z_icmp_ge (tgt := 48) ok dX3_countKeysBelow_42 (by decide) hf (fun _ hf => ?_) (fun _ hf => ?_)
      · refine z_iinc (w := 1) (lv' := fun v48 => [(4, .int v48), (5, .int v28), (0, .ref (X.ad w)), (1, .int x1), (2, .int x2), (3, .int x3)]) ok dX3_countKeysBelow_48 5 rfl (by decide) (by decide) (fun _ => rfl) hf (fun v48 hf => ?_)
        refine z_goto (tgt := 5) ok dX3_countKeysBelow_51 (by decide) ?_
        obtain rfl := Option.some.inj hf
        exact z_sub [2, 3, 4, 5, 0] rfl hk
      · refine z_iinc (w := 1) (lv' := fun v45 => [(3, .int v45), (5, .int v28), (0, .ref (X.ad w)), (1, .int x1), (2, .int x2), (4, .int x4)]) ok dX3_countKeysBelow_45 4 rfl (by decide) (by decide) (fun _ => rfl) hf (fun v45 hf => ?_)
        refine z_iinc (w := 1) (lv' := fun v48 => [(4, .int v48), (3, .int v45), (5, .int v28), (0, .ref (X.ad w)), (1, .int x1), (2, .int x2)]) ok dX3_countKeysBelow_48 5 rfl (by decide) (by decide) (fun _ => rfl) hf (fun v48 hf => ?_)
        refine z_goto (tgt := 5) ok dX3_countKeysBelow_51 (by decide) ?_
        obtain rfl := Option.some.inj hf
        exact z_sub [3, 4, 5, 1, 0] rfl hk
def Orders_countKeysBelow (σ : Sg) (w : Nat) (x1 : Int32) (x2 : Int32) : Option Int32 :=
  zlt 0 fun v1 =>
  zlt 0 fun v3 =>
  (zit (fun (s : (Int32 × Int32)) => Orders_countKeysBelow_l5 σ w x1 x2 s.1 s.2) zFU (v1, v3)).bind fun r =>
  some r.1
set_option maxRecDepth 20000 in
theorem t_Orders_countKeysBelow {X : Zx} {Q : State → Prop} {σ : Sg} {w : Nat} {x1 : Int32} {x2 : Int32} (ok : Zok X cX3_countKeysBelow RX3 rm_Orders_countKeysBelow 198 6) (hw : zI_Orders w 198) {out : Int32} (hf : Orders_countKeysBelow σ w x1 x2 = some out) (hk : ZrI cX3_countKeysBelow X Q out σ) : ZAt X Q 0 0 0 σ [(0, .ref (X.ad w)), (1, .int x1), (2, .int x2)] [] := by
  unfold Orders_countKeysBelow at hf
  obtain ⟨hw_0, hw_1, hw_2, hw_3⟩ := id hw
  refine z_iconst (v := 0) ok dX3_countKeysBelow_0 (by decide) ?_
  refine z_nm hf (fun v1 hf => ?_)
  refine z_istore_n (lv' := [(3, .int v1), (0, .ref (X.ad w)), (1, .int x1), (2, .int x2)]) ok dX3_countKeysBelow_1 (by decide) rfl ?_
  refine z_iconst (v := 0) ok dX3_countKeysBelow_2 (by decide) ?_
  refine z_nm hf (fun v3 hf => ?_)
  refine z_istore (lv' := [(4, .int v3), (3, .int v1), (0, .ref (X.ad w)), (1, .int x1), (2, .int x2)]) ok dX3_countKeysBelow_3 (by decide) rfl ?_
  refine z_call hf (fun r hr hf => ?_)
  refine z_sub [2, 3, 4, 1, 0] rfl (z_iter (fun (s : (Int32 × Int32)) => σ) (fun (s : (Int32 × Int32)) => [(0, .ref (X.ad w)), (1, .int x1), (2, .int x2), (3, .int s.1), (4, .int s.2)]) (fun s o h1 h2 => t_Orders_countKeysBelow_l5 ok hw h1 h2) _ _ _ hr ?_)
  show ZAt X Q 0 0 54 σ [(3, .int r.1)] []
  refine z_iload_n ok dX3_countKeysBelow_54 0 rfl ?_
  obtain rfl := Option.some.inj hf
  exact hk _ _ dX3_countKeysBelow_55
theorem c_Orders_countKeysBelow {σ : Sg} {w : Nat} {x1 : Int32} {x2 : Int32} (hw : zI_Orders w 198) {r : Int32} (h : Orders_countKeysBelow σ w x1 x2 = some r) : ZcI yX3_countKeysBelow cX3_countKeysBelow 6 .int rm_Orders_countKeysBelow 198 (fun ad => [.ref (ad w), .int x1, .int x2]) σ r σ :=
  zmetI pn_3 rfl (fun _ => rfl) (fun _ => Nat.le_of_ble_eq_true rfl) rfl (fun X Q ok hk => t_Orders_countKeysBelow ok hw h hk)
theorem dX3_countEvents_0 : decode cX3_countEvents 0 = .ok (.aload_n 0, 1) := by decide +kernel
theorem dX3_countEvents_1 : decode cX3_countEvents 1 = .ok (.ldc 31, 2) := by decide +kernel
theorem dX3_countEvents_3 : decode cX3_countEvents 3 = .ok (.iload_n 1, 1) := by decide +kernel
theorem dX3_countEvents_4 : decode cX3_countEvents 4 = .ok (.invokevirtual 32, 3) := by decide +kernel
theorem dX3_countEvents_7 : decode cX3_countEvents 7 = .ok (.ireturn, 1) := by decide +kernel
abbrev rm_Orders_countEvents : Room := { frames := 2, cells := 0, slots := 0, locals := 48 }
def Orders_countEvents (σ : Sg) (w : Nat) (x1 : Int32) : Option Int32 :=
  (Orders_countKeysBelow σ w 1000000000 x1).bind fun r4 =>
  some r4
set_option maxRecDepth 20000 in
theorem t_Orders_countEvents {X : Zx} {Q : State → Prop} {σ : Sg} {w : Nat} {x1 : Int32} (ok : Zok X cX3_countEvents RX3 rm_Orders_countEvents 198 2) (hw : zI_Orders w 198) {out : Int32} (hf : Orders_countEvents σ w x1 = some out) (hk : ZrI cX3_countEvents X Q out σ) : ZAt X Q 0 0 0 σ [(0, .ref (X.ad w)), (1, .int x1)] [] := by
  unfold Orders_countEvents at hf
  obtain ⟨hw_0, hw_1, hw_2, hw_3⟩ := id hw
  refine z_aload_n ok dX3_countEvents_0 0 rfl ?_
  refine z_ldc (v := 1000000000) ok dX3_countEvents_1 wc_3_31 ?_
  refine z_iload_n ok dX3_countEvents_3 1 rfl ?_
  refine z_call hf (fun r4 h4 hf => ?_)
  refine z_cV (As := [.int 1000000000, .int x1]) (rest := []) (w := w) ok hw_0 zc_3 (c_Orders_countKeysBelow hw h4) rfl ⟨ml_3_32, w_Orders_countKeysBelow⟩ hy_Orders_countKeysBelow ⟨rfl, rfl⟩ ⟨Nat.le_of_ble_eq_true rfl, Nat.le_of_ble_eq_true rfl⟩ ⟨Nat.zero_le _, Nat.zero_le _⟩ rfl (Nat.le_of_ble_eq_true rfl) dX3_countEvents_4 ?_
  obtain rfl := Option.some.inj hf
  exact hk _ _ dX3_countEvents_7
theorem c_Orders_countEvents {σ : Sg} {w : Nat} {x1 : Int32} (hw : zI_Orders w 198) {r : Int32} (h : Orders_countEvents σ w x1 = some r) : ZcI yX3_countEvents cX3_countEvents 2 .int rm_Orders_countEvents 198 (fun ad => [.ref (ad w), .int x1]) σ r σ :=
  zmetI pn_3 rfl (fun _ => rfl) (fun _ => Nat.le_of_ble_eq_true rfl) rfl (fun X Q ok hk => t_Orders_countEvents ok hw h hk)
theorem dX3_eventKey_0 : decode cX3_eventKey 0 = .ok (.iconst 0, 1) := by decide +kernel
theorem dX3_eventKey_1 : decode cX3_eventKey 1 = .ok (.istore_n 3, 1) := by decide +kernel
theorem dX3_eventKey_2 : decode cX3_eventKey 2 = .ok (.iload_n 3, 1) := by decide +kernel
theorem dX3_eventKey_3 : decode cX3_eventKey 3 = .ok (.iconst 2, 1) := by decide +kernel
theorem dX3_eventKey_4 : decode cX3_eventKey 4 = .ok (.aload_n 0, 1) := by decide +kernel
theorem dX3_eventKey_5 : decode cX3_eventKey 5 = .ok (.getfield 21, 3) := by decide +kernel
theorem dX3_eventKey_8 : decode cX3_eventKey 8 = .ok (.imul, 1) := by decide +kernel
theorem dX3_eventKey_9 : decode cX3_eventKey 9 = .ok (.if_icmp .ge 44, 3) := by decide +kernel
theorem dX3_eventKey_12 : decode cX3_eventKey 12 = .ok (.aload_n 0, 1) := by decide +kernel
theorem dX3_eventKey_13 : decode cX3_eventKey 13 = .ok (.iload_n 3, 1) := by decide +kernel
theorem dX3_eventKey_14 : decode cX3_eventKey 14 = .ok (.iconst 2, 1) := by decide +kernel
theorem dX3_eventKey_15 : decode cX3_eventKey 15 = .ok (.idiv, 1) := by decide +kernel
theorem dX3_eventKey_16 : decode cX3_eventKey 16 = .ok (.iload_n 3, 1) := by decide +kernel
theorem dX3_eventKey_17 : decode cX3_eventKey 17 = .ok (.iconst 2, 1) := by decide +kernel
theorem dX3_eventKey_18 : decode cX3_eventKey 18 = .ok (.irem, 1) := by decide +kernel
theorem dX3_eventKey_19 : decode cX3_eventKey 19 = .ok (.invokevirtual 36, 3) := by decide +kernel
theorem dX3_eventKey_22 : decode cX3_eventKey 22 = .ok (.istore 4, 2) := by decide +kernel
theorem dX3_eventKey_24 : decode cX3_eventKey 24 = .ok (.iload 4, 2) := by decide +kernel
theorem dX3_eventKey_26 : decode cX3_eventKey 26 = .ok (.invokestatic 39, 3) := by decide +kernel
theorem dX3_eventKey_29 : decode cX3_eventKey 29 = .ok (.iload_n 2, 1) := by decide +kernel
theorem dX3_eventKey_30 : decode cX3_eventKey 30 = .ok (.if_icmp .lt 17, 3) := by decide +kernel
theorem dX3_eventKey_33 : decode cX3_eventKey 33 = .ok (.aload_n 0, 1) := by decide +kernel
theorem dX3_eventKey_34 : decode cX3_eventKey 34 = .ok (.iload 4, 2) := by decide +kernel
theorem dX3_eventKey_36 : decode cX3_eventKey 36 = .ok (.iload_n 2, 1) := by decide +kernel
theorem dX3_eventKey_37 : decode cX3_eventKey 37 = .ok (.invokevirtual 32, 3) := by decide +kernel
theorem dX3_eventKey_40 : decode cX3_eventKey 40 = .ok (.iload_n 1, 1) := by decide +kernel
theorem dX3_eventKey_41 : decode cX3_eventKey 41 = .ok (.if_icmp .ne 6, 3) := by decide +kernel
theorem dX3_eventKey_44 : decode cX3_eventKey 44 = .ok (.iload 4, 2) := by decide +kernel
theorem dX3_eventKey_46 : decode cX3_eventKey 46 = .ok (.ireturn, 1) := by decide +kernel
theorem dX3_eventKey_47 : decode cX3_eventKey 47 = .ok (.iinc 3 1, 3) := by decide +kernel
theorem dX3_eventKey_50 : decode cX3_eventKey 50 = .ok (.goto (-48), 3) := by decide +kernel
theorem dX3_eventKey_53 : decode cX3_eventKey 53 = .ok (.iconst (-1), 1) := by decide +kernel
theorem dX3_eventKey_54 : decode cX3_eventKey 54 = .ok (.ireturn, 1) := by decide +kernel
abbrev rm_Orders_eventKey : Room := { frames := 2, cells := 0, slots := 0, locals := 48 }
def Orders_eventKey_l2 (σ : Sg) (w : Nat) (x1 : Int32) (x2 : Int32) (x3 : Int32) : Option (Int32 ⊕ (Int32 ⊕ Int32)) :=
  zgt σ w 0 fun v5 =>
  if (2 * v5) ≤ x3 then (
    some (.inr (.inr x3))
  ) else (
    (Orders_keyOf σ w (x3 / 2) (x3 - x3 / 2 * 2)).bind fun r19 =>
    zlt r19 fun v22 =>
    (Orders_stepOfKey v22).bind fun r26 =>
    if r26 < x2 then (
      zlt (x3 + 1) fun v47 =>
      some (.inl v47)
    ) else (
      (Orders_countKeysBelow σ w v22 x2).bind fun r37 =>
      if r37 = x1 then (
        some (.inr (.inl v22))
      ) else (
        zlt (x3 + 1) fun v47 =>
        some (.inl v47)
      )
    )
  )
set_option maxRecDepth 20000 in
theorem t_Orders_eventKey_l2 {X : Zx} {Q : State → Prop} {σ : Sg} {w : Nat} {x1 : Int32} {x2 : Int32} {x3 : Int32} (ok : Zok X cX3_eventKey RX3 rm_Orders_eventKey 198 5) (hw : zI_Orders w 198) {out : (Int32 ⊕ (Int32 ⊕ Int32))} (hf : Orders_eventKey_l2 σ w x1 x2 x3 = some out) (hk : zout (fun (s : Int32) => ZAt X Q 0 0 2 σ [(0, .ref (X.ad w)), (1, .int x1), (2, .int x2), (3, .int s)] []) (zout (fun (r : Int32) => ZrI cX3_eventKey X Q r σ) (fun (s : Int32) => ZAt X Q 0 0 53 σ [] [])) out) : ZAt X Q 0 0 2 σ [(0, .ref (X.ad w)), (1, .int x1), (2, .int x2), (3, .int x3)] [] := by
  unfold Orders_eventKey_l2 at hf
  obtain ⟨hw_0, hw_1, hw_2, hw_3⟩ := id hw
  refine z_iload_n ok dX3_eventKey_2 3 rfl ?_
  refine z_iconst (v := 2) ok dX3_eventKey_3 (by decide) ?_
  refine z_aload_n ok dX3_eventKey_4 0 rfl ?_
  refine z_geti ok hw_0 zc_3 hin_3 0 (by decide) fl_3_21 rfl dX3_eventKey_5 hf (fun v5 hf => ?_)
  refine z_imul ok dX3_eventKey_8 ?_
  refine z_icmp_ge (tgt := 53) ok dX3_eventKey_9 (by decide) hf (fun _ hf => ?_) (fun _ hf => ?_)
  · obtain rfl := Option.some.inj hf
    exact z_sub [] rfl hk
  · refine z_aload_n ok dX3_eventKey_12 0 rfl ?_
    refine z_iload_n ok dX3_eventKey_13 3 rfl ?_
    refine z_iconst (v := 2) ok dX3_eventKey_14 (by decide) ?_
    refine z_idivc ok dX3_eventKey_15 (by decide) ?_
    refine z_iload_n ok dX3_eventKey_16 3 rfl ?_
    refine z_iconst (v := 2) ok dX3_eventKey_17 (by decide) ?_
    refine z_iremc ok dX3_eventKey_18 (by decide) ?_
    refine z_call hf (fun r19 h19 hf => ?_)
    refine z_cV (As := [.int (x3 / 2), .int (x3 - x3 / 2 * 2)]) (rest := []) (w := w) ok hw_0 zc_3 (c_Orders_keyOf hw h19) rfl ⟨ml_3_36, w_Orders_keyOf⟩ hy_Orders_keyOf ⟨rfl, rfl⟩ ⟨Nat.le_of_ble_eq_true rfl, Nat.le_of_ble_eq_true rfl⟩ ⟨Nat.zero_le _, Nat.zero_le _⟩ rfl (Nat.le_of_ble_eq_true rfl) dX3_eventKey_19 ?_
    refine z_nm hf (fun v22 hf => ?_)
    refine z_istore (lv' := [(4, .int v22), (0, .ref (X.ad w)), (1, .int x1), (2, .int x2), (3, .int x3)]) ok dX3_eventKey_22 (by decide) rfl ?_
    refine z_iload ok dX3_eventKey_24 0 rfl ?_
    refine z_call hf (fun r26 h26 hf => ?_)
    refine z_cS (As := [.int v22]) (rest := []) ok (c_Orders_stepOfKey h26) rfl ⟨ml_3_39, w_Orders_stepOfKey⟩ hy_Orders_stepOfKey ⟨rfl, rfl⟩ ⟨Nat.le_of_ble_eq_true rfl, Nat.le_of_ble_eq_true rfl⟩ ⟨Nat.zero_le _, Nat.zero_le _⟩ rfl (Nat.le_of_ble_eq_true rfl) dX3_eventKey_26 ?_
    refine z_iload_n ok dX3_eventKey_29 3 rfl ?_
    refine z_icmp_lt (tgt := 47) ok dX3_eventKey_30 (by decide) hf (fun _ hf => ?_) (fun _ hf => ?_)
    · refine z_iinc (w := 1) (lv' := fun v47 => [(3, .int v47), (4, .int v22), (0, .ref (X.ad w)), (1, .int x1), (2, .int x2)]) ok dX3_eventKey_47 4 rfl (by decide) (by decide) (fun _ => rfl) hf (fun v47 hf => ?_)
      refine z_goto (tgt := 2) ok dX3_eventKey_50 (by decide) ?_
      obtain rfl := Option.some.inj hf
      exact z_sub [2, 3, 4, 0] rfl hk
    · refine z_aload_n ok dX3_eventKey_33 1 rfl ?_
      refine z_iload ok dX3_eventKey_34 0 rfl ?_
      refine z_iload_n ok dX3_eventKey_36 3 rfl ?_
      refine z_call hf (fun r37 h37 hf => ?_)
      refine z_cV (As := [.int v22, .int x2]) (rest := []) (w := w) ok hw_0 zc_3 (c_Orders_countKeysBelow hw h37) rfl ⟨ml_3_32, w_Orders_countKeysBelow⟩ hy_Orders_countKeysBelow ⟨rfl, rfl⟩ ⟨Nat.le_of_ble_eq_true rfl, Nat.le_of_ble_eq_true rfl⟩ ⟨Nat.zero_le _, Nat.zero_le _⟩ rfl (Nat.le_of_ble_eq_true rfl) dX3_eventKey_37 ?_
      refine z_iload_n ok dX3_eventKey_40 2 rfl ?_
      refine z_icmp_ne (tgt := 47) ok dX3_eventKey_41 (by decide) hf (fun _ hf => ?_) (fun _ hf => ?_)
      · refine z_iload ok dX3_eventKey_44 0 rfl ?_
        obtain rfl := Option.some.inj hf
        exact hk _ _ dX3_eventKey_46
      · refine z_iinc (w := 1) (lv' := fun v47 => [(3, .int v47), (4, .int v22), (0, .ref (X.ad w)), (1, .int x1), (2, .int x2)]) ok dX3_eventKey_47 4 rfl (by decide) (by decide) (fun _ => rfl) hf (fun v47 hf => ?_)
        refine z_goto (tgt := 2) ok dX3_eventKey_50 (by decide) ?_
        obtain rfl := Option.some.inj hf
        exact z_sub [2, 3, 4, 0] rfl hk
def Orders_eventKey (σ : Sg) (w : Nat) (x1 : Int32) (x2 : Int32) : Option Int32 :=
  zlt 0 fun v1 =>
  (zit (fun (s : Int32) => Orders_eventKey_l2 σ w x1 x2 s) zFU v1).bind fun r => r.elim (fun r =>
  some r
  ) (fun r =>
  some (-1)
  )
set_option maxRecDepth 20000 in
theorem t_Orders_eventKey {X : Zx} {Q : State → Prop} {σ : Sg} {w : Nat} {x1 : Int32} {x2 : Int32} (ok : Zok X cX3_eventKey RX3 rm_Orders_eventKey 198 5) (hw : zI_Orders w 198) {out : Int32} (hf : Orders_eventKey σ w x1 x2 = some out) (hk : ZrI cX3_eventKey X Q out σ) : ZAt X Q 0 0 0 σ [(0, .ref (X.ad w)), (1, .int x1), (2, .int x2)] [] := by
  unfold Orders_eventKey at hf
  obtain ⟨hw_0, hw_1, hw_2, hw_3⟩ := id hw
  refine z_iconst (v := 0) ok dX3_eventKey_0 (by decide) ?_
  refine z_nm hf (fun v1 hf => ?_)
  refine z_istore_n (lv' := [(3, .int v1), (0, .ref (X.ad w)), (1, .int x1), (2, .int x2)]) ok dX3_eventKey_1 (by decide) rfl ?_
  refine z_call hf (fun r hr hf => ?_)
  refine z_sub [1, 2, 3, 0] rfl (z_iter (fun (s : Int32) => σ) (fun (s : Int32) => [(0, .ref (X.ad w)), (1, .int x1), (2, .int x2), (3, .int s)]) (fun s o h1 h2 => t_Orders_eventKey_l2 ok hw h1 h2) _ _ _ hr ?_)
  cases r with
  | inl r =>
    obtain rfl := Option.some.inj hf
    exact hk
  | inr r =>
    simp only [Sum.elim_inr] at hf
    show ZAt X Q 0 0 53 σ [] []
    refine z_iconst (v := (-1)) ok dX3_eventKey_53 (by decide) ?_
    obtain rfl := Option.some.inj hf
    exact hk _ _ dX3_eventKey_54
theorem c_Orders_eventKey {σ : Sg} {w : Nat} {x1 : Int32} {x2 : Int32} (hw : zI_Orders w 198) {r : Int32} (h : Orders_eventKey σ w x1 x2 = some r) : ZcI yX3_eventKey cX3_eventKey 5 .int rm_Orders_eventKey 198 (fun ad => [.ref (ad w), .int x1, .int x2]) σ r σ :=
  zmetI pn_3 rfl (fun _ => rfl) (fun _ => Nat.le_of_ble_eq_true rfl) rfl (fun X Q ok hk => t_Orders_eventKey ok hw h hk)
theorem dX3_outletOfKey_0 : decode cX3_outletOfKey 0 = .ok (.iload_n 0, 1) := by decide +kernel
theorem dX3_outletOfKey_1 : decode cX3_outletOfKey 1 = .ok (.bipush 32, 2) := by decide +kernel
theorem dX3_outletOfKey_3 : decode cX3_outletOfKey 3 = .ok (.idiv, 1) := by decide +kernel
theorem dX3_outletOfKey_4 : decode cX3_outletOfKey 4 = .ok (.bipush 16, 2) := by decide +kernel
theorem dX3_outletOfKey_6 : decode cX3_outletOfKey 6 = .ok (.irem, 1) := by decide +kernel
theorem dX3_outletOfKey_7 : decode cX3_outletOfKey 7 = .ok (.ireturn, 1) := by decide +kernel
abbrev rm_Orders_outletOfKey : Room := { frames := 0, cells := 0, slots := 0, locals := 0 }
def Orders_outletOfKey (x0 : Int32) : Option Int32 :=
  some ((x0 / 32) - (x0 / 32) / 16 * 16)
set_option maxRecDepth 20000 in
theorem t_Orders_outletOfKey {X : Zx} {Q : State → Prop} {σ : Sg} {x0 : Int32} (ok : Zok X cX3_outletOfKey RX3 rm_Orders_outletOfKey 198 1)  {out : Int32} (hf : Orders_outletOfKey x0 = some out) (hk : ZrI cX3_outletOfKey X Q out σ) : ZAt X Q 0 0 0 σ [(0, .int x0)] [] := by
  unfold Orders_outletOfKey at hf
  refine z_iload_n ok dX3_outletOfKey_0 0 rfl ?_
  refine z_bipush (v := 32) ok dX3_outletOfKey_1 (by decide) ?_
  refine z_idivc ok dX3_outletOfKey_3 (by decide) ?_
  refine z_bipush (v := 16) ok dX3_outletOfKey_4 (by decide) ?_
  refine z_iremc ok dX3_outletOfKey_6 (by decide) ?_
  obtain rfl := Option.some.inj hf
  exact hk _ _ dX3_outletOfKey_7
theorem c_Orders_outletOfKey {σ : Sg} {x0 : Int32} {r : Int32} (h : Orders_outletOfKey x0 = some r) : ZcI yX3_outletOfKey cX3_outletOfKey 1 .int rm_Orders_outletOfKey 198 (fun ad => [.int x0]) σ r σ :=
  zmetI pn_3 rfl (fun _ => rfl) (fun _ => Nat.le_of_ble_eq_true rfl) rfl (fun X Q ok hk => t_Orders_outletOfKey ok h hk)
theorem dX3_orderOfKey_0 : decode cX3_orderOfKey 0 = .ok (.iload_n 0, 1) := by decide +kernel
theorem dX3_orderOfKey_1 : decode cX3_orderOfKey 1 = .ok (.bipush 16, 2) := by decide +kernel
theorem dX3_orderOfKey_3 : decode cX3_orderOfKey 3 = .ok (.irem, 1) := by decide +kernel
theorem dX3_orderOfKey_4 : decode cX3_orderOfKey 4 = .ok (.ireturn, 1) := by decide +kernel
abbrev rm_Orders_orderOfKey : Room := { frames := 0, cells := 0, slots := 0, locals := 0 }
def Orders_orderOfKey (x0 : Int32) : Option Int32 :=
  some (x0 - x0 / 16 * 16)
set_option maxRecDepth 20000 in
theorem t_Orders_orderOfKey {X : Zx} {Q : State → Prop} {σ : Sg} {x0 : Int32} (ok : Zok X cX3_orderOfKey RX3 rm_Orders_orderOfKey 198 1)  {out : Int32} (hf : Orders_orderOfKey x0 = some out) (hk : ZrI cX3_orderOfKey X Q out σ) : ZAt X Q 0 0 0 σ [(0, .int x0)] [] := by
  unfold Orders_orderOfKey at hf
  refine z_iload_n ok dX3_orderOfKey_0 0 rfl ?_
  refine z_bipush (v := 16) ok dX3_orderOfKey_1 (by decide) ?_
  refine z_iremc ok dX3_orderOfKey_3 (by decide) ?_
  obtain rfl := Option.some.inj hf
  exact hk _ _ dX3_orderOfKey_4
theorem c_Orders_orderOfKey {σ : Sg} {x0 : Int32} {r : Int32} (h : Orders_orderOfKey x0 = some r) : ZcI yX3_orderOfKey cX3_orderOfKey 1 .int rm_Orders_orderOfKey 198 (fun ad => [.int x0]) σ r σ :=
  zmetI pn_3 rfl (fun _ => rfl) (fun _ => Nat.le_of_ble_eq_true rfl) rfl (fun X Q ok hk => t_Orders_orderOfKey ok h hk)
theorem dX3_beginsOfKey_0 : decode cX3_beginsOfKey 0 = .ok (.iload_n 0, 1) := by decide +kernel
theorem dX3_beginsOfKey_1 : decode cX3_beginsOfKey 1 = .ok (.bipush 16, 2) := by decide +kernel
theorem dX3_beginsOfKey_3 : decode cX3_beginsOfKey 3 = .ok (.idiv, 1) := by decide +kernel
theorem dX3_beginsOfKey_4 : decode cX3_beginsOfKey 4 = .ok (.iconst 2, 1) := by decide +kernel
theorem dX3_beginsOfKey_5 : decode cX3_beginsOfKey 5 = .ok (.irem, 1) := by decide +kernel
theorem dX3_beginsOfKey_6 : decode cX3_beginsOfKey 6 = .ok (.ireturn, 1) := by decide +kernel
abbrev rm_Orders_beginsOfKey : Room := { frames := 0, cells := 0, slots := 0, locals := 0 }
def Orders_beginsOfKey (x0 : Int32) : Option Int32 :=
  some ((x0 / 16) - (x0 / 16) / 2 * 2)
set_option maxRecDepth 20000 in
theorem t_Orders_beginsOfKey {X : Zx} {Q : State → Prop} {σ : Sg} {x0 : Int32} (ok : Zok X cX3_beginsOfKey RX3 rm_Orders_beginsOfKey 198 1)  {out : Int32} (hf : Orders_beginsOfKey x0 = some out) (hk : ZrI cX3_beginsOfKey X Q out σ) : ZAt X Q 0 0 0 σ [(0, .int x0)] [] := by
  unfold Orders_beginsOfKey at hf
  refine z_iload_n ok dX3_beginsOfKey_0 0 rfl ?_
  refine z_bipush (v := 16) ok dX3_beginsOfKey_1 (by decide) ?_
  refine z_idivc ok dX3_beginsOfKey_3 (by decide) ?_
  refine z_iconst (v := 2) ok dX3_beginsOfKey_4 (by decide) ?_
  refine z_iremc ok dX3_beginsOfKey_5 (by decide) ?_
  obtain rfl := Option.some.inj hf
  exact hk _ _ dX3_beginsOfKey_6
theorem c_Orders_beginsOfKey {σ : Sg} {x0 : Int32} {r : Int32} (h : Orders_beginsOfKey x0 = some r) : ZcI yX3_beginsOfKey cX3_beginsOfKey 1 .int rm_Orders_beginsOfKey 198 (fun ad => [.int x0]) σ r σ :=
  zmetI pn_3 rfl (fun _ => rfl) (fun _ => Nat.le_of_ble_eq_true rfl) rfl (fun X Q ok hk => t_Orders_beginsOfKey ok h hk)
theorem dX11_event_0 : decode cX11_event 0 = .ok (.aload_n 0, 1) := by decide +kernel
theorem dX11_event_1 : decode cX11_event 1 = .ok (.getfield 37, 3) := by decide +kernel
theorem dX11_event_4 : decode cX11_event 4 = .ok (.getfield 117, 3) := by decide +kernel
theorem dX11_event_7 : decode cX11_event 7 = .ok (.aload_n 0, 1) := by decide +kernel
theorem dX11_event_8 : decode cX11_event 8 = .ok (.getfield 37, 3) := by decide +kernel
theorem dX11_event_11 : decode cX11_event 11 = .ok (.getfield 126, 3) := by decide +kernel
theorem dX11_event_14 : decode cX11_event 14 = .ok (.getfield 130, 3) := by decide +kernel
theorem dX11_event_17 : decode cX11_event 17 = .ok (.invokevirtual 264, 3) := by decide +kernel
theorem dX11_event_20 : decode cX11_event 20 = .ok (.istore_n 3, 1) := by decide +kernel
theorem dX11_event_21 : decode cX11_event 21 = .ok (.iload_n 1, 1) := by decide +kernel
theorem dX11_event_22 : decode cX11_event 22 = .ok (.iconst (-1), 1) := by decide +kernel
theorem dX11_event_23 : decode cX11_event 23 = .ok (.if_icmp .ne 5, 3) := by decide +kernel
theorem dX11_event_26 : decode cX11_event 26 = .ok (.iload_n 3, 1) := by decide +kernel
theorem dX11_event_27 : decode cX11_event 27 = .ok (.ireturn, 1) := by decide +kernel
theorem dX11_event_28 : decode cX11_event 28 = .ok (.iload_n 1, 1) := by decide +kernel
theorem dX11_event_29 : decode cX11_event 29 = .ok (.ifCond .lt 8, 3) := by decide +kernel
theorem dX11_event_32 : decode cX11_event 32 = .ok (.iload_n 1, 1) := by decide +kernel
theorem dX11_event_33 : decode cX11_event 33 = .ok (.iload_n 3, 1) := by decide +kernel
theorem dX11_event_34 : decode cX11_event 34 = .ok (.if_icmp .lt 5, 3) := by decide +kernel
theorem dX11_event_37 : decode cX11_event 37 = .ok (.iconst (-1), 1) := by decide +kernel
theorem dX11_event_38 : decode cX11_event 38 = .ok (.ireturn, 1) := by decide +kernel
theorem dX11_event_39 : decode cX11_event 39 = .ok (.aload_n 0, 1) := by decide +kernel
theorem dX11_event_40 : decode cX11_event 40 = .ok (.getfield 37, 3) := by decide +kernel
theorem dX11_event_43 : decode cX11_event 43 = .ok (.getfield 117, 3) := by decide +kernel
theorem dX11_event_46 : decode cX11_event 46 = .ok (.iload_n 1, 1) := by decide +kernel
theorem dX11_event_47 : decode cX11_event 47 = .ok (.aload_n 0, 1) := by decide +kernel
theorem dX11_event_48 : decode cX11_event 48 = .ok (.getfield 37, 3) := by decide +kernel
theorem dX11_event_51 : decode cX11_event 51 = .ok (.getfield 126, 3) := by decide +kernel
theorem dX11_event_54 : decode cX11_event 54 = .ok (.getfield 130, 3) := by decide +kernel
theorem dX11_event_57 : decode cX11_event 57 = .ok (.invokevirtual 267, 3) := by decide +kernel
theorem dX11_event_60 : decode cX11_event 60 = .ok (.istore 4, 2) := by decide +kernel
theorem dX11_event_62 : decode cX11_event 62 = .ok (.iload_n 2, 1) := by decide +kernel
theorem dX11_event_63 : decode cX11_event 63 = .ok (.tableswitch 61 0 3 #[29, 37, 45, 53], 29) := by decide +kernel
theorem dX11_event_92 : decode cX11_event 92 = .ok (.iload 4, 2) := by decide +kernel
theorem dX11_event_94 : decode cX11_event 94 = .ok (.invokestatic 270, 3) := by decide +kernel
theorem dX11_event_97 : decode cX11_event 97 = .ok (.goto 28, 3) := by decide +kernel
theorem dX11_event_100 : decode cX11_event 100 = .ok (.iload 4, 2) := by decide +kernel
theorem dX11_event_102 : decode cX11_event 102 = .ok (.invokestatic 273, 3) := by decide +kernel
theorem dX11_event_105 : decode cX11_event 105 = .ok (.goto 20, 3) := by decide +kernel
theorem dX11_event_108 : decode cX11_event 108 = .ok (.iload 4, 2) := by decide +kernel
theorem dX11_event_110 : decode cX11_event 110 = .ok (.invokestatic 276, 3) := by decide +kernel
theorem dX11_event_113 : decode cX11_event 113 = .ok (.goto 12, 3) := by decide +kernel
theorem dX11_event_116 : decode cX11_event 116 = .ok (.iload 4, 2) := by decide +kernel
theorem dX11_event_118 : decode cX11_event 118 = .ok (.invokestatic 279, 3) := by decide +kernel
theorem dX11_event_121 : decode cX11_event 121 = .ok (.goto 4, 3) := by decide +kernel
theorem dX11_event_124 : decode cX11_event 124 = .ok (.iconst (-1), 1) := by decide +kernel
theorem dX11_event_125 : decode cX11_event 125 = .ok (.ireturn, 1) := by decide +kernel
abbrev rm_CK_event : Room := { frames := 3, cells := 0, slots := 0, locals := 72 }
def CK_event (σ : Sg) (x1 : Int32) (x2 : Int32) : Option Int32 :=
  zgt σ 56 0 fun v14 =>
  (Orders_countEvents σ 73 v14).bind fun r17 =>
  zlt r17 fun v20 =>
  if x1 = (-1) then (
    some v20
  ) else (
    if x1 < 0 then (
      some (-1)
    ) else (
      if x1 < v20 then (
        zgt σ 56 0 fun v54 =>
        (Orders_eventKey σ 73 x1 v54).bind fun r57 =>
        zlt r57 fun v60 =>
        if x2 = 0 then (
          (Orders_stepOfKey v60).bind fun r94 =>
          some r94
        ) else (
        if x2 = 1 then (
          (Orders_outletOfKey v60).bind fun r102 =>
          some r102
        ) else (
        if x2 = 2 then (
          (Orders_orderOfKey v60).bind fun r110 =>
          some r110
        ) else (
        if x2 = 3 then (
          (Orders_beginsOfKey v60).bind fun r118 =>
          some r118
        ) else (
          some (-1)
        ))))
      ) else (
        some (-1)
      )
    )
  )
set_option maxRecDepth 20000 in
theorem t_CK_event {X : Zx} {Q : State → Prop} {σ : Sg} {x1 : Int32} {x2 : Int32} (ok : Zok X cX11_event RX11 rm_CK_event 198 5)  {out : Int32} (hf : CK_event σ x1 x2 = some out) (hk : ZrI cX11_event X Q out σ) : ZAt X Q 0 0 0 σ [(0, .ref (X.ad 0)), (1, .int x1), (2, .int x2)] [] := by
  unfold CK_event at hf
  refine z_aload_n ok dX11_event_0 0 rfl ?_
  refine z_getr (q := 55) ok kc_0 zc_11 hin_11 8 (by decide) fl_11_37 rfl dX11_event_1 ?_
  refine z_getr (q := 73) ok kc_55 zc_1 hin_1 1 (by decide) fl_11_117 rfl dX11_event_4 ?_
  refine z_aload_n ok dX11_event_7 0 rfl ?_
  refine z_getr (q := 55) ok kc_0 zc_11 hin_11 8 (by decide) fl_11_37 rfl dX11_event_8 ?_
  refine z_getr (q := 56) ok kc_55 zc_1 hin_1 0 (by decide) fl_11_126 rfl dX11_event_11 ?_
  refine z_geti ok kc_56 zc_9 hin_9 0 (by decide) fl_11_130 rfl dX11_event_14 hf (fun v14 hf => ?_)
  refine z_call hf (fun r17 h17 hf => ?_)
  refine z_cV (As := [.int v14]) (rest := []) (w := 73) ok kc_73 zc_3 (c_Orders_countEvents kI_Orders_73 h17) rfl ⟨ml_11_264, w_Orders_countEvents⟩ hy_Orders_countEvents ⟨rfl, rfl⟩ ⟨Nat.le_of_ble_eq_true rfl, Nat.le_of_ble_eq_true rfl⟩ ⟨Nat.zero_le _, Nat.zero_le _⟩ rfl (Nat.le_of_ble_eq_true rfl) dX11_event_17 ?_
  refine z_nm hf (fun v20 hf => ?_)
  refine z_istore_n (lv' := [(3, .int v20), (0, .ref (X.ad 0)), (1, .int x1), (2, .int x2)]) ok dX11_event_20 (by decide) rfl ?_
  refine z_iload_n ok dX11_event_21 2 rfl ?_
  refine z_iconst (v := (-1)) ok dX11_event_22 (by decide) ?_
  refine z_icmp_ne (tgt := 28) ok dX11_event_23 (by decide) hf (fun _ hf => ?_) (fun _ hf => ?_)
  · refine z_iload_n ok dX11_event_26 0 rfl ?_
    obtain rfl := Option.some.inj hf
    exact hk _ _ dX11_event_27
  · refine z_iload_n ok dX11_event_28 2 rfl ?_
    refine z_if_lt (tgt := 37) ok dX11_event_29 (by decide) hf (fun _ hf => ?_) (fun _ hf => ?_)
    · refine z_iconst (v := (-1)) ok dX11_event_37 (by decide) ?_
      obtain rfl := Option.some.inj hf
      exact hk _ _ dX11_event_38
    · refine z_iload_n ok dX11_event_32 2 rfl ?_
      refine z_iload_n ok dX11_event_33 0 rfl ?_
      refine z_icmp_lt (tgt := 39) ok dX11_event_34 (by decide) hf (fun _ hf => ?_) (fun _ hf => ?_)
      · refine z_aload_n ok dX11_event_39 1 rfl ?_
        refine z_getr (q := 55) ok kc_0 zc_11 hin_11 8 (by decide) fl_11_37 rfl dX11_event_40 ?_
        refine z_getr (q := 73) ok kc_55 zc_1 hin_1 1 (by decide) fl_11_117 rfl dX11_event_43 ?_
        refine z_iload_n ok dX11_event_46 2 rfl ?_
        refine z_aload_n ok dX11_event_47 1 rfl ?_
        refine z_getr (q := 55) ok kc_0 zc_11 hin_11 8 (by decide) fl_11_37 rfl dX11_event_48 ?_
        refine z_getr (q := 56) ok kc_55 zc_1 hin_1 0 (by decide) fl_11_126 rfl dX11_event_51 ?_
        refine z_geti ok kc_56 zc_9 hin_9 0 (by decide) fl_11_130 rfl dX11_event_54 hf (fun v54 hf => ?_)
        refine z_call hf (fun r57 h57 hf => ?_)
        refine z_cV (As := [.int x1, .int v54]) (rest := []) (w := 73) ok kc_73 zc_3 (c_Orders_eventKey kI_Orders_73 h57) rfl ⟨ml_11_267, w_Orders_eventKey⟩ hy_Orders_eventKey ⟨rfl, rfl⟩ ⟨Nat.le_of_ble_eq_true rfl, Nat.le_of_ble_eq_true rfl⟩ ⟨Nat.zero_le _, Nat.zero_le _⟩ rfl (Nat.le_of_ble_eq_true rfl) dX11_event_57 ?_
        refine z_nm hf (fun v60 hf => ?_)
        refine z_istore (lv' := [(4, .int v60), (3, .int v20), (0, .ref (X.ad 0)), (1, .int x1), (2, .int x2)]) ok dX11_event_60 (by decide) rfl ?_
        refine z_iload_n ok dX11_event_62 4 rfl ?_
        refine z_swc (v := 0) hf (fun hf => ?_) (fun n63_0 hf => ?_)
        · refine z_tableIn (tgt := 92) ok dX11_event_63 (by decide) (by decide) rfl (by decide) ?_
          refine z_iload ok dX11_event_92 0 rfl ?_
          refine z_call hf (fun r94 h94 hf => ?_)
          refine z_cS (As := [.int v60]) (rest := []) ok (c_Orders_stepOfKey h94) rfl ⟨ml_11_270, w_Orders_stepOfKey⟩ hy_Orders_stepOfKey ⟨rfl, rfl⟩ ⟨Nat.le_of_ble_eq_true rfl, Nat.le_of_ble_eq_true rfl⟩ ⟨Nat.zero_le _, Nat.zero_le _⟩ rfl (Nat.le_of_ble_eq_true rfl) dX11_event_94 ?_
          refine z_goto (tgt := 125) ok dX11_event_97 (by decide) ?_
          obtain rfl := Option.some.inj hf
          exact hk _ _ dX11_event_125
        refine z_swc (v := 1) hf (fun hf => ?_) (fun n63_1 hf => ?_)
        · refine z_tableIn (tgt := 100) ok dX11_event_63 (by decide) (by decide) rfl (by decide) ?_
          refine z_iload ok dX11_event_100 0 rfl ?_
          refine z_call hf (fun r102 h102 hf => ?_)
          refine z_cS (As := [.int v60]) (rest := []) ok (c_Orders_outletOfKey h102) rfl ⟨ml_11_273, w_Orders_outletOfKey⟩ hy_Orders_outletOfKey ⟨rfl, rfl⟩ ⟨Nat.le_of_ble_eq_true rfl, Nat.le_of_ble_eq_true rfl⟩ ⟨Nat.zero_le _, Nat.zero_le _⟩ rfl (Nat.le_of_ble_eq_true rfl) dX11_event_102 ?_
          refine z_goto (tgt := 125) ok dX11_event_105 (by decide) ?_
          obtain rfl := Option.some.inj hf
          exact hk _ _ dX11_event_125
        refine z_swc (v := 2) hf (fun hf => ?_) (fun n63_2 hf => ?_)
        · refine z_tableIn (tgt := 108) ok dX11_event_63 (by decide) (by decide) rfl (by decide) ?_
          refine z_iload ok dX11_event_108 0 rfl ?_
          refine z_call hf (fun r110 h110 hf => ?_)
          refine z_cS (As := [.int v60]) (rest := []) ok (c_Orders_orderOfKey h110) rfl ⟨ml_11_276, w_Orders_orderOfKey⟩ hy_Orders_orderOfKey ⟨rfl, rfl⟩ ⟨Nat.le_of_ble_eq_true rfl, Nat.le_of_ble_eq_true rfl⟩ ⟨Nat.zero_le _, Nat.zero_le _⟩ rfl (Nat.le_of_ble_eq_true rfl) dX11_event_110 ?_
          refine z_goto (tgt := 125) ok dX11_event_113 (by decide) ?_
          obtain rfl := Option.some.inj hf
          exact hk _ _ dX11_event_125
        refine z_swc (v := 3) hf (fun hf => ?_) (fun n63_3 hf => ?_)
        · refine z_tableIn (tgt := 116) ok dX11_event_63 (by decide) (by decide) rfl (by decide) ?_
          refine z_iload ok dX11_event_116 0 rfl ?_
          refine z_call hf (fun r118 h118 hf => ?_)
          refine z_cS (As := [.int v60]) (rest := []) ok (c_Orders_beginsOfKey h118) rfl ⟨ml_11_279, w_Orders_beginsOfKey⟩ hy_Orders_beginsOfKey ⟨rfl, rfl⟩ ⟨Nat.le_of_ble_eq_true rfl, Nat.le_of_ble_eq_true rfl⟩ ⟨Nat.zero_le _, Nat.zero_le _⟩ rfl (Nat.le_of_ble_eq_true rfl) dX11_event_118 ?_
          refine z_goto (tgt := 125) ok dX11_event_121 (by decide) ?_
          obtain rfl := Option.some.inj hf
          exact hk _ _ dX11_event_125
        refine z_tableOut (tgt := 124) ok dX11_event_63 (zsw_out 0 3 [0, 1, 2, 3] (by decide) (List.forall_mem_cons.mpr ⟨n63_0, (List.forall_mem_cons.mpr ⟨n63_1, (List.forall_mem_cons.mpr ⟨n63_2, (List.forall_mem_cons.mpr ⟨n63_3, (fun _ h => absurd h List.not_mem_nil)⟩)⟩)⟩)⟩)) (by decide) ?_
        refine z_iconst (v := (-1)) ok dX11_event_124 (by decide) ?_
        obtain rfl := Option.some.inj hf
        exact hk _ _ dX11_event_125
      · refine z_iconst (v := (-1)) ok dX11_event_37 (by decide) ?_
        obtain rfl := Option.some.inj hf
        exact hk _ _ dX11_event_38
theorem c_CK_event {σ : Sg} {x1 : Int32} {x2 : Int32} {r : Int32} (h : CK_event σ x1 x2 = some r) : ZcI yX11_event cX11_event 5 .int rm_CK_event 198 (fun ad => [.ref (ad 0), .int x1, .int x2]) σ r σ :=
  zmetI pn_11 rfl (fun _ => rfl) (fun _ => Nat.le_of_ble_eq_true rfl) rfl (fun X Q ok hk => t_CK_event ok h hk)
theorem dX11_farFromMiddle_0 : decode cX11_farFromMiddle 0 = .ok (.aload_n 0, 1) := by decide +kernel
theorem dX11_farFromMiddle_1 : decode cX11_farFromMiddle 1 = .ok (.getfield 37, 3) := by decide +kernel
theorem dX11_farFromMiddle_4 : decode cX11_farFromMiddle 4 = .ok (.getfield 126, 3) := by decide +kernel
theorem dX11_farFromMiddle_7 : decode cX11_farFromMiddle 7 = .ok (.getfield 179, 3) := by decide +kernel
theorem dX11_farFromMiddle_10 : decode cX11_farFromMiddle 10 = .ok (.iload_n 1, 1) := by decide +kernel
theorem dX11_farFromMiddle_11 : decode cX11_farFromMiddle 11 = .ok (.iaload, 1) := by decide +kernel
theorem dX11_farFromMiddle_12 : decode cX11_farFromMiddle 12 = .ok (.aload_n 0, 1) := by decide +kernel
theorem dX11_farFromMiddle_13 : decode cX11_farFromMiddle 13 = .ok (.getfield 23, 3) := by decide +kernel
theorem dX11_farFromMiddle_16 : decode cX11_farFromMiddle 16 = .ok (.getfield 192, 3) := by decide +kernel
theorem dX11_farFromMiddle_19 : decode cX11_farFromMiddle 19 = .ok (.iload_n 1, 1) := by decide +kernel
theorem dX11_farFromMiddle_20 : decode cX11_farFromMiddle 20 = .ok (.iaload, 1) := by decide +kernel
theorem dX11_farFromMiddle_21 : decode cX11_farFromMiddle 21 = .ok (.isub, 1) := by decide +kernel
theorem dX11_farFromMiddle_22 : decode cX11_farFromMiddle 22 = .ok (.invokestatic 389, 3) := by decide +kernel
theorem dX11_farFromMiddle_25 : decode cX11_farFromMiddle 25 = .ok (.ireturn, 1) := by decide +kernel
abbrev rm_CK_farFromMiddle : Room := { frames := 1, cells := 0, slots := 0, locals := 21 }
def CK_farFromMiddle (σ : Sg) (x1 : Int32) : Option Int32 :=
  zrd σ 57 8 x1 fun v11 =>
  zmr2 3 29 (σ 0 3) fun q13 =>
  zrd σ (q13 + 12) 8 x1 fun v20 =>
  some (if 0 ≤ (v11 - v20) then (v11 - v20) else 0 - (v11 - v20))
set_option maxRecDepth 20000 in
theorem t_CK_farFromMiddle {X : Zx} {Q : State → Prop} {σ : Sg} {x1 : Int32} (ok : Zok X cX11_farFromMiddle RX11 rm_CK_farFromMiddle 198 2)  {out : Int32} (hf : CK_farFromMiddle σ x1 = some out) (hk : ZrI cX11_farFromMiddle X Q out σ) : ZAt X Q 0 0 0 σ [(0, .ref (X.ad 0)), (1, .int x1)] [] := by
  unfold CK_farFromMiddle at hf
  refine z_aload_n ok dX11_farFromMiddle_0 0 rfl ?_
  refine z_getr (q := 55) ok kc_0 zc_11 hin_11 8 (by decide) fl_11_37 rfl dX11_farFromMiddle_1 ?_
  refine z_getr (q := 56) ok kc_55 zc_1 hin_1 0 (by decide) fl_11_126 rfl dX11_farFromMiddle_4 ?_
  refine z_getr (q := 57) ok kc_56 zc_9 hin_9 3 (by decide) fl_11_179 rfl dX11_farFromMiddle_7 ?_
  refine z_iload_n ok dX11_farFromMiddle_10 1 rfl ?_
  refine z_iald ok kc_57 dX11_farFromMiddle_11 hf (fun v11 hf => ?_)
  refine z_aload_n ok dX11_farFromMiddle_12 0 rfl ?_
  refine z_getm2 (p := 3) (q := 29) ok kc_0 zc_11 hin_11 3 (by decide) fl_11_23 rfl (by decide) (by decide) dX11_farFromMiddle_13 hf (fun q13 e13 hf => ?_)
  have hq13 : zI_Works q13 198 := by rcases e13 with rfl | rfl; exact kI_Works_3; exact kI_Works_29
  obtain ⟨hq13_0, hq13_1, hq13_2, hq13_3, hq13_4, hq13_5, hq13_6, hq13_7, hq13_8, hq13_9, hq13_10, hq13_11, hq13_12, hq13_13, hq13_14, hq13_15, hq13_16, hq13_17, hq13_18, hq13_19, hq13_20, hq13_21, hq13_22, hq13_23, hq13_24, hq13_25⟩ := id hq13
  refine z_getr (q := (q13 + 12)) ok hq13_0 zc_10 hin_10 6 (by decide) fl_11_192 rfl dX11_farFromMiddle_16 ?_
  refine z_iload_n ok dX11_farFromMiddle_19 1 rfl ?_
  refine z_iald ok hq13_12 dX11_farFromMiddle_20 hf (fun v20 hf => ?_)
  refine z_isub ok dX11_farFromMiddle_21 ?_
  refine z_mabs ok ml_11_389 (Nat.le_of_ble_eq_true rfl) (Nat.le_of_ble_eq_true rfl) ⟨Nat.zero_le _, Nat.zero_le _⟩ dX11_farFromMiddle_22 ?_
  obtain rfl := Option.some.inj hf
  exact hk _ _ dX11_farFromMiddle_25
theorem c_CK_farFromMiddle {σ : Sg} {x1 : Int32} {r : Int32} (h : CK_farFromMiddle σ x1 = some r) : ZcI yX11_farFromMiddle cX11_farFromMiddle 2 .int rm_CK_farFromMiddle 198 (fun ad => [.ref (ad 0), .int x1]) σ r σ :=
  zmetI pn_11 rfl (fun _ => rfl) (fun _ => Nat.le_of_ble_eq_true rfl) rfl (fun X Q ok hk => t_CK_farFromMiddle ok h hk)
theorem dX11_countFarther_0 : decode cX11_countFarther 0 = .ok (.aload_n 0, 1) := by decide +kernel
theorem dX11_countFarther_1 : decode cX11_countFarther 1 = .ok (.iload_n 1, 1) := by decide +kernel
theorem dX11_countFarther_2 : decode cX11_countFarther 2 = .ok (.invokevirtual 394, 3) := by decide +kernel
theorem dX11_countFarther_5 : decode cX11_countFarther 5 = .ok (.istore_n 2, 1) := by decide +kernel
theorem dX11_countFarther_6 : decode cX11_countFarther 6 = .ok (.iconst 0, 1) := by decide +kernel
theorem dX11_countFarther_7 : decode cX11_countFarther 7 = .ok (.istore_n 3, 1) := by decide +kernel
theorem dX11_countFarther_8 : decode cX11_countFarther 8 = .ok (.iconst 0, 1) := by decide +kernel
theorem dX11_countFarther_9 : decode cX11_countFarther 9 = .ok (.istore 4, 2) := by decide +kernel
theorem dX11_countFarther_11 : decode cX11_countFarther 11 = .ok (.iload 4, 2) := by decide +kernel
theorem dX11_countFarther_13 : decode cX11_countFarther 13 = .ok (.aload_n 0, 1) := by decide +kernel
theorem dX11_countFarther_14 : decode cX11_countFarther 14 = .ok (.getfield 23, 3) := by decide +kernel
theorem dX11_countFarther_17 : decode cX11_countFarther 17 = .ok (.getfield 111, 3) := by decide +kernel
theorem dX11_countFarther_20 : decode cX11_countFarther 20 = .ok (.if_icmp .ge 38, 3) := by decide +kernel
theorem dX11_countFarther_23 : decode cX11_countFarther 23 = .ok (.aload_n 0, 1) := by decide +kernel
theorem dX11_countFarther_24 : decode cX11_countFarther 24 = .ok (.iload 4, 2) := by decide +kernel
theorem dX11_countFarther_26 : decode cX11_countFarther 26 = .ok (.invokevirtual 394, 3) := by decide +kernel
theorem dX11_countFarther_29 : decode cX11_countFarther 29 = .ok (.istore 5, 2) := by decide +kernel
theorem dX11_countFarther_31 : decode cX11_countFarther 31 = .ok (.iload 5, 2) := by decide +kernel
theorem dX11_countFarther_33 : decode cX11_countFarther 33 = .ok (.iload_n 2, 1) := by decide +kernel
theorem dX11_countFarther_34 : decode cX11_countFarther 34 = .ok (.if_icmp .gt 15, 3) := by decide +kernel
theorem dX11_countFarther_37 : decode cX11_countFarther 37 = .ok (.iload 5, 2) := by decide +kernel
theorem dX11_countFarther_39 : decode cX11_countFarther 39 = .ok (.iload_n 2, 1) := by decide +kernel
theorem dX11_countFarther_40 : decode cX11_countFarther 40 = .ok (.if_icmp .ne 12, 3) := by decide +kernel
theorem dX11_countFarther_43 : decode cX11_countFarther 43 = .ok (.iload 4, 2) := by decide +kernel
theorem dX11_countFarther_45 : decode cX11_countFarther 45 = .ok (.iload_n 1, 1) := by decide +kernel
theorem dX11_countFarther_46 : decode cX11_countFarther 46 = .ok (.if_icmp .ge 6, 3) := by decide +kernel
theorem dX11_countFarther_49 : decode cX11_countFarther 49 = .ok (.iinc 3 1, 3) := by decide +kernel
theorem dX11_countFarther_52 : decode cX11_countFarther 52 = .ok (.iinc 4 1, 3) := by decide +kernel
theorem dX11_countFarther_55 : decode cX11_countFarther 55 = .ok (.goto (-44), 3) := by decide +kernel
theorem dX11_countFarther_58 : decode cX11_countFarther 58 = .ok (.iload_n 3, 1) := by decide +kernel
theorem dX11_countFarther_59 : decode cX11_countFarther 59 = .ok (.ireturn, 1) := by decide +kernel
abbrev rm_CK_countFarther : Room := { frames := 2, cells := 0, slots := 0, locals := 42 }
def CK_countFarther_l11 (σ : Sg) (x1 : Int32) (x2 : Int32) (x3 : Int32) (x4 : Int32) : Option ((Int32 × Int32) ⊕ (Int32 × Int32)) :=
  zmr2 3 29 (σ 0 3) fun q14 =>
  zgt σ q14 3 fun v17 =>
  if v17 ≤ x4 then (
    some (.inr (x3, x4))
  ) else (
    (CK_farFromMiddle σ x4).bind fun r26 =>
    zlt r26 fun v29 =>
    if x2 < v29 then (
      zlt (x3 + 1) fun v49 =>
      zlt (x4 + 1) fun v52 =>
      some (.inl (v49, v52))
    ) else (
      if v29 = x2 then (
        if x1 ≤ x4 then (
          zlt (x4 + 1) fun v52 =>
          some (.inl (x3, v52))
        ) else (
          zlt (x3 + 1) fun v49 =>
          zlt (x4 + 1) fun v52 =>
          some (.inl (v49, v52))
        )
      ) else (
        zlt (x4 + 1) fun v52 =>
        some (.inl (x3, v52))
      )
    )
  )
set_option maxRecDepth 20000 in
theorem t_CK_countFarther_l11 {X : Zx} {Q : State → Prop} {σ : Sg} {x1 : Int32} {x2 : Int32} {x3 : Int32} {x4 : Int32} (ok : Zok X cX11_countFarther RX11 rm_CK_countFarther 198 6)  {out : ((Int32 × Int32) ⊕ (Int32 × Int32))} (hf : CK_countFarther_l11 σ x1 x2 x3 x4 = some out) (hk : zout (fun (s : (Int32 × Int32)) => ZAt X Q 0 0 11 σ [(0, .ref (X.ad 0)), (1, .int x1), (2, .int x2), (3, .int s.1), (4, .int s.2)] []) (fun (s : (Int32 × Int32)) => ZAt X Q 0 0 58 σ [(3, .int s.1)] []) out) : ZAt X Q 0 0 11 σ [(0, .ref (X.ad 0)), (1, .int x1), (2, .int x2), (3, .int x3), (4, .int x4)] [] := by
  unfold CK_countFarther_l11 at hf
  refine z_iload ok dX11_countFarther_11 4 rfl ?_
  refine z_aload_n ok dX11_countFarther_13 0 rfl ?_
  refine z_getm2 (p := 3) (q := 29) ok kc_0 zc_11 hin_11 3 (by decide) fl_11_23 rfl (by decide) (by decide) dX11_countFarther_14 hf (fun q14 e14 hf => ?_)
  have hq14 : zI_Works q14 198 := by rcases e14 with rfl | rfl; exact kI_Works_3; exact kI_Works_29
  obtain ⟨hq14_0, hq14_1, hq14_2, hq14_3, hq14_4, hq14_5, hq14_6, hq14_7, hq14_8, hq14_9, hq14_10, hq14_11, hq14_12, hq14_13, hq14_14, hq14_15, hq14_16, hq14_17, hq14_18, hq14_19, hq14_20, hq14_21, hq14_22, hq14_23, hq14_24, hq14_25⟩ := id hq14
  refine z_geti ok hq14_0 zc_10 hin_10 3 (by decide) fl_11_111 rfl dX11_countFarther_17 hf (fun v17 hf => ?_)
  refine z_icmp_ge (tgt := 58) ok dX11_countFarther_20 (by decide) hf (fun _ hf => ?_) (fun _ hf => ?_)
  · obtain rfl := Option.some.inj hf
    exact z_sub [3] rfl hk
  · refine z_aload_n ok dX11_countFarther_23 0 rfl ?_
    refine z_iload ok dX11_countFarther_24 4 rfl ?_
    refine z_call hf (fun r26 h26 hf => ?_)
    refine z_cV (As := [.int x4]) (rest := []) (w := 0) ok kc_0 zc_11 (c_CK_farFromMiddle h26) rfl ⟨ml_11_394, w_CK_farFromMiddle⟩ hy_CK_farFromMiddle ⟨rfl, rfl⟩ ⟨Nat.le_of_ble_eq_true rfl, Nat.le_of_ble_eq_true rfl⟩ ⟨Nat.zero_le _, Nat.zero_le _⟩ rfl (Nat.le_of_ble_eq_true rfl) dX11_countFarther_26 ?_
    refine z_nm hf (fun v29 hf => ?_)
    refine z_istore (lv' := [(5, .int v29), (0, .ref (X.ad 0)), (1, .int x1), (2, .int x2), (3, .int x3), (4, .int x4)]) ok dX11_countFarther_29 (by decide) rfl ?_
    refine z_iload ok dX11_countFarther_31 0 rfl ?_
    refine z_iload_n ok dX11_countFarther_33 3 rfl ?_
    refine z_icmp_gt (tgt := 49) ok dX11_countFarther_34 (by decide) hf (fun _ hf => ?_) (fun _ hf => ?_)
    · refine z_iinc (w := 1) (lv' := fun v49 => [(3, .int v49), (5, .int v29), (0, .ref (X.ad 0)), (1, .int x1), (2, .int x2), (4, .int x4)]) ok dX11_countFarther_49 4 rfl (by decide) (by decide) (fun _ => rfl) hf (fun v49 hf => ?_)
      refine z_iinc (w := 1) (lv' := fun v52 => [(4, .int v52), (3, .int v49), (5, .int v29), (0, .ref (X.ad 0)), (1, .int x1), (2, .int x2)]) ok dX11_countFarther_52 5 rfl (by decide) (by decide) (fun _ => rfl) hf (fun v52 hf => ?_)
      refine z_goto (tgt := 11) ok dX11_countFarther_55 (by decide) ?_
      obtain rfl := Option.some.inj hf
      exact z_sub [3, 4, 5, 1, 0] rfl hk
    · refine z_iload ok dX11_countFarther_37 0 rfl ?_
      refine z_iload_n ok dX11_countFarther_39 3 rfl ?_
      refine z_icmp_ne (tgt := 52) ok dX11_countFarther_40 (by decide) hf (fun _ hf => ?_) (fun _ hf => ?_)
      · refine z_iload ok dX11_countFarther_43 5 rfl ?_
        refine z_iload_n ok dX11_countFarther_45 2 rfl ?_
        refine z_icmp_ge (tgt := 52) ok dX11_countFarther_46 (by decide) hf (fun _ hf => ?_) (fun _ hf => ?_)
        · refine z_iinc (w := 1) (lv' := fun v52 => [(4, .int v52), (5, .int v29), (0, .ref (X.ad 0)), (1, .int x1), (2, .int x2), (3, .int x3)]) ok dX11_countFarther_52 5 rfl (by decide) (by decide) (fun _ => rfl) hf (fun v52 hf => ?_)
          refine z_goto (tgt := 11) ok dX11_countFarther_55 (by decide) ?_
          obtain rfl := Option.some.inj hf
          exact z_sub [2, 3, 4, 5, 0] rfl hk
        · refine z_iinc (w := 1) (lv' := fun v49 => [(3, .int v49), (5, .int v29), (0, .ref (X.ad 0)), (1, .int x1), (2, .int x2), (4, .int x4)]) ok dX11_countFarther_49 4 rfl (by decide) (by decide) (fun _ => rfl) hf (fun v49 hf => ?_)
          refine z_iinc (w := 1) (lv' := fun v52 => [(4, .int v52), (3, .int v49), (5, .int v29), (0, .ref (X.ad 0)), (1, .int x1), (2, .int x2)]) ok dX11_countFarther_52 5 rfl (by decide) (by decide) (fun _ => rfl) hf (fun v52 hf => ?_)
          refine z_goto (tgt := 11) ok dX11_countFarther_55 (by decide) ?_
          obtain rfl := Option.some.inj hf
          exact z_sub [3, 4, 5, 1, 0] rfl hk
      · refine z_iinc (w := 1) (lv' := fun v52 => [(4, .int v52), (5, .int v29), (0, .ref (X.ad 0)), (1, .int x1), (2, .int x2), (3, .int x3)]) ok dX11_countFarther_52 5 rfl (by decide) (by decide) (fun _ => rfl) hf (fun v52 hf => ?_)
        refine z_goto (tgt := 11) ok dX11_countFarther_55 (by decide) ?_
        obtain rfl := Option.some.inj hf
        exact z_sub [2, 3, 4, 5, 0] rfl hk
def CK_countFarther (σ : Sg) (x1 : Int32) : Option Int32 :=
  (CK_farFromMiddle σ x1).bind fun r2 =>
  zlt r2 fun v5 =>
  zlt 0 fun v7 =>
  zlt 0 fun v9 =>
  (zit (fun (s : (Int32 × Int32)) => CK_countFarther_l11 σ x1 v5 s.1 s.2) zFU (v7, v9)).bind fun r =>
  some r.1
set_option maxRecDepth 20000 in
theorem t_CK_countFarther {X : Zx} {Q : State → Prop} {σ : Sg} {x1 : Int32} (ok : Zok X cX11_countFarther RX11 rm_CK_countFarther 198 6)  {out : Int32} (hf : CK_countFarther σ x1 = some out) (hk : ZrI cX11_countFarther X Q out σ) : ZAt X Q 0 0 0 σ [(0, .ref (X.ad 0)), (1, .int x1)] [] := by
  unfold CK_countFarther at hf
  refine z_aload_n ok dX11_countFarther_0 0 rfl ?_
  refine z_iload_n ok dX11_countFarther_1 1 rfl ?_
  refine z_call hf (fun r2 h2 hf => ?_)
  refine z_cV (As := [.int x1]) (rest := []) (w := 0) ok kc_0 zc_11 (c_CK_farFromMiddle h2) rfl ⟨ml_11_394, w_CK_farFromMiddle⟩ hy_CK_farFromMiddle ⟨rfl, rfl⟩ ⟨Nat.le_of_ble_eq_true rfl, Nat.le_of_ble_eq_true rfl⟩ ⟨Nat.zero_le _, Nat.zero_le _⟩ rfl (Nat.le_of_ble_eq_true rfl) dX11_countFarther_2 ?_
  refine z_nm hf (fun v5 hf => ?_)
  refine z_istore_n (lv' := [(2, .int v5), (0, .ref (X.ad 0)), (1, .int x1)]) ok dX11_countFarther_5 (by decide) rfl ?_
  refine z_iconst (v := 0) ok dX11_countFarther_6 (by decide) ?_
  refine z_nm hf (fun v7 hf => ?_)
  refine z_istore_n (lv' := [(3, .int v7), (2, .int v5), (0, .ref (X.ad 0)), (1, .int x1)]) ok dX11_countFarther_7 (by decide) rfl ?_
  refine z_iconst (v := 0) ok dX11_countFarther_8 (by decide) ?_
  refine z_nm hf (fun v9 hf => ?_)
  refine z_istore (lv' := [(4, .int v9), (3, .int v7), (2, .int v5), (0, .ref (X.ad 0)), (1, .int x1)]) ok dX11_countFarther_9 (by decide) rfl ?_
  refine z_call hf (fun r hr hf => ?_)
  refine z_sub [3, 4, 2, 1, 0] rfl (z_iter (fun (s : (Int32 × Int32)) => σ) (fun (s : (Int32 × Int32)) => [(0, .ref (X.ad 0)), (1, .int x1), (2, .int v5), (3, .int s.1), (4, .int s.2)]) (fun s o h1 h2 => t_CK_countFarther_l11 ok h1 h2) _ _ _ hr ?_)
  show ZAt X Q 0 0 58 σ [(3, .int r.1)] []
  refine z_iload_n ok dX11_countFarther_58 0 rfl ?_
  obtain rfl := Option.some.inj hf
  exact hk _ _ dX11_countFarther_59
theorem c_CK_countFarther {σ : Sg} {x1 : Int32} {r : Int32} (h : CK_countFarther σ x1 = some r) : ZcI yX11_countFarther cX11_countFarther 6 .int rm_CK_countFarther 198 (fun ad => [.ref (ad 0), .int x1]) σ r σ :=
  zmetI pn_11 rfl (fun _ => rfl) (fun _ => Nat.le_of_ble_eq_true rfl) rfl (fun X Q ok hk => t_CK_countFarther ok h hk)
theorem dX11_rank_0 : decode cX11_rank 0 = .ok (.iconst 0, 1) := by decide +kernel
theorem dX11_rank_1 : decode cX11_rank 1 = .ok (.istore_n 2, 1) := by decide +kernel
theorem dX11_rank_2 : decode cX11_rank 2 = .ok (.iload_n 2, 1) := by decide +kernel
theorem dX11_rank_3 : decode cX11_rank 3 = .ok (.aload_n 0, 1) := by decide +kernel
theorem dX11_rank_4 : decode cX11_rank 4 = .ok (.getfield 23, 3) := by decide +kernel
theorem dX11_rank_7 : decode cX11_rank 7 = .ok (.getfield 111, 3) := by decide +kernel
theorem dX11_rank_10 : decode cX11_rank 10 = .ok (.if_icmp .ge 20, 3) := by decide +kernel
theorem dX11_rank_13 : decode cX11_rank 13 = .ok (.aload_n 0, 1) := by decide +kernel
theorem dX11_rank_14 : decode cX11_rank 14 = .ok (.iload_n 2, 1) := by decide +kernel
theorem dX11_rank_15 : decode cX11_rank 15 = .ok (.invokevirtual 282, 3) := by decide +kernel
theorem dX11_rank_18 : decode cX11_rank 18 = .ok (.iload_n 1, 1) := by decide +kernel
theorem dX11_rank_19 : decode cX11_rank 19 = .ok (.if_icmp .ne 5, 3) := by decide +kernel
theorem dX11_rank_22 : decode cX11_rank 22 = .ok (.iload_n 2, 1) := by decide +kernel
theorem dX11_rank_23 : decode cX11_rank 23 = .ok (.ireturn, 1) := by decide +kernel
theorem dX11_rank_24 : decode cX11_rank 24 = .ok (.iinc 2 1, 3) := by decide +kernel
theorem dX11_rank_27 : decode cX11_rank 27 = .ok (.goto (-25), 3) := by decide +kernel
theorem dX11_rank_30 : decode cX11_rank 30 = .ok (.iconst (-1), 1) := by decide +kernel
theorem dX11_rank_31 : decode cX11_rank 31 = .ok (.ireturn, 1) := by decide +kernel
abbrev rm_CK_rank : Room := { frames := 3, cells := 0, slots := 0, locals := 67 }
def CK_rank_l2 (σ : Sg) (x1 : Int32) (x2 : Int32) : Option (Int32 ⊕ (Int32 ⊕ Int32)) :=
  zmr2 3 29 (σ 0 3) fun q4 =>
  zgt σ q4 3 fun v7 =>
  if v7 ≤ x2 then (
    some (.inr (.inr x2))
  ) else (
    (CK_countFarther σ x2).bind fun r15 =>
    if r15 = x1 then (
      some (.inr (.inl x2))
    ) else (
      zlt (x2 + 1) fun v24 =>
      some (.inl v24)
    )
  )
set_option maxRecDepth 20000 in
theorem t_CK_rank_l2 {X : Zx} {Q : State → Prop} {σ : Sg} {x1 : Int32} {x2 : Int32} (ok : Zok X cX11_rank RX11 rm_CK_rank 198 3)  {out : (Int32 ⊕ (Int32 ⊕ Int32))} (hf : CK_rank_l2 σ x1 x2 = some out) (hk : zout (fun (s : Int32) => ZAt X Q 0 0 2 σ [(0, .ref (X.ad 0)), (1, .int x1), (2, .int s)] []) (zout (fun (r : Int32) => ZrI cX11_rank X Q r σ) (fun (s : Int32) => ZAt X Q 0 0 30 σ [] [])) out) : ZAt X Q 0 0 2 σ [(0, .ref (X.ad 0)), (1, .int x1), (2, .int x2)] [] := by
  unfold CK_rank_l2 at hf
  refine z_iload_n ok dX11_rank_2 2 rfl ?_
  refine z_aload_n ok dX11_rank_3 0 rfl ?_
  refine z_getm2 (p := 3) (q := 29) ok kc_0 zc_11 hin_11 3 (by decide) fl_11_23 rfl (by decide) (by decide) dX11_rank_4 hf (fun q4 e4 hf => ?_)
  have hq4 : zI_Works q4 198 := by rcases e4 with rfl | rfl; exact kI_Works_3; exact kI_Works_29
  obtain ⟨hq4_0, hq4_1, hq4_2, hq4_3, hq4_4, hq4_5, hq4_6, hq4_7, hq4_8, hq4_9, hq4_10, hq4_11, hq4_12, hq4_13, hq4_14, hq4_15, hq4_16, hq4_17, hq4_18, hq4_19, hq4_20, hq4_21, hq4_22, hq4_23, hq4_24, hq4_25⟩ := id hq4
  refine z_geti ok hq4_0 zc_10 hin_10 3 (by decide) fl_11_111 rfl dX11_rank_7 hf (fun v7 hf => ?_)
  refine z_icmp_ge (tgt := 30) ok dX11_rank_10 (by decide) hf (fun _ hf => ?_) (fun _ hf => ?_)
  · obtain rfl := Option.some.inj hf
    exact z_sub [] rfl hk
  · refine z_aload_n ok dX11_rank_13 0 rfl ?_
    refine z_iload_n ok dX11_rank_14 2 rfl ?_
    refine z_call hf (fun r15 h15 hf => ?_)
    refine z_cV (As := [.int x2]) (rest := []) (w := 0) ok kc_0 zc_11 (c_CK_countFarther h15) rfl ⟨ml_11_282, w_CK_countFarther⟩ hy_CK_countFarther ⟨rfl, rfl⟩ ⟨Nat.le_of_ble_eq_true rfl, Nat.le_of_ble_eq_true rfl⟩ ⟨Nat.zero_le _, Nat.zero_le _⟩ rfl (Nat.le_of_ble_eq_true rfl) dX11_rank_15 ?_
    refine z_iload_n ok dX11_rank_18 1 rfl ?_
    refine z_icmp_ne (tgt := 24) ok dX11_rank_19 (by decide) hf (fun _ hf => ?_) (fun _ hf => ?_)
    · refine z_iload_n ok dX11_rank_22 2 rfl ?_
      obtain rfl := Option.some.inj hf
      exact hk _ _ dX11_rank_23
    · refine z_iinc (w := 1) (lv' := fun v24 => [(2, .int v24), (0, .ref (X.ad 0)), (1, .int x1)]) ok dX11_rank_24 2 rfl (by decide) (by decide) (fun _ => rfl) hf (fun v24 hf => ?_)
      refine z_goto (tgt := 2) ok dX11_rank_27 (by decide) ?_
      obtain rfl := Option.some.inj hf
      exact z_sub [1, 2, 0] rfl hk
def CK_rank (σ : Sg) (x1 : Int32) : Option Int32 :=
  zlt 0 fun v1 =>
  (zit (fun (s : Int32) => CK_rank_l2 σ x1 s) zFU v1).bind fun r => r.elim (fun r =>
  some r
  ) (fun r =>
  some (-1)
  )
set_option maxRecDepth 20000 in
theorem t_CK_rank {X : Zx} {Q : State → Prop} {σ : Sg} {x1 : Int32} (ok : Zok X cX11_rank RX11 rm_CK_rank 198 3)  {out : Int32} (hf : CK_rank σ x1 = some out) (hk : ZrI cX11_rank X Q out σ) : ZAt X Q 0 0 0 σ [(0, .ref (X.ad 0)), (1, .int x1)] [] := by
  unfold CK_rank at hf
  refine z_iconst (v := 0) ok dX11_rank_0 (by decide) ?_
  refine z_nm hf (fun v1 hf => ?_)
  refine z_istore_n (lv' := [(2, .int v1), (0, .ref (X.ad 0)), (1, .int x1)]) ok dX11_rank_1 (by decide) rfl ?_
  refine z_call hf (fun r hr hf => ?_)
  refine z_sub [1, 2, 0] rfl (z_iter (fun (s : Int32) => σ) (fun (s : Int32) => [(0, .ref (X.ad 0)), (1, .int x1), (2, .int s)]) (fun s o h1 h2 => t_CK_rank_l2 ok h1 h2) _ _ _ hr ?_)
  cases r with
  | inl r =>
    obtain rfl := Option.some.inj hf
    exact hk
  | inr r =>
    simp only [Sum.elim_inr] at hf
    show ZAt X Q 0 0 30 σ [] []
    refine z_iconst (v := (-1)) ok dX11_rank_30 (by decide) ?_
    obtain rfl := Option.some.inj hf
    exact hk _ _ dX11_rank_31
theorem c_CK_rank {σ : Sg} {x1 : Int32} {r : Int32} (h : CK_rank σ x1 = some r) : ZcI yX11_rank cX11_rank 3 .int rm_CK_rank 198 (fun ad => [.ref (ad 0), .int x1]) σ r σ :=
  zmetI pn_11 rfl (fun _ => rfl) (fun _ => Nat.le_of_ble_eq_true rfl) rfl (fun X Q ok hk => t_CK_rank ok h hk)
theorem dX0_alarmNumber_0 : decode cX0_alarmNumber 0 = .ok (.aload_n 0, 1) := by decide +kernel
theorem dX0_alarmNumber_1 : decode cX0_alarmNumber 1 = .ok (.getfield 9, 3) := by decide +kernel
theorem dX0_alarmNumber_4 : decode cX0_alarmNumber 4 = .ok (.aload_n 0, 1) := by decide +kernel
theorem dX0_alarmNumber_5 : decode cX0_alarmNumber 5 = .ok (.getfield 18, 3) := by decide +kernel
theorem dX0_alarmNumber_8 : decode cX0_alarmNumber 8 = .ok (.aload_n 0, 1) := by decide +kernel
theorem dX0_alarmNumber_9 : decode cX0_alarmNumber 9 = .ok (.invokevirtual 34, 3) := by decide +kernel
theorem dX0_alarmNumber_12 : decode cX0_alarmNumber 12 = .ok (.isub, 1) := by decide +kernel
theorem dX0_alarmNumber_13 : decode cX0_alarmNumber 13 = .ok (.iload_n 1, 1) := by decide +kernel
theorem dX0_alarmNumber_14 : decode cX0_alarmNumber 14 = .ok (.iadd, 1) := by decide +kernel
theorem dX0_alarmNumber_15 : decode cX0_alarmNumber 15 = .ok (.bipush 40, 2) := by decide +kernel
theorem dX0_alarmNumber_17 : decode cX0_alarmNumber 17 = .ok (.irem, 1) := by decide +kernel
theorem dX0_alarmNumber_18 : decode cX0_alarmNumber 18 = .ok (.iconst 3, 1) := by decide +kernel
theorem dX0_alarmNumber_19 : decode cX0_alarmNumber 19 = .ok (.imul, 1) := by decide +kernel
theorem dX0_alarmNumber_20 : decode cX0_alarmNumber 20 = .ok (.iload_n 2, 1) := by decide +kernel
theorem dX0_alarmNumber_21 : decode cX0_alarmNumber 21 = .ok (.iadd, 1) := by decide +kernel
theorem dX0_alarmNumber_22 : decode cX0_alarmNumber 22 = .ok (.iaload, 1) := by decide +kernel
theorem dX0_alarmNumber_23 : decode cX0_alarmNumber 23 = .ok (.ireturn, 1) := by decide +kernel
abbrev rm_Log_alarmNumber : Room := { frames := 2, cells := 0, slots := 0, locals := 41 }
def Log_alarmNumber (σ : Sg) (w : Nat) (x1 : Int32) (x2 : Int32) : Option Int32 :=
  zgt σ w 0 fun v5 =>
  (Log_toldCount σ w).bind fun r9 =>
  zrd σ (w + 1) 120 (((((v5 - r9) + x1) - ((v5 - r9) + x1) / 40 * 40) * 3) + x2) fun v22 =>
  some v22
set_option maxRecDepth 20000 in
theorem t_Log_alarmNumber {X : Zx} {Q : State → Prop} {σ : Sg} {w : Nat} {x1 : Int32} {x2 : Int32} (ok : Zok X cX0_alarmNumber RX0 rm_Log_alarmNumber 198 3) (hw : zI_Log w 198) {out : Int32} (hf : Log_alarmNumber σ w x1 x2 = some out) (hk : ZrI cX0_alarmNumber X Q out σ) : ZAt X Q 0 0 0 σ [(0, .ref (X.ad w)), (1, .int x1), (2, .int x2)] [] := by
  unfold Log_alarmNumber at hf
  obtain ⟨hw_0, hw_1, hw_2⟩ := id hw
  refine z_aload_n ok dX0_alarmNumber_0 0 rfl ?_
  refine z_getr (q := (w + 1)) ok hw_0 zc_0 hin_0 1 (by decide) fl_0_9 rfl dX0_alarmNumber_1 ?_
  refine z_aload_n ok dX0_alarmNumber_4 0 rfl ?_
  refine z_geti ok hw_0 zc_0 hin_0 0 (by decide) fl_0_18 rfl dX0_alarmNumber_5 hf (fun v5 hf => ?_)
  refine z_aload_n ok dX0_alarmNumber_8 0 rfl ?_
  refine z_call hf (fun r9 h9 hf => ?_)
  refine z_cV (As := []) (rest := [.int v5, .ref (X.ad (w + 1))]) (w := w) ok hw_0 zc_0 (c_Log_toldCount hw h9) rfl ⟨ml_0_34, w_Log_toldCount⟩ hy_Log_toldCount ⟨rfl, rfl⟩ ⟨Nat.le_of_ble_eq_true rfl, Nat.le_of_ble_eq_true rfl⟩ ⟨Nat.zero_le _, Nat.zero_le _⟩ rfl (Nat.le_of_ble_eq_true rfl) dX0_alarmNumber_9 ?_
  refine z_isub ok dX0_alarmNumber_12 ?_
  refine z_iload_n ok dX0_alarmNumber_13 1 rfl ?_
  refine z_iadd ok dX0_alarmNumber_14 ?_
  refine z_bipush (v := 40) ok dX0_alarmNumber_15 (by decide) ?_
  refine z_iremc ok dX0_alarmNumber_17 (by decide) ?_
  refine z_iconst (v := 3) ok dX0_alarmNumber_18 (by decide) ?_
  refine z_imul ok dX0_alarmNumber_19 ?_
  refine z_iload_n ok dX0_alarmNumber_20 2 rfl ?_
  refine z_iadd ok dX0_alarmNumber_21 ?_
  refine z_iald ok hw_1 dX0_alarmNumber_22 hf (fun v22 hf => ?_)
  obtain rfl := Option.some.inj hf
  exact hk _ _ dX0_alarmNumber_23
theorem c_Log_alarmNumber {σ : Sg} {w : Nat} {x1 : Int32} {x2 : Int32} (hw : zI_Log w 198) {r : Int32} (h : Log_alarmNumber σ w x1 x2 = some r) : ZcI yX0_alarmNumber cX0_alarmNumber 3 .int rm_Log_alarmNumber 198 (fun ad => [.ref (ad w), .int x1, .int x2]) σ r σ :=
  zmetI pn_0 rfl (fun _ => rfl) (fun _ => Nat.le_of_ble_eq_true rfl) rfl (fun X Q ok hk => t_Log_alarmNumber ok hw h hk)
theorem dX11_alarm_0 : decode cX11_alarm 0 = .ok (.iload_n 1, 1) := by decide +kernel
theorem dX11_alarm_1 : decode cX11_alarm 1 = .ok (.ifCond .lt 26, 3) := by decide +kernel
theorem dX11_alarm_4 : decode cX11_alarm 4 = .ok (.iload_n 1, 1) := by decide +kernel
theorem dX11_alarm_5 : decode cX11_alarm 5 = .ok (.aload_n 0, 1) := by decide +kernel
theorem dX11_alarm_6 : decode cX11_alarm 6 = .ok (.getfield 37, 3) := by decide +kernel
theorem dX11_alarm_9 : decode cX11_alarm 9 = .ok (.getfield 141, 3) := by decide +kernel
theorem dX11_alarm_12 : decode cX11_alarm 12 = .ok (.invokevirtual 145, 3) := by decide +kernel
theorem dX11_alarm_15 : decode cX11_alarm 15 = .ok (.if_icmp .ge 12, 3) := by decide +kernel
theorem dX11_alarm_18 : decode cX11_alarm 18 = .ok (.iload_n 2, 1) := by decide +kernel
theorem dX11_alarm_19 : decode cX11_alarm 19 = .ok (.ifCond .lt 8, 3) := by decide +kernel
theorem dX11_alarm_22 : decode cX11_alarm 22 = .ok (.iload_n 2, 1) := by decide +kernel
theorem dX11_alarm_23 : decode cX11_alarm 23 = .ok (.iconst 3, 1) := by decide +kernel
theorem dX11_alarm_24 : decode cX11_alarm 24 = .ok (.if_icmp .lt 5, 3) := by decide +kernel
theorem dX11_alarm_27 : decode cX11_alarm 27 = .ok (.iconst (-1), 1) := by decide +kernel
theorem dX11_alarm_28 : decode cX11_alarm 28 = .ok (.ireturn, 1) := by decide +kernel
theorem dX11_alarm_29 : decode cX11_alarm 29 = .ok (.aload_n 0, 1) := by decide +kernel
theorem dX11_alarm_30 : decode cX11_alarm 30 = .ok (.getfield 37, 3) := by decide +kernel
theorem dX11_alarm_33 : decode cX11_alarm 33 = .ok (.getfield 141, 3) := by decide +kernel
theorem dX11_alarm_36 : decode cX11_alarm 36 = .ok (.iload_n 1, 1) := by decide +kernel
theorem dX11_alarm_37 : decode cX11_alarm 37 = .ok (.iload_n 2, 1) := by decide +kernel
theorem dX11_alarm_38 : decode cX11_alarm 38 = .ok (.invokevirtual 285, 3) := by decide +kernel
theorem dX11_alarm_41 : decode cX11_alarm 41 = .ok (.ireturn, 1) := by decide +kernel
abbrev rm_CK_alarm : Room := { frames := 3, cells := 0, slots := 0, locals := 63 }
def CK_alarm (σ : Sg) (x1 : Int32) (x2 : Int32) : Option Int32 :=
  if x1 < 0 then (
    some (-1)
  ) else (
    (Log_toldCount σ 77).bind fun r12 =>
    if r12 ≤ x1 then (
      some (-1)
    ) else (
      if x2 < 0 then (
        some (-1)
      ) else (
        if x2 < 3 then (
          (Log_alarmNumber σ 77 x1 x2).bind fun r38 =>
          some r38
        ) else (
          some (-1)
        )
      )
    )
  )
set_option maxRecDepth 20000 in
theorem t_CK_alarm {X : Zx} {Q : State → Prop} {σ : Sg} {x1 : Int32} {x2 : Int32} (ok : Zok X cX11_alarm RX11 rm_CK_alarm 198 3)  {out : Int32} (hf : CK_alarm σ x1 x2 = some out) (hk : ZrI cX11_alarm X Q out σ) : ZAt X Q 0 0 0 σ [(0, .ref (X.ad 0)), (1, .int x1), (2, .int x2)] [] := by
  unfold CK_alarm at hf
  refine z_iload_n ok dX11_alarm_0 1 rfl ?_
  refine z_if_lt (tgt := 27) ok dX11_alarm_1 (by decide) hf (fun _ hf => ?_) (fun _ hf => ?_)
  · refine z_iconst (v := (-1)) ok dX11_alarm_27 (by decide) ?_
    obtain rfl := Option.some.inj hf
    exact hk _ _ dX11_alarm_28
  · refine z_iload_n ok dX11_alarm_4 1 rfl ?_
    refine z_aload_n ok dX11_alarm_5 0 rfl ?_
    refine z_getr (q := 55) ok kc_0 zc_11 hin_11 8 (by decide) fl_11_37 rfl dX11_alarm_6 ?_
    refine z_getr (q := 77) ok kc_55 zc_1 hin_1 2 (by decide) fl_11_141 rfl dX11_alarm_9 ?_
    refine z_call hf (fun r12 h12 hf => ?_)
    refine z_cV (As := []) (rest := [.int x1]) (w := 77) ok kc_77 zc_0 (c_Log_toldCount kI_Log_77 h12) rfl ⟨ml_11_145, w_Log_toldCount⟩ hy_Log_toldCount ⟨rfl, rfl⟩ ⟨Nat.le_of_ble_eq_true rfl, Nat.le_of_ble_eq_true rfl⟩ ⟨Nat.zero_le _, Nat.zero_le _⟩ rfl (Nat.le_of_ble_eq_true rfl) dX11_alarm_12 ?_
    refine z_icmp_ge (tgt := 27) ok dX11_alarm_15 (by decide) hf (fun _ hf => ?_) (fun _ hf => ?_)
    · refine z_iconst (v := (-1)) ok dX11_alarm_27 (by decide) ?_
      obtain rfl := Option.some.inj hf
      exact hk _ _ dX11_alarm_28
    · refine z_iload_n ok dX11_alarm_18 2 rfl ?_
      refine z_if_lt (tgt := 27) ok dX11_alarm_19 (by decide) hf (fun _ hf => ?_) (fun _ hf => ?_)
      · refine z_iconst (v := (-1)) ok dX11_alarm_27 (by decide) ?_
        obtain rfl := Option.some.inj hf
        exact hk _ _ dX11_alarm_28
      · refine z_iload_n ok dX11_alarm_22 2 rfl ?_
        refine z_iconst (v := 3) ok dX11_alarm_23 (by decide) ?_
        refine z_icmp_lt (tgt := 29) ok dX11_alarm_24 (by decide) hf (fun _ hf => ?_) (fun _ hf => ?_)
        · refine z_aload_n ok dX11_alarm_29 0 rfl ?_
          refine z_getr (q := 55) ok kc_0 zc_11 hin_11 8 (by decide) fl_11_37 rfl dX11_alarm_30 ?_
          refine z_getr (q := 77) ok kc_55 zc_1 hin_1 2 (by decide) fl_11_141 rfl dX11_alarm_33 ?_
          refine z_iload_n ok dX11_alarm_36 1 rfl ?_
          refine z_iload_n ok dX11_alarm_37 2 rfl ?_
          refine z_call hf (fun r38 h38 hf => ?_)
          refine z_cV (As := [.int x1, .int x2]) (rest := []) (w := 77) ok kc_77 zc_0 (c_Log_alarmNumber kI_Log_77 h38) rfl ⟨ml_11_285, w_Log_alarmNumber⟩ hy_Log_alarmNumber ⟨rfl, rfl⟩ ⟨Nat.le_of_ble_eq_true rfl, Nat.le_of_ble_eq_true rfl⟩ ⟨Nat.zero_le _, Nat.zero_le _⟩ rfl (Nat.le_of_ble_eq_true rfl) dX11_alarm_38 ?_
          obtain rfl := Option.some.inj hf
          exact hk _ _ dX11_alarm_41
        · refine z_iconst (v := (-1)) ok dX11_alarm_27 (by decide) ?_
          obtain rfl := Option.some.inj hf
          exact hk _ _ dX11_alarm_28
theorem c_CK_alarm {σ : Sg} {x1 : Int32} {x2 : Int32} {r : Int32} (h : CK_alarm σ x1 x2 = some r) : ZcI yX11_alarm cX11_alarm 3 .int rm_CK_alarm 198 (fun ad => [.ref (ad 0), .int x1, .int x2]) σ r σ :=
  zmetI pn_11 rfl (fun _ => rfl) (fun _ => Nat.le_of_ble_eq_true rfl) rfl (fun X Q ok hk => t_CK_alarm ok h hk)
theorem dX0_countAlarms_0 : decode cX0_countAlarms 0 = .ok (.iconst 0, 1) := by decide +kernel
theorem dX0_countAlarms_1 : decode cX0_countAlarms 1 = .ok (.istore_n 3, 1) := by decide +kernel
theorem dX0_countAlarms_2 : decode cX0_countAlarms 2 = .ok (.iconst 0, 1) := by decide +kernel
theorem dX0_countAlarms_3 : decode cX0_countAlarms 3 = .ok (.istore 4, 2) := by decide +kernel
theorem dX0_countAlarms_5 : decode cX0_countAlarms 5 = .ok (.iload 4, 2) := by decide +kernel
theorem dX0_countAlarms_7 : decode cX0_countAlarms 7 = .ok (.aload_n 0, 1) := by decide +kernel
theorem dX0_countAlarms_8 : decode cX0_countAlarms 8 = .ok (.invokevirtual 34, 3) := by decide +kernel
theorem dX0_countAlarms_11 : decode cX0_countAlarms 11 = .ok (.if_icmp .ge 39, 3) := by decide +kernel
theorem dX0_countAlarms_14 : decode cX0_countAlarms 14 = .ok (.iload_n 1, 1) := by decide +kernel
theorem dX0_countAlarms_15 : decode cX0_countAlarms 15 = .ok (.iconst (-1), 1) := by decide +kernel
theorem dX0_countAlarms_16 : decode cX0_countAlarms 16 = .ok (.if_icmp .eq 14, 3) := by decide +kernel
theorem dX0_countAlarms_19 : decode cX0_countAlarms 19 = .ok (.aload_n 0, 1) := by decide +kernel
theorem dX0_countAlarms_20 : decode cX0_countAlarms 20 = .ok (.iload 4, 2) := by decide +kernel
theorem dX0_countAlarms_22 : decode cX0_countAlarms 22 = .ok (.iconst 1, 1) := by decide +kernel
theorem dX0_countAlarms_23 : decode cX0_countAlarms 23 = .ok (.invokevirtual 38, 3) := by decide +kernel
theorem dX0_countAlarms_26 : decode cX0_countAlarms 26 = .ok (.iload_n 1, 1) := by decide +kernel
theorem dX0_countAlarms_27 : decode cX0_countAlarms 27 = .ok (.if_icmp .ne 17, 3) := by decide +kernel
theorem dX0_countAlarms_30 : decode cX0_countAlarms 30 = .ok (.aload_n 0, 1) := by decide +kernel
theorem dX0_countAlarms_31 : decode cX0_countAlarms 31 = .ok (.iload 4, 2) := by decide +kernel
theorem dX0_countAlarms_33 : decode cX0_countAlarms 33 = .ok (.iconst 2, 1) := by decide +kernel
theorem dX0_countAlarms_34 : decode cX0_countAlarms 34 = .ok (.invokevirtual 38, 3) := by decide +kernel
theorem dX0_countAlarms_37 : decode cX0_countAlarms 37 = .ok (.iload_n 2, 1) := by decide +kernel
theorem dX0_countAlarms_38 : decode cX0_countAlarms 38 = .ok (.if_icmp .ne 6, 3) := by decide +kernel
theorem dX0_countAlarms_41 : decode cX0_countAlarms 41 = .ok (.iinc 3 1, 3) := by decide +kernel
theorem dX0_countAlarms_44 : decode cX0_countAlarms 44 = .ok (.iinc 4 1, 3) := by decide +kernel
theorem dX0_countAlarms_47 : decode cX0_countAlarms 47 = .ok (.goto (-42), 3) := by decide +kernel
theorem dX0_countAlarms_50 : decode cX0_countAlarms 50 = .ok (.iload_n 3, 1) := by decide +kernel
theorem dX0_countAlarms_51 : decode cX0_countAlarms 51 = .ok (.ireturn, 1) := by decide +kernel
abbrev rm_Log_countAlarms : Room := { frames := 3, cells := 0, slots := 0, locals := 63 }
def Log_countAlarms_j5_30 (σ : Sg) (w : Nat) (x1 : Int32) (x2 : Int32) (x3 : Int32) (x4 : Int32) : Option ((Int32 × Int32) ⊕ (Int32 × Int32)) :=
  (Log_alarmNumber σ w x4 2).bind fun r34 =>
  if r34 = x2 then (
    zlt (x3 + 1) fun v41 =>
    zlt (x4 + 1) fun v44 =>
    some (.inl (v41, v44))
  ) else (
    zlt (x4 + 1) fun v44 =>
    some (.inl (x3, v44))
  )
set_option maxRecDepth 20000 in
theorem t_Log_countAlarms_j5_30 {X : Zx} {Q : State → Prop} {σ : Sg} {w : Nat} {x1 : Int32} {x2 : Int32} {x3 : Int32} {x4 : Int32} (ok : Zok X cX0_countAlarms RX0 rm_Log_countAlarms 198 5) (hw : zI_Log w 198) {out : ((Int32 × Int32) ⊕ (Int32 × Int32))} (hf : Log_countAlarms_j5_30 σ w x1 x2 x3 x4 = some out) (hk : zout (fun (s : (Int32 × Int32)) => ZAt X Q 0 0 5 σ [(0, .ref (X.ad w)), (1, .int x1), (2, .int x2), (3, .int s.1), (4, .int s.2)] []) (fun (s : (Int32 × Int32)) => ZAt X Q 0 0 50 σ [(3, .int s.1)] []) out) : ZAt X Q 0 0 30 σ [(0, .ref (X.ad w)), (1, .int x1), (2, .int x2), (3, .int x3), (4, .int x4)] [] := by
  unfold Log_countAlarms_j5_30 at hf
  obtain ⟨hw_0, hw_1, hw_2⟩ := id hw
  refine z_aload_n ok dX0_countAlarms_30 0 rfl ?_
  refine z_iload ok dX0_countAlarms_31 4 rfl ?_
  refine z_iconst (v := 2) ok dX0_countAlarms_33 (by decide) ?_
  refine z_call hf (fun r34 h34 hf => ?_)
  refine z_cV (As := [.int x4, .int 2]) (rest := []) (w := w) ok hw_0 zc_0 (c_Log_alarmNumber hw h34) rfl ⟨ml_0_38, w_Log_alarmNumber⟩ hy_Log_alarmNumber ⟨rfl, rfl⟩ ⟨Nat.le_of_ble_eq_true rfl, Nat.le_of_ble_eq_true rfl⟩ ⟨Nat.zero_le _, Nat.zero_le _⟩ rfl (Nat.le_of_ble_eq_true rfl) dX0_countAlarms_34 ?_
  refine z_iload_n ok dX0_countAlarms_37 2 rfl ?_
  refine z_icmp_ne (tgt := 44) ok dX0_countAlarms_38 (by decide) hf (fun _ hf => ?_) (fun _ hf => ?_)
  · refine z_iinc (w := 1) (lv' := fun v41 => [(3, .int v41), (0, .ref (X.ad w)), (1, .int x1), (2, .int x2), (4, .int x4)]) ok dX0_countAlarms_41 3 rfl (by decide) (by decide) (fun _ => rfl) hf (fun v41 hf => ?_)
    refine z_iinc (w := 1) (lv' := fun v44 => [(4, .int v44), (3, .int v41), (0, .ref (X.ad w)), (1, .int x1), (2, .int x2)]) ok dX0_countAlarms_44 4 rfl (by decide) (by decide) (fun _ => rfl) hf (fun v44 hf => ?_)
    refine z_goto (tgt := 5) ok dX0_countAlarms_47 (by decide) ?_
    obtain rfl := Option.some.inj hf
    exact z_sub [2, 3, 4, 1, 0] rfl hk
  · refine z_iinc (w := 1) (lv' := fun v44 => [(4, .int v44), (0, .ref (X.ad w)), (1, .int x1), (2, .int x2), (3, .int x3)]) ok dX0_countAlarms_44 4 rfl (by decide) (by decide) (fun _ => rfl) hf (fun v44 hf => ?_)
    refine z_goto (tgt := 5) ok dX0_countAlarms_47 (by decide) ?_
    obtain rfl := Option.some.inj hf
    exact z_sub [1, 2, 3, 4, 0] rfl hk
def Log_countAlarms_l5 (σ : Sg) (w : Nat) (x1 : Int32) (x2 : Int32) (x3 : Int32) (x4 : Int32) : Option ((Int32 × Int32) ⊕ (Int32 × Int32)) :=
  (Log_toldCount σ w).bind fun r8 =>
  if r8 ≤ x4 then (
    some (.inr (x3, x4))
  ) else (
    if x1 = (-1) then (
      Log_countAlarms_j5_30 σ w x1 x2 x3 x4
    ) else (
      (Log_alarmNumber σ w x4 1).bind fun r23 =>
      if r23 = x1 then (
        Log_countAlarms_j5_30 σ w x1 x2 x3 x4
      ) else (
        zlt (x4 + 1) fun v44 =>
        some (.inl (x3, v44))
      )
    )
  )
set_option maxRecDepth 20000 in
theorem t_Log_countAlarms_l5 {X : Zx} {Q : State → Prop} {σ : Sg} {w : Nat} {x1 : Int32} {x2 : Int32} {x3 : Int32} {x4 : Int32} (ok : Zok X cX0_countAlarms RX0 rm_Log_countAlarms 198 5) (hw : zI_Log w 198) {out : ((Int32 × Int32) ⊕ (Int32 × Int32))} (hf : Log_countAlarms_l5 σ w x1 x2 x3 x4 = some out) (hk : zout (fun (s : (Int32 × Int32)) => ZAt X Q 0 0 5 σ [(0, .ref (X.ad w)), (1, .int x1), (2, .int x2), (3, .int s.1), (4, .int s.2)] []) (fun (s : (Int32 × Int32)) => ZAt X Q 0 0 50 σ [(3, .int s.1)] []) out) : ZAt X Q 0 0 5 σ [(0, .ref (X.ad w)), (1, .int x1), (2, .int x2), (3, .int x3), (4, .int x4)] [] := by
  unfold Log_countAlarms_l5 at hf
  obtain ⟨hw_0, hw_1, hw_2⟩ := id hw
  refine z_iload ok dX0_countAlarms_5 4 rfl ?_
  refine z_aload_n ok dX0_countAlarms_7 0 rfl ?_
  refine z_call hf (fun r8 h8 hf => ?_)
  refine z_cV (As := []) (rest := [.int x4]) (w := w) ok hw_0 zc_0 (c_Log_toldCount hw h8) rfl ⟨ml_0_34, w_Log_toldCount⟩ hy_Log_toldCount ⟨rfl, rfl⟩ ⟨Nat.le_of_ble_eq_true rfl, Nat.le_of_ble_eq_true rfl⟩ ⟨Nat.zero_le _, Nat.zero_le _⟩ rfl (Nat.le_of_ble_eq_true rfl) dX0_countAlarms_8 ?_
  refine z_icmp_ge (tgt := 50) ok dX0_countAlarms_11 (by decide) hf (fun _ hf => ?_) (fun _ hf => ?_)
  · obtain rfl := Option.some.inj hf
    exact z_sub [3] rfl hk
  · refine z_iload_n ok dX0_countAlarms_14 1 rfl ?_
    refine z_iconst (v := (-1)) ok dX0_countAlarms_15 (by decide) ?_
    refine z_icmp_eq (tgt := 30) ok dX0_countAlarms_16 (by decide) hf (fun _ hf => ?_) (fun _ hf => ?_)
    · exact z_sub [0, 1, 2, 3, 4] rfl (t_Log_countAlarms_j5_30 ok hw hf hk)
    · refine z_aload_n ok dX0_countAlarms_19 0 rfl ?_
      refine z_iload ok dX0_countAlarms_20 4 rfl ?_
      refine z_iconst (v := 1) ok dX0_countAlarms_22 (by decide) ?_
      refine z_call hf (fun r23 h23 hf => ?_)
      refine z_cV (As := [.int x4, .int 1]) (rest := []) (w := w) ok hw_0 zc_0 (c_Log_alarmNumber hw h23) rfl ⟨ml_0_38, w_Log_alarmNumber⟩ hy_Log_alarmNumber ⟨rfl, rfl⟩ ⟨Nat.le_of_ble_eq_true rfl, Nat.le_of_ble_eq_true rfl⟩ ⟨Nat.zero_le _, Nat.zero_le _⟩ rfl (Nat.le_of_ble_eq_true rfl) dX0_countAlarms_23 ?_
      refine z_iload_n ok dX0_countAlarms_26 1 rfl ?_
      refine z_icmp_ne (tgt := 44) ok dX0_countAlarms_27 (by decide) hf (fun _ hf => ?_) (fun _ hf => ?_)
      · exact z_sub [0, 1, 2, 3, 4] rfl (t_Log_countAlarms_j5_30 ok hw hf hk)
      · refine z_iinc (w := 1) (lv' := fun v44 => [(4, .int v44), (0, .ref (X.ad w)), (1, .int x1), (2, .int x2), (3, .int x3)]) ok dX0_countAlarms_44 4 rfl (by decide) (by decide) (fun _ => rfl) hf (fun v44 hf => ?_)
        refine z_goto (tgt := 5) ok dX0_countAlarms_47 (by decide) ?_
        obtain rfl := Option.some.inj hf
        exact z_sub [1, 2, 3, 4, 0] rfl hk
def Log_countAlarms (σ : Sg) (w : Nat) (x1 : Int32) (x2 : Int32) : Option Int32 :=
  zlt 0 fun v1 =>
  zlt 0 fun v3 =>
  (zit (fun (s : (Int32 × Int32)) => Log_countAlarms_l5 σ w x1 x2 s.1 s.2) zFU (v1, v3)).bind fun r =>
  some r.1
set_option maxRecDepth 20000 in
theorem t_Log_countAlarms {X : Zx} {Q : State → Prop} {σ : Sg} {w : Nat} {x1 : Int32} {x2 : Int32} (ok : Zok X cX0_countAlarms RX0 rm_Log_countAlarms 198 5) (hw : zI_Log w 198) {out : Int32} (hf : Log_countAlarms σ w x1 x2 = some out) (hk : ZrI cX0_countAlarms X Q out σ) : ZAt X Q 0 0 0 σ [(0, .ref (X.ad w)), (1, .int x1), (2, .int x2)] [] := by
  unfold Log_countAlarms at hf
  obtain ⟨hw_0, hw_1, hw_2⟩ := id hw
  refine z_iconst (v := 0) ok dX0_countAlarms_0 (by decide) ?_
  refine z_nm hf (fun v1 hf => ?_)
  refine z_istore_n (lv' := [(3, .int v1), (0, .ref (X.ad w)), (1, .int x1), (2, .int x2)]) ok dX0_countAlarms_1 (by decide) rfl ?_
  refine z_iconst (v := 0) ok dX0_countAlarms_2 (by decide) ?_
  refine z_nm hf (fun v3 hf => ?_)
  refine z_istore (lv' := [(4, .int v3), (3, .int v1), (0, .ref (X.ad w)), (1, .int x1), (2, .int x2)]) ok dX0_countAlarms_3 (by decide) rfl ?_
  refine z_call hf (fun r hr hf => ?_)
  refine z_sub [2, 3, 4, 1, 0] rfl (z_iter (fun (s : (Int32 × Int32)) => σ) (fun (s : (Int32 × Int32)) => [(0, .ref (X.ad w)), (1, .int x1), (2, .int x2), (3, .int s.1), (4, .int s.2)]) (fun s o h1 h2 => t_Log_countAlarms_l5 ok hw h1 h2) _ _ _ hr ?_)
  show ZAt X Q 0 0 50 σ [(3, .int r.1)] []
  refine z_iload_n ok dX0_countAlarms_50 0 rfl ?_
  obtain rfl := Option.some.inj hf
  exact hk _ _ dX0_countAlarms_51
theorem c_Log_countAlarms {σ : Sg} {w : Nat} {x1 : Int32} {x2 : Int32} (hw : zI_Log w 198) {r : Int32} (h : Log_countAlarms σ w x1 x2 = some r) : ZcI yX0_countAlarms cX0_countAlarms 5 .int rm_Log_countAlarms 198 (fun ad => [.ref (ad w), .int x1, .int x2]) σ r σ :=
  zmetI pn_0 rfl (fun _ => rfl) (fun _ => Nat.le_of_ble_eq_true rfl) rfl (fun X Q ok hk => t_Log_countAlarms ok hw h hk)
theorem dX11_alarms_0 : decode cX11_alarms 0 = .ok (.iload_n 2, 1) := by decide +kernel
theorem dX11_alarms_1 : decode cX11_alarms 1 = .ok (.iconst 1, 1) := by decide +kernel
theorem dX11_alarms_2 : decode cX11_alarms 2 = .ok (.if_icmp .lt 22, 3) := by decide +kernel
theorem dX11_alarms_5 : decode cX11_alarms 5 = .ok (.iload_n 2, 1) := by decide +kernel
theorem dX11_alarms_6 : decode cX11_alarms 6 = .ok (.bipush 8, 2) := by decide +kernel
theorem dX11_alarms_8 : decode cX11_alarms 8 = .ok (.if_icmp .gt 16, 3) := by decide +kernel
theorem dX11_alarms_11 : decode cX11_alarms 11 = .ok (.iload_n 1, 1) := by decide +kernel
theorem dX11_alarms_12 : decode cX11_alarms 12 = .ok (.iconst (-1), 1) := by decide +kernel
theorem dX11_alarms_13 : decode cX11_alarms 13 = .ok (.if_icmp .eq 13, 3) := by decide +kernel
theorem dX11_alarms_16 : decode cX11_alarms 16 = .ok (.aload_n 0, 1) := by decide +kernel
theorem dX11_alarms_17 : decode cX11_alarms 17 = .ok (.iload_n 1, 1) := by decide +kernel
theorem dX11_alarms_18 : decode cX11_alarms 18 = .ok (.invokevirtual 154, 3) := by decide +kernel
theorem dX11_alarms_21 : decode cX11_alarms 21 = .ok (.ifCond .ne 5, 3) := by decide +kernel
theorem dX11_alarms_24 : decode cX11_alarms 24 = .ok (.iconst (-1), 1) := by decide +kernel
theorem dX11_alarms_25 : decode cX11_alarms 25 = .ok (.ireturn, 1) := by decide +kernel
theorem dX11_alarms_26 : decode cX11_alarms 26 = .ok (.aload_n 0, 1) := by decide +kernel
theorem dX11_alarms_27 : decode cX11_alarms 27 = .ok (.getfield 37, 3) := by decide +kernel
theorem dX11_alarms_30 : decode cX11_alarms 30 = .ok (.getfield 141, 3) := by decide +kernel
theorem dX11_alarms_33 : decode cX11_alarms 33 = .ok (.iload_n 1, 1) := by decide +kernel
theorem dX11_alarms_34 : decode cX11_alarms 34 = .ok (.iload_n 2, 1) := by decide +kernel
theorem dX11_alarms_35 : decode cX11_alarms 35 = .ok (.invokevirtual 288, 3) := by decide +kernel
theorem dX11_alarms_38 : decode cX11_alarms 38 = .ok (.ireturn, 1) := by decide +kernel
abbrev rm_CK_alarms : Room := { frames := 4, cells := 0, slots := 0, locals := 87 }
def CK_alarms (σ : Sg) (x1 : Int32) (x2 : Int32) : Option Int32 :=
  if x2 < 1 then (
    some (-1)
  ) else (
    if 8 < x2 then (
      some (-1)
    ) else (
      if x1 = (-1) then (
        (Log_countAlarms σ 77 x1 x2).bind fun r35 =>
        some r35
      ) else (
        (CK_isPool σ x1).bind fun r18 =>
        if (zb r18) = 0 then (
          some (-1)
        ) else (
          (Log_countAlarms σ 77 x1 x2).bind fun r35 =>
          some r35
        )
      )
    )
  )
set_option maxRecDepth 20000 in
theorem t_CK_alarms {X : Zx} {Q : State → Prop} {σ : Sg} {x1 : Int32} {x2 : Int32} (ok : Zok X cX11_alarms RX11 rm_CK_alarms 198 3)  {out : Int32} (hf : CK_alarms σ x1 x2 = some out) (hk : ZrI cX11_alarms X Q out σ) : ZAt X Q 0 0 0 σ [(0, .ref (X.ad 0)), (1, .int x1), (2, .int x2)] [] := by
  unfold CK_alarms at hf
  refine z_iload_n ok dX11_alarms_0 2 rfl ?_
  refine z_iconst (v := 1) ok dX11_alarms_1 (by decide) ?_
  refine z_icmp_lt (tgt := 24) ok dX11_alarms_2 (by decide) hf (fun _ hf => ?_) (fun _ hf => ?_)
  · refine z_iconst (v := (-1)) ok dX11_alarms_24 (by decide) ?_
    obtain rfl := Option.some.inj hf
    exact hk _ _ dX11_alarms_25
  · refine z_iload_n ok dX11_alarms_5 2 rfl ?_
    refine z_bipush (v := 8) ok dX11_alarms_6 (by decide) ?_
    refine z_icmp_gt (tgt := 24) ok dX11_alarms_8 (by decide) hf (fun _ hf => ?_) (fun _ hf => ?_)
    · refine z_iconst (v := (-1)) ok dX11_alarms_24 (by decide) ?_
      obtain rfl := Option.some.inj hf
      exact hk _ _ dX11_alarms_25
    · refine z_iload_n ok dX11_alarms_11 1 rfl ?_
      refine z_iconst (v := (-1)) ok dX11_alarms_12 (by decide) ?_
      refine z_icmp_eq (tgt := 26) ok dX11_alarms_13 (by decide) hf (fun _ hf => ?_) (fun _ hf => ?_)
      · refine z_aload_n ok dX11_alarms_26 0 rfl ?_
        refine z_getr (q := 55) ok kc_0 zc_11 hin_11 8 (by decide) fl_11_37 rfl dX11_alarms_27 ?_
        refine z_getr (q := 77) ok kc_55 zc_1 hin_1 2 (by decide) fl_11_141 rfl dX11_alarms_30 ?_
        refine z_iload_n ok dX11_alarms_33 1 rfl ?_
        refine z_iload_n ok dX11_alarms_34 2 rfl ?_
        refine z_call hf (fun r35 h35 hf => ?_)
        refine z_cV (As := [.int x1, .int x2]) (rest := []) (w := 77) ok kc_77 zc_0 (c_Log_countAlarms kI_Log_77 h35) rfl ⟨ml_11_288, w_Log_countAlarms⟩ hy_Log_countAlarms ⟨rfl, rfl⟩ ⟨Nat.le_of_ble_eq_true rfl, Nat.le_of_ble_eq_true rfl⟩ ⟨Nat.zero_le _, Nat.zero_le _⟩ rfl (Nat.le_of_ble_eq_true rfl) dX11_alarms_35 ?_
        obtain rfl := Option.some.inj hf
        exact hk _ _ dX11_alarms_38
      · refine z_aload_n ok dX11_alarms_16 0 rfl ?_
        refine z_iload_n ok dX11_alarms_17 1 rfl ?_
        refine z_call hf (fun r18 h18 hf => ?_)
        refine z_cV (As := [.int x1]) (rest := []) (w := 0) ok kc_0 zc_11 (c_CK_isPool h18) rfl ⟨ml_11_154, w_CK_isPool⟩ hy_CK_isPool ⟨rfl, rfl⟩ ⟨Nat.le_of_ble_eq_true rfl, Nat.le_of_ble_eq_true rfl⟩ ⟨Nat.zero_le _, Nat.zero_le _⟩ rfl (Nat.le_of_ble_eq_true rfl) dX11_alarms_18 ?_
        refine z_if_ne (tgt := 26) ok dX11_alarms_21 (by decide) hf (fun _ hf => ?_) (fun _ hf => ?_)
        · refine z_iconst (v := (-1)) ok dX11_alarms_24 (by decide) ?_
          obtain rfl := Option.some.inj hf
          exact hk _ _ dX11_alarms_25
        · refine z_aload_n ok dX11_alarms_26 0 rfl ?_
          refine z_getr (q := 55) ok kc_0 zc_11 hin_11 8 (by decide) fl_11_37 rfl dX11_alarms_27 ?_
          refine z_getr (q := 77) ok kc_55 zc_1 hin_1 2 (by decide) fl_11_141 rfl dX11_alarms_30 ?_
          refine z_iload_n ok dX11_alarms_33 1 rfl ?_
          refine z_iload_n ok dX11_alarms_34 2 rfl ?_
          refine z_call hf (fun r35 h35 hf => ?_)
          refine z_cV (As := [.int x1, .int x2]) (rest := []) (w := 77) ok kc_77 zc_0 (c_Log_countAlarms kI_Log_77 h35) rfl ⟨ml_11_288, w_Log_countAlarms⟩ hy_Log_countAlarms ⟨rfl, rfl⟩ ⟨Nat.le_of_ble_eq_true rfl, Nat.le_of_ble_eq_true rfl⟩ ⟨Nat.zero_le _, Nat.zero_le _⟩ rfl (Nat.le_of_ble_eq_true rfl) dX11_alarms_35 ?_
          obtain rfl := Option.some.inj hf
          exact hk _ _ dX11_alarms_38
theorem c_CK_alarms {σ : Sg} {x1 : Int32} {x2 : Int32} {r : Int32} (h : CK_alarms σ x1 x2 = some r) : ZcI yX11_alarms cX11_alarms 3 .int rm_CK_alarms 198 (fun ad => [.ref (ad 0), .int x1, .int x2]) σ r σ :=
  zmetI pn_11 rfl (fun _ => rfl) (fun _ => Nat.le_of_ble_eq_true rfl) rfl (fun X Q ok hk => t_CK_alarms ok h hk)
theorem dX11_wereSteps_0 : decode cX11_wereSteps 0 = .ok (.iload_n 1, 1) := by decide +kernel
theorem dX11_wereSteps_1 : decode cX11_wereSteps 1 = .ok (.iconst 1, 1) := by decide +kernel
theorem dX11_wereSteps_2 : decode cX11_wereSteps 2 = .ok (.if_icmp .lt 27, 3) := by decide +kernel
theorem dX11_wereSteps_5 : decode cX11_wereSteps 5 = .ok (.iload_n 1, 1) := by decide +kernel
theorem dX11_wereSteps_6 : decode cX11_wereSteps 6 = .ok (.bipush 40, 2) := by decide +kernel
theorem dX11_wereSteps_8 : decode cX11_wereSteps 8 = .ok (.if_icmp .gt 21, 3) := by decide +kernel
theorem dX11_wereSteps_11 : decode cX11_wereSteps 11 = .ok (.iload_n 1, 1) := by decide +kernel
theorem dX11_wereSteps_12 : decode cX11_wereSteps 12 = .ok (.aload_n 0, 1) := by decide +kernel
theorem dX11_wereSteps_13 : decode cX11_wereSteps 13 = .ok (.getfield 37, 3) := by decide +kernel
theorem dX11_wereSteps_16 : decode cX11_wereSteps 16 = .ok (.getfield 126, 3) := by decide +kernel
theorem dX11_wereSteps_19 : decode cX11_wereSteps 19 = .ok (.getfield 130, 3) := by decide +kernel
theorem dX11_wereSteps_22 : decode cX11_wereSteps 22 = .ok (.if_icmp .gt 7, 3) := by decide +kernel
theorem dX11_wereSteps_25 : decode cX11_wereSteps 25 = .ok (.iconst 1, 1) := by decide +kernel
theorem dX11_wereSteps_26 : decode cX11_wereSteps 26 = .ok (.goto 4, 3) := by decide +kernel
theorem dX11_wereSteps_29 : decode cX11_wereSteps 29 = .ok (.iconst 0, 1) := by decide +kernel
theorem dX11_wereSteps_30 : decode cX11_wereSteps 30 = .ok (.ireturn, 1) := by decide +kernel
abbrev rm_CK_wereSteps : Room := { frames := 0, cells := 0, slots := 0, locals := 0 }
def CK_wereSteps (σ : Sg) (x1 : Int32) : Option Bool :=
  if x1 < 1 then (
    some false
  ) else (
    if 40 < x1 then (
      some false
    ) else (
      zgt σ 56 0 fun v19 =>
      if v19 < x1 then (
        some false
      ) else (
        some true
      )
    )
  )
set_option maxRecDepth 20000 in
theorem t_CK_wereSteps {X : Zx} {Q : State → Prop} {σ : Sg} {x1 : Int32} (ok : Zok X cX11_wereSteps RX11 rm_CK_wereSteps 198 2)  {out : Bool} (hf : CK_wereSteps σ x1 = some out) (hk : ZrI cX11_wereSteps X Q (zb out) σ) : ZAt X Q 0 0 0 σ [(0, .ref (X.ad 0)), (1, .int x1)] [] := by
  unfold CK_wereSteps at hf
  refine z_iload_n ok dX11_wereSteps_0 1 rfl ?_
  refine z_iconst (v := 1) ok dX11_wereSteps_1 (by decide) ?_
  refine z_icmp_lt (tgt := 29) ok dX11_wereSteps_2 (by decide) hf (fun _ hf => ?_) (fun _ hf => ?_)
  · refine z_iconst (v := 0) ok dX11_wereSteps_29 (by decide) ?_
    obtain rfl := Option.some.inj hf
    exact hk _ _ dX11_wereSteps_30
  · refine z_iload_n ok dX11_wereSteps_5 1 rfl ?_
    refine z_bipush (v := 40) ok dX11_wereSteps_6 (by decide) ?_
    refine z_icmp_gt (tgt := 29) ok dX11_wereSteps_8 (by decide) hf (fun _ hf => ?_) (fun _ hf => ?_)
    · refine z_iconst (v := 0) ok dX11_wereSteps_29 (by decide) ?_
      obtain rfl := Option.some.inj hf
      exact hk _ _ dX11_wereSteps_30
    · refine z_iload_n ok dX11_wereSteps_11 1 rfl ?_
      refine z_aload_n ok dX11_wereSteps_12 0 rfl ?_
      refine z_getr (q := 55) ok kc_0 zc_11 hin_11 8 (by decide) fl_11_37 rfl dX11_wereSteps_13 ?_
      refine z_getr (q := 56) ok kc_55 zc_1 hin_1 0 (by decide) fl_11_126 rfl dX11_wereSteps_16 ?_
      refine z_geti ok kc_56 zc_9 hin_9 0 (by decide) fl_11_130 rfl dX11_wereSteps_19 hf (fun v19 hf => ?_)
      refine z_icmp_gt (tgt := 29) ok dX11_wereSteps_22 (by decide) hf (fun _ hf => ?_) (fun _ hf => ?_)
      · refine z_iconst (v := 0) ok dX11_wereSteps_29 (by decide) ?_
        obtain rfl := Option.some.inj hf
        exact hk _ _ dX11_wereSteps_30
      · refine z_iconst (v := 1) ok dX11_wereSteps_25 (by decide) ?_
        refine z_goto (tgt := 30) ok dX11_wereSteps_26 (by decide) ?_
        obtain rfl := Option.some.inj hf
        exact hk _ _ dX11_wereSteps_30
theorem c_CK_wereSteps {σ : Sg} {x1 : Int32} {r : Bool} (h : CK_wereSteps σ x1 = some r) : ZcI yX11_wereSteps cX11_wereSteps 2 .boolean rm_CK_wereSteps 198 (fun ad => [.ref (ad 0), .int x1]) σ (zb r) σ :=
  zmetI pn_11 rfl (fun _ => rfl) (fun _ => Nat.le_of_ble_eq_true rfl) (zb_nar _) (fun X Q ok hk => t_CK_wereSteps ok h hk)
theorem dX11_flow_0 : decode cX11_flow 0 = .ok (.aload_n 0, 1) := by decide +kernel
theorem dX11_flow_1 : decode cX11_flow 1 = .ok (.iload_n 1, 1) := by decide +kernel
theorem dX11_flow_2 : decode cX11_flow 2 = .ok (.invokevirtual 154, 3) := by decide +kernel
theorem dX11_flow_5 : decode cX11_flow 5 = .ok (.ifCond .eq 20, 3) := by decide +kernel
theorem dX11_flow_8 : decode cX11_flow 8 = .ok (.aload_n 0, 1) := by decide +kernel
theorem dX11_flow_9 : decode cX11_flow 9 = .ok (.iload_n 2, 1) := by decide +kernel
theorem dX11_flow_10 : decode cX11_flow 10 = .ok (.invokevirtual 291, 3) := by decide +kernel
theorem dX11_flow_13 : decode cX11_flow 13 = .ok (.ifCond .eq 12, 3) := by decide +kernel
theorem dX11_flow_16 : decode cX11_flow 16 = .ok (.iload_n 3, 1) := by decide +kernel
theorem dX11_flow_17 : decode cX11_flow 17 = .ok (.ifCond .lt 8, 3) := by decide +kernel
theorem dX11_flow_20 : decode cX11_flow 20 = .ok (.iload_n 3, 1) := by decide +kernel
theorem dX11_flow_21 : decode cX11_flow 21 = .ok (.iconst 4, 1) := by decide +kernel
theorem dX11_flow_22 : decode cX11_flow 22 = .ok (.if_icmp .lt 5, 3) := by decide +kernel
theorem dX11_flow_25 : decode cX11_flow 25 = .ok (.iconst (-1), 1) := by decide +kernel
theorem dX11_flow_26 : decode cX11_flow 26 = .ok (.ireturn, 1) := by decide +kernel
theorem dX11_flow_27 : decode cX11_flow 27 = .ok (.aload_n 0, 1) := by decide +kernel
theorem dX11_flow_28 : decode cX11_flow 28 = .ok (.getfield 37, 3) := by decide +kernel
theorem dX11_flow_31 : decode cX11_flow 31 = .ok (.getfield 141, 3) := by decide +kernel
theorem dX11_flow_34 : decode cX11_flow 34 = .ok (.iload_n 1, 1) := by decide +kernel
theorem dX11_flow_35 : decode cX11_flow 35 = .ok (.aload_n 0, 1) := by decide +kernel
theorem dX11_flow_36 : decode cX11_flow 36 = .ok (.getfield 37, 3) := by decide +kernel
theorem dX11_flow_39 : decode cX11_flow 39 = .ok (.getfield 126, 3) := by decide +kernel
theorem dX11_flow_42 : decode cX11_flow 42 = .ok (.getfield 130, 3) := by decide +kernel
theorem dX11_flow_45 : decode cX11_flow 45 = .ok (.iload_n 2, 1) := by decide +kernel
theorem dX11_flow_46 : decode cX11_flow 46 = .ok (.isub, 1) := by decide +kernel
theorem dX11_flow_47 : decode cX11_flow 47 = .ok (.iload_n 3, 1) := by decide +kernel
theorem dX11_flow_48 : decode cX11_flow 48 = .ok (.invokevirtual 214, 3) := by decide +kernel
theorem dX11_flow_51 : decode cX11_flow 51 = .ok (.ireturn, 1) := by decide +kernel
abbrev rm_CK_flow : Room := { frames := 2, cells := 0, slots := 0, locals := 44 }
def CK_flow (σ : Sg) (x1 : Int32) (x2 : Int32) (x3 : Int32) : Option Int32 :=
  (CK_isPool σ x1).bind fun r2 =>
  if (zb r2) = 0 then (
    some (-1)
  ) else (
    (CK_wereSteps σ x2).bind fun r10 =>
    if (zb r10) = 0 then (
      some (-1)
    ) else (
      if x3 < 0 then (
        some (-1)
      ) else (
        if x3 < 4 then (
          zgt σ 56 0 fun v42 =>
          (Log_flowOf σ 77 x1 (v42 - x2) x3).bind fun r48 =>
          some r48
        ) else (
          some (-1)
        )
      )
    )
  )
set_option maxRecDepth 20000 in
theorem t_CK_flow {X : Zx} {Q : State → Prop} {σ : Sg} {x1 : Int32} {x2 : Int32} {x3 : Int32} (ok : Zok X cX11_flow RX11 rm_CK_flow 198 4)  {out : Int32} (hf : CK_flow σ x1 x2 x3 = some out) (hk : ZrI cX11_flow X Q out σ) : ZAt X Q 0 0 0 σ [(0, .ref (X.ad 0)), (1, .int x1), (2, .int x2), (3, .int x3)] [] := by
  unfold CK_flow at hf
  refine z_aload_n ok dX11_flow_0 0 rfl ?_
  refine z_iload_n ok dX11_flow_1 1 rfl ?_
  refine z_call hf (fun r2 h2 hf => ?_)
  refine z_cV (As := [.int x1]) (rest := []) (w := 0) ok kc_0 zc_11 (c_CK_isPool h2) rfl ⟨ml_11_154, w_CK_isPool⟩ hy_CK_isPool ⟨rfl, rfl⟩ ⟨Nat.le_of_ble_eq_true rfl, Nat.le_of_ble_eq_true rfl⟩ ⟨Nat.zero_le _, Nat.zero_le _⟩ rfl (Nat.le_of_ble_eq_true rfl) dX11_flow_2 ?_
  refine z_if_eq (tgt := 25) ok dX11_flow_5 (by decide) hf (fun _ hf => ?_) (fun _ hf => ?_)
  · refine z_iconst (v := (-1)) ok dX11_flow_25 (by decide) ?_
    obtain rfl := Option.some.inj hf
    exact hk _ _ dX11_flow_26
  · refine z_aload_n ok dX11_flow_8 0 rfl ?_
    refine z_iload_n ok dX11_flow_9 2 rfl ?_
    refine z_call hf (fun r10 h10 hf => ?_)
    refine z_cV (As := [.int x2]) (rest := []) (w := 0) ok kc_0 zc_11 (c_CK_wereSteps h10) rfl ⟨ml_11_291, w_CK_wereSteps⟩ hy_CK_wereSteps ⟨rfl, rfl⟩ ⟨Nat.le_of_ble_eq_true rfl, Nat.le_of_ble_eq_true rfl⟩ ⟨Nat.zero_le _, Nat.zero_le _⟩ rfl (Nat.le_of_ble_eq_true rfl) dX11_flow_10 ?_
    refine z_if_eq (tgt := 25) ok dX11_flow_13 (by decide) hf (fun _ hf => ?_) (fun _ hf => ?_)
    · refine z_iconst (v := (-1)) ok dX11_flow_25 (by decide) ?_
      obtain rfl := Option.some.inj hf
      exact hk _ _ dX11_flow_26
    · refine z_iload_n ok dX11_flow_16 3 rfl ?_
      refine z_if_lt (tgt := 25) ok dX11_flow_17 (by decide) hf (fun _ hf => ?_) (fun _ hf => ?_)
      · refine z_iconst (v := (-1)) ok dX11_flow_25 (by decide) ?_
        obtain rfl := Option.some.inj hf
        exact hk _ _ dX11_flow_26
      · refine z_iload_n ok dX11_flow_20 3 rfl ?_
        refine z_iconst (v := 4) ok dX11_flow_21 (by decide) ?_
        refine z_icmp_lt (tgt := 27) ok dX11_flow_22 (by decide) hf (fun _ hf => ?_) (fun _ hf => ?_)
        · refine z_aload_n ok dX11_flow_27 0 rfl ?_
          refine z_getr (q := 55) ok kc_0 zc_11 hin_11 8 (by decide) fl_11_37 rfl dX11_flow_28 ?_
          refine z_getr (q := 77) ok kc_55 zc_1 hin_1 2 (by decide) fl_11_141 rfl dX11_flow_31 ?_
          refine z_iload_n ok dX11_flow_34 1 rfl ?_
          refine z_aload_n ok dX11_flow_35 0 rfl ?_
          refine z_getr (q := 55) ok kc_0 zc_11 hin_11 8 (by decide) fl_11_37 rfl dX11_flow_36 ?_
          refine z_getr (q := 56) ok kc_55 zc_1 hin_1 0 (by decide) fl_11_126 rfl dX11_flow_39 ?_
          refine z_geti ok kc_56 zc_9 hin_9 0 (by decide) fl_11_130 rfl dX11_flow_42 hf (fun v42 hf => ?_)
          refine z_iload_n ok dX11_flow_45 2 rfl ?_
          refine z_isub ok dX11_flow_46 ?_
          refine z_iload_n ok dX11_flow_47 3 rfl ?_
          refine z_call hf (fun r48 h48 hf => ?_)
          refine z_cV (As := [.int x1, .int (v42 - x2), .int x3]) (rest := []) (w := 77) ok kc_77 zc_0 (c_Log_flowOf kI_Log_77 h48) rfl ⟨ml_11_214, w_Log_flowOf⟩ hy_Log_flowOf ⟨rfl, rfl⟩ ⟨Nat.le_of_ble_eq_true rfl, Nat.le_of_ble_eq_true rfl⟩ ⟨Nat.zero_le _, Nat.zero_le _⟩ rfl (Nat.le_of_ble_eq_true rfl) dX11_flow_48 ?_
          obtain rfl := Option.some.inj hf
          exact hk _ _ dX11_flow_51
        · refine z_iconst (v := (-1)) ok dX11_flow_25 (by decide) ?_
          obtain rfl := Option.some.inj hf
          exact hk _ _ dX11_flow_26
theorem c_CK_flow {σ : Sg} {x1 : Int32} {x2 : Int32} {x3 : Int32} {r : Int32} (h : CK_flow σ x1 x2 x3 = some r) : ZcI yX11_flow cX11_flow 4 .int rm_CK_flow 198 (fun ad => [.ref (ad 0), .int x1, .int x2, .int x3]) σ r σ :=
  zmetI pn_11 rfl (fun _ => rfl) (fun _ => Nat.le_of_ble_eq_true rfl) rfl (fun X Q ok hk => t_CK_flow ok h hk)
theorem dX11_missing_0 : decode cX11_missing 0 = .ok (.aload_n 0, 1) := by decide +kernel
theorem dX11_missing_1 : decode cX11_missing 1 = .ok (.iload_n 1, 1) := by decide +kernel
theorem dX11_missing_2 : decode cX11_missing 2 = .ok (.invokevirtual 154, 3) := by decide +kernel
theorem dX11_missing_5 : decode cX11_missing 5 = .ok (.ifCond .eq 11, 3) := by decide +kernel
theorem dX11_missing_8 : decode cX11_missing 8 = .ok (.aload_n 0, 1) := by decide +kernel
theorem dX11_missing_9 : decode cX11_missing 9 = .ok (.iload_n 2, 1) := by decide +kernel
theorem dX11_missing_10 : decode cX11_missing 10 = .ok (.invokevirtual 291, 3) := by decide +kernel
theorem dX11_missing_13 : decode cX11_missing 13 = .ok (.ifCond .ne 7, 3) := by decide +kernel
theorem dX11_missing_16 : decode cX11_missing 16 = .ok (.ldc_w 294, 3) := by decide +kernel
theorem dX11_missing_19 : decode cX11_missing 19 = .ok (.ireturn, 1) := by decide +kernel
theorem dX11_missing_20 : decode cX11_missing 20 = .ok (.aload_n 0, 1) := by decide +kernel
theorem dX11_missing_21 : decode cX11_missing 21 = .ok (.getfield 37, 3) := by decide +kernel
theorem dX11_missing_24 : decode cX11_missing 24 = .ok (.getfield 126, 3) := by decide +kernel
theorem dX11_missing_27 : decode cX11_missing 27 = .ok (.getfield 130, 3) := by decide +kernel
theorem dX11_missing_30 : decode cX11_missing 30 = .ok (.iload_n 2, 1) := by decide +kernel
theorem dX11_missing_31 : decode cX11_missing 31 = .ok (.isub, 1) := by decide +kernel
theorem dX11_missing_32 : decode cX11_missing 32 = .ok (.istore_n 3, 1) := by decide +kernel
theorem dX11_missing_33 : decode cX11_missing 33 = .ok (.aload_n 0, 1) := by decide +kernel
theorem dX11_missing_34 : decode cX11_missing 34 = .ok (.getfield 37, 3) := by decide +kernel
theorem dX11_missing_37 : decode cX11_missing 37 = .ok (.getfield 141, 3) := by decide +kernel
theorem dX11_missing_40 : decode cX11_missing 40 = .ok (.iload_n 1, 1) := by decide +kernel
theorem dX11_missing_41 : decode cX11_missing 41 = .ok (.iload_n 3, 1) := by decide +kernel
theorem dX11_missing_42 : decode cX11_missing 42 = .ok (.iconst 2, 1) := by decide +kernel
theorem dX11_missing_43 : decode cX11_missing 43 = .ok (.invokevirtual 214, 3) := by decide +kernel
theorem dX11_missing_46 : decode cX11_missing 46 = .ok (.aload_n 0, 1) := by decide +kernel
theorem dX11_missing_47 : decode cX11_missing 47 = .ok (.getfield 37, 3) := by decide +kernel
theorem dX11_missing_50 : decode cX11_missing 50 = .ok (.getfield 126, 3) := by decide +kernel
theorem dX11_missing_53 : decode cX11_missing 53 = .ok (.getfield 179, 3) := by decide +kernel
theorem dX11_missing_56 : decode cX11_missing 56 = .ok (.iload_n 1, 1) := by decide +kernel
theorem dX11_missing_57 : decode cX11_missing 57 = .ok (.iaload, 1) := by decide +kernel
theorem dX11_missing_58 : decode cX11_missing 58 = .ok (.isub, 1) := by decide +kernel
theorem dX11_missing_59 : decode cX11_missing 59 = .ok (.istore 4, 2) := by decide +kernel
theorem dX11_missing_61 : decode cX11_missing 61 = .ok (.iconst 0, 1) := by decide +kernel
theorem dX11_missing_62 : decode cX11_missing 62 = .ok (.istore 5, 2) := by decide +kernel
theorem dX11_missing_64 : decode cX11_missing 64 = .ok (.iload 5, 2) := by decide +kernel
theorem dX11_missing_66 : decode cX11_missing 66 = .ok (.iload_n 2, 1) := by decide +kernel
theorem dX11_missing_67 : decode cX11_missing 67 = .ok (.if_icmp .ge 47, 3) := by decide +kernel
theorem dX11_missing_70 : decode cX11_missing 70 = .ok (.iload 4, 2) := by decide +kernel
theorem dX11_missing_72 : decode cX11_missing 72 = .ok (.aload_n 0, 1) := by decide +kernel
theorem dX11_missing_73 : decode cX11_missing 73 = .ok (.getfield 37, 3) := by decide +kernel
theorem dX11_missing_76 : decode cX11_missing 76 = .ok (.getfield 141, 3) := by decide +kernel
theorem dX11_missing_79 : decode cX11_missing 79 = .ok (.iload_n 1, 1) := by decide +kernel
theorem dX11_missing_80 : decode cX11_missing 80 = .ok (.iload_n 3, 1) := by decide +kernel
theorem dX11_missing_81 : decode cX11_missing 81 = .ok (.iload 5, 2) := by decide +kernel
theorem dX11_missing_83 : decode cX11_missing 83 = .ok (.iadd, 1) := by decide +kernel
theorem dX11_missing_84 : decode cX11_missing 84 = .ok (.iconst 0, 1) := by decide +kernel
theorem dX11_missing_85 : decode cX11_missing 85 = .ok (.invokevirtual 214, 3) := by decide +kernel
theorem dX11_missing_88 : decode cX11_missing 88 = .ok (.aload_n 0, 1) := by decide +kernel
theorem dX11_missing_89 : decode cX11_missing 89 = .ok (.getfield 37, 3) := by decide +kernel
theorem dX11_missing_92 : decode cX11_missing 92 = .ok (.getfield 141, 3) := by decide +kernel
theorem dX11_missing_95 : decode cX11_missing 95 = .ok (.iload_n 1, 1) := by decide +kernel
theorem dX11_missing_96 : decode cX11_missing 96 = .ok (.iload_n 3, 1) := by decide +kernel
theorem dX11_missing_97 : decode cX11_missing 97 = .ok (.iload 5, 2) := by decide +kernel
theorem dX11_missing_99 : decode cX11_missing 99 = .ok (.iadd, 1) := by decide +kernel
theorem dX11_missing_100 : decode cX11_missing 100 = .ok (.iconst 1, 1) := by decide +kernel
theorem dX11_missing_101 : decode cX11_missing 101 = .ok (.invokevirtual 214, 3) := by decide +kernel
theorem dX11_missing_104 : decode cX11_missing 104 = .ok (.isub, 1) := by decide +kernel
theorem dX11_missing_105 : decode cX11_missing 105 = .ok (.iadd, 1) := by decide +kernel
theorem dX11_missing_106 : decode cX11_missing 106 = .ok (.istore 4, 2) := by decide +kernel
theorem dX11_missing_108 : decode cX11_missing 108 = .ok (.iinc 5 1, 3) := by decide +kernel
theorem dX11_missing_111 : decode cX11_missing 111 = .ok (.goto (-47), 3) := by decide +kernel
theorem dX11_missing_114 : decode cX11_missing 114 = .ok (.iload 4, 2) := by decide +kernel
theorem dX11_missing_116 : decode cX11_missing 116 = .ok (.ireturn, 1) := by decide +kernel
abbrev rm_CK_missing : Room := { frames := 2, cells := 0, slots := 0, locals := 44 }
def CK_missing_l64 (σ : Sg) (x1 : Int32) (x2 : Int32) (x3 : Int32) (x4 : Int32) (x5 : Int32) : Option ((Int32 × Int32) ⊕ (Int32 × Int32)) :=
  if x2 ≤ x5 then (
    some (.inr (x4, x5))
  ) else (
    (Log_flowOf σ 77 x1 (x3 + x5) 0).bind fun r85 =>
    (Log_flowOf σ 77 x1 (x3 + x5) 1).bind fun r101 =>
    zlt (x4 + (r85 - r101)) fun v106 =>
    zlt (x5 + 1) fun v108 =>
    some (.inl (v106, v108))
  )
set_option maxRecDepth 20000 in
theorem t_CK_missing_l64 {X : Zx} {Q : State → Prop} {σ : Sg} {x1 : Int32} {x2 : Int32} {x3 : Int32} {x4 : Int32} {x5 : Int32} (ok : Zok X cX11_missing RX11 rm_CK_missing 198 6)  {out : ((Int32 × Int32) ⊕ (Int32 × Int32))} (hf : CK_missing_l64 σ x1 x2 x3 x4 x5 = some out) (hk : zout (fun (s : (Int32 × Int32)) => ZAt X Q 0 0 64 σ [(0, .ref (X.ad 0)), (1, .int x1), (2, .int x2), (3, .int x3), (4, .int s.1), (5, .int s.2)] []) (fun (s : (Int32 × Int32)) => ZAt X Q 0 0 114 σ [(4, .int s.1)] []) out) : ZAt X Q 0 0 64 σ [(0, .ref (X.ad 0)), (1, .int x1), (2, .int x2), (3, .int x3), (4, .int x4), (5, .int x5)] [] := by
  unfold CK_missing_l64 at hf
  refine z_iload ok dX11_missing_64 5 rfl ?_
  refine z_iload_n ok dX11_missing_66 2 rfl ?_
  refine z_icmp_ge (tgt := 114) ok dX11_missing_67 (by decide) hf (fun _ hf => ?_) (fun _ hf => ?_)
  · obtain rfl := Option.some.inj hf
    exact z_sub [4] rfl hk
  · refine z_iload ok dX11_missing_70 4 rfl ?_
    refine z_aload_n ok dX11_missing_72 0 rfl ?_
    refine z_getr (q := 55) ok kc_0 zc_11 hin_11 8 (by decide) fl_11_37 rfl dX11_missing_73 ?_
    refine z_getr (q := 77) ok kc_55 zc_1 hin_1 2 (by decide) fl_11_141 rfl dX11_missing_76 ?_
    refine z_iload_n ok dX11_missing_79 1 rfl ?_
    refine z_iload_n ok dX11_missing_80 3 rfl ?_
    refine z_iload ok dX11_missing_81 5 rfl ?_
    refine z_iadd ok dX11_missing_83 ?_
    refine z_iconst (v := 0) ok dX11_missing_84 (by decide) ?_
    refine z_call hf (fun r85 h85 hf => ?_)
    refine z_cV (As := [.int x1, .int (x3 + x5), .int 0]) (rest := [.int x4]) (w := 77) ok kc_77 zc_0 (c_Log_flowOf kI_Log_77 h85) rfl ⟨ml_11_214, w_Log_flowOf⟩ hy_Log_flowOf ⟨rfl, rfl⟩ ⟨Nat.le_of_ble_eq_true rfl, Nat.le_of_ble_eq_true rfl⟩ ⟨Nat.zero_le _, Nat.zero_le _⟩ rfl (Nat.le_of_ble_eq_true rfl) dX11_missing_85 ?_
    refine z_aload_n ok dX11_missing_88 0 rfl ?_
    refine z_getr (q := 55) ok kc_0 zc_11 hin_11 8 (by decide) fl_11_37 rfl dX11_missing_89 ?_
    refine z_getr (q := 77) ok kc_55 zc_1 hin_1 2 (by decide) fl_11_141 rfl dX11_missing_92 ?_
    refine z_iload_n ok dX11_missing_95 1 rfl ?_
    refine z_iload_n ok dX11_missing_96 3 rfl ?_
    refine z_iload ok dX11_missing_97 5 rfl ?_
    refine z_iadd ok dX11_missing_99 ?_
    refine z_iconst (v := 1) ok dX11_missing_100 (by decide) ?_
    refine z_call hf (fun r101 h101 hf => ?_)
    refine z_cV (As := [.int x1, .int (x3 + x5), .int 1]) (rest := [.int r85, .int x4]) (w := 77) ok kc_77 zc_0 (c_Log_flowOf kI_Log_77 h101) rfl ⟨ml_11_214, w_Log_flowOf⟩ hy_Log_flowOf ⟨rfl, rfl⟩ ⟨Nat.le_of_ble_eq_true rfl, Nat.le_of_ble_eq_true rfl⟩ ⟨Nat.zero_le _, Nat.zero_le _⟩ rfl (Nat.le_of_ble_eq_true rfl) dX11_missing_101 ?_
    refine z_isub ok dX11_missing_104 ?_
    refine z_iadd ok dX11_missing_105 ?_
    refine z_nm hf (fun v106 hf => ?_)
    refine z_istore (lv' := [(4, .int v106), (0, .ref (X.ad 0)), (1, .int x1), (2, .int x2), (3, .int x3), (5, .int x5)]) ok dX11_missing_106 (by decide) rfl ?_
    refine z_iinc (w := 1) (lv' := fun v108 => [(5, .int v108), (4, .int v106), (0, .ref (X.ad 0)), (1, .int x1), (2, .int x2), (3, .int x3)]) ok dX11_missing_108 5 rfl (by decide) (by decide) (fun _ => rfl) hf (fun v108 hf => ?_)
    refine z_goto (tgt := 64) ok dX11_missing_111 (by decide) ?_
    obtain rfl := Option.some.inj hf
    exact z_sub [2, 3, 4, 5, 1, 0] rfl hk
def CK_missing (σ : Sg) (x1 : Int32) (x2 : Int32) : Option Int32 :=
  (CK_isPool σ x1).bind fun r2 =>
  if (zb r2) = 0 then (
    some (-1000000)
  ) else (
    (CK_wereSteps σ x2).bind fun r10 =>
    if (zb r10) = 0 then (
      some (-1000000)
    ) else (
      zgt σ 56 0 fun v27 =>
      zlt (v27 - x2) fun v32 =>
      (Log_flowOf σ 77 x1 v32 2).bind fun r43 =>
      zrd σ 57 8 x1 fun v57 =>
      zlt (r43 - v57) fun v59 =>
      zlt 0 fun v62 =>
      (zit (fun (s : (Int32 × Int32)) => CK_missing_l64 σ x1 x2 v32 s.1 s.2) zFU (v59, v62)).bind fun r =>
      some r.1
    )
  )
set_option maxRecDepth 20000 in
theorem t_CK_missing {X : Zx} {Q : State → Prop} {σ : Sg} {x1 : Int32} {x2 : Int32} (ok : Zok X cX11_missing RX11 rm_CK_missing 198 6)  {out : Int32} (hf : CK_missing σ x1 x2 = some out) (hk : ZrI cX11_missing X Q out σ) : ZAt X Q 0 0 0 σ [(0, .ref (X.ad 0)), (1, .int x1), (2, .int x2)] [] := by
  unfold CK_missing at hf
  refine z_aload_n ok dX11_missing_0 0 rfl ?_
  refine z_iload_n ok dX11_missing_1 1 rfl ?_
  refine z_call hf (fun r2 h2 hf => ?_)
  refine z_cV (As := [.int x1]) (rest := []) (w := 0) ok kc_0 zc_11 (c_CK_isPool h2) rfl ⟨ml_11_154, w_CK_isPool⟩ hy_CK_isPool ⟨rfl, rfl⟩ ⟨Nat.le_of_ble_eq_true rfl, Nat.le_of_ble_eq_true rfl⟩ ⟨Nat.zero_le _, Nat.zero_le _⟩ rfl (Nat.le_of_ble_eq_true rfl) dX11_missing_2 ?_
  refine z_if_eq (tgt := 16) ok dX11_missing_5 (by decide) hf (fun _ hf => ?_) (fun _ hf => ?_)
  · refine z_ldcw (v := (-1000000)) ok dX11_missing_16 wc_11_294 ?_
    obtain rfl := Option.some.inj hf
    exact hk _ _ dX11_missing_19
  · refine z_aload_n ok dX11_missing_8 0 rfl ?_
    refine z_iload_n ok dX11_missing_9 2 rfl ?_
    refine z_call hf (fun r10 h10 hf => ?_)
    refine z_cV (As := [.int x2]) (rest := []) (w := 0) ok kc_0 zc_11 (c_CK_wereSteps h10) rfl ⟨ml_11_291, w_CK_wereSteps⟩ hy_CK_wereSteps ⟨rfl, rfl⟩ ⟨Nat.le_of_ble_eq_true rfl, Nat.le_of_ble_eq_true rfl⟩ ⟨Nat.zero_le _, Nat.zero_le _⟩ rfl (Nat.le_of_ble_eq_true rfl) dX11_missing_10 ?_
    refine z_if_ne (tgt := 20) ok dX11_missing_13 (by decide) hf (fun _ hf => ?_) (fun _ hf => ?_)
    · refine z_ldcw (v := (-1000000)) ok dX11_missing_16 wc_11_294 ?_
      obtain rfl := Option.some.inj hf
      exact hk _ _ dX11_missing_19
    · refine z_aload_n ok dX11_missing_20 0 rfl ?_
      refine z_getr (q := 55) ok kc_0 zc_11 hin_11 8 (by decide) fl_11_37 rfl dX11_missing_21 ?_
      refine z_getr (q := 56) ok kc_55 zc_1 hin_1 0 (by decide) fl_11_126 rfl dX11_missing_24 ?_
      refine z_geti ok kc_56 zc_9 hin_9 0 (by decide) fl_11_130 rfl dX11_missing_27 hf (fun v27 hf => ?_)
      refine z_iload_n ok dX11_missing_30 2 rfl ?_
      refine z_isub ok dX11_missing_31 ?_
      refine z_nm hf (fun v32 hf => ?_)
      refine z_istore_n (lv' := [(3, .int v32), (0, .ref (X.ad 0)), (1, .int x1), (2, .int x2)]) ok dX11_missing_32 (by decide) rfl ?_
      refine z_aload_n ok dX11_missing_33 1 rfl ?_
      refine z_getr (q := 55) ok kc_0 zc_11 hin_11 8 (by decide) fl_11_37 rfl dX11_missing_34 ?_
      refine z_getr (q := 77) ok kc_55 zc_1 hin_1 2 (by decide) fl_11_141 rfl dX11_missing_37 ?_
      refine z_iload_n ok dX11_missing_40 2 rfl ?_
      refine z_iload_n ok dX11_missing_41 0 rfl ?_
      refine z_iconst (v := 2) ok dX11_missing_42 (by decide) ?_
      refine z_call hf (fun r43 h43 hf => ?_)
      refine z_cV (As := [.int x1, .int v32, .int 2]) (rest := []) (w := 77) ok kc_77 zc_0 (c_Log_flowOf kI_Log_77 h43) rfl ⟨ml_11_214, w_Log_flowOf⟩ hy_Log_flowOf ⟨rfl, rfl⟩ ⟨Nat.le_of_ble_eq_true rfl, Nat.le_of_ble_eq_true rfl⟩ ⟨Nat.zero_le _, Nat.zero_le _⟩ rfl (Nat.le_of_ble_eq_true rfl) dX11_missing_43 ?_
      refine z_aload_n ok dX11_missing_46 1 rfl ?_
      refine z_getr (q := 55) ok kc_0 zc_11 hin_11 8 (by decide) fl_11_37 rfl dX11_missing_47 ?_
      refine z_getr (q := 56) ok kc_55 zc_1 hin_1 0 (by decide) fl_11_126 rfl dX11_missing_50 ?_
      refine z_getr (q := 57) ok kc_56 zc_9 hin_9 3 (by decide) fl_11_179 rfl dX11_missing_53 ?_
      refine z_iload_n ok dX11_missing_56 2 rfl ?_
      refine z_iald ok kc_57 dX11_missing_57 hf (fun v57 hf => ?_)
      refine z_isub ok dX11_missing_58 ?_
      refine z_nm hf (fun v59 hf => ?_)
      refine z_istore (lv' := [(4, .int v59), (3, .int v32), (0, .ref (X.ad 0)), (1, .int x1), (2, .int x2)]) ok dX11_missing_59 (by decide) rfl ?_
      refine z_iconst (v := 0) ok dX11_missing_61 (by decide) ?_
      refine z_nm hf (fun v62 hf => ?_)
      refine z_istore (lv' := [(5, .int v62), (4, .int v59), (3, .int v32), (0, .ref (X.ad 0)), (1, .int x1), (2, .int x2)]) ok dX11_missing_62 (by decide) rfl ?_
      refine z_call hf (fun r hr hf => ?_)
      refine z_sub [3, 4, 5, 2, 1, 0] rfl (z_iter (fun (s : (Int32 × Int32)) => σ) (fun (s : (Int32 × Int32)) => [(0, .ref (X.ad 0)), (1, .int x1), (2, .int x2), (3, .int v32), (4, .int s.1), (5, .int s.2)]) (fun s o h1 h2 => t_CK_missing_l64 ok h1 h2) _ _ _ hr ?_)
      show ZAt X Q 0 0 114 σ [(4, .int r.1)] []
      refine z_iload ok dX11_missing_114 0 rfl ?_
      obtain rfl := Option.some.inj hf
      exact hk _ _ dX11_missing_116
theorem c_CK_missing {σ : Sg} {x1 : Int32} {x2 : Int32} {r : Int32} (h : CK_missing σ x1 x2 = some r) : ZcI yX11_missing cX11_missing 6 .int rm_CK_missing 198 (fun ad => [.ref (ad 0), .int x1, .int x2]) σ r σ :=
  zmetI pn_11 rfl (fun _ => rfl) (fun _ => Nat.le_of_ble_eq_true rfl) rfl (fun X Q ok hk => t_CK_missing ok h hk)
theorem dX6_planOutlet_0 : decode cX6_planOutlet 0 = .ok (.iconst 0, 1) := by decide +kernel
theorem dX6_planOutlet_1 : decode cX6_planOutlet 1 = .ok (.istore 4, 2) := by decide +kernel
theorem dX6_planOutlet_3 : decode cX6_planOutlet 3 = .ok (.iload 4, 2) := by decide +kernel
theorem dX6_planOutlet_5 : decode cX6_planOutlet 5 = .ok (.aload_n 0, 1) := by decide +kernel
theorem dX6_planOutlet_6 : decode cX6_planOutlet 6 = .ok (.getfield 42, 3) := by decide +kernel
theorem dX6_planOutlet_9 : decode cX6_planOutlet 9 = .ok (.if_icmp .gt 40, 3) := by decide +kernel
theorem dX6_planOutlet_12 : decode cX6_planOutlet 12 = .ok (.aload_n 0, 1) := by decide +kernel
theorem dX6_planOutlet_13 : decode cX6_planOutlet 13 = .ok (.getfield 13, 3) := by decide +kernel
theorem dX6_planOutlet_16 : decode cX6_planOutlet 16 = .ok (.iload_n 3, 1) := by decide +kernel
theorem dX6_planOutlet_17 : decode cX6_planOutlet 17 = .ok (.aaload, 1) := by decide +kernel
theorem dX6_planOutlet_18 : decode cX6_planOutlet 18 = .ok (.iload 4, 2) := by decide +kernel
theorem dX6_planOutlet_20 : decode cX6_planOutlet 20 = .ok (.aload_n 1, 1) := by decide +kernel
theorem dX6_planOutlet_21 : decode cX6_planOutlet 21 = .ok (.aload_n 2, 1) := by decide +kernel
theorem dX6_planOutlet_22 : decode cX6_planOutlet 22 = .ok (.iload_n 3, 1) := by decide +kernel
theorem dX6_planOutlet_23 : decode cX6_planOutlet 23 = .ok (.aload_n 0, 1) := by decide +kernel
theorem dX6_planOutlet_24 : decode cX6_planOutlet 24 = .ok (.getfield 21, 3) := by decide +kernel
theorem dX6_planOutlet_27 : decode cX6_planOutlet 27 = .ok (.iload 4, 2) := by decide +kernel
theorem dX6_planOutlet_29 : decode cX6_planOutlet 29 = .ok (.iadd, 1) := by decide +kernel
theorem dX6_planOutlet_30 : decode cX6_planOutlet 30 = .ok (.invokevirtual 56, 3) := by decide +kernel
theorem dX6_planOutlet_33 : decode cX6_planOutlet 33 = .ok (.ifCond .eq 7, 3) := by decide +kernel
theorem dX6_planOutlet_36 : decode cX6_planOutlet 36 = .ok (.iconst 1, 1) := by decide +kernel
theorem dX6_planOutlet_37 : decode cX6_planOutlet 37 = .ok (.goto 4, 3) := by decide +kernel
theorem dX6_planOutlet_40 : decode cX6_planOutlet 40 = .ok (.iconst 0, 1) := by decide +kernel
theorem dX6_planOutlet_41 : decode cX6_planOutlet 41 = .ok (.i2b, 1) := by decide +kernel
theorem dX6_planOutlet_42 : decode cX6_planOutlet 42 = .ok (.bastore, 1) := by decide +kernel
theorem dX6_planOutlet_43 : decode cX6_planOutlet 43 = .ok (.iinc 4 1, 3) := by decide +kernel
theorem dX6_planOutlet_46 : decode cX6_planOutlet 46 = .ok (.goto (-43), 3) := by decide +kernel
theorem dX6_planOutlet_49 : decode cX6_planOutlet 49 = .ok (.return_, 1) := by decide +kernel
abbrev rm_Schedule_planOutlet : Room := { frames := 2, cells := 0, slots := 0, locals := 46 }
def Schedule_planOutlet_l3 (σ : Sg) (p1 : Nat) (p2 : Nat) (x3 : Int32) (x4 : Int32) : Option ((Sg × Int32) ⊕ (Sg × Int32)) :=
  zgt σ 103 2 fun v6 =>
  if v6 < x4 then (
    some (.inr (σ, x4))
  ) else (
    zelr 105 10 x3 fun q17 =>
    zgt σ 103 0 fun v24 =>
    (Works_isOpen σ p1 p2 x3 (v24 + x4)).bind fun r30 =>
    if (zb r30) = 0 then (
      zwr σ q17 273 x4 (vp_nar .byte ((Int32.toInt8 0).toInt32)) fun σ42 =>
      zlt (x4 + 1) fun v43 =>
      some (.inl (σ42, v43))
    ) else (
      zwr σ q17 273 x4 (vp_nar .byte ((Int32.toInt8 1).toInt32)) fun σ42 =>
      zlt (x4 + 1) fun v43 =>
      some (.inl (σ42, v43))
    )
  )
set_option maxRecDepth 20000 in
theorem t_Schedule_planOutlet_l3 {X : Zx} {Q : State → Prop} {σ : Sg} {p1 : Nat} {p2 : Nat} {x3 : Int32} {x4 : Int32} (ok : Zok X cX6_planOutlet RX6 rm_Schedule_planOutlet 198 5) (hp1 : zI_Works p1 198) (hp2 : zI_Orders p2 198) {out : ((Sg × Int32) ⊕ (Sg × Int32))} (hf : Schedule_planOutlet_l3 σ p1 p2 x3 x4 = some out) (hk : zout (fun (s : (Sg × Int32)) => ZAt X Q 0 0 3 s.1 [(0, .ref (X.ad 103)), (1, .ref (X.ad p1)), (2, .ref (X.ad p2)), (3, .int x3), (4, .int s.2)] []) (fun (s : (Sg × Int32)) => ZAt X Q 0 0 49 s.1 [] []) out) : ZAt X Q 0 0 3 σ [(0, .ref (X.ad 103)), (1, .ref (X.ad p1)), (2, .ref (X.ad p2)), (3, .int x3), (4, .int x4)] [] := by
  unfold Schedule_planOutlet_l3 at hf
  obtain ⟨hp1_0, hp1_1, hp1_2, hp1_3, hp1_4, hp1_5, hp1_6, hp1_7, hp1_8, hp1_9, hp1_10, hp1_11, hp1_12, hp1_13, hp1_14, hp1_15, hp1_16, hp1_17, hp1_18, hp1_19, hp1_20, hp1_21, hp1_22, hp1_23, hp1_24, hp1_25⟩ := id hp1
  obtain ⟨hp2_0, hp2_1, hp2_2, hp2_3⟩ := id hp2
  refine z_iload ok dX6_planOutlet_3 4 rfl ?_
  refine z_aload_n ok dX6_planOutlet_5 0 rfl ?_
  refine z_geti ok kc_103 zc_6 hin_6 2 (by decide) fl_6_42 rfl dX6_planOutlet_6 hf (fun v6 hf => ?_)
  refine z_icmp_gt (tgt := 49) ok dX6_planOutlet_9 (by decide) hf (fun _ hf => ?_) (fun _ hf => ?_)
  · obtain rfl := Option.some.inj hf
    exact z_sub [] rfl hk
  · refine z_aload_n ok dX6_planOutlet_12 0 rfl ?_
    refine z_getr (q := 104) ok kc_103 zc_6 hin_6 3 (by decide) fl_6_13 rfl dX6_planOutlet_13 ?_
    refine z_iload_n ok dX6_planOutlet_16 3 rfl ?_
    refine z_aaldr (p := 105) ok kc_104 (by decide) rfl dX6_planOutlet_17 hf (fun q17 e17 hf => ?_)
    have hq17 : zk q17 198 (.inr (1, 273, [])) := (show ∀ q ∈ [105, 106, 107, 108, 109, 110, 111, 112, 113, 114], zk q 198 (.inr (1, 273, [])) from (List.forall_mem_cons.mpr ⟨kc_105, (List.forall_mem_cons.mpr ⟨kc_106, (List.forall_mem_cons.mpr ⟨kc_107, (List.forall_mem_cons.mpr ⟨kc_108, (List.forall_mem_cons.mpr ⟨kc_109, (List.forall_mem_cons.mpr ⟨kc_110, (List.forall_mem_cons.mpr ⟨kc_111, (List.forall_mem_cons.mpr ⟨kc_112, (List.forall_mem_cons.mpr ⟨kc_113, (List.forall_mem_cons.mpr ⟨kc_114, (fun _ h => absurd h List.not_mem_nil)⟩)⟩)⟩)⟩)⟩)⟩)⟩)⟩)⟩)⟩)) q17 e17
    refine z_iload ok dX6_planOutlet_18 4 rfl ?_
    refine z_aload_n ok dX6_planOutlet_20 1 rfl ?_
    refine z_aload_n ok dX6_planOutlet_21 2 rfl ?_
    refine z_iload_n ok dX6_planOutlet_22 3 rfl ?_
    refine z_aload_n ok dX6_planOutlet_23 0 rfl ?_
    refine z_geti ok kc_103 zc_6 hin_6 0 (by decide) fl_6_21 rfl dX6_planOutlet_24 hf (fun v24 hf => ?_)
    refine z_iload ok dX6_planOutlet_27 4 rfl ?_
    refine z_iadd ok dX6_planOutlet_29 ?_
    refine z_call hf (fun r30 h30 hf => ?_)
    refine z_cV (As := [.ref (X.ad p2), .int x3, .int (v24 + x4)]) (rest := [.int x4, .ref (X.ad q17)]) (w := p1) ok hp1_0 zc_10 (c_Works_isOpen hp1 hp2 h30) rfl ⟨ml_6_56, w_Works_isOpen⟩ hy_Works_isOpen ⟨rfl, rfl⟩ ⟨Nat.le_of_ble_eq_true rfl, Nat.le_of_ble_eq_true rfl⟩ ⟨Nat.zero_le _, Nat.zero_le _⟩ rfl (Nat.le_of_ble_eq_true rfl) dX6_planOutlet_30 ?_
    refine z_if_eq (tgt := 40) ok dX6_planOutlet_33 (by decide) hf (fun _ hf => ?_) (fun _ hf => ?_)
    · refine z_iconst (v := 0) ok dX6_planOutlet_40 (by decide) ?_
      refine z_i2b ok dX6_planOutlet_41 ?_
      refine z_bast ok hq17 dX6_planOutlet_42 hf (fun σ42 hf => ?_)
      refine z_iinc (w := 1) (lv' := fun v43 => [(4, .int v43), (0, .ref (X.ad 103)), (1, .ref (X.ad p1)), (2, .ref (X.ad p2)), (3, .int x3)]) ok dX6_planOutlet_43 4 rfl (by decide) (by decide) (fun _ => rfl) hf (fun v43 hf => ?_)
      refine z_goto (tgt := 3) ok dX6_planOutlet_46 (by decide) ?_
      obtain rfl := Option.some.inj hf
      exact z_sub [1, 2, 3, 4, 0] rfl hk
    · refine z_iconst (v := 1) ok dX6_planOutlet_36 (by decide) ?_
      refine z_goto (tgt := 41) ok dX6_planOutlet_37 (by decide) ?_
      refine z_i2b ok dX6_planOutlet_41 ?_
      refine z_bast ok hq17 dX6_planOutlet_42 hf (fun σ42 hf => ?_)
      refine z_iinc (w := 1) (lv' := fun v43 => [(4, .int v43), (0, .ref (X.ad 103)), (1, .ref (X.ad p1)), (2, .ref (X.ad p2)), (3, .int x3)]) ok dX6_planOutlet_43 4 rfl (by decide) (by decide) (fun _ => rfl) hf (fun v43 hf => ?_)
      refine z_goto (tgt := 3) ok dX6_planOutlet_46 (by decide) ?_
      obtain rfl := Option.some.inj hf
      exact z_sub [1, 2, 3, 4, 0] rfl hk
def Schedule_planOutlet (σ : Sg) (p1 : Nat) (p2 : Nat) (x3 : Int32) : Option Sg :=
  zlt 0 fun v1 =>
  (zit (fun (s : (Sg × Int32)) => Schedule_planOutlet_l3 s.1 p1 p2 x3 s.2) zFU (σ, v1)).bind fun r =>
  some r.1
set_option maxRecDepth 20000 in
theorem t_Schedule_planOutlet {X : Zx} {Q : State → Prop} {σ : Sg} {p1 : Nat} {p2 : Nat} {x3 : Int32} (ok : Zok X cX6_planOutlet RX6 rm_Schedule_planOutlet 198 5) (hp1 : zI_Works p1 198) (hp2 : zI_Orders p2 198) {out : Sg} (hf : Schedule_planOutlet σ p1 p2 x3 = some out) (hk : ZrV cX6_planOutlet X Q out) : ZAt X Q 0 0 0 σ [(0, .ref (X.ad 103)), (1, .ref (X.ad p1)), (2, .ref (X.ad p2)), (3, .int x3)] [] := by
  unfold Schedule_planOutlet at hf
  obtain ⟨hp1_0, hp1_1, hp1_2, hp1_3, hp1_4, hp1_5, hp1_6, hp1_7, hp1_8, hp1_9, hp1_10, hp1_11, hp1_12, hp1_13, hp1_14, hp1_15, hp1_16, hp1_17, hp1_18, hp1_19, hp1_20, hp1_21, hp1_22, hp1_23, hp1_24, hp1_25⟩ := id hp1
  obtain ⟨hp2_0, hp2_1, hp2_2, hp2_3⟩ := id hp2
  refine z_iconst (v := 0) ok dX6_planOutlet_0 (by decide) ?_
  refine z_nm hf (fun v1 hf => ?_)
  refine z_istore (lv' := [(4, .int v1), (0, .ref (X.ad 103)), (1, .ref (X.ad p1)), (2, .ref (X.ad p2)), (3, .int x3)]) ok dX6_planOutlet_1 (by decide) rfl ?_
  refine z_call hf (fun r hr hf => ?_)
  refine z_sub [1, 2, 3, 4, 0] rfl (z_iter (fun (s : (Sg × Int32)) => s.1) (fun (s : (Sg × Int32)) => [(0, .ref (X.ad 103)), (1, .ref (X.ad p1)), (2, .ref (X.ad p2)), (3, .int x3), (4, .int s.2)]) (fun s o h1 h2 => t_Schedule_planOutlet_l3 ok hp1 hp2 h1 h2) _ _ _ hr ?_)
  show ZAt X Q 0 0 49 r.1 [] []
  obtain rfl := Option.some.inj hf
  exact hk _ _ dX6_planOutlet_49
theorem c_Schedule_planOutlet {σ : Sg} {p1 : Nat} {p2 : Nat} {x3 : Int32} (hp1 : zI_Works p1 198) (hp2 : zI_Orders p2 198) {r : Sg} (h : Schedule_planOutlet σ p1 p2 x3 = some r) : ZcV yX6_planOutlet cX6_planOutlet 5 rm_Schedule_planOutlet 198 (fun ad => [.ref (ad 103), .ref (ad p1), .ref (ad p2), .int x3]) σ r :=
  zmetV pn_6 rfl (fun _ => rfl) (fun _ => Nat.le_of_ble_eq_true rfl) (fun X Q ok hk => t_Schedule_planOutlet ok hp1 hp2 h hk)
theorem dX6_addDemand_0 : decode cX6_addDemand 0 = .ok (.aload_n 1, 1) := by decide +kernel
theorem dX6_addDemand_1 : decode cX6_addDemand 1 = .ok (.iload_n 2, 1) := by decide +kernel
theorem dX6_addDemand_2 : decode cX6_addDemand 2 = .ok (.aload_n 1, 1) := by decide +kernel
theorem dX6_addDemand_3 : decode cX6_addDemand 3 = .ok (.getfield 60, 3) := by decide +kernel
theorem dX6_addDemand_6 : decode cX6_addDemand 6 = .ok (.iload_n 3, 1) := by decide +kernel
theorem dX6_addDemand_7 : decode cX6_addDemand 7 = .ok (.iaload, 1) := by decide +kernel
theorem dX6_addDemand_8 : decode cX6_addDemand 8 = .ok (.invokevirtual 39, 3) := by decide +kernel
theorem dX6_addDemand_11 : decode cX6_addDemand 11 = .ok (.istore 4, 2) := by decide +kernel
theorem dX6_addDemand_13 : decode cX6_addDemand 13 = .ok (.iconst 0, 1) := by decide +kernel
theorem dX6_addDemand_14 : decode cX6_addDemand 14 = .ok (.istore 5, 2) := by decide +kernel
theorem dX6_addDemand_16 : decode cX6_addDemand 16 = .ok (.iload 5, 2) := by decide +kernel
theorem dX6_addDemand_18 : decode cX6_addDemand 18 = .ok (.aload_n 0, 1) := by decide +kernel
theorem dX6_addDemand_19 : decode cX6_addDemand 19 = .ok (.getfield 31, 3) := by decide +kernel
theorem dX6_addDemand_22 : decode cX6_addDemand 22 = .ok (.if_icmp .gt 52, 3) := by decide +kernel
theorem dX6_addDemand_25 : decode cX6_addDemand 25 = .ok (.iload 5, 2) := by decide +kernel
theorem dX6_addDemand_27 : decode cX6_addDemand 27 = .ok (.iload 4, 2) := by decide +kernel
theorem dX6_addDemand_29 : decode cX6_addDemand 29 = .ok (.iadd, 1) := by decide +kernel
theorem dX6_addDemand_30 : decode cX6_addDemand 30 = .ok (.aload_n 0, 1) := by decide +kernel
theorem dX6_addDemand_31 : decode cX6_addDemand 31 = .ok (.getfield 42, 3) := by decide +kernel
theorem dX6_addDemand_34 : decode cX6_addDemand 34 = .ok (.if_icmp .gt 40, 3) := by decide +kernel
theorem dX6_addDemand_37 : decode cX6_addDemand 37 = .ok (.aload_n 0, 1) := by decide +kernel
theorem dX6_addDemand_38 : decode cX6_addDemand 38 = .ok (.getfield 18, 3) := by decide +kernel
theorem dX6_addDemand_41 : decode cX6_addDemand 41 = .ok (.iload_n 2, 1) := by decide +kernel
theorem dX6_addDemand_42 : decode cX6_addDemand 42 = .ok (.aaload, 1) := by decide +kernel
theorem dX6_addDemand_43 : decode cX6_addDemand 43 = .ok (.iload 5, 2) := by decide +kernel
theorem dX6_addDemand_45 : decode cX6_addDemand 45 = .ok (.dup2, 1) := by decide +kernel
theorem dX6_addDemand_46 : decode cX6_addDemand 46 = .ok (.iaload, 1) := by decide +kernel
theorem dX6_addDemand_47 : decode cX6_addDemand 47 = .ok (.aload_n 0, 1) := by decide +kernel
theorem dX6_addDemand_48 : decode cX6_addDemand 48 = .ok (.getfield 13, 3) := by decide +kernel
theorem dX6_addDemand_51 : decode cX6_addDemand 51 = .ok (.iload_n 3, 1) := by decide +kernel
theorem dX6_addDemand_52 : decode cX6_addDemand 52 = .ok (.aaload, 1) := by decide +kernel
theorem dX6_addDemand_53 : decode cX6_addDemand 53 = .ok (.iload 5, 2) := by decide +kernel
theorem dX6_addDemand_55 : decode cX6_addDemand 55 = .ok (.iload 4, 2) := by decide +kernel
theorem dX6_addDemand_57 : decode cX6_addDemand 57 = .ok (.iadd, 1) := by decide +kernel
theorem dX6_addDemand_58 : decode cX6_addDemand 58 = .ok (.baload, 1) := by decide +kernel
theorem dX6_addDemand_59 : decode cX6_addDemand 59 = .ok (.aload_n 1, 1) := by decide +kernel
theorem dX6_addDemand_60 : decode cX6_addDemand 60 = .ok (.getfield 68, 3) := by decide +kernel
theorem dX6_addDemand_63 : decode cX6_addDemand 63 = .ok (.iload_n 3, 1) := by decide +kernel
theorem dX6_addDemand_64 : decode cX6_addDemand 64 = .ok (.iaload, 1) := by decide +kernel
theorem dX6_addDemand_65 : decode cX6_addDemand 65 = .ok (.imul, 1) := by decide +kernel
theorem dX6_addDemand_66 : decode cX6_addDemand 66 = .ok (.iadd, 1) := by decide +kernel
theorem dX6_addDemand_67 : decode cX6_addDemand 67 = .ok (.iastore, 1) := by decide +kernel
theorem dX6_addDemand_68 : decode cX6_addDemand 68 = .ok (.iinc 5 1, 3) := by decide +kernel
theorem dX6_addDemand_71 : decode cX6_addDemand 71 = .ok (.goto (-55), 3) := by decide +kernel
theorem dX6_addDemand_74 : decode cX6_addDemand 74 = .ok (.return_, 1) := by decide +kernel
abbrev rm_Schedule_addDemand : Room := { frames := 1, cells := 0, slots := 0, locals := 24 }
def Schedule_addDemand_l16 (σ : Sg) (p1 : Nat) (x2 : Int32) (x3 : Int32) (x4 : Int32) (x5 : Int32) : Option ((Sg × Int32) ⊕ (Sg × Int32)) :=
  zgt σ 103 1 fun v19 =>
  if v19 < x5 then (
    some (.inr (σ, x5))
  ) else (
    zgt σ 103 2 fun v31 =>
    if v31 < (x5 + x4) then (
      some (.inr (σ, x5))
    ) else (
      zelr 116 8 x2 fun q42 =>
      zrd σ q42 201 x5 fun v46 =>
      zelr 105 10 x3 fun q52 =>
      zrd σ q52 273 (x5 + x4) fun v58 =>
      zrd σ (p1 + 15) 10 x3 fun v64 =>
      zwr σ q42 201 x5 (v46 + (v58 * v64)) fun σ67 =>
      zlt (x5 + 1) fun v68 =>
      some (.inl (σ67, v68))
    )
  )
set_option maxRecDepth 20000 in
theorem t_Schedule_addDemand_l16 {X : Zx} {Q : State → Prop} {σ : Sg} {p1 : Nat} {x2 : Int32} {x3 : Int32} {x4 : Int32} {x5 : Int32} (ok : Zok X cX6_addDemand RX6 rm_Schedule_addDemand 198 6) (hp1 : zI_Works p1 198) {out : ((Sg × Int32) ⊕ (Sg × Int32))} (hf : Schedule_addDemand_l16 σ p1 x2 x3 x4 x5 = some out) (hk : zout (fun (s : (Sg × Int32)) => ZAt X Q 0 0 16 s.1 [(0, .ref (X.ad 103)), (1, .ref (X.ad p1)), (2, .int x2), (3, .int x3), (4, .int x4), (5, .int s.2)] []) (fun (s : (Sg × Int32)) => ZAt X Q 0 0 74 s.1 [] []) out) : ZAt X Q 0 0 16 σ [(0, .ref (X.ad 103)), (1, .ref (X.ad p1)), (2, .int x2), (3, .int x3), (4, .int x4), (5, .int x5)] [] := by
  unfold Schedule_addDemand_l16 at hf
  obtain ⟨hp1_0, hp1_1, hp1_2, hp1_3, hp1_4, hp1_5, hp1_6, hp1_7, hp1_8, hp1_9, hp1_10, hp1_11, hp1_12, hp1_13, hp1_14, hp1_15, hp1_16, hp1_17, hp1_18, hp1_19, hp1_20, hp1_21, hp1_22, hp1_23, hp1_24, hp1_25⟩ := id hp1
  refine z_iload ok dX6_addDemand_16 5 rfl ?_
  refine z_aload_n ok dX6_addDemand_18 0 rfl ?_
  refine z_geti ok kc_103 zc_6 hin_6 1 (by decide) fl_6_31 rfl dX6_addDemand_19 hf (fun v19 hf => ?_)
  refine z_icmp_gt (tgt := 74) ok dX6_addDemand_22 (by decide) hf (fun _ hf => ?_) (fun _ hf => ?_)
  · obtain rfl := Option.some.inj hf
    exact z_sub [] rfl hk
  · refine z_iload ok dX6_addDemand_25 5 rfl ?_
    refine z_iload ok dX6_addDemand_27 4 rfl ?_
    refine z_iadd ok dX6_addDemand_29 ?_
    refine z_aload_n ok dX6_addDemand_30 0 rfl ?_
    refine z_geti ok kc_103 zc_6 hin_6 2 (by decide) fl_6_42 rfl dX6_addDemand_31 hf (fun v31 hf => ?_)
    refine z_icmp_gt (tgt := 74) ok dX6_addDemand_34 (by decide) hf (fun _ hf => ?_) (fun _ hf => ?_)
    · obtain rfl := Option.some.inj hf
      exact z_sub [] rfl hk
    · refine z_aload_n ok dX6_addDemand_37 0 rfl ?_
      refine z_getr (q := 115) ok kc_103 zc_6 hin_6 4 (by decide) fl_6_18 rfl dX6_addDemand_38 ?_
      refine z_iload_n ok dX6_addDemand_41 2 rfl ?_
      refine z_aaldr (p := 116) ok kc_115 (by decide) rfl dX6_addDemand_42 hf (fun q42 e42 hf => ?_)
      have hq42 : zk q42 198 (.inr (0, 201, [])) := (show ∀ q ∈ [116, 117, 118, 119, 120, 121, 122, 123], zk q 198 (.inr (0, 201, [])) from (List.forall_mem_cons.mpr ⟨kc_116, (List.forall_mem_cons.mpr ⟨kc_117, (List.forall_mem_cons.mpr ⟨kc_118, (List.forall_mem_cons.mpr ⟨kc_119, (List.forall_mem_cons.mpr ⟨kc_120, (List.forall_mem_cons.mpr ⟨kc_121, (List.forall_mem_cons.mpr ⟨kc_122, (List.forall_mem_cons.mpr ⟨kc_123, (fun _ h => absurd h List.not_mem_nil)⟩)⟩)⟩)⟩)⟩)⟩)⟩)⟩)) q42 e42
      refine z_iload ok dX6_addDemand_43 5 rfl ?_
      refine z_dup2 ok dX6_addDemand_45 rfl rfl ?_
      refine z_iald ok hq42 dX6_addDemand_46 hf (fun v46 hf => ?_)
      refine z_aload_n ok dX6_addDemand_47 0 rfl ?_
      refine z_getr (q := 104) ok kc_103 zc_6 hin_6 3 (by decide) fl_6_13 rfl dX6_addDemand_48 ?_
      refine z_iload_n ok dX6_addDemand_51 3 rfl ?_
      refine z_aaldr (p := 105) ok kc_104 (by decide) rfl dX6_addDemand_52 hf (fun q52 e52 hf => ?_)
      have hq52 : zk q52 198 (.inr (1, 273, [])) := (show ∀ q ∈ [105, 106, 107, 108, 109, 110, 111, 112, 113, 114], zk q 198 (.inr (1, 273, [])) from (List.forall_mem_cons.mpr ⟨kc_105, (List.forall_mem_cons.mpr ⟨kc_106, (List.forall_mem_cons.mpr ⟨kc_107, (List.forall_mem_cons.mpr ⟨kc_108, (List.forall_mem_cons.mpr ⟨kc_109, (List.forall_mem_cons.mpr ⟨kc_110, (List.forall_mem_cons.mpr ⟨kc_111, (List.forall_mem_cons.mpr ⟨kc_112, (List.forall_mem_cons.mpr ⟨kc_113, (List.forall_mem_cons.mpr ⟨kc_114, (fun _ h => absurd h List.not_mem_nil)⟩)⟩)⟩)⟩)⟩)⟩)⟩)⟩)⟩)⟩)) q52 e52
      refine z_iload ok dX6_addDemand_53 5 rfl ?_
      refine z_iload ok dX6_addDemand_55 4 rfl ?_
      refine z_iadd ok dX6_addDemand_57 ?_
      refine z_bald ok hq52 dX6_addDemand_58 hf (fun v58 hf => ?_)
      refine z_aload_n ok dX6_addDemand_59 1 rfl ?_
      refine z_getr (q := (p1 + 15)) ok hp1_0 zc_10 hin_10 10 (by decide) fl_6_68 rfl dX6_addDemand_60 ?_
      refine z_iload_n ok dX6_addDemand_63 3 rfl ?_
      refine z_iald ok hp1_15 dX6_addDemand_64 hf (fun v64 hf => ?_)
      refine z_imul ok dX6_addDemand_65 ?_
      refine z_iadd ok dX6_addDemand_66 ?_
      refine z_iast ok hq42 dX6_addDemand_67 hf (fun σ67 hf => ?_)
      refine z_iinc (w := 1) (lv' := fun v68 => [(5, .int v68), (0, .ref (X.ad 103)), (1, .ref (X.ad p1)), (2, .int x2), (3, .int x3), (4, .int x4)]) ok dX6_addDemand_68 5 rfl (by decide) (by decide) (fun _ => rfl) hf (fun v68 hf => ?_)
      refine z_goto (tgt := 16) ok dX6_addDemand_71 (by decide) ?_
      obtain rfl := Option.some.inj hf
      exact z_sub [1, 2, 3, 4, 5, 0] rfl hk
def Schedule_addDemand (σ : Sg) (p1 : Nat) (x2 : Int32) (x3 : Int32) : Option Sg :=
  zrd σ (p1 + 14) 10 x3 fun v7 =>
  (Works_needs σ p1 x2 v7).bind fun r8 =>
  zlt r8 fun v11 =>
  zlt 0 fun v14 =>
  (zit (fun (s : (Sg × Int32)) => Schedule_addDemand_l16 s.1 p1 x2 x3 v11 s.2) zFU (σ, v14)).bind fun r =>
  some r.1
set_option maxRecDepth 20000 in
theorem t_Schedule_addDemand {X : Zx} {Q : State → Prop} {σ : Sg} {p1 : Nat} {x2 : Int32} {x3 : Int32} (ok : Zok X cX6_addDemand RX6 rm_Schedule_addDemand 198 6) (hp1 : zI_Works p1 198) {out : Sg} (hf : Schedule_addDemand σ p1 x2 x3 = some out) (hk : ZrV cX6_addDemand X Q out) : ZAt X Q 0 0 0 σ [(0, .ref (X.ad 103)), (1, .ref (X.ad p1)), (2, .int x2), (3, .int x3)] [] := by
  unfold Schedule_addDemand at hf
  obtain ⟨hp1_0, hp1_1, hp1_2, hp1_3, hp1_4, hp1_5, hp1_6, hp1_7, hp1_8, hp1_9, hp1_10, hp1_11, hp1_12, hp1_13, hp1_14, hp1_15, hp1_16, hp1_17, hp1_18, hp1_19, hp1_20, hp1_21, hp1_22, hp1_23, hp1_24, hp1_25⟩ := id hp1
  refine z_aload_n ok dX6_addDemand_0 1 rfl ?_
  refine z_iload_n ok dX6_addDemand_1 2 rfl ?_
  refine z_aload_n ok dX6_addDemand_2 1 rfl ?_
  refine z_getr (q := (p1 + 14)) ok hp1_0 zc_10 hin_10 9 (by decide) fl_6_60 rfl dX6_addDemand_3 ?_
  refine z_iload_n ok dX6_addDemand_6 3 rfl ?_
  refine z_iald ok hp1_14 dX6_addDemand_7 hf (fun v7 hf => ?_)
  refine z_call hf (fun r8 h8 hf => ?_)
  refine z_cV (As := [.int x2, .int v7]) (rest := []) (w := p1) ok hp1_0 zc_10 (c_Works_needs hp1 h8) rfl ⟨ml_6_39, w_Works_needs⟩ hy_Works_needs ⟨rfl, rfl⟩ ⟨Nat.le_of_ble_eq_true rfl, Nat.le_of_ble_eq_true rfl⟩ ⟨Nat.zero_le _, Nat.zero_le _⟩ rfl (Nat.le_of_ble_eq_true rfl) dX6_addDemand_8 ?_
  refine z_nm hf (fun v11 hf => ?_)
  refine z_istore (lv' := [(4, .int v11), (0, .ref (X.ad 103)), (1, .ref (X.ad p1)), (2, .int x2), (3, .int x3)]) ok dX6_addDemand_11 (by decide) rfl ?_
  refine z_iconst (v := 0) ok dX6_addDemand_13 (by decide) ?_
  refine z_nm hf (fun v14 hf => ?_)
  refine z_istore (lv' := [(5, .int v14), (4, .int v11), (0, .ref (X.ad 103)), (1, .ref (X.ad p1)), (2, .int x2), (3, .int x3)]) ok dX6_addDemand_14 (by decide) rfl ?_
  refine z_call hf (fun r hr hf => ?_)
  refine z_sub [2, 3, 4, 5, 1, 0] rfl (z_iter (fun (s : (Sg × Int32)) => s.1) (fun (s : (Sg × Int32)) => [(0, .ref (X.ad 103)), (1, .ref (X.ad p1)), (2, .int x2), (3, .int x3), (4, .int v11), (5, .int s.2)]) (fun s o h1 h2 => t_Schedule_addDemand_l16 ok hp1 h1 h2) _ _ _ hr ?_)
  show ZAt X Q 0 0 74 r.1 [] []
  obtain rfl := Option.some.inj hf
  exact hk _ _ dX6_addDemand_74
theorem c_Schedule_addDemand {σ : Sg} {p1 : Nat} {x2 : Int32} {x3 : Int32} (hp1 : zI_Works p1 198) {r : Sg} (h : Schedule_addDemand σ p1 x2 x3 = some r) : ZcV yX6_addDemand cX6_addDemand 6 rm_Schedule_addDemand 198 (fun ad => [.ref (ad 103), .ref (ad p1), .int x2, .int x3]) σ r :=
  zmetV pn_6 rfl (fun _ => rfl) (fun _ => Nat.le_of_ble_eq_true rfl) (fun X Q ok hk => t_Schedule_addDemand ok hp1 h hk)
