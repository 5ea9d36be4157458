theorem kI_Water_82 : zI_Water 82 198 := ⟨kc_82, kc_83, kc_84, kc_85, kc_86, kc_87, kc_88, kc_89, kc_90, kc_91, kc_92, kc_93, kc_94, kc_95, kc_96, kc_97, kc_98⟩
theorem fl_4_12 : Cond.fieldLink RX4 12 (TX4 0).1 (TX4 0).2.1 (TX4 0).2.2.1 ∈ zT := zT_of (i := 512) (by decide +kernel) rfl
theorem fl_4_28 : Cond.fieldLink RX4 28 (TX4 2).1 (TX4 2).2.1 (TX4 2).2.2.1 ∈ zT := zT_of (i := 516) (by decide +kernel) rfl
theorem fl_4_32 : Cond.fieldLink RX4 32 (TX4 3).1 (TX4 3).2.1 (TX4 3).2.2.1 ∈ zT := zT_of (i := 518) (by decide +kernel) rfl
theorem fl_4_36 : Cond.fieldLink RX4 36 (TX4 4).1 (TX4 4).2.1 (TX4 4).2.2.1 ∈ zT := zT_of (i := 519) (by decide +kernel) rfl
theorem fl_4_40 : Cond.fieldLink RX4 40 (TX1 1).1 (TX1 1).2.1 (TX1 1).2.2.1 ∈ zT := zT_of (i := 465) (by decide +kernel) rfl
theorem fl_4_43 : Cond.fieldLink RX4 43 (TX1 0).1 (TX1 0).2.1 (TX1 0).2.2.1 ∈ zT := zT_of (i := 462) (by decide +kernel) rfl
theorem fl_4_44 : Cond.fieldLink RX4 44 (TX9 0).1 (TX9 0).2.1 (TX9 0).2.2.1 ∈ zT := zT_of (i := 381) (by decide +kernel) rfl
theorem fl_4_59 : Cond.fieldLink RX4 59 (TX10 3).1 (TX10 3).2.1 (TX10 3).2.2.1 ∈ zT := zT_of (i := 257) (by decide +kernel) rfl
theorem fl_6_34 : Cond.fieldLink RX6 34 (TX10 3).1 (TX10 3).2.1 (TX10 3).2.2.1 ∈ zT := zT_of (i := 255) (by decide +kernel) rfl
theorem fl_6_45 : Cond.fieldLink RX6 45 (TX10 7).1 (TX10 7).2.1 (TX10 7).2.2.1 ∈ zT := zT_of (i := 275) (by decide +kernel) rfl
theorem fl_9_109 : Cond.fieldLink RX9 109 (TX10 3).1 (TX10 3).2.1 (TX10 3).2.2.1 ∈ zT := zT_of (i := 260) (by decide +kernel) rfl
theorem fl_9_122 : Cond.fieldLink RX9 122 (TX10 7).1 (TX10 7).2.1 (TX10 7).2.2.1 ∈ zT := zT_of (i := 278) (by decide +kernel) rfl
theorem fl_9_131 : Cond.fieldLink RX9 131 (TX10 9).1 (TX10 9).2.1 (TX10 9).2.2.1 ∈ zT := zT_of (i := 285) (by decide +kernel) rfl
theorem fl_9_134 : Cond.fieldLink RX9 134 (TX10 10).1 (TX10 10).2.1 (TX10 10).2.2.1 ∈ zT := zT_of (i := 290) (by decide +kernel) rfl
theorem fl_9_137 : Cond.fieldLink RX9 137 (TX2 4).1 (TX2 4).2.1 (TX2 4).2.2.1 ∈ zT := zT_of (i := 358) (by decide +kernel) rfl
theorem fl_9_138 : Cond.fieldLink RX9 138 (TX2 3).1 (TX2 3).2.1 (TX2 3).2.2.1 ∈ zT := zT_of (i := 354) (by decide +kernel) rfl
theorem fl_9_147 : Cond.fieldLink RX9 147 (TX2 6).1 (TX2 6).2.1 (TX2 6).2.2.1 ∈ zT := zT_of (i := 364) (by decide +kernel) rfl
theorem fl_9_39 : Cond.fieldLink RX9 39 (TX9 11).1 (TX9 11).2.1 (TX9 11).2.2.1 ∈ zT := zT_of (i := 414) (by decide +kernel) rfl
theorem fl_9_80 : Cond.fieldLink RX9 80 (TX2 0).1 (TX2 0).2.1 (TX2 0).2.2.1 ∈ zT := zT_of (i := 343) (by decide +kernel) rfl
theorem fl_9_83 : Cond.fieldLink RX9 83 (TX2 1).1 (TX2 1).2.1 (TX2 1).2.2.1 ∈ zT := zT_of (i := 346) (by decide +kernel) rfl
theorem fl_9_86 : Cond.fieldLink RX9 86 (TX2 2).1 (TX2 2).2.1 (TX2 2).2.2.1 ∈ zT := zT_of (i := 349) (by decide +kernel) rfl
theorem fl_9_89 : Cond.fieldLink RX9 89 (TX2 5).1 (TX2 5).2.1 (TX2 5).2.2.1 ∈ zT := zT_of (i := 360) (by decide +kernel) rfl
theorem ml_4_48 : Cond.methodLink RX4 48 yX6_plan ∈ zT := zT_of (i := 1099) (by decide +kernel) rfl
theorem ml_4_52 : Cond.methodLink RX4 52 yX9_copyFrom ∈ zT := zT_of (i := 1118) (by decide +kernel) rfl
theorem ml_4_64 : Cond.methodLink RX4 64 yX9_beginStep ∈ zT := zT_of (i := 1130) (by decide +kernel) rfl
theorem ml_4_68 : Cond.methodLink RX4 68 yX9_goOn ∈ zT := zT_of (i := 1134) (by decide +kernel) rfl
theorem ml_6_25 : Cond.methodLink RX6 25 Lib.Math.min.name ∈ zT := zT_of (i := 1103) (by decide +kernel) rfl
theorem ml_6_48 : Cond.methodLink RX6 48 yX6_planOutlet ∈ zT := zT_of (i := 1105) (by decide +kernel) rfl
theorem ml_6_52 : Cond.methodLink RX6 52 yX6_sumDemands ∈ zT := zT_of (i := 1110) (by decide +kernel) rfl
theorem ml_6_64 : Cond.methodLink RX6 64 yX6_addDemand ∈ zT := zT_of (i := 1114) (by decide +kernel) rfl
theorem ml_9_100 : Cond.methodLink RX9 100 yX9_passGates ∈ zT := zT_of (i := 1152) (by decide +kernel) rfl
theorem ml_9_103 : Cond.methodLink RX9 103 yX9_spillOver ∈ zT := zT_of (i := 1156) (by decide +kernel) rfl
theorem ml_9_106 : Cond.methodLink RX9 106 yX9_moveGates ∈ zT := zT_of (i := 1160) (by decide +kernel) rfl
theorem ml_9_112 : Cond.methodLink RX9 112 yX9_arrivesIn ∈ zT := zT_of (i := 1142) (by decide +kernel) rfl
theorem ml_9_116 : Cond.methodLink RX9 116 Lib.Math.min.name ∈ zT := zT_of (i := 1143) (by decide +kernel) rfl
theorem ml_9_125 : Cond.methodLink RX9 125 yX6_isOpen ∈ zT := zT_of (i := 1148) (by decide +kernel) rfl
theorem ml_9_141 : Cond.methodLink RX9 141 yX6_demandAt ∈ zT := zT_of (i := 1164) (by decide +kernel) rfl
theorem ml_9_144 : Cond.methodLink RX9 144 yX9_wishOf ∈ zT := zT_of (i := 1168) (by decide +kernel) rfl
theorem ml_9_150 : Cond.methodLink RX9 150 yX10_heldIn ∈ zT := zT_of (i := 1169) (by decide +kernel) rfl
theorem ml_9_153 : Cond.methodLink RX9 153 Lib.Math.max.name ∈ zT := zT_of (i := 1170) (by decide +kernel) rfl
theorem ml_9_92 : Cond.methodLink RX9 92 yX9_arriveAndLeak ∈ zT := zT_of (i := 1138) (by decide +kernel) rfl
theorem ml_9_96 : Cond.methodLink RX9 96 yX9_serveOutlets ∈ zT := zT_of (i := 1144) (by decide +kernel) rfl
theorem w_Outlook_look : Cond.instanceMethod yX4_look ∈ zT ∧ Cond.selects yX4_look.cls yX4_look yX4_look ∈ zT ∧ Cond.initialized yX4_look.cls ∈ zT ∧ Cond.code yX4_look cX4_look 4 none ∈ zT := ⟨zT_of (i := 1096) (by decide +kernel) rfl, zT_of (i := 1097) (by decide +kernel) rfl, zT_of (i := 132) (by decide +kernel) rfl, zT_of (i := 1098) (by decide +kernel) rfl⟩
theorem hy_Outlook_look : yX4_look.cls ≠ "java/lang/invoke/MethodHandle" ∧ yX4_look.cls ≠ "java/lang/invoke/VarHandle" ∧ (parseMethodDescriptor yX4_look.desc).map (fun d => d.parameters.length) = some 3 := by decide +kernel
theorem w_Outlook_runOne : Cond.instanceMethod yX4_runOne ∈ zT ∧ Cond.selects yX4_runOne.cls yX4_runOne yX4_runOne ∈ zT ∧ Cond.initialized yX4_runOne.cls ∈ zT ∧ Cond.code yX4_runOne cX4_runOne 1 none ∈ zT := ⟨zT_of (i := 1127) (by decide +kernel) rfl, zT_of (i := 1128) (by decide +kernel) rfl, zT_of (i := 132) (by decide +kernel) rfl, zT_of (i := 1129) (by decide +kernel) rfl⟩
theorem hy_Outlook_runOne : yX4_runOne.cls ≠ "java/lang/invoke/MethodHandle" ∧ yX4_runOne.cls ≠ "java/lang/invoke/VarHandle" ∧ (parseMethodDescriptor yX4_runOne.desc).map (fun d => d.parameters.length) = some 0 := by decide +kernel
theorem w_Schedule_demandAt : Cond.instanceMethod yX6_demandAt ∈ zT ∧ Cond.selects yX6_demandAt.cls yX6_demandAt yX6_demandAt ∈ zT ∧ Cond.initialized yX6_demandAt.cls ∈ zT ∧ Cond.code yX6_demandAt cX6_demandAt 4 (some .int) ∈ zT := ⟨zT_of (i := 1165) (by decide +kernel) rfl, zT_of (i := 1166) (by decide +kernel) rfl, zT_of (i := 133) (by decide +kernel) rfl, zT_of (i := 1167) (by decide +kernel) rfl⟩
theorem hy_Schedule_demandAt : yX6_demandAt.cls ≠ "java/lang/invoke/MethodHandle" ∧ yX6_demandAt.cls ≠ "java/lang/invoke/VarHandle" ∧ (parseMethodDescriptor yX6_demandAt.desc).map (fun d => d.parameters.length) = some 2 := by decide +kernel
theorem w_Schedule_isOpen : Cond.instanceMethod yX6_isOpen ∈ zT ∧ Cond.selects yX6_isOpen.cls yX6_isOpen yX6_isOpen ∈ zT ∧ Cond.initialized yX6_isOpen.cls ∈ zT ∧ Cond.code yX6_isOpen cX6_isOpen 4 (some .boolean) ∈ zT := ⟨zT_of (i := 1149) (by decide +kernel) rfl, zT_of (i := 1150) (by decide +kernel) rfl, zT_of (i := 133) (by decide +kernel) rfl, zT_of (i := 1151) (by decide +kernel) rfl⟩
theorem hy_Schedule_isOpen : yX6_isOpen.cls ≠ "java/lang/invoke/MethodHandle" ∧ yX6_isOpen.cls ≠ "java/lang/invoke/VarHandle" ∧ (parseMethodDescriptor yX6_isOpen.desc).map (fun d => d.parameters.length) = some 2 := by decide +kernel
theorem w_Schedule_plan : Cond.instanceMethod yX6_plan ∈ zT ∧ Cond.selects yX6_plan.cls yX6_plan yX6_plan ∈ zT ∧ Cond.initialized yX6_plan.cls ∈ zT ∧ Cond.code yX6_plan cX6_plan 6 none ∈ zT := ⟨zT_of (i := 1100) (by decide +kernel) rfl, zT_of (i := 1101) (by decide +kernel) rfl, zT_of (i := 133) (by decide +kernel) rfl, zT_of (i := 1102) (by decide +kernel) rfl⟩
theorem hy_Schedule_plan : yX6_plan.cls ≠ "java/lang/invoke/MethodHandle" ∧ yX6_plan.cls ≠ "java/lang/invoke/VarHandle" ∧ (parseMethodDescriptor yX6_plan.desc).map (fun d => d.parameters.length) = some 4 := by decide +kernel
theorem w_Schedule_sumDemands : Cond.instanceMethod yX6_sumDemands ∈ zT ∧ Cond.selects yX6_sumDemands.cls yX6_sumDemands yX6_sumDemands ∈ zT ∧ Cond.initialized yX6_sumDemands.cls ∈ zT ∧ Cond.code yX6_sumDemands cX6_sumDemands 4 none ∈ zT := ⟨zT_of (i := 1112) (by decide +kernel) rfl, zT_of (i := 37) (by decide +kernel) rfl, zT_of (i := 133) (by decide +kernel) rfl, zT_of (i := 1113) (by decide +kernel) rfl⟩
theorem hy_Schedule_sumDemands : yX6_sumDemands.cls ≠ "java/lang/invoke/MethodHandle" ∧ yX6_sumDemands.cls ≠ "java/lang/invoke/VarHandle" ∧ (parseMethodDescriptor yX6_sumDemands.desc).map (fun d => d.parameters.length) = some 1 := by decide +kernel
theorem w_Water_arriveAndLeak : Cond.instanceMethod yX9_arriveAndLeak ∈ zT ∧ Cond.selects yX9_arriveAndLeak.cls yX9_arriveAndLeak yX9_arriveAndLeak ∈ zT ∧ Cond.initialized yX9_arriveAndLeak.cls ∈ zT ∧ Cond.code yX9_arriveAndLeak cX9_arriveAndLeak 5 none ∈ zT := ⟨zT_of (i := 1140) (by decide +kernel) rfl, zT_of (i := 39) (by decide +kernel) rfl, zT_of (i := 129) (by decide +kernel) rfl, zT_of (i := 1141) (by decide +kernel) rfl⟩
theorem hy_Water_arriveAndLeak : yX9_arriveAndLeak.cls ≠ "java/lang/invoke/MethodHandle" ∧ yX9_arriveAndLeak.cls ≠ "java/lang/invoke/VarHandle" ∧ (parseMethodDescriptor yX9_arriveAndLeak.desc).map (fun d => d.parameters.length) = some 1 := by decide +kernel
theorem w_Water_beginStep : Cond.instanceMethod yX9_beginStep ∈ zT ∧ Cond.selects yX9_beginStep.cls yX9_beginStep yX9_beginStep ∈ zT ∧ Cond.initialized yX9_beginStep.cls ∈ zT ∧ Cond.code yX9_beginStep cX9_beginStep 3 none ∈ zT := ⟨zT_of (i := 1131) (by decide +kernel) rfl, zT_of (i := 1132) (by decide +kernel) rfl, zT_of (i := 129) (by decide +kernel) rfl, zT_of (i := 1133) (by decide +kernel) rfl⟩
theorem hy_Water_beginStep : yX9_beginStep.cls ≠ "java/lang/invoke/MethodHandle" ∧ yX9_beginStep.cls ≠ "java/lang/invoke/VarHandle" ∧ (parseMethodDescriptor yX9_beginStep.desc).map (fun d => d.parameters.length) = some 1 := by decide +kernel
theorem w_Water_copyFrom : Cond.instanceMethod yX9_copyFrom ∈ zT ∧ Cond.selects yX9_copyFrom.cls yX9_copyFrom yX9_copyFrom ∈ zT ∧ Cond.initialized yX9_copyFrom.cls ∈ zT ∧ Cond.code yX9_copyFrom cX9_copyFrom 2 none ∈ zT := ⟨zT_of (i := 1119) (by decide +kernel) rfl, zT_of (i := 1120) (by decide +kernel) rfl, zT_of (i := 129) (by decide +kernel) rfl, zT_of (i := 1121) (by decide +kernel) rfl⟩
theorem hy_Water_copyFrom : yX9_copyFrom.cls ≠ "java/lang/invoke/MethodHandle" ∧ yX9_copyFrom.cls ≠ "java/lang/invoke/VarHandle" ∧ (parseMethodDescriptor yX9_copyFrom.desc).map (fun d => d.parameters.length) = some 1 := by decide +kernel
theorem w_Water_goOn : Cond.instanceMethod yX9_goOn ∈ zT ∧ Cond.selects yX9_goOn.cls yX9_goOn yX9_goOn ∈ zT ∧ Cond.initialized yX9_goOn.cls ∈ zT ∧ Cond.code yX9_goOn cX9_goOn 3 none ∈ zT := ⟨zT_of (i := 1135) (by decide +kernel) rfl, zT_of (i := 1136) (by decide +kernel) rfl, zT_of (i := 129) (by decide +kernel) rfl, zT_of (i := 1137) (by decide +kernel) rfl⟩
theorem hy_Water_goOn : yX9_goOn.cls ≠ "java/lang/invoke/MethodHandle" ∧ yX9_goOn.cls ≠ "java/lang/invoke/VarHandle" ∧ (parseMethodDescriptor yX9_goOn.desc).map (fun d => d.parameters.length) = some 2 := by decide +kernel
theorem w_Water_moveGates : Cond.instanceMethod yX9_moveGates ∈ zT ∧ Cond.selects yX9_moveGates.cls yX9_moveGates yX9_moveGates ∈ zT ∧ Cond.initialized yX9_moveGates.cls ∈ zT ∧ Cond.code yX9_moveGates cX9_moveGates 8 none ∈ zT := ⟨zT_of (i := 1162) (by decide +kernel) rfl, zT_of (i := 43) (by decide +kernel) rfl, zT_of (i := 129) (by decide +kernel) rfl, zT_of (i := 1163) (by decide +kernel) rfl⟩
theorem hy_Water_moveGates : yX9_moveGates.cls ≠ "java/lang/invoke/MethodHandle" ∧ yX9_moveGates.cls ≠ "java/lang/invoke/VarHandle" ∧ (parseMethodDescriptor yX9_moveGates.desc).map (fun d => d.parameters.length) = some 2 := by decide +kernel
theorem w_Water_passGates : Cond.instanceMethod yX9_passGates ∈ zT ∧ Cond.selects yX9_passGates.cls yX9_passGates yX9_passGates ∈ zT ∧ Cond.initialized yX9_passGates.cls ∈ zT ∧ Cond.code yX9_passGates cX9_passGates 5 none ∈ zT := ⟨zT_of (i := 1154) (by decide +kernel) rfl, zT_of (i := 41) (by decide +kernel) rfl, zT_of (i := 129) (by decide +kernel) rfl, zT_of (i := 1155) (by decide +kernel) rfl⟩
theorem hy_Water_passGates : yX9_passGates.cls ≠ "java/lang/invoke/MethodHandle" ∧ yX9_passGates.cls ≠ "java/lang/invoke/VarHandle" ∧ (parseMethodDescriptor yX9_passGates.desc).map (fun d => d.parameters.length) = some 1 := by decide +kernel
theorem w_Water_serveOutlets : Cond.instanceMethod yX9_serveOutlets ∈ zT ∧ Cond.selects yX9_serveOutlets.cls yX9_serveOutlets yX9_serveOutlets ∈ zT ∧ Cond.initialized yX9_serveOutlets.cls ∈ zT ∧ Cond.code yX9_serveOutlets cX9_serveOutlets 7 none ∈ zT := ⟨zT_of (i := 1146) (by decide +kernel) rfl, zT_of (i := 40) (by decide +kernel) rfl, zT_of (i := 129) (by decide +kernel) rfl, zT_of (i := 1147) (by decide +kernel) rfl⟩
theorem hy_Water_serveOutlets : yX9_serveOutlets.cls ≠ "java/lang/invoke/MethodHandle" ∧ yX9_serveOutlets.cls ≠ "java/lang/invoke/VarHandle" ∧ (parseMethodDescriptor yX9_serveOutlets.desc).map (fun d => d.parameters.length) = some 2 := by decide +kernel
theorem w_Water_spillOver : Cond.instanceMethod yX9_spillOver ∈ zT ∧ Cond.selects yX9_spillOver.cls yX9_spillOver yX9_spillOver ∈ zT ∧ Cond.initialized yX9_spillOver.cls ∈ zT ∧ Cond.code yX9_spillOver cX9_spillOver 4 none ∈ zT := ⟨zT_of (i := 1158) (by decide +kernel) rfl, zT_of (i := 42) (by decide +kernel) rfl, zT_of (i := 129) (by decide +kernel) rfl, zT_of (i := 1159) (by decide +kernel) rfl⟩
theorem hy_Water_spillOver : yX9_spillOver.cls ≠ "java/lang/invoke/MethodHandle" ∧ yX9_spillOver.cls ≠ "java/lang/invoke/VarHandle" ∧ (parseMethodDescriptor yX9_spillOver.desc).map (fun d => d.parameters.length) = some 1 := by decide +kernel
theorem dX6_sumDemands_0 : decode cX6_sumDemands 0 = .ok (.iconst 0, 1) := by decide +kernel
theorem dX6_sumDemands_1 : decode cX6_sumDemands 1 = .ok (.istore_n 2, 1) := by decide +kernel
theorem dX6_sumDemands_2 : decode cX6_sumDemands 2 = .ok (.iload_n 2, 1) := by decide +kernel
theorem dX6_sumDemands_3 : decode cX6_sumDemands 3 = .ok (.aload_n 1, 1) := by decide +kernel
theorem dX6_sumDemands_4 : decode cX6_sumDemands 4 = .ok (.getfield 34, 3) := by decide +kernel
theorem dX6_sumDemands_7 : decode cX6_sumDemands 7 = .ok (.if_icmp .ge 67, 3) := by decide +kernel
theorem dX6_sumDemands_10 : decode cX6_sumDemands 10 = .ok (.iconst 0, 1) := by decide +kernel
theorem dX6_sumDemands_11 : decode cX6_sumDemands 11 = .ok (.istore_n 3, 1) := by decide +kernel
theorem dX6_sumDemands_12 : decode cX6_sumDemands 12 = .ok (.iload_n 3, 1) := by decide +kernel
theorem dX6_sumDemands_13 : decode cX6_sumDemands 13 = .ok (.aload_n 0, 1) := by decide +kernel
theorem dX6_sumDemands_14 : decode cX6_sumDemands 14 = .ok (.getfield 31, 3) := by decide +kernel
theorem dX6_sumDemands_17 : decode cX6_sumDemands 17 = .ok (.if_icmp .gt 18, 3) := by decide +kernel
theorem dX6_sumDemands_20 : decode cX6_sumDemands 20 = .ok (.aload_n 0, 1) := by decide +kernel
theorem dX6_sumDemands_21 : decode cX6_sumDemands 21 = .ok (.getfield 18, 3) := by decide +kernel
theorem dX6_sumDemands_24 : decode cX6_sumDemands 24 = .ok (.iload_n 2, 1) := by decide +kernel
theorem dX6_sumDemands_25 : decode cX6_sumDemands 25 = .ok (.aaload, 1) := by decide +kernel
theorem dX6_sumDemands_26 : decode cX6_sumDemands 26 = .ok (.iload_n 3, 1) := by decide +kernel
theorem dX6_sumDemands_27 : decode cX6_sumDemands 27 = .ok (.iconst 0, 1) := by decide +kernel
theorem dX6_sumDemands_28 : decode cX6_sumDemands 28 = .ok (.iastore, 1) := by decide +kernel
theorem dX6_sumDemands_29 : decode cX6_sumDemands 29 = .ok (.iinc 3 1, 3) := by decide +kernel
theorem dX6_sumDemands_32 : decode cX6_sumDemands 32 = .ok (.goto (-20), 3) := by decide +kernel
theorem dX6_sumDemands_35 : decode cX6_sumDemands 35 = .ok (.iconst 0, 1) := by decide +kernel
theorem dX6_sumDemands_36 : decode cX6_sumDemands 36 = .ok (.istore_n 3, 1) := by decide +kernel
theorem dX6_sumDemands_37 : decode cX6_sumDemands 37 = .ok (.iload_n 3, 1) := by decide +kernel
theorem dX6_sumDemands_38 : decode cX6_sumDemands 38 = .ok (.aload_n 1, 1) := by decide +kernel
theorem dX6_sumDemands_39 : decode cX6_sumDemands 39 = .ok (.getfield 45, 3) := by decide +kernel
theorem dX6_sumDemands_42 : decode cX6_sumDemands 42 = .ok (.if_icmp .ge 26, 3) := by decide +kernel
theorem dX6_sumDemands_45 : decode cX6_sumDemands 45 = .ok (.aload_n 1, 1) := by decide +kernel
theorem dX6_sumDemands_46 : decode cX6_sumDemands 46 = .ok (.getfield 60, 3) := by decide +kernel
theorem dX6_sumDemands_49 : decode cX6_sumDemands 49 = .ok (.iload_n 3, 1) := by decide +kernel
theorem dX6_sumDemands_50 : decode cX6_sumDemands 50 = .ok (.iaload, 1) := by decide +kernel
theorem dX6_sumDemands_51 : decode cX6_sumDemands 51 = .ok (.iload_n 2, 1) := by decide +kernel
theorem dX6_sumDemands_52 : decode cX6_sumDemands 52 = .ok (.if_icmp .lt 10, 3) := by decide +kernel
theorem dX6_sumDemands_55 : decode cX6_sumDemands 55 = .ok (.aload_n 0, 1) := by decide +kernel
theorem dX6_sumDemands_56 : decode cX6_sumDemands 56 = .ok (.aload_n 1, 1) := by decide +kernel
theorem dX6_sumDemands_57 : decode cX6_sumDemands 57 = .ok (.iload_n 2, 1) := by decide +kernel
theorem dX6_sumDemands_58 : decode cX6_sumDemands 58 = .ok (.iload_n 3, 1) := by decide +kernel
theorem dX6_sumDemands_59 : decode cX6_sumDemands 59 = .ok (.invokevirtual 64, 3) := by decide +kernel
theorem dX6_sumDemands_62 : decode cX6_sumDemands 62 = .ok (.iinc 3 1, 3) := by decide +kernel
theorem dX6_sumDemands_65 : decode cX6_sumDemands 65 = .ok (.goto (-28), 3) := by decide +kernel
theorem dX6_sumDemands_68 : decode cX6_sumDemands 68 = .ok (.iinc 2 1, 3) := by decide +kernel
theorem dX6_sumDemands_71 : decode cX6_sumDemands 71 = .ok (.goto (-69), 3) := by decide +kernel
theorem dX6_sumDemands_74 : decode cX6_sumDemands 74 = .ok (.return_, 1) := by decide +kernel
abbrev rm_Schedule_sumDemands : Room := { frames := 2, cells := 0, slots := 0, locals := 49 }
def Schedule_sumDemands_l12 (σ : Sg) (p1 : Nat) (x2 : Int32) (x3 : Int32) : Option ((Sg × Int32) ⊕ (Sg × Int32)) :=
  zgt σ 103 1 fun v14 =>
  if v14 < x3 then (
    some (.inr (σ, x3))
  ) else (
    zelr 116 8 x2 fun q25 =>
    zwr σ q25 201 x3 0 fun σ28 =>
    zlt (x3 + 1) fun v29 =>
    some (.inl (σ28, v29))
  )
set_option maxRecDepth 20000 in
theorem t_Schedule_sumDemands_l12 {X : Zx} {Q : State → Prop} {σ : Sg} {p1 : Nat} {x2 : Int32} {x3 : Int32} (ok : Zok X cX6_sumDemands RX6 rm_Schedule_sumDemands 198 4) (hp1 : zI_Works p1 198) {out : ((Sg × Int32) ⊕ (Sg × Int32))} (hf : Schedule_sumDemands_l12 σ p1 x2 x3 = some out) (hk : zout (fun (s : (Sg × Int32)) => ZAt X Q 0 0 12 s.1 [(0, .ref (X.ad 103)), (1, .ref (X.ad p1)), (2, .int x2), (3, .int s.2)] []) (fun (s : (Sg × Int32)) => ZAt X Q 0 0 35 s.1 [(0, .ref (X.ad 103)), (1, .ref (X.ad p1)), (2, .int x2)] []) out) : ZAt X Q 0 0 12 σ [(0, .ref (X.ad 103)), (1, .ref (X.ad p1)), (2, .int x2), (3, .int x3)] [] := by
  unfold Schedule_sumDemands_l12 at hf
  obtain ⟨hp1_0, hp1_1, hp1_2, hp1_3, hp1_4, hp1_5, hp1_6, hp1_7, hp1_8, hp1_9, hp1_10, hp1_11, hp1_12, hp1_13, hp1_14, hp1_15, hp1_16, hp1_17, hp1_18, hp1_19, hp1_20, hp1_21, hp1_22, hp1_23, hp1_24, hp1_25⟩ := id hp1
  refine z_iload_n ok dX6_sumDemands_12 3 rfl ?_
  refine z_aload_n ok dX6_sumDemands_13 0 rfl ?_
  refine z_geti ok kc_103 zc_6 hin_6 1 (by decide) fl_6_31 rfl dX6_sumDemands_14 hf (fun v14 hf => ?_)
  refine z_icmp_gt (tgt := 35) ok dX6_sumDemands_17 (by decide) hf (fun _ hf => ?_) (fun _ hf => ?_)
  · obtain rfl := Option.some.inj hf
    exact z_sub [0, 1, 2] rfl hk
  · refine z_aload_n ok dX6_sumDemands_20 0 rfl ?_
    refine z_getr (q := 115) ok kc_103 zc_6 hin_6 4 (by decide) fl_6_18 rfl dX6_sumDemands_21 ?_
    refine z_iload_n ok dX6_sumDemands_24 2 rfl ?_
    refine z_aaldr (p := 116) ok kc_115 (by decide) rfl dX6_sumDemands_25 hf (fun q25 e25 hf => ?_)
    have hq25 : zk q25 198 (.inr (0, 201, [])) := (show ∀ q ∈ [116, 117, 118, 119, 120, 121, 122, 123], zk q 198 (.inr (0, 201, [])) from (List.forall_mem_cons.mpr ⟨kc_116, (List.forall_mem_cons.mpr ⟨kc_117, (List.forall_mem_cons.mpr ⟨kc_118, (List.forall_mem_cons.mpr ⟨kc_119, (List.forall_mem_cons.mpr ⟨kc_120, (List.forall_mem_cons.mpr ⟨kc_121, (List.forall_mem_cons.mpr ⟨kc_122, (List.forall_mem_cons.mpr ⟨kc_123, (fun _ h => absurd h List.not_mem_nil)⟩)⟩)⟩)⟩)⟩)⟩)⟩)⟩)) q25 e25
    refine z_iload_n ok dX6_sumDemands_26 3 rfl ?_
    refine z_iconst (v := 0) ok dX6_sumDemands_27 (by decide) ?_
    refine z_iast ok hq25 dX6_sumDemands_28 hf (fun σ28 hf => ?_)
    refine z_iinc (w := 1) (lv' := fun v29 => [(3, .int v29), (0, .ref (X.ad 103)), (1, .ref (X.ad p1)), (2, .int x2)]) ok dX6_sumDemands_29 3 rfl (by decide) (by decide) (fun _ => rfl) hf (fun v29 hf => ?_)
    refine z_goto (tgt := 12) ok dX6_sumDemands_32 (by decide) ?_
    obtain rfl := Option.some.inj hf
    exact z_sub [1, 2, 3, 0] rfl hk
def Schedule_sumDemands_l37 (σ : Sg) (p1 : Nat) (x2 : Int32) (x3 : Int32) : Option ((Sg × Int32) ⊕ (Sg × Int32)) :=
  zgt σ p1 7 fun v39 =>
  if v39 ≤ x3 then (
    some (.inr (σ, x3))
  ) else (
    zrd σ (p1 + 14) 10 x3 fun v50 =>
    if v50 < x2 then (
      zlt (x3 + 1) fun v62 =>
      some (.inl (σ, v62))
    ) else (
      (Schedule_addDemand σ p1 x2 x3).bind fun r59 =>
      zlt (x3 + 1) fun v62 =>
      some (.inl (r59, v62))
    )
  )
set_option maxRecDepth 20000 in
theorem t_Schedule_sumDemands_l37 {X : Zx} {Q : State → Prop} {σ : Sg} {p1 : Nat} {x2 : Int32} {x3 : Int32} (ok : Zok X cX6_sumDemands RX6 rm_Schedule_sumDemands 198 4) (hp1 : zI_Works p1 198) {out : ((Sg × Int32) ⊕ (Sg × Int32))} (hf : Schedule_sumDemands_l37 σ p1 x2 x3 = some out) (hk : zout (fun (s : (Sg × Int32)) => ZAt X Q 0 0 37 s.1 [(0, .ref (X.ad 103)), (1, .ref (X.ad p1)), (2, .int x2), (3, .int s.2)] []) (fun (s : (Sg × Int32)) => ZAt X Q 0 0 68 s.1 [(0, .ref (X.ad 103)), (1, .ref (X.ad p1)), (2, .int x2)] []) out) : ZAt X Q 0 0 37 σ [(0, .ref (X.ad 103)), (1, .ref (X.ad p1)), (2, .int x2), (3, .int x3)] [] := by
  unfold Schedule_sumDemands_l37 at hf
  obtain ⟨hp1_0, hp1_1, hp1_2, hp1_3, hp1_4, hp1_5, hp1_6, hp1_7, hp1_8, hp1_9, hp1_10, hp1_11, hp1_12, hp1_13, hp1_14, hp1_15, hp1_16, hp1_17, hp1_18, hp1_19, hp1_20, hp1_21, hp1_22, hp1_23, hp1_24, hp1_25⟩ := id hp1
  refine z_iload_n ok dX6_sumDemands_37 3 rfl ?_
  refine z_aload_n ok dX6_sumDemands_38 1 rfl ?_
  refine z_geti ok hp1_0 zc_10 hin_10 7 (by decide) fl_6_45 rfl dX6_sumDemands_39 hf (fun v39 hf => ?_)
  refine z_icmp_ge (tgt := 68) ok dX6_sumDemands_42 (by decide) hf (fun _ hf => ?_) (fun _ hf => ?_)
  · obtain rfl := Option.some.inj hf
    exact z_sub [0, 1, 2] rfl hk
  · refine z_aload_n ok dX6_sumDemands_45 1 rfl ?_
    refine z_getr (q := (p1 + 14)) ok hp1_0 zc_10 hin_10 9 (by decide) fl_6_60 rfl dX6_sumDemands_46 ?_
    refine z_iload_n ok dX6_sumDemands_49 3 rfl ?_
    refine z_iald ok hp1_14 dX6_sumDemands_50 hf (fun v50 hf => ?_)
    refine z_iload_n ok dX6_sumDemands_51 2 rfl ?_
    refine z_icmp_lt (tgt := 62) ok dX6_sumDemands_52 (by decide) hf (fun _ hf => ?_) (fun _ hf => ?_)
    · refine z_iinc (w := 1) (lv' := fun v62 => [(3, .int v62), (0, .ref (X.ad 103)), (1, .ref (X.ad p1)), (2, .int x2)]) ok dX6_sumDemands_62 3 rfl (by decide) (by decide) (fun _ => rfl) hf (fun v62 hf => ?_)
      refine z_goto (tgt := 37) ok dX6_sumDemands_65 (by decide) ?_
      obtain rfl := Option.some.inj hf
      exact z_sub [1, 2, 3, 0] rfl hk
    · refine z_aload_n ok dX6_sumDemands_55 0 rfl ?_
      refine z_aload_n ok dX6_sumDemands_56 1 rfl ?_
      refine z_iload_n ok dX6_sumDemands_57 2 rfl ?_
      refine z_iload_n ok dX6_sumDemands_58 3 rfl ?_
      refine z_call hf (fun r59 h59 hf => ?_)
      refine z_cVv (As := [.ref (X.ad p1), .int x2, .int x3]) (rest := []) (w := 103) ok kc_103 zc_6 (c_Schedule_addDemand hp1 h59) rfl ⟨ml_6_64, w_Schedule_addDemand⟩ hy_Schedule_addDemand ⟨rfl, rfl⟩ ⟨Nat.le_of_ble_eq_true rfl, Nat.le_of_ble_eq_true rfl⟩ ⟨Nat.zero_le _, Nat.zero_le _⟩ rfl (Nat.le_of_ble_eq_true rfl) dX6_sumDemands_59 ?_
      refine z_iinc (w := 1) (lv' := fun v62 => [(3, .int v62), (0, .ref (X.ad 103)), (1, .ref (X.ad p1)), (2, .int x2)]) ok dX6_sumDemands_62 3 rfl (by decide) (by decide) (fun _ => rfl) hf (fun v62 hf => ?_)
      refine z_goto (tgt := 37) ok dX6_sumDemands_65 (by decide) ?_
      obtain rfl := Option.some.inj hf
      exact z_sub [1, 2, 3, 0] rfl hk
def Schedule_sumDemands_j2_35 (σ : Sg) (p1 : Nat) (x2 : Int32) : Option ((Sg × Int32) ⊕ (Sg × Int32)) :=
  zlt 0 fun v36 =>
  (zit (fun (s : (Sg × Int32)) => Schedule_sumDemands_l37 s.1 p1 x2 s.2) zFU (σ, v36)).bind fun r =>
  zlt (x2 + 1) fun v68 =>
  some (.inl (r.1, v68))
set_option maxRecDepth 20000 in
theorem t_Schedule_sumDemands_j2_35 {X : Zx} {Q : State → Prop} {σ : Sg} {p1 : Nat} {x2 : Int32} (ok : Zok X cX6_sumDemands RX6 rm_Schedule_sumDemands 198 4) (hp1 : zI_Works p1 198) {out : ((Sg × Int32) ⊕ (Sg × Int32))} (hf : Schedule_sumDemands_j2_35 σ p1 x2 = some out) (hk : zout (fun (s : (Sg × Int32)) => ZAt X Q 0 0 2 s.1 [(0, .ref (X.ad 103)), (1, .ref (X.ad p1)), (2, .int s.2)] []) (fun (s : (Sg × Int32)) => ZAt X Q 0 0 74 s.1 [] []) out) : ZAt X Q 0 0 35 σ [(0, .ref (X.ad 103)), (1, .ref (X.ad p1)), (2, .int x2)] [] := by
  unfold Schedule_sumDemands_j2_35 at hf
  obtain ⟨hp1_0, hp1_1, hp1_2, hp1_3, hp1_4, hp1_5, hp1_6, hp1_7, hp1_8, hp1_9, hp1_10, hp1_11, hp1_12, hp1_13, hp1_14, hp1_15, hp1_16, hp1_17, hp1_18, hp1_19, hp1_20, hp1_21, hp1_22, hp1_23, hp1_24, hp1_25⟩ := id hp1
  refine z_iconst (v := 0) ok dX6_sumDemands_35 (by decide) ?_
  refine z_nm hf (fun v36 hf => ?_)
  refine z_istore_n (lv' := [(3, .int v36), (0, .ref (X.ad 103)), (1, .ref (X.ad p1)), (2, .int x2)]) ok dX6_sumDemands_36 (by decide) rfl ?_
  refine z_call hf (fun r hr hf => ?_)
  refine z_sub [1, 2, 3, 0] rfl (z_iter (fun (s : (Sg × Int32)) => s.1) (fun (s : (Sg × Int32)) => [(0, .ref (X.ad 103)), (1, .ref (X.ad p1)), (2, .int x2), (3, .int s.2)]) (fun s o h1 h2 => t_Schedule_sumDemands_l37 ok hp1 h1 h2) _ _ _ hr ?_)
  show ZAt X Q 0 0 68 r.1 [(0, .ref (X.ad 103)), (1, .ref (X.ad p1)), (2, .int x2)] []
  refine z_iinc (w := 1) (lv' := fun v68 => [(2, .int v68), (0, .ref (X.ad 103)), (1, .ref (X.ad p1))]) ok dX6_sumDemands_68 2 rfl (by decide) (by decide) (fun _ => rfl) hf (fun v68 hf => ?_)
  refine z_goto (tgt := 2) ok dX6_sumDemands_71 (by decide) ?_
  obtain rfl := Option.some.inj hf
  exact z_sub [1, 2, 0] rfl hk
def Schedule_sumDemands_l2 (σ : Sg) (p1 : Nat) (x2 : Int32) : Option ((Sg × Int32) ⊕ (Sg × Int32)) :=
  zgt σ p1 3 fun v4 =>
  if v4 ≤ x2 then (
    some (.inr (σ, x2))
  ) else (
    zlt 0 fun v11 =>
    (zit (fun (s : (Sg × Int32)) => Schedule_sumDemands_l12 s.1 p1 x2 s.2) zFU (σ, v11)).bind fun r =>
    Schedule_sumDemands_j2_35 r.1 p1 x2
  )
set_option maxRecDepth 20000 in
theorem t_Schedule_sumDemands_l2 {X : Zx} {Q : State → Prop} {σ : Sg} {p1 : Nat} {x2 : Int32} (ok : Zok X cX6_sumDemands RX6 rm_Schedule_sumDemands 198 4) (hp1 : zI_Works p1 198) {out : ((Sg × Int32) ⊕ (Sg × Int32))} (hf : Schedule_sumDemands_l2 σ p1 x2 = some out) (hk : zout (fun (s : (Sg × Int32)) => ZAt X Q 0 0 2 s.1 [(0, .ref (X.ad 103)), (1, .ref (X.ad p1)), (2, .int s.2)] []) (fun (s : (Sg × Int32)) => ZAt X Q 0 0 74 s.1 [] []) out) : ZAt X Q 0 0 2 σ [(0, .ref (X.ad 103)), (1, .ref (X.ad p1)), (2, .int x2)] [] := by
  unfold Schedule_sumDemands_l2 at hf
  obtain ⟨hp1_0, hp1_1, hp1_2, hp1_3, hp1_4, hp1_5, hp1_6, hp1_7, hp1_8, hp1_9, hp1_10, hp1_11, hp1_12, hp1_13, hp1_14, hp1_15, hp1_16, hp1_17, hp1_18, hp1_19, hp1_20, hp1_21, hp1_22, hp1_23, hp1_24, hp1_25⟩ := id hp1
  refine z_iload_n ok dX6_sumDemands_2 2 rfl ?_
  refine z_aload_n ok dX6_sumDemands_3 1 rfl ?_
  refine z_geti ok hp1_0 zc_10 hin_10 3 (by decide) fl_6_34 rfl dX6_sumDemands_4 hf (fun v4 hf => ?_)
  refine z_icmp_ge (tgt := 74) ok dX6_sumDemands_7 (by decide) hf (fun _ hf => ?_) (fun _ hf => ?_)
  · obtain rfl := Option.some.inj hf
    exact z_sub [] rfl hk
  · refine z_iconst (v := 0) ok dX6_sumDemands_10 (by decide) ?_
    refine z_nm hf (fun v11 hf => ?_)
    refine z_istore_n (lv' := [(3, .int v11), (0, .ref (X.ad 103)), (1, .ref (X.ad p1)), (2, .int x2)]) ok dX6_sumDemands_11 (by decide) rfl ?_
    refine z_call hf (fun r hr hf => ?_)
    refine z_sub [1, 2, 3, 0] rfl (z_iter (fun (s : (Sg × Int32)) => s.1) (fun (s : (Sg × Int32)) => [(0, .ref (X.ad 103)), (1, .ref (X.ad p1)), (2, .int x2), (3, .int s.2)]) (fun s o h1 h2 => t_Schedule_sumDemands_l12 ok hp1 h1 h2) _ _ _ hr ?_)
    show ZAt X Q 0 0 35 r.1 [(0, .ref (X.ad 103)), (1, .ref (X.ad p1)), (2, .int x2)] []
    exact z_sub [0, 1, 2] rfl (t_Schedule_sumDemands_j2_35 ok hp1 hf hk)
def Schedule_sumDemands (σ : Sg) (p1 : Nat) : Option Sg :=
  zlt 0 fun v1 =>
  (zit (fun (s : (Sg × Int32)) => Schedule_sumDemands_l2 s.1 p1 s.2) zFU (σ, v1)).bind fun r =>
  some r.1
set_option maxRecDepth 20000 in
theorem t_Schedule_sumDemands {X : Zx} {Q : State → Prop} {σ : Sg} {p1 : Nat} (ok : Zok X cX6_sumDemands RX6 rm_Schedule_sumDemands 198 4) (hp1 : zI_Works p1 198) {out : Sg} (hf : Schedule_sumDemands σ p1 = some out) (hk : ZrV cX6_sumDemands X Q out) : ZAt X Q 0 0 0 σ [(0, .ref (X.ad 103)), (1, .ref (X.ad p1))] [] := by
  unfold Schedule_sumDemands at hf
  obtain ⟨hp1_0, hp1_1, hp1_2, hp1_3, hp1_4, hp1_5, hp1_6, hp1_7, hp1_8, hp1_9, hp1_10, hp1_11, hp1_12, hp1_13, hp1_14, hp1_15, hp1_16, hp1_17, hp1_18, hp1_19, hp1_20, hp1_21, hp1_22, hp1_23, hp1_24, hp1_25⟩ := id hp1
  refine z_iconst (v := 0) ok dX6_sumDemands_0 (by decide) ?_
  refine z_nm hf (fun v1 hf => ?_)
  refine z_istore_n (lv' := [(2, .int v1), (0, .ref (X.ad 103)), (1, .ref (X.ad p1))]) ok dX6_sumDemands_1 (by decide) rfl ?_
  refine z_call hf (fun r hr hf => ?_)
  refine z_sub [1, 2, 0] rfl (z_iter (fun (s : (Sg × Int32)) => s.1) (fun (s : (Sg × Int32)) => [(0, .ref (X.ad 103)), (1, .ref (X.ad p1)), (2, .int s.2)]) (fun s o h1 h2 => t_Schedule_sumDemands_l2 ok hp1 h1 h2) _ _ _ hr ?_)
  show ZAt X Q 0 0 74 r.1 [] []
  obtain rfl := Option.some.inj hf
  exact hk _ _ dX6_sumDemands_74
theorem c_Schedule_sumDemands {σ : Sg} {p1 : Nat} (hp1 : zI_Works p1 198) {r : Sg} (h : Schedule_sumDemands σ p1 = some r) : ZcV yX6_sumDemands cX6_sumDemands 4 rm_Schedule_sumDemands 198 (fun ad => [.ref (ad 103), .ref (ad p1)]) σ r :=
  zmetV pn_6 rfl (fun _ => rfl) (fun _ => Nat.le_of_ble_eq_true rfl) (fun X Q ok hk => t_Schedule_sumDemands ok hp1 h hk)
theorem dX6_plan_0 : decode cX6_plan 0 = .ok (.aload_n 0, 1) := by decide +kernel
theorem dX6_plan_1 : decode cX6_plan 1 = .ok (.iload_n 3, 1) := by decide +kernel
theorem dX6_plan_2 : decode cX6_plan 2 = .ok (.putfield 21, 3) := by decide +kernel
theorem dX6_plan_5 : decode cX6_plan 5 = .ok (.aload_n 0, 1) := by decide +kernel
theorem dX6_plan_6 : decode cX6_plan 6 = .ok (.iload 4, 2) := by decide +kernel
theorem dX6_plan_8 : decode cX6_plan 8 = .ok (.sipush 200, 3) := by decide +kernel
theorem dX6_plan_11 : decode cX6_plan 11 = .ok (.invokestatic 25, 3) := by decide +kernel
theorem dX6_plan_14 : decode cX6_plan 14 = .ok (.putfield 31, 3) := by decide +kernel
theorem dX6_plan_17 : decode cX6_plan 17 = .ok (.aload_n 0, 1) := by decide +kernel
theorem dX6_plan_18 : decode cX6_plan 18 = .ok (.aload_n 0, 1) := by decide +kernel
theorem dX6_plan_19 : decode cX6_plan 19 = .ok (.getfield 31, 3) := by decide +kernel
theorem dX6_plan_22 : decode cX6_plan 22 = .ok (.aload_n 1, 1) := by decide +kernel
theorem dX6_plan_23 : decode cX6_plan 23 = .ok (.iconst 0, 1) := by decide +kernel
theorem dX6_plan_24 : decode cX6_plan 24 = .ok (.aload_n 1, 1) := by decide +kernel
theorem dX6_plan_25 : decode cX6_plan 25 = .ok (.getfield 34, 3) := by decide +kernel
theorem dX6_plan_28 : decode cX6_plan 28 = .ok (.iconst 1, 1) := by decide +kernel
theorem dX6_plan_29 : decode cX6_plan 29 = .ok (.isub, 1) := by decide +kernel
theorem dX6_plan_30 : decode cX6_plan 30 = .ok (.invokevirtual 39, 3) := by decide +kernel
theorem dX6_plan_33 : decode cX6_plan 33 = .ok (.iadd, 1) := by decide +kernel
theorem dX6_plan_34 : decode cX6_plan 34 = .ok (.sipush 272, 3) := by decide +kernel
theorem dX6_plan_37 : decode cX6_plan 37 = .ok (.invokestatic 25, 3) := by decide +kernel
theorem dX6_plan_40 : decode cX6_plan 40 = .ok (.putfield 42, 3) := by decide +kernel
theorem dX6_plan_43 : decode cX6_plan 43 = .ok (.iconst 0, 1) := by decide +kernel
theorem dX6_plan_44 : decode cX6_plan 44 = .ok (.istore 5, 2) := by decide +kernel
theorem dX6_plan_46 : decode cX6_plan 46 = .ok (.iload 5, 2) := by decide +kernel
theorem dX6_plan_48 : decode cX6_plan 48 = .ok (.aload_n 1, 1) := by decide +kernel
theorem dX6_plan_49 : decode cX6_plan 49 = .ok (.getfield 45, 3) := by decide +kernel
theorem dX6_plan_52 : decode cX6_plan 52 = .ok (.if_icmp .ge 17, 3) := by decide +kernel
theorem dX6_plan_55 : decode cX6_plan 55 = .ok (.aload_n 0, 1) := by decide +kernel
theorem dX6_plan_56 : decode cX6_plan 56 = .ok (.aload_n 1, 1) := by decide +kernel
theorem dX6_plan_57 : decode cX6_plan 57 = .ok (.aload_n 2, 1) := by decide +kernel
theorem dX6_plan_58 : decode cX6_plan 58 = .ok (.iload 5, 2) := by decide +kernel
theorem dX6_plan_60 : decode cX6_plan 60 = .ok (.invokevirtual 48, 3) := by decide +kernel
theorem dX6_plan_63 : decode cX6_plan 63 = .ok (.iinc 5 1, 3) := by decide +kernel
theorem dX6_plan_66 : decode cX6_plan 66 = .ok (.goto (-20), 3) := by decide +kernel
theorem dX6_plan_69 : decode cX6_plan 69 = .ok (.aload_n 0, 1) := by decide +kernel
theorem dX6_plan_70 : decode cX6_plan 70 = .ok (.aload_n 1, 1) := by decide +kernel
theorem dX6_plan_71 : decode cX6_plan 71 = .ok (.invokevirtual 52, 3) := by decide +kernel
theorem dX6_plan_74 : decode cX6_plan 74 = .ok (.return_, 1) := by decide +kernel
abbrev rm_Schedule_plan : Room := { frames := 3, cells := 0, slots := 0, locals := 72 }
def Schedule_plan_l46 (σ : Sg) (p1 : Nat) (p2 : Nat) (x5 : Int32) : Option ((Sg × Int32) ⊕ (Sg × Int32)) :=
  zgt σ p1 7 fun v49 =>
  if v49 ≤ x5 then (
    some (.inr (σ, x5))
  ) else (
    (Schedule_planOutlet σ p1 p2 x5).bind fun r60 =>
    zlt (x5 + 1) fun v63 =>
    some (.inl (r60, v63))
  )
set_option maxRecDepth 20000 in
theorem t_Schedule_plan_l46 {X : Zx} {Q : State → Prop} {σ : Sg} {p1 : Nat} {p2 : Nat} {x5 : Int32} (ok : Zok X cX6_plan RX6 rm_Schedule_plan 198 6) (hp1 : zI_Works p1 198) (hp2 : zI_Orders p2 198) {out : ((Sg × Int32) ⊕ (Sg × Int32))} (hf : Schedule_plan_l46 σ p1 p2 x5 = some out) (hk : zout (fun (s : (Sg × Int32)) => ZAt X Q 0 0 46 s.1 [(0, .ref (X.ad 103)), (1, .ref (X.ad p1)), (2, .ref (X.ad p2)), (5, .int s.2)] []) (fun (s : (Sg × Int32)) => ZAt X Q 0 0 69 s.1 [(0, .ref (X.ad 103)), (1, .ref (X.ad p1))] []) out) : ZAt X Q 0 0 46 σ [(0, .ref (X.ad 103)), (1, .ref (X.ad p1)), (2, .ref (X.ad p2)), (5, .int x5)] [] := by
  unfold Schedule_plan_l46 at hf
  obtain ⟨hp1_0, hp1_1, hp1_2, hp1_3, hp1_4, hp1_5, hp1_6, hp1_7, hp1_8, hp1_9, hp1_10, hp1_11, hp1_12, hp1_13, hp1_14, hp1_15, hp1_16, hp1_17, hp1_18, hp1_19, hp1_20, hp1_21, hp1_22, hp1_23, hp1_24, hp1_25⟩ := id hp1
  obtain ⟨hp2_0, hp2_1, hp2_2, hp2_3⟩ := id hp2
  refine z_iload ok dX6_plan_46 3 rfl ?_
  refine z_aload_n ok dX6_plan_48 1 rfl ?_
  refine z_geti ok hp1_0 zc_10 hin_10 7 (by decide) fl_6_45 rfl dX6_plan_49 hf (fun v49 hf => ?_)
  refine z_icmp_ge (tgt := 69) ok dX6_plan_52 (by decide) hf (fun _ hf => ?_) (fun _ hf => ?_)
  · obtain rfl := Option.some.inj hf
    exact z_sub [0, 1] rfl hk
  · refine z_aload_n ok dX6_plan_55 0 rfl ?_
    refine z_aload_n ok dX6_plan_56 1 rfl ?_
    refine z_aload_n ok dX6_plan_57 2 rfl ?_
    refine z_iload ok dX6_plan_58 3 rfl ?_
    refine z_call hf (fun r60 h60 hf => ?_)
    refine z_cVv (As := [.ref (X.ad p1), .ref (X.ad p2), .int x5]) (rest := []) (w := 103) ok kc_103 zc_6 (c_Schedule_planOutlet hp1 hp2 h60) rfl ⟨ml_6_48, w_Schedule_planOutlet⟩ hy_Schedule_planOutlet ⟨rfl, rfl⟩ ⟨Nat.le_of_ble_eq_true rfl, Nat.le_of_ble_eq_true rfl⟩ ⟨Nat.zero_le _, Nat.zero_le _⟩ rfl (Nat.le_of_ble_eq_true rfl) dX6_plan_60 ?_
    refine z_iinc (w := 1) (lv' := fun v63 => [(5, .int v63), (0, .ref (X.ad 103)), (1, .ref (X.ad p1)), (2, .ref (X.ad p2))]) ok dX6_plan_63 3 rfl (by decide) (by decide) (fun _ => rfl) hf (fun v63 hf => ?_)
    refine z_goto (tgt := 46) ok dX6_plan_66 (by decide) ?_
    obtain rfl := Option.some.inj hf
    exact z_sub [1, 2, 3, 0] rfl hk
def Schedule_plan (σ : Sg) (p1 : Nat) (p2 : Nat) (x3 : Int32) (x4 : Int32) : Option Sg :=
  zpt σ 103 0 x3 fun σ2 =>
  zpt σ2 103 1 (if 200 < x4 then 200 else x4) fun σ14 =>
  zgt σ14 103 1 fun v19 =>
  zgt σ14 p1 3 fun v25 =>
  (Works_needs σ14 p1 0 (v25 - 1)).bind fun r30 =>
  zpt σ14 103 2 (if 272 < (v19 + r30) then 272 else (v19 + r30)) fun σ40 =>
  zlt 0 fun v44 =>
  (zit (fun (s : (Sg × Int32)) => Schedule_plan_l46 s.1 p1 p2 s.2) zFU (σ40, v44)).bind fun r =>
  (Schedule_sumDemands r.1 p1).bind fun r71 =>
  some r71
set_option maxRecDepth 20000 in
theorem t_Schedule_plan {X : Zx} {Q : State → Prop} {σ : Sg} {p1 : Nat} {p2 : Nat} {x3 : Int32} {x4 : Int32} (ok : Zok X cX6_plan RX6 rm_Schedule_plan 198 6) (hp1 : zI_Works p1 198) (hp2 : zI_Orders p2 198) {out : Sg} (hf : Schedule_plan σ p1 p2 x3 x4 = some out) (hk : ZrV cX6_plan X Q out) : ZAt X Q 0 0 0 σ [(0, .ref (X.ad 103)), (1, .ref (X.ad p1)), (2, .ref (X.ad p2)), (3, .int x3), (4, .int x4)] [] := by
  unfold Schedule_plan at hf
  obtain ⟨hp1_0, hp1_1, hp1_2, hp1_3, hp1_4, hp1_5, hp1_6, hp1_7, hp1_8, hp1_9, hp1_10, hp1_11, hp1_12, hp1_13, hp1_14, hp1_15, hp1_16, hp1_17, hp1_18, hp1_19, hp1_20, hp1_21, hp1_22, hp1_23, hp1_24, hp1_25⟩ := id hp1
  obtain ⟨hp2_0, hp2_1, hp2_2, hp2_3⟩ := id hp2
  refine z_aload_n ok dX6_plan_0 0 rfl ?_
  refine z_iload_n ok dX6_plan_1 3 rfl ?_
  refine z_puti ok kc_103 zc_6 hin_6 tyX6 tyX6_ok nmX6 0 (by decide) fl_6_21 rfl rfl (tyX6_ok 0 (by decide)) dX6_plan_2 hf (fun σ2 hf => ?_)
  refine z_aload_n ok dX6_plan_5 0 rfl ?_
  refine z_iload ok dX6_plan_6 4 rfl ?_
  refine z_sipush (v := 200) ok dX6_plan_8 (by decide) ?_
  refine z_mmin ok ml_6_25 (Nat.le_of_ble_eq_true rfl) (Nat.le_of_ble_eq_true rfl) ⟨Nat.zero_le _, Nat.zero_le _⟩ dX6_plan_11 ?_
  refine z_puti ok kc_103 zc_6 hin_6 tyX6 tyX6_ok nmX6 1 (by decide) fl_6_31 rfl rfl (tyX6_ok 1 (by decide)) dX6_plan_14 hf (fun σ14 hf => ?_)
  refine z_aload_n ok dX6_plan_17 0 rfl ?_
  refine z_aload_n ok dX6_plan_18 0 rfl ?_
  refine z_geti ok kc_103 zc_6 hin_6 1 (by decide) fl_6_31 rfl dX6_plan_19 hf (fun v19 hf => ?_)
  refine z_aload_n ok dX6_plan_22 1 rfl ?_
  refine z_iconst (v := 0) ok dX6_plan_23 (by decide) ?_
  refine z_aload_n ok dX6_plan_24 1 rfl ?_
  refine z_geti ok hp1_0 zc_10 hin_10 3 (by decide) fl_6_34 rfl dX6_plan_25 hf (fun v25 hf => ?_)
  refine z_iconst (v := 1) ok dX6_plan_28 (by decide) ?_
  refine z_isub ok dX6_plan_29 ?_
  refine z_call hf (fun r30 h30 hf => ?_)
  refine z_cV (As := [.int 0, .int (v25 - 1)]) (rest := [.int v19, .ref (X.ad 103)]) (w := p1) ok hp1_0 zc_10 (c_Works_needs hp1 h30) rfl ⟨ml_6_39, w_Works_needs⟩ hy_Works_needs ⟨rfl, rfl⟩ ⟨Nat.le_of_ble_eq_true rfl, Nat.le_of_ble_eq_true rfl⟩ ⟨Nat.zero_le _, Nat.zero_le _⟩ rfl (Nat.le_of_ble_eq_true rfl) dX6_plan_30 ?_
  refine z_iadd ok dX6_plan_33 ?_
  refine z_sipush (v := 272) ok dX6_plan_34 (by decide) ?_
  refine z_mmin ok ml_6_25 (Nat.le_of_ble_eq_true rfl) (Nat.le_of_ble_eq_true rfl) ⟨Nat.zero_le _, Nat.zero_le _⟩ dX6_plan_37 ?_
  refine z_puti ok kc_103 zc_6 hin_6 tyX6 tyX6_ok nmX6 2 (by decide) fl_6_42 rfl rfl (tyX6_ok 2 (by decide)) dX6_plan_40 hf (fun σ40 hf => ?_)
  refine z_iconst (v := 0) ok dX6_plan_43 (by decide) ?_
  refine z_nm hf (fun v44 hf => ?_)
  refine z_istore (lv' := [(5, .int v44), (0, .ref (X.ad 103)), (1, .ref (X.ad p1)), (2, .ref (X.ad p2)), (3, .int x3), (4, .int x4)]) ok dX6_plan_44 (by decide) rfl ?_
  refine z_call hf (fun r hr hf => ?_)
  refine z_sub [1, 2, 3, 0] rfl (z_iter (fun (s : (Sg × Int32)) => s.1) (fun (s : (Sg × Int32)) => [(0, .ref (X.ad 103)), (1, .ref (X.ad p1)), (2, .ref (X.ad p2)), (5, .int s.2)]) (fun s o h1 h2 => t_Schedule_plan_l46 ok hp1 hp2 h1 h2) _ _ _ hr ?_)
  show ZAt X Q 0 0 69 r.1 [(0, .ref (X.ad 103)), (1, .ref (X.ad p1))] []
  refine z_aload_n ok dX6_plan_69 0 rfl ?_
  refine z_aload_n ok dX6_plan_70 1 rfl ?_
  refine z_call hf (fun r71 h71 hf => ?_)
  refine z_cVv (As := [.ref (X.ad p1)]) (rest := []) (w := 103) ok kc_103 zc_6 (c_Schedule_sumDemands hp1 h71) rfl ⟨ml_6_52, w_Schedule_sumDemands⟩ hy_Schedule_sumDemands ⟨rfl, rfl⟩ ⟨Nat.le_of_ble_eq_true rfl, Nat.le_of_ble_eq_true rfl⟩ ⟨Nat.zero_le _, Nat.zero_le _⟩ rfl (Nat.le_of_ble_eq_true rfl) dX6_plan_71 ?_
  obtain rfl := Option.some.inj hf
  exact hk _ _ dX6_plan_74
theorem c_Schedule_plan {σ : Sg} {p1 : Nat} {p2 : Nat} {x3 : Int32} {x4 : Int32} (hp1 : zI_Works p1 198) (hp2 : zI_Orders p2 198) {r : Sg} (h : Schedule_plan σ p1 p2 x3 x4 = some r) : ZcV yX6_plan cX6_plan 6 rm_Schedule_plan 198 (fun ad => [.ref (ad 103), .ref (ad p1), .ref (ad p2), .int x3, .int x4]) σ r :=
  zmetV pn_6 rfl (fun _ => rfl) (fun _ => Nat.le_of_ble_eq_true rfl) (fun X Q ok hk => t_Schedule_plan ok hp1 hp2 h hk)
theorem dX9_copyFrom_0 : decode cX9_copyFrom 0 = .ok (.aload_n 0, 1) := by decide +kernel
theorem dX9_copyFrom_1 : decode cX9_copyFrom 1 = .ok (.aload_n 1, 1) := by decide +kernel
theorem dX9_copyFrom_2 : decode cX9_copyFrom 2 = .ok (.getfield 43, 3) := by decide +kernel
theorem dX9_copyFrom_5 : decode cX9_copyFrom 5 = .ok (.putfield 43, 3) := by decide +kernel
theorem dX9_copyFrom_8 : decode cX9_copyFrom 8 = .ok (.aload_n 0, 1) := by decide +kernel
theorem dX9_copyFrom_9 : decode cX9_copyFrom 9 = .ok (.aload_n 1, 1) := by decide +kernel
theorem dX9_copyFrom_10 : decode cX9_copyFrom 10 = .ok (.getfield 47, 3) := by decide +kernel
theorem dX9_copyFrom_13 : decode cX9_copyFrom 13 = .ok (.putfield 47, 3) := by decide +kernel
theorem dX9_copyFrom_16 : decode cX9_copyFrom 16 = .ok (.aload_n 0, 1) := by decide +kernel
theorem dX9_copyFrom_17 : decode cX9_copyFrom 17 = .ok (.aload_n 1, 1) := by decide +kernel
theorem dX9_copyFrom_18 : decode cX9_copyFrom 18 = .ok (.getfield 50, 3) := by decide +kernel
theorem dX9_copyFrom_21 : decode cX9_copyFrom 21 = .ok (.putfield 50, 3) := by decide +kernel
theorem dX9_copyFrom_24 : decode cX9_copyFrom 24 = .ok (.aload_n 1, 1) := by decide +kernel
theorem dX9_copyFrom_25 : decode cX9_copyFrom 25 = .ok (.getfield 9, 3) := by decide +kernel
theorem dX9_copyFrom_28 : decode cX9_copyFrom 28 = .ok (.iconst 0, 1) := by decide +kernel
theorem dX9_copyFrom_29 : decode cX9_copyFrom 29 = .ok (.aload_n 0, 1) := by decide +kernel
theorem dX9_copyFrom_30 : decode cX9_copyFrom 30 = .ok (.getfield 9, 3) := by decide +kernel
theorem dX9_copyFrom_33 : decode cX9_copyFrom 33 = .ok (.iconst 0, 1) := by decide +kernel
theorem dX9_copyFrom_34 : decode cX9_copyFrom 34 = .ok (.bipush 8, 2) := by decide +kernel
theorem dX9_copyFrom_36 : decode cX9_copyFrom 36 = .ok (.invokestatic 53, 3) := by decide +kernel
theorem dX9_copyFrom_39 : decode cX9_copyFrom 39 = .ok (.aload_n 1, 1) := by decide +kernel
theorem dX9_copyFrom_40 : decode cX9_copyFrom 40 = .ok (.getfield 15, 3) := by decide +kernel
theorem dX9_copyFrom_43 : decode cX9_copyFrom 43 = .ok (.iconst 0, 1) := by decide +kernel
theorem dX9_copyFrom_44 : decode cX9_copyFrom 44 = .ok (.aload_n 0, 1) := by decide +kernel
theorem dX9_copyFrom_45 : decode cX9_copyFrom 45 = .ok (.getfield 15, 3) := by decide +kernel
theorem dX9_copyFrom_48 : decode cX9_copyFrom 48 = .ok (.iconst 0, 1) := by decide +kernel
theorem dX9_copyFrom_49 : decode cX9_copyFrom 49 = .ok (.bipush 8, 2) := by decide +kernel
theorem dX9_copyFrom_51 : decode cX9_copyFrom 51 = .ok (.invokestatic 53, 3) := by decide +kernel
theorem dX9_copyFrom_54 : decode cX9_copyFrom 54 = .ok (.aload_n 1, 1) := by decide +kernel
theorem dX9_copyFrom_55 : decode cX9_copyFrom 55 = .ok (.getfield 18, 3) := by decide +kernel
theorem dX9_copyFrom_58 : decode cX9_copyFrom 58 = .ok (.iconst 0, 1) := by decide +kernel
theorem dX9_copyFrom_59 : decode cX9_copyFrom 59 = .ok (.aload_n 0, 1) := by decide +kernel
theorem dX9_copyFrom_60 : decode cX9_copyFrom 60 = .ok (.getfield 18, 3) := by decide +kernel
theorem dX9_copyFrom_63 : decode cX9_copyFrom 63 = .ok (.iconst 0, 1) := by decide +kernel
theorem dX9_copyFrom_64 : decode cX9_copyFrom 64 = .ok (.bipush 8, 2) := by decide +kernel
theorem dX9_copyFrom_66 : decode cX9_copyFrom 66 = .ok (.invokestatic 53, 3) := by decide +kernel
theorem dX9_copyFrom_69 : decode cX9_copyFrom 69 = .ok (.aload_n 1, 1) := by decide +kernel
theorem dX9_copyFrom_70 : decode cX9_copyFrom 70 = .ok (.getfield 21, 3) := by decide +kernel
theorem dX9_copyFrom_73 : decode cX9_copyFrom 73 = .ok (.iconst 0, 1) := by decide +kernel
theorem dX9_copyFrom_74 : decode cX9_copyFrom 74 = .ok (.aload_n 0, 1) := by decide +kernel
theorem dX9_copyFrom_75 : decode cX9_copyFrom 75 = .ok (.getfield 21, 3) := by decide +kernel
theorem dX9_copyFrom_78 : decode cX9_copyFrom 78 = .ok (.iconst 0, 1) := by decide +kernel
theorem dX9_copyFrom_79 : decode cX9_copyFrom 79 = .ok (.bipush 8, 2) := by decide +kernel
theorem dX9_copyFrom_81 : decode cX9_copyFrom 81 = .ok (.invokestatic 53, 3) := by decide +kernel
theorem dX9_copyFrom_84 : decode cX9_copyFrom 84 = .ok (.aload_n 1, 1) := by decide +kernel
theorem dX9_copyFrom_85 : decode cX9_copyFrom 85 = .ok (.getfield 24, 3) := by decide +kernel
theorem dX9_copyFrom_88 : decode cX9_copyFrom 88 = .ok (.iconst 0, 1) := by decide +kernel
theorem dX9_copyFrom_89 : decode cX9_copyFrom 89 = .ok (.aload_n 0, 1) := by decide +kernel
theorem dX9_copyFrom_90 : decode cX9_copyFrom 90 = .ok (.getfield 24, 3) := by decide +kernel
theorem dX9_copyFrom_93 : decode cX9_copyFrom 93 = .ok (.iconst 0, 1) := by decide +kernel
theorem dX9_copyFrom_94 : decode cX9_copyFrom 94 = .ok (.bipush 72, 2) := by decide +kernel
theorem dX9_copyFrom_96 : decode cX9_copyFrom 96 = .ok (.invokestatic 53, 3) := by decide +kernel
theorem dX9_copyFrom_99 : decode cX9_copyFrom 99 = .ok (.aload_n 1, 1) := by decide +kernel
theorem dX9_copyFrom_100 : decode cX9_copyFrom 100 = .ok (.getfield 27, 3) := by decide +kernel
theorem dX9_copyFrom_103 : decode cX9_copyFrom 103 = .ok (.iconst 0, 1) := by decide +kernel
theorem dX9_copyFrom_104 : decode cX9_copyFrom 104 = .ok (.aload_n 0, 1) := by decide +kernel
theorem dX9_copyFrom_105 : decode cX9_copyFrom 105 = .ok (.getfield 27, 3) := by decide +kernel
theorem dX9_copyFrom_108 : decode cX9_copyFrom 108 = .ok (.iconst 0, 1) := by decide +kernel
theorem dX9_copyFrom_109 : decode cX9_copyFrom 109 = .ok (.bipush 10, 2) := by decide +kernel
theorem dX9_copyFrom_111 : decode cX9_copyFrom 111 = .ok (.invokestatic 53, 3) := by decide +kernel
theorem dX9_copyFrom_114 : decode cX9_copyFrom 114 = .ok (.aload_n 1, 1) := by decide +kernel
theorem dX9_copyFrom_115 : decode cX9_copyFrom 115 = .ok (.getfield 30, 3) := by decide +kernel
theorem dX9_copyFrom_118 : decode cX9_copyFrom 118 = .ok (.iconst 0, 1) := by decide +kernel
theorem dX9_copyFrom_119 : decode cX9_copyFrom 119 = .ok (.aload_n 0, 1) := by decide +kernel
theorem dX9_copyFrom_120 : decode cX9_copyFrom 120 = .ok (.getfield 30, 3) := by decide +kernel
theorem dX9_copyFrom_123 : decode cX9_copyFrom 123 = .ok (.iconst 0, 1) := by decide +kernel
theorem dX9_copyFrom_124 : decode cX9_copyFrom 124 = .ok (.bipush 10, 2) := by decide +kernel
theorem dX9_copyFrom_126 : decode cX9_copyFrom 126 = .ok (.invokestatic 53, 3) := by decide +kernel
theorem dX9_copyFrom_129 : decode cX9_copyFrom 129 = .ok (.aload_n 1, 1) := by decide +kernel
theorem dX9_copyFrom_130 : decode cX9_copyFrom 130 = .ok (.getfield 33, 3) := by decide +kernel
theorem dX9_copyFrom_133 : decode cX9_copyFrom 133 = .ok (.iconst 0, 1) := by decide +kernel
theorem dX9_copyFrom_134 : decode cX9_copyFrom 134 = .ok (.aload_n 0, 1) := by decide +kernel
theorem dX9_copyFrom_135 : decode cX9_copyFrom 135 = .ok (.getfield 33, 3) := by decide +kernel
theorem dX9_copyFrom_138 : decode cX9_copyFrom 138 = .ok (.iconst 0, 1) := by decide +kernel
theorem dX9_copyFrom_139 : decode cX9_copyFrom 139 = .ok (.bipush 7, 2) := by decide +kernel
theorem dX9_copyFrom_141 : decode cX9_copyFrom 141 = .ok (.invokestatic 53, 3) := by decide +kernel
theorem dX9_copyFrom_144 : decode cX9_copyFrom 144 = .ok (.return_, 1) := by decide +kernel
abbrev rm_Water_copyFrom : Room := { frames := 1, cells := 0, slots := 0, locals := 60 }
def Water_copyFrom (σ : Sg) (w : Nat) (p1 : Nat) : Option Sg :=
  zgt σ p1 0 fun v2 =>
  zpt σ w 0 v2 fun σ5 =>
  zgt σ5 p1 1 fun v10 =>
  zpt σ5 w 1 v10 fun σ13 =>
  zgt σ13 p1 2 fun v18 =>
  zpt σ13 w 2 v18 fun σ21 =>
  zcp σ21 (p1 + 1) (w + 1) 8 fun σ36 =>
  zcp σ36 (p1 + 2) (w + 2) 8 fun σ51 =>
  zcp σ51 (p1 + 3) (w + 3) 8 fun σ66 =>
  zcp σ66 (p1 + 4) (w + 4) 8 fun σ81 =>
  zcp σ81 (p1 + 5) (w + 5) 72 fun σ96 =>
  zcp σ96 (p1 + 6) (w + 6) 10 fun σ111 =>
  zcp σ111 (p1 + 7) (w + 7) 10 fun σ126 =>
  zcp σ126 (p1 + 8) (w + 8) 7 fun σ141 =>
  some σ141
set_option maxRecDepth 20000 in
theorem t_Water_copyFrom {N : Nat} {X : Zx} {Q : State → Prop} {σ : Sg} {w : Nat} {p1 : Nat} (ok : Zok X cX9_copyFrom RX9 rm_Water_copyFrom N 2) (hw : zI_Water w N) (hp1 : zI_Water p1 N) {out : Sg} (hf : Water_copyFrom σ w p1 = some out) (hk : ZrV cX9_copyFrom X Q out) : ZAt X Q 0 0 0 σ [(0, .ref (X.ad w)), (1, .ref (X.ad p1))] [] := by
  unfold Water_copyFrom at hf
  obtain ⟨hw_0, hw_1, hw_2, hw_3, hw_4, hw_5, hw_6, hw_7, hw_8, hw_9, hw_10, hw_11, hw_12, hw_13, hw_14, hw_15, hw_16⟩ := id hw
  obtain ⟨hp1_0, hp1_1, hp1_2, hp1_3, hp1_4, hp1_5, hp1_6, hp1_7, hp1_8, hp1_9, hp1_10, hp1_11, hp1_12, hp1_13, hp1_14, hp1_15, hp1_16⟩ := id hp1
  refine z_aload_n ok dX9_copyFrom_0 0 rfl ?_
  refine z_aload_n ok dX9_copyFrom_1 1 rfl ?_
  refine z_geti ok hp1_0 zc_9 hin_9 0 (by decide) fl_9_43 rfl dX9_copyFrom_2 hf (fun v2 hf => ?_)
  refine z_puti ok hw_0 zc_9 hin_9 tyX9 tyX9_ok nmX9 0 (by decide) fl_9_43 rfl rfl (tyX9_ok 0 (by decide)) dX9_copyFrom_5 hf (fun σ5 hf => ?_)
  refine z_aload_n ok dX9_copyFrom_8 0 rfl ?_
  refine z_aload_n ok dX9_copyFrom_9 1 rfl ?_
  refine z_geti ok hp1_0 zc_9 hin_9 1 (by decide) fl_9_47 rfl dX9_copyFrom_10 hf (fun v10 hf => ?_)
  refine z_puti ok hw_0 zc_9 hin_9 tyX9 tyX9_ok nmX9 1 (by decide) fl_9_47 rfl rfl (tyX9_ok 1 (by decide)) dX9_copyFrom_13 hf (fun σ13 hf => ?_)
  refine z_aload_n ok dX9_copyFrom_16 0 rfl ?_
  refine z_aload_n ok dX9_copyFrom_17 1 rfl ?_
  refine z_geti ok hp1_0 zc_9 hin_9 2 (by decide) fl_9_50 rfl dX9_copyFrom_18 hf (fun v18 hf => ?_)
  refine z_puti ok hw_0 zc_9 hin_9 tyX9 tyX9_ok nmX9 2 (by decide) fl_9_50 rfl rfl (tyX9_ok 2 (by decide)) dX9_copyFrom_21 hf (fun σ21 hf => ?_)
  refine z_aload_n ok dX9_copyFrom_24 1 rfl ?_
  refine z_getr (q := (p1 + 1)) ok hp1_0 zc_9 hin_9 3 (by decide) fl_9_9 rfl dX9_copyFrom_25 ?_
  refine z_iconst (v := 0) ok dX9_copyFrom_28 (by decide) ?_
  refine z_aload_n ok dX9_copyFrom_29 0 rfl ?_
  refine z_getr (q := (w + 1)) ok hw_0 zc_9 hin_9 3 (by decide) fl_9_9 rfl dX9_copyFrom_30 ?_
  refine z_iconst (v := 0) ok dX9_copyFrom_33 (by decide) ?_
  refine z_bipush (v := 8) ok dX9_copyFrom_34 (by decide) ?_
  refine z_copy ok hp1_1 hw_1 ml_9_53 (by decide) (Nat.le_of_ble_eq_true rfl) (Nat.le_of_ble_eq_true rfl) dX9_copyFrom_36 hf (fun σ36 hf => ?_)
  refine z_aload_n ok dX9_copyFrom_39 1 rfl ?_
  refine z_getr (q := (p1 + 2)) ok hp1_0 zc_9 hin_9 4 (by decide) fl_9_15 rfl dX9_copyFrom_40 ?_
  refine z_iconst (v := 0) ok dX9_copyFrom_43 (by decide) ?_
  refine z_aload_n ok dX9_copyFrom_44 0 rfl ?_
  refine z_getr (q := (w + 2)) ok hw_0 zc_9 hin_9 4 (by decide) fl_9_15 rfl dX9_copyFrom_45 ?_
  refine z_iconst (v := 0) ok dX9_copyFrom_48 (by decide) ?_
  refine z_bipush (v := 8) ok dX9_copyFrom_49 (by decide) ?_
  refine z_copy ok hp1_2 hw_2 ml_9_53 (by decide) (Nat.le_of_ble_eq_true rfl) (Nat.le_of_ble_eq_true rfl) dX9_copyFrom_51 hf (fun σ51 hf => ?_)
  refine z_aload_n ok dX9_copyFrom_54 1 rfl ?_
  refine z_getr (q := (p1 + 3)) ok hp1_0 zc_9 hin_9 5 (by decide) fl_9_18 rfl dX9_copyFrom_55 ?_
  refine z_iconst (v := 0) ok dX9_copyFrom_58 (by decide) ?_
  refine z_aload_n ok dX9_copyFrom_59 0 rfl ?_
  refine z_getr (q := (w + 3)) ok hw_0 zc_9 hin_9 5 (by decide) fl_9_18 rfl dX9_copyFrom_60 ?_
  refine z_iconst (v := 0) ok dX9_copyFrom_63 (by decide) ?_
  refine z_bipush (v := 8) ok dX9_copyFrom_64 (by decide) ?_
  refine z_copy ok hp1_3 hw_3 ml_9_53 (by decide) (Nat.le_of_ble_eq_true rfl) (Nat.le_of_ble_eq_true rfl) dX9_copyFrom_66 hf (fun σ66 hf => ?_)
  refine z_aload_n ok dX9_copyFrom_69 1 rfl ?_
  refine z_getr (q := (p1 + 4)) ok hp1_0 zc_9 hin_9 6 (by decide) fl_9_21 rfl dX9_copyFrom_70 ?_
  refine z_iconst (v := 0) ok dX9_copyFrom_73 (by decide) ?_
  refine z_aload_n ok dX9_copyFrom_74 0 rfl ?_
  refine z_getr (q := (w + 4)) ok hw_0 zc_9 hin_9 6 (by decide) fl_9_21 rfl dX9_copyFrom_75 ?_
  refine z_iconst (v := 0) ok dX9_copyFrom_78 (by decide) ?_
  refine z_bipush (v := 8) ok dX9_copyFrom_79 (by decide) ?_
  refine z_copy ok hp1_4 hw_4 ml_9_53 (by decide) (Nat.le_of_ble_eq_true rfl) (Nat.le_of_ble_eq_true rfl) dX9_copyFrom_81 hf (fun σ81 hf => ?_)
  refine z_aload_n ok dX9_copyFrom_84 1 rfl ?_
  refine z_getr (q := (p1 + 5)) ok hp1_0 zc_9 hin_9 7 (by decide) fl_9_24 rfl dX9_copyFrom_85 ?_
  refine z_iconst (v := 0) ok dX9_copyFrom_88 (by decide) ?_
  refine z_aload_n ok dX9_copyFrom_89 0 rfl ?_
  refine z_getr (q := (w + 5)) ok hw_0 zc_9 hin_9 7 (by decide) fl_9_24 rfl dX9_copyFrom_90 ?_
  refine z_iconst (v := 0) ok dX9_copyFrom_93 (by decide) ?_
  refine z_bipush (v := 72) ok dX9_copyFrom_94 (by decide) ?_
  refine z_copy ok hp1_5 hw_5 ml_9_53 (by decide) (Nat.le_of_ble_eq_true rfl) (Nat.le_of_ble_eq_true rfl) dX9_copyFrom_96 hf (fun σ96 hf => ?_)
  refine z_aload_n ok dX9_copyFrom_99 1 rfl ?_
  refine z_getr (q := (p1 + 6)) ok hp1_0 zc_9 hin_9 8 (by decide) fl_9_27 rfl dX9_copyFrom_100 ?_
  refine z_iconst (v := 0) ok dX9_copyFrom_103 (by decide) ?_
  refine z_aload_n ok dX9_copyFrom_104 0 rfl ?_
  refine z_getr (q := (w + 6)) ok hw_0 zc_9 hin_9 8 (by decide) fl_9_27 rfl dX9_copyFrom_105 ?_
  refine z_iconst (v := 0) ok dX9_copyFrom_108 (by decide) ?_
  refine z_bipush (v := 10) ok dX9_copyFrom_109 (by decide) ?_
  refine z_copy ok hp1_6 hw_6 ml_9_53 (by decide) (Nat.le_of_ble_eq_true rfl) (Nat.le_of_ble_eq_true rfl) dX9_copyFrom_111 hf (fun σ111 hf => ?_)
  refine z_aload_n ok dX9_copyFrom_114 1 rfl ?_
  refine z_getr (q := (p1 + 7)) ok hp1_0 zc_9 hin_9 9 (by decide) fl_9_30 rfl dX9_copyFrom_115 ?_
  refine z_iconst (v := 0) ok dX9_copyFrom_118 (by decide) ?_
  refine z_aload_n ok dX9_copyFrom_119 0 rfl ?_
  refine z_getr (q := (w + 7)) ok hw_0 zc_9 hin_9 9 (by decide) fl_9_30 rfl dX9_copyFrom_120 ?_
  refine z_iconst (v := 0) ok dX9_copyFrom_123 (by decide) ?_
  refine z_bipush (v := 10) ok dX9_copyFrom_124 (by decide) ?_
  refine z_copy ok hp1_7 hw_7 ml_9_53 (by decide) (Nat.le_of_ble_eq_true rfl) (Nat.le_of_ble_eq_true rfl) dX9_copyFrom_126 hf (fun σ126 hf => ?_)
  refine z_aload_n ok dX9_copyFrom_129 1 rfl ?_
  refine z_getr (q := (p1 + 8)) ok hp1_0 zc_9 hin_9 10 (by decide) fl_9_33 rfl dX9_copyFrom_130 ?_
  refine z_iconst (v := 0) ok dX9_copyFrom_133 (by decide) ?_
  refine z_aload_n ok dX9_copyFrom_134 0 rfl ?_
  refine z_getr (q := (w + 8)) ok hw_0 zc_9 hin_9 10 (by decide) fl_9_33 rfl dX9_copyFrom_135 ?_
  refine z_iconst (v := 0) ok dX9_copyFrom_138 (by decide) ?_
  refine z_bipush (v := 7) ok dX9_copyFrom_139 (by decide) ?_
  refine z_copy ok hp1_8 hw_8 ml_9_53 (by decide) (Nat.le_of_ble_eq_true rfl) (Nat.le_of_ble_eq_true rfl) dX9_copyFrom_141 hf (fun σ141 hf => ?_)
  obtain rfl := Option.some.inj hf
  exact hk _ _ dX9_copyFrom_144
theorem c_Water_copyFrom {N : Nat} {σ : Sg} {w : Nat} {p1 : Nat} (hw : zI_Water w N) (hp1 : zI_Water p1 N) {r : Sg} (h : Water_copyFrom σ w p1 = some r) : ZcV yX9_copyFrom cX9_copyFrom 2 rm_Water_copyFrom N (fun ad => [.ref (ad w), .ref (ad p1)]) σ r :=
  zmetV pn_9 rfl (fun _ => rfl) (fun _ => Nat.le_of_ble_eq_true rfl) (fun X Q ok hk => t_Water_copyFrom ok hw hp1 h hk)
theorem dX4_look_0 : decode cX4_look 0 = .ok (.aload_n 0, 1) := by decide +kernel
theorem dX4_look_1 : decode cX4_look 1 = .ok (.aload_n 1, 1) := by decide +kernel
theorem dX4_look_2 : decode cX4_look 2 = .ok (.putfield 32, 3) := by decide +kernel
theorem dX4_look_5 : decode cX4_look 5 = .ok (.aload_n 0, 1) := by decide +kernel
theorem dX4_look_6 : decode cX4_look 6 = .ok (.aload_n 2, 1) := by decide +kernel
theorem dX4_look_7 : decode cX4_look 7 = .ok (.putfield 36, 3) := by decide +kernel
theorem dX4_look_10 : decode cX4_look 10 = .ok (.aload_n 0, 1) := by decide +kernel
theorem dX4_look_11 : decode cX4_look 11 = .ok (.getfield 28, 3) := by decide +kernel
theorem dX4_look_14 : decode cX4_look 14 = .ok (.aload_n 0, 1) := by decide +kernel
theorem dX4_look_15 : decode cX4_look 15 = .ok (.getfield 32, 3) := by decide +kernel
theorem dX4_look_18 : decode cX4_look 18 = .ok (.aload_n 0, 1) := by decide +kernel
theorem dX4_look_19 : decode cX4_look 19 = .ok (.getfield 36, 3) := by decide +kernel
theorem dX4_look_22 : decode cX4_look 22 = .ok (.getfield 40, 3) := by decide +kernel
theorem dX4_look_25 : decode cX4_look 25 = .ok (.aload_n 0, 1) := by decide +kernel
theorem dX4_look_26 : decode cX4_look 26 = .ok (.getfield 36, 3) := by decide +kernel
theorem dX4_look_29 : decode cX4_look 29 = .ok (.getfield 43, 3) := by decide +kernel
theorem dX4_look_32 : decode cX4_look 32 = .ok (.getfield 44, 3) := by decide +kernel
theorem dX4_look_35 : decode cX4_look 35 = .ok (.iload_n 3, 1) := by decide +kernel
theorem dX4_look_36 : decode cX4_look 36 = .ok (.invokevirtual 48, 3) := by decide +kernel
theorem dX4_look_39 : decode cX4_look 39 = .ok (.aload_n 0, 1) := by decide +kernel
theorem dX4_look_40 : decode cX4_look 40 = .ok (.getfield 12, 3) := by decide +kernel
theorem dX4_look_43 : decode cX4_look 43 = .ok (.aload_n 0, 1) := by decide +kernel
theorem dX4_look_44 : decode cX4_look 44 = .ok (.getfield 36, 3) := by decide +kernel
theorem dX4_look_47 : decode cX4_look 47 = .ok (.getfield 43, 3) := by decide +kernel
theorem dX4_look_50 : decode cX4_look 50 = .ok (.invokevirtual 52, 3) := by decide +kernel
theorem dX4_look_53 : decode cX4_look 53 = .ok (.return_, 1) := by decide +kernel
abbrev rm_Outlook_look : Room := { frames := 4, cells := 0, slots := 0, locals := 97 }
def Outlook_look (σ : Sg) (p1 : Nat) (p2 : Nat) (x3 : Int32) : Option Sg :=
  zpt σ 81 3 (nI (p1 + 1)) fun σ2 =>
  zpt σ2 81 4 (nI (p2 + 1)) fun σ7 =>
  zmr2 3 29 (σ7 81 3) fun q15 =>
  zmr1 55 (σ7 81 4) <|
  zmr1 55 (σ7 81 4) <|
  zgt σ7 56 0 fun v32 =>
  (Schedule_plan σ7 q15 73 v32 x3).bind fun r36 =>
  zmr1 55 (r36 81 4) <|
  (Water_copyFrom r36 82 56).bind fun r50 =>
  some r50
set_option maxRecDepth 20000 in
theorem t_Outlook_look {X : Zx} {Q : State → Prop} {σ : Sg} {p1 : Nat} {p2 : Nat} {x3 : Int32} (ok : Zok X cX4_look RX4 rm_Outlook_look 198 4) (hp1 : zI_Works p1 198) (hp2 : zI_Moment p2 198) {out : Sg} (hf : Outlook_look σ p1 p2 x3 = some out) (hk : ZrV cX4_look X Q out) : ZAt X Q 0 0 0 σ [(0, .ref (X.ad 81)), (1, .ref (X.ad p1)), (2, .ref (X.ad p2)), (3, .int x3)] [] := by
  unfold Outlook_look at hf
  obtain ⟨hp1_0, hp1_1, hp1_2, hp1_3, hp1_4, hp1_5, hp1_6, hp1_7, hp1_8, hp1_9, hp1_10, hp1_11, hp1_12, hp1_13, hp1_14, hp1_15, hp1_16, hp1_17, hp1_18, hp1_19, hp1_20, hp1_21, hp1_22, hp1_23, hp1_24, hp1_25⟩ := id hp1
  obtain ⟨hp2_0, hp2_1, hp2_2, hp2_3, hp2_4, hp2_5, hp2_6, hp2_7, hp2_8, hp2_9, hp2_10, hp2_11, hp2_12, hp2_13, hp2_14, hp2_15, hp2_16, hp2_17, hp2_18, hp2_19, hp2_20, hp2_21, hp2_22, hp2_23, hp2_24⟩ := id hp2
  refine z_aload_n ok dX4_look_0 0 rfl ?_
  refine z_aload_n ok dX4_look_1 1 rfl ?_
  refine z_putm (r := p1) ok kc_81 zc_4 hin_4 tyX4 tyX4_ok nmX4 3 (by decide) fl_4_32 rfl rfl (Nat.lt_trans hp1_0.2 (by decide)) (tyX4_ok 3 (by decide)) rfl rfl dX4_look_2 hf (fun σ2 hf => ?_)
  refine z_aload_n ok dX4_look_5 0 rfl ?_
  refine z_aload_n ok dX4_look_6 2 rfl ?_
  refine z_putm (r := p2) ok kc_81 zc_4 hin_4 tyX4 tyX4_ok nmX4 4 (by decide) fl_4_36 rfl rfl (Nat.lt_trans hp2_0.2 (by decide)) (tyX4_ok 4 (by decide)) rfl rfl dX4_look_7 hf (fun σ7 hf => ?_)
  refine z_aload_n ok dX4_look_10 0 rfl ?_
  refine z_getr (q := 103) ok kc_81 zc_4 hin_4 2 (by decide) fl_4_28 rfl dX4_look_11 ?_
  refine z_aload_n ok dX4_look_14 0 rfl ?_
  refine z_getm2 (p := 3) (q := 29) ok kc_81 zc_4 hin_4 3 (by decide) fl_4_32 rfl (by decide) (by decide) dX4_look_15 hf (fun q15 e15 hf => ?_)
  have hq15 : zI_Works q15 198 := by rcases e15 with rfl | rfl; exact kI_Works_3; exact kI_Works_29
  obtain ⟨hq15_0, hq15_1, hq15_2, hq15_3, hq15_4, hq15_5, hq15_6, hq15_7, hq15_8, hq15_9, hq15_10, hq15_11, hq15_12, hq15_13, hq15_14, hq15_15, hq15_16, hq15_17, hq15_18, hq15_19, hq15_20, hq15_21, hq15_22, hq15_23, hq15_24, hq15_25⟩ := id hq15
  refine z_aload_n ok dX4_look_18 0 rfl ?_
  refine z_getm1 (p := 55) ok kc_81 zc_4 hin_4 4 (by decide) fl_4_36 rfl (by decide) dX4_look_19 hf (fun hf => ?_)
  refine z_getr (q := 73) ok kc_55 zc_1 hin_1 1 (by decide) fl_4_40 rfl dX4_look_22 ?_
  refine z_aload_n ok dX4_look_25 0 rfl ?_
  refine z_getm1 (p := 55) ok kc_81 zc_4 hin_4 4 (by decide) fl_4_36 rfl (by decide) dX4_look_26 hf (fun hf => ?_)
  refine z_getr (q := 56) ok kc_55 zc_1 hin_1 0 (by decide) fl_4_43 rfl dX4_look_29 ?_
  refine z_geti ok kc_56 zc_9 hin_9 0 (by decide) fl_4_44 rfl dX4_look_32 hf (fun v32 hf => ?_)
  refine z_iload_n ok dX4_look_35 3 rfl ?_
  refine z_call hf (fun r36 h36 hf => ?_)
  refine z_cVv (As := [.ref (X.ad q15), .ref (X.ad 73), .int v32, .int x3]) (rest := []) (w := 103) ok kc_103 zc_6 (c_Schedule_plan hq15 kI_Orders_73 h36) rfl ⟨ml_4_48, w_Schedule_plan⟩ hy_Schedule_plan ⟨rfl, rfl⟩ ⟨Nat.le_of_ble_eq_true rfl, Nat.le_of_ble_eq_true rfl⟩ ⟨Nat.zero_le _, Nat.zero_le _⟩ rfl (Nat.le_of_ble_eq_true rfl) dX4_look_36 ?_
  refine z_aload_n ok dX4_look_39 0 rfl ?_
  refine z_getr (q := 82) ok kc_81 zc_4 hin_4 0 (by decide) fl_4_12 rfl dX4_look_40 ?_
  refine z_aload_n ok dX4_look_43 0 rfl ?_
  refine z_getm1 (p := 55) ok kc_81 zc_4 hin_4 4 (by decide) fl_4_36 rfl (by decide) dX4_look_44 hf (fun hf => ?_)
  refine z_getr (q := 56) ok kc_55 zc_1 hin_1 0 (by decide) fl_4_43 rfl dX4_look_47 ?_
  refine z_call hf (fun r50 h50 hf => ?_)
  refine z_cVv (As := [.ref (X.ad 56)]) (rest := []) (w := 82) ok kc_82 zc_9 (c_Water_copyFrom kI_Water_82 kI_Water_56 h50) rfl ⟨ml_4_52, w_Water_copyFrom⟩ hy_Water_copyFrom ⟨rfl, rfl⟩ ⟨Nat.le_of_ble_eq_true rfl, Nat.le_of_ble_eq_true rfl⟩ ⟨Nat.zero_le _, Nat.zero_le _⟩ rfl (Nat.le_of_ble_eq_true rfl) dX4_look_50 ?_
  obtain rfl := Option.some.inj hf
  exact hk _ _ dX4_look_53
theorem c_Outlook_look {σ : Sg} {p1 : Nat} {p2 : Nat} {x3 : Int32} (hp1 : zI_Works p1 198) (hp2 : zI_Moment p2 198) {r : Sg} (h : Outlook_look σ p1 p2 x3 = some r) : ZcV yX4_look cX4_look 4 rm_Outlook_look 198 (fun ad => [.ref (ad 81), .ref (ad p1), .ref (ad p2), .int x3]) σ r :=
  zmetV pn_4 rfl (fun _ => rfl) (fun _ => Nat.le_of_ble_eq_true rfl) (fun X Q ok hk => t_Outlook_look ok hp1 hp2 h hk)
theorem dX9_beginStep_0 : decode cX9_beginStep 0 = .ok (.aload_n 0, 1) := by decide +kernel
theorem dX9_beginStep_1 : decode cX9_beginStep 1 = .ok (.getfield 9, 3) := by decide +kernel
theorem dX9_beginStep_4 : decode cX9_beginStep 4 = .ok (.iconst 0, 1) := by decide +kernel
theorem dX9_beginStep_5 : decode cX9_beginStep 5 = .ok (.aload_n 0, 1) := by decide +kernel
theorem dX9_beginStep_6 : decode cX9_beginStep 6 = .ok (.getfield 39, 3) := by decide +kernel
theorem dX9_beginStep_9 : decode cX9_beginStep 9 = .ok (.getfield 80, 3) := by decide +kernel
theorem dX9_beginStep_12 : decode cX9_beginStep 12 = .ok (.iconst 0, 1) := by decide +kernel
theorem dX9_beginStep_13 : decode cX9_beginStep 13 = .ok (.bipush 8, 2) := by decide +kernel
theorem dX9_beginStep_15 : decode cX9_beginStep 15 = .ok (.invokestatic 53, 3) := by decide +kernel
theorem dX9_beginStep_18 : decode cX9_beginStep 18 = .ok (.iconst 0, 1) := by decide +kernel
theorem dX9_beginStep_19 : decode cX9_beginStep 19 = .ok (.istore_n 2, 1) := by decide +kernel
theorem dX9_beginStep_20 : decode cX9_beginStep 20 = .ok (.iload_n 2, 1) := by decide +kernel
theorem dX9_beginStep_21 : decode cX9_beginStep 21 = .ok (.iload_n 1, 1) := by decide +kernel
theorem dX9_beginStep_22 : decode cX9_beginStep 22 = .ok (.if_icmp .ge 39, 3) := by decide +kernel
theorem dX9_beginStep_25 : decode cX9_beginStep 25 = .ok (.aload_n 0, 1) := by decide +kernel
theorem dX9_beginStep_26 : decode cX9_beginStep 26 = .ok (.getfield 39, 3) := by decide +kernel
theorem dX9_beginStep_29 : decode cX9_beginStep 29 = .ok (.getfield 83, 3) := by decide +kernel
theorem dX9_beginStep_32 : decode cX9_beginStep 32 = .ok (.iload_n 2, 1) := by decide +kernel
theorem dX9_beginStep_33 : decode cX9_beginStep 33 = .ok (.iconst 0, 1) := by decide +kernel
theorem dX9_beginStep_34 : decode cX9_beginStep 34 = .ok (.iastore, 1) := by decide +kernel
theorem dX9_beginStep_35 : decode cX9_beginStep 35 = .ok (.aload_n 0, 1) := by decide +kernel
theorem dX9_beginStep_36 : decode cX9_beginStep 36 = .ok (.getfield 39, 3) := by decide +kernel
theorem dX9_beginStep_39 : decode cX9_beginStep 39 = .ok (.getfield 86, 3) := by decide +kernel
theorem dX9_beginStep_42 : decode cX9_beginStep 42 = .ok (.iload_n 2, 1) := by decide +kernel
theorem dX9_beginStep_43 : decode cX9_beginStep 43 = .ok (.iconst 0, 1) := by decide +kernel
theorem dX9_beginStep_44 : decode cX9_beginStep 44 = .ok (.iastore, 1) := by decide +kernel
theorem dX9_beginStep_45 : decode cX9_beginStep 45 = .ok (.aload_n 0, 1) := by decide +kernel
theorem dX9_beginStep_46 : decode cX9_beginStep 46 = .ok (.getfield 39, 3) := by decide +kernel
theorem dX9_beginStep_49 : decode cX9_beginStep 49 = .ok (.getfield 89, 3) := by decide +kernel
theorem dX9_beginStep_52 : decode cX9_beginStep 52 = .ok (.iload_n 2, 1) := by decide +kernel
theorem dX9_beginStep_53 : decode cX9_beginStep 53 = .ok (.iconst 0, 1) := by decide +kernel
theorem dX9_beginStep_54 : decode cX9_beginStep 54 = .ok (.iastore, 1) := by decide +kernel
theorem dX9_beginStep_55 : decode cX9_beginStep 55 = .ok (.iinc 2 1, 3) := by decide +kernel
theorem dX9_beginStep_58 : decode cX9_beginStep 58 = .ok (.goto (-38), 3) := by decide +kernel
theorem dX9_beginStep_61 : decode cX9_beginStep 61 = .ok (.return_, 1) := by decide +kernel
abbrev rm_Water_beginStep : Room := { frames := 1, cells := 0, slots := 0, locals := 60 }
def Water_beginStep_l20 (σ : Sg) (w : Nat) (x1 : Int32) (x2 : Int32) : Option ((Sg × Int32) ⊕ (Sg × Int32)) :=
  if x1 ≤ x2 then (
    some (.inr (σ, x2))
  ) else (
    zwr σ (w + 11) 8 x2 0 fun σ34 =>
    zwr σ34 (w + 12) 8 x2 0 fun σ44 =>
    zwr σ44 (w + 15) 8 x2 0 fun σ54 =>
    zlt (x2 + 1) fun v55 =>
    some (.inl (σ54, v55))
  )
set_option maxRecDepth 20000 in
theorem t_Water_beginStep_l20 {X : Zx} {Q : State → Prop} {σ : Sg} {w : Nat} {x1 : Int32} {x2 : Int32} (ok : Zok X cX9_beginStep RX9 rm_Water_beginStep 198 3) (hw : zI_Water w 198) {out : ((Sg × Int32) ⊕ (Sg × Int32))} (hf : Water_beginStep_l20 σ w x1 x2 = some out) (hk : zout (fun (s : (Sg × Int32)) => ZAt X Q 0 0 20 s.1 [(0, .ref (X.ad w)), (1, .int x1), (2, .int s.2)] []) (fun (s : (Sg × Int32)) => ZAt X Q 0 0 61 s.1 [] []) out) : ZAt X Q 0 0 20 σ [(0, .ref (X.ad w)), (1, .int x1), (2, .int x2)] [] := by
  unfold Water_beginStep_l20 at hf
  obtain ⟨hw_0, hw_1, hw_2, hw_3, hw_4, hw_5, hw_6, hw_7, hw_8, hw_9, hw_10, hw_11, hw_12, hw_13, hw_14, hw_15, hw_16⟩ := id hw
  refine z_iload_n ok dX9_beginStep_20 2 rfl ?_
  refine z_iload_n ok dX9_beginStep_21 1 rfl ?_
  refine z_icmp_ge (tgt := 61) ok dX9_beginStep_22 (by decide) hf (fun _ hf => ?_) (fun _ hf => ?_)
  · obtain rfl := Option.some.inj hf
    exact z_sub [] rfl hk
  · refine z_aload_n ok dX9_beginStep_25 0 rfl ?_
    refine z_getr (q := (w + 9)) ok hw_0 zc_9 hin_9 11 (by decide) fl_9_39 rfl dX9_beginStep_26 ?_
    refine z_getr (q := (w + 11)) ok hw_9 zc_2 hin_2 1 (by decide) fl_9_83 rfl dX9_beginStep_29 ?_
    refine z_iload_n ok dX9_beginStep_32 2 rfl ?_
    refine z_iconst (v := 0) ok dX9_beginStep_33 (by decide) ?_
    refine z_iast ok hw_11 dX9_beginStep_34 hf (fun σ34 hf => ?_)
    refine z_aload_n ok dX9_beginStep_35 0 rfl ?_
    refine z_getr (q := (w + 9)) ok hw_0 zc_9 hin_9 11 (by decide) fl_9_39 rfl dX9_beginStep_36 ?_
    refine z_getr (q := (w + 12)) ok hw_9 zc_2 hin_2 2 (by decide) fl_9_86 rfl dX9_beginStep_39 ?_
    refine z_iload_n ok dX9_beginStep_42 2 rfl ?_
    refine z_iconst (v := 0) ok dX9_beginStep_43 (by decide) ?_
    refine z_iast ok hw_12 dX9_beginStep_44 hf (fun σ44 hf => ?_)
    refine z_aload_n ok dX9_beginStep_45 0 rfl ?_
    refine z_getr (q := (w + 9)) ok hw_0 zc_9 hin_9 11 (by decide) fl_9_39 rfl dX9_beginStep_46 ?_
    refine z_getr (q := (w + 15)) ok hw_9 zc_2 hin_2 5 (by decide) fl_9_89 rfl dX9_beginStep_49 ?_
    refine z_iload_n ok dX9_beginStep_52 2 rfl ?_
    refine z_iconst (v := 0) ok dX9_beginStep_53 (by decide) ?_
    refine z_iast ok hw_15 dX9_beginStep_54 hf (fun σ54 hf => ?_)
    refine z_iinc (w := 1) (lv' := fun v55 => [(2, .int v55), (0, .ref (X.ad w)), (1, .int x1)]) ok dX9_beginStep_55 2 rfl (by decide) (by decide) (fun _ => rfl) hf (fun v55 hf => ?_)
    refine z_goto (tgt := 20) ok dX9_beginStep_58 (by decide) ?_
    obtain rfl := Option.some.inj hf
    exact z_sub [1, 2, 0] rfl hk
def Water_beginStep (σ : Sg) (w : Nat) (x1 : Int32) : Option Sg :=
  zcp σ (w + 1) (w + 10) 8 fun σ15 =>
  zlt 0 fun v19 =>
  (zit (fun (s : (Sg × Int32)) => Water_beginStep_l20 s.1 w x1 s.2) zFU (σ15, v19)).bind fun r =>
  some r.1
set_option maxRecDepth 20000 in
theorem t_Water_beginStep {X : Zx} {Q : State → Prop} {σ : Sg} {w : Nat} {x1 : Int32} (ok : Zok X cX9_beginStep RX9 rm_Water_beginStep 198 3) (hw : zI_Water w 198) {out : Sg} (hf : Water_beginStep σ w x1 = some out) (hk : ZrV cX9_beginStep X Q out) : ZAt X Q 0 0 0 σ [(0, .ref (X.ad w)), (1, .int x1)] [] := by
  unfold Water_beginStep at hf
  obtain ⟨hw_0, hw_1, hw_2, hw_3, hw_4, hw_5, hw_6, hw_7, hw_8, hw_9, hw_10, hw_11, hw_12, hw_13, hw_14, hw_15, hw_16⟩ := id hw
  refine z_aload_n ok dX9_beginStep_0 0 rfl ?_
  refine z_getr (q := (w + 1)) ok hw_0 zc_9 hin_9 3 (by decide) fl_9_9 rfl dX9_beginStep_1 ?_
  refine z_iconst (v := 0) ok dX9_beginStep_4 (by decide) ?_
  refine z_aload_n ok dX9_beginStep_5 0 rfl ?_
  refine z_getr (q := (w + 9)) ok hw_0 zc_9 hin_9 11 (by decide) fl_9_39 rfl dX9_beginStep_6 ?_
  refine z_getr (q := (w + 10)) ok hw_9 zc_2 hin_2 0 (by decide) fl_9_80 rfl dX9_beginStep_9 ?_
  refine z_iconst (v := 0) ok dX9_beginStep_12 (by decide) ?_
  refine z_bipush (v := 8) ok dX9_beginStep_13 (by decide) ?_
  refine z_copy ok hw_1 hw_10 ml_9_53 (by decide) (Nat.le_of_ble_eq_true rfl) (Nat.le_of_ble_eq_true rfl) dX9_beginStep_15 hf (fun σ15 hf => ?_)
  refine z_iconst (v := 0) ok dX9_beginStep_18 (by decide) ?_
  refine z_nm hf (fun v19 hf => ?_)
  refine z_istore_n (lv' := [(2, .int v19), (0, .ref (X.ad w)), (1, .int x1)]) ok dX9_beginStep_19 (by decide) rfl ?_
  refine z_call hf (fun r hr hf => ?_)
  refine z_sub [1, 2, 0] rfl (z_iter (fun (s : (Sg × Int32)) => s.1) (fun (s : (Sg × Int32)) => [(0, .ref (X.ad w)), (1, .int x1), (2, .int s.2)]) (fun s o h1 h2 => t_Water_beginStep_l20 ok hw h1 h2) _ _ _ hr ?_)
  show ZAt X Q 0 0 61 r.1 [] []
  obtain rfl := Option.some.inj hf
  exact hk _ _ dX9_beginStep_61
theorem c_Water_beginStep {σ : Sg} {w : Nat} {x1 : Int32} (hw : zI_Water w 198) {r : Sg} (h : Water_beginStep σ w x1 = some r) : ZcV yX9_beginStep cX9_beginStep 3 rm_Water_beginStep 198 (fun ad => [.ref (ad w), .int x1]) σ r :=
  zmetV pn_9 rfl (fun _ => rfl) (fun _ => Nat.le_of_ble_eq_true rfl) (fun X Q ok hk => t_Water_beginStep ok hw h hk)
theorem dX9_arriveAndLeak_0 : decode cX9_arriveAndLeak 0 = .ok (.iconst 0, 1) := by decide +kernel
theorem dX9_arriveAndLeak_1 : decode cX9_arriveAndLeak 1 = .ok (.istore_n 2, 1) := by decide +kernel
theorem dX9_arriveAndLeak_2 : decode cX9_arriveAndLeak 2 = .ok (.iload_n 2, 1) := by decide +kernel
theorem dX9_arriveAndLeak_3 : decode cX9_arriveAndLeak 3 = .ok (.aload_n 1, 1) := by decide +kernel
theorem dX9_arriveAndLeak_4 : decode cX9_arriveAndLeak 4 = .ok (.getfield 109, 3) := by decide +kernel
theorem dX9_arriveAndLeak_7 : decode cX9_arriveAndLeak 7 = .ok (.if_icmp .ge 79, 3) := by decide +kernel
theorem dX9_arriveAndLeak_10 : decode cX9_arriveAndLeak 10 = .ok (.aload_n 0, 1) := by decide +kernel
theorem dX9_arriveAndLeak_11 : decode cX9_arriveAndLeak 11 = .ok (.aload_n 1, 1) := by decide +kernel
theorem dX9_arriveAndLeak_12 : decode cX9_arriveAndLeak 12 = .ok (.iload_n 2, 1) := by decide +kernel
theorem dX9_arriveAndLeak_13 : decode cX9_arriveAndLeak 13 = .ok (.iconst 0, 1) := by decide +kernel
theorem dX9_arriveAndLeak_14 : decode cX9_arriveAndLeak 14 = .ok (.invokevirtual 112, 3) := by decide +kernel
theorem dX9_arriveAndLeak_17 : decode cX9_arriveAndLeak 17 = .ok (.istore_n 3, 1) := by decide +kernel
theorem dX9_arriveAndLeak_18 : decode cX9_arriveAndLeak 18 = .ok (.aload_n 0, 1) := by decide +kernel
theorem dX9_arriveAndLeak_19 : decode cX9_arriveAndLeak 19 = .ok (.getfield 9, 3) := by decide +kernel
theorem dX9_arriveAndLeak_22 : decode cX9_arriveAndLeak 22 = .ok (.iload_n 2, 1) := by decide +kernel
theorem dX9_arriveAndLeak_23 : decode cX9_arriveAndLeak 23 = .ok (.dup2, 1) := by decide +kernel
theorem dX9_arriveAndLeak_24 : decode cX9_arriveAndLeak 24 = .ok (.iaload, 1) := by decide +kernel
theorem dX9_arriveAndLeak_25 : decode cX9_arriveAndLeak 25 = .ok (.iload_n 3, 1) := by decide +kernel
theorem dX9_arriveAndLeak_26 : decode cX9_arriveAndLeak 26 = .ok (.iadd, 1) := by decide +kernel
theorem dX9_arriveAndLeak_27 : decode cX9_arriveAndLeak 27 = .ok (.iastore, 1) := by decide +kernel
theorem dX9_arriveAndLeak_28 : decode cX9_arriveAndLeak 28 = .ok (.aload_n 0, 1) := by decide +kernel
theorem dX9_arriveAndLeak_29 : decode cX9_arriveAndLeak 29 = .ok (.getfield 39, 3) := by decide +kernel
theorem dX9_arriveAndLeak_32 : decode cX9_arriveAndLeak 32 = .ok (.getfield 83, 3) := by decide +kernel
theorem dX9_arriveAndLeak_35 : decode cX9_arriveAndLeak 35 = .ok (.iload_n 2, 1) := by decide +kernel
theorem dX9_arriveAndLeak_36 : decode cX9_arriveAndLeak 36 = .ok (.dup2, 1) := by decide +kernel
theorem dX9_arriveAndLeak_37 : decode cX9_arriveAndLeak 37 = .ok (.iaload, 1) := by decide +kernel
theorem dX9_arriveAndLeak_38 : decode cX9_arriveAndLeak 38 = .ok (.iload_n 3, 1) := by decide +kernel
theorem dX9_arriveAndLeak_39 : decode cX9_arriveAndLeak 39 = .ok (.iadd, 1) := by decide +kernel
theorem dX9_arriveAndLeak_40 : decode cX9_arriveAndLeak 40 = .ok (.iastore, 1) := by decide +kernel
theorem dX9_arriveAndLeak_41 : decode cX9_arriveAndLeak 41 = .ok (.aload_n 0, 1) := by decide +kernel
theorem dX9_arriveAndLeak_42 : decode cX9_arriveAndLeak 42 = .ok (.getfield 18, 3) := by decide +kernel
theorem dX9_arriveAndLeak_45 : decode cX9_arriveAndLeak 45 = .ok (.iload_n 2, 1) := by decide +kernel
theorem dX9_arriveAndLeak_46 : decode cX9_arriveAndLeak 46 = .ok (.iaload, 1) := by decide +kernel
theorem dX9_arriveAndLeak_47 : decode cX9_arriveAndLeak 47 = .ok (.aload_n 0, 1) := by decide +kernel
theorem dX9_arriveAndLeak_48 : decode cX9_arriveAndLeak 48 = .ok (.getfield 9, 3) := by decide +kernel
theorem dX9_arriveAndLeak_51 : decode cX9_arriveAndLeak 51 = .ok (.iload_n 2, 1) := by decide +kernel
theorem dX9_arriveAndLeak_52 : decode cX9_arriveAndLeak 52 = .ok (.iaload, 1) := by decide +kernel
theorem dX9_arriveAndLeak_53 : decode cX9_arriveAndLeak 53 = .ok (.invokestatic 116, 3) := by decide +kernel
theorem dX9_arriveAndLeak_56 : decode cX9_arriveAndLeak 56 = .ok (.istore 4, 2) := by decide +kernel
theorem dX9_arriveAndLeak_58 : decode cX9_arriveAndLeak 58 = .ok (.aload_n 0, 1) := by decide +kernel
theorem dX9_arriveAndLeak_59 : decode cX9_arriveAndLeak 59 = .ok (.getfield 9, 3) := by decide +kernel
theorem dX9_arriveAndLeak_62 : decode cX9_arriveAndLeak 62 = .ok (.iload_n 2, 1) := by decide +kernel
theorem dX9_arriveAndLeak_63 : decode cX9_arriveAndLeak 63 = .ok (.dup2, 1) := by decide +kernel
theorem dX9_arriveAndLeak_64 : decode cX9_arriveAndLeak 64 = .ok (.iaload, 1) := by decide +kernel
theorem dX9_arriveAndLeak_65 : decode cX9_arriveAndLeak 65 = .ok (.iload 4, 2) := by decide +kernel
theorem dX9_arriveAndLeak_67 : decode cX9_arriveAndLeak 67 = .ok (.isub, 1) := by decide +kernel
theorem dX9_arriveAndLeak_68 : decode cX9_arriveAndLeak 68 = .ok (.iastore, 1) := by decide +kernel
theorem dX9_arriveAndLeak_69 : decode cX9_arriveAndLeak 69 = .ok (.aload_n 0, 1) := by decide +kernel
theorem dX9_arriveAndLeak_70 : decode cX9_arriveAndLeak 70 = .ok (.getfield 33, 3) := by decide +kernel
theorem dX9_arriveAndLeak_73 : decode cX9_arriveAndLeak 73 = .ok (.iconst 2, 1) := by decide +kernel
theorem dX9_arriveAndLeak_74 : decode cX9_arriveAndLeak 74 = .ok (.dup2, 1) := by decide +kernel
theorem dX9_arriveAndLeak_75 : decode cX9_arriveAndLeak 75 = .ok (.iaload, 1) := by decide +kernel
theorem dX9_arriveAndLeak_76 : decode cX9_arriveAndLeak 76 = .ok (.iload 4, 2) := by decide +kernel
theorem dX9_arriveAndLeak_78 : decode cX9_arriveAndLeak 78 = .ok (.iadd, 1) := by decide +kernel
theorem dX9_arriveAndLeak_79 : decode cX9_arriveAndLeak 79 = .ok (.iastore, 1) := by decide +kernel
theorem dX9_arriveAndLeak_80 : decode cX9_arriveAndLeak 80 = .ok (.iinc 2 1, 3) := by decide +kernel
theorem dX9_arriveAndLeak_83 : decode cX9_arriveAndLeak 83 = .ok (.goto (-81), 3) := by decide +kernel
theorem dX9_arriveAndLeak_86 : decode cX9_arriveAndLeak 86 = .ok (.return_, 1) := by decide +kernel
abbrev rm_Water_arriveAndLeak : Room := { frames := 1, cells := 0, slots := 0, locals := 24 }
def Water_arriveAndLeak_l2 (σ : Sg) (w : Nat) (p1 : Nat) (x2 : Int32) : Option ((Sg × Int32) ⊕ (Sg × Int32)) :=
  zgt σ p1 3 fun v4 =>
  if v4 ≤ x2 then (
    some (.inr (σ, x2))
  ) else (
    (Water_arrivesIn σ w p1 x2 0).bind fun r14 =>
    zlt r14 fun v17 =>
    zrd σ (w + 1) 8 x2 fun v24 =>
    zwr σ (w + 1) 8 x2 (v24 + v17) fun σ27 =>
    zrd σ27 (w + 11) 8 x2 fun v37 =>
    zwr σ27 (w + 11) 8 x2 (v37 + v17) fun σ40 =>
    zrd σ40 (w + 3) 8 x2 fun v46 =>
    zrd σ40 (w + 1) 8 x2 fun v52 =>
    zlt (if v52 < v46 then v52 else v46) fun v56 =>
    zrd σ40 (w + 1) 8 x2 fun v64 =>
    zwr σ40 (w + 1) 8 x2 (v64 - v56) fun σ68 =>
    zrd σ68 (w + 8) 7 2 fun v75 =>
    zwr σ68 (w + 8) 7 2 (v75 + v56) fun σ79 =>
    zlt (x2 + 1) fun v80 =>
    some (.inl (σ79, v80))
  )
set_option maxRecDepth 20000 in
theorem t_Water_arriveAndLeak_l2 {X : Zx} {Q : State → Prop} {σ : Sg} {w : Nat} {p1 : Nat} {x2 : Int32} (ok : Zok X cX9_arriveAndLeak RX9 rm_Water_arriveAndLeak 198 5) (hw : zI_Water w 198) (hp1 : zI_Works p1 198) {out : ((Sg × Int32) ⊕ (Sg × Int32))} (hf : Water_arriveAndLeak_l2 σ w p1 x2 = some out) (hk : zout (fun (s : (Sg × Int32)) => ZAt X Q 0 0 2 s.1 [(0, .ref (X.ad w)), (1, .ref (X.ad p1)), (2, .int s.2)] []) (fun (s : (Sg × Int32)) => ZAt X Q 0 0 86 s.1 [] []) out) : ZAt X Q 0 0 2 σ [(0, .ref (X.ad w)), (1, .ref (X.ad p1)), (2, .int x2)] [] := by
  unfold Water_arriveAndLeak_l2 at hf
  obtain ⟨hw_0, hw_1, hw_2, hw_3, hw_4, hw_5, hw_6, hw_7, hw_8, hw_9, hw_10, hw_11, hw_12, hw_13, hw_14, hw_15, hw_16⟩ := id hw
  obtain ⟨hp1_0, hp1_1, hp1_2, hp1_3, hp1_4, hp1_5, hp1_6, hp1_7, hp1_8, hp1_9, hp1_10, hp1_11, hp1_12, hp1_13, hp1_14, hp1_15, hp1_16, hp1_17, hp1_18, hp1_19, hp1_20, hp1_21, hp1_22, hp1_23, hp1_24, hp1_25⟩ := id hp1
  refine z_iload_n ok dX9_arriveAndLeak_2 2 rfl ?_
  refine z_aload_n ok dX9_arriveAndLeak_3 1 rfl ?_
  refine z_geti ok hp1_0 zc_10 hin_10 3 (by decide) fl_9_109 rfl dX9_arriveAndLeak_4 hf (fun v4 hf => ?_)
  refine z_icmp_ge (tgt := 86) ok dX9_arriveAndLeak_7 (by decide) hf (fun _ hf => ?_) (fun _ hf => ?_)
  · obtain rfl := Option.some.inj hf
    exact z_sub [] rfl hk
  · refine z_aload_n ok dX9_arriveAndLeak_10 0 rfl ?_
    refine z_aload_n ok dX9_arriveAndLeak_11 1 rfl ?_
    refine z_iload_n ok dX9_arriveAndLeak_12 2 rfl ?_
    refine z_iconst (v := 0) ok dX9_arriveAndLeak_13 (by decide) ?_
    refine z_call hf (fun r14 h14 hf => ?_)
    refine z_cV (As := [.ref (X.ad p1), .int x2, .int 0]) (rest := []) (w := w) ok hw_0 zc_9 (c_Water_arrivesIn hw hp1 h14) rfl ⟨ml_9_112, w_Water_arrivesIn⟩ hy_Water_arrivesIn ⟨rfl, rfl⟩ ⟨Nat.le_of_ble_eq_true rfl, Nat.le_of_ble_eq_true rfl⟩ ⟨Nat.zero_le _, Nat.zero_le _⟩ rfl (Nat.le_of_ble_eq_true rfl) dX9_arriveAndLeak_14 ?_
    refine z_nm hf (fun v17 hf => ?_)
    refine z_istore_n (lv' := [(3, .int v17), (0, .ref (X.ad w)), (1, .ref (X.ad p1)), (2, .int x2)]) ok dX9_arriveAndLeak_17 (by decide) rfl ?_
    refine z_aload_n ok dX9_arriveAndLeak_18 1 rfl ?_
    refine z_getr (q := (w + 1)) ok hw_0 zc_9 hin_9 3 (by decide) fl_9_9 rfl dX9_arriveAndLeak_19 ?_
    refine z_iload_n ok dX9_arriveAndLeak_22 3 rfl ?_
    refine z_dup2 ok dX9_arriveAndLeak_23 rfl rfl ?_
    refine z_iald ok hw_1 dX9_arriveAndLeak_24 hf (fun v24 hf => ?_)
    refine z_iload_n ok dX9_arriveAndLeak_25 0 rfl ?_
    refine z_iadd ok dX9_arriveAndLeak_26 ?_
    refine z_iast ok hw_1 dX9_arriveAndLeak_27 hf (fun σ27 hf => ?_)
    refine z_aload_n ok dX9_arriveAndLeak_28 1 rfl ?_
    refine z_getr (q := (w + 9)) ok hw_0 zc_9 hin_9 11 (by decide) fl_9_39 rfl dX9_arriveAndLeak_29 ?_
    refine z_getr (q := (w + 11)) ok hw_9 zc_2 hin_2 1 (by decide) fl_9_83 rfl dX9_arriveAndLeak_32 ?_
    refine z_iload_n ok dX9_arriveAndLeak_35 3 rfl ?_
    refine z_dup2 ok dX9_arriveAndLeak_36 rfl rfl ?_
    refine z_iald ok hw_11 dX9_arriveAndLeak_37 hf (fun v37 hf => ?_)
    refine z_iload_n ok dX9_arriveAndLeak_38 0 rfl ?_
    refine z_iadd ok dX9_arriveAndLeak_39 ?_
    refine z_iast ok hw_11 dX9_arriveAndLeak_40 hf (fun σ40 hf => ?_)
    refine z_aload_n ok dX9_arriveAndLeak_41 1 rfl ?_
    refine z_getr (q := (w + 3)) ok hw_0 zc_9 hin_9 5 (by decide) fl_9_18 rfl dX9_arriveAndLeak_42 ?_
    refine z_iload_n ok dX9_arriveAndLeak_45 3 rfl ?_
    refine z_iald ok hw_3 dX9_arriveAndLeak_46 hf (fun v46 hf => ?_)
    refine z_aload_n ok dX9_arriveAndLeak_47 1 rfl ?_
    refine z_getr (q := (w + 1)) ok hw_0 zc_9 hin_9 3 (by decide) fl_9_9 rfl dX9_arriveAndLeak_48 ?_
    refine z_iload_n ok dX9_arriveAndLeak_51 3 rfl ?_
    refine z_iald ok hw_1 dX9_arriveAndLeak_52 hf (fun v52 hf => ?_)
    refine z_mmin ok ml_9_116 (Nat.le_of_ble_eq_true rfl) (Nat.le_of_ble_eq_true rfl) ⟨Nat.zero_le _, Nat.zero_le _⟩ dX9_arriveAndLeak_53 ?_
    refine z_nm hf (fun v56 hf => ?_)
    refine z_istore (lv' := [(4, .int v56), (3, .int v17), (0, .ref (X.ad w)), (1, .ref (X.ad p1)), (2, .int x2)]) ok dX9_arriveAndLeak_56 (by decide) rfl ?_
    refine z_aload_n ok dX9_arriveAndLeak_58 2 rfl ?_
    refine z_getr (q := (w + 1)) ok hw_0 zc_9 hin_9 3 (by decide) fl_9_9 rfl dX9_arriveAndLeak_59 ?_
    refine z_iload_n ok dX9_arriveAndLeak_62 4 rfl ?_
    refine z_dup2 ok dX9_arriveAndLeak_63 rfl rfl ?_
    refine z_iald ok hw_1 dX9_arriveAndLeak_64 hf (fun v64 hf => ?_)
    refine z_iload ok dX9_arriveAndLeak_65 0 rfl ?_
    refine z_isub ok dX9_arriveAndLeak_67 ?_
    refine z_iast ok hw_1 dX9_arriveAndLeak_68 hf (fun σ68 hf => ?_)
    refine z_aload_n ok dX9_arriveAndLeak_69 2 rfl ?_
    refine z_getr (q := (w + 8)) ok hw_0 zc_9 hin_9 10 (by decide) fl_9_33 rfl dX9_arriveAndLeak_70 ?_
    refine z_iconst (v := 2) ok dX9_arriveAndLeak_73 (by decide) ?_
    refine z_dup2 ok dX9_arriveAndLeak_74 rfl rfl ?_
    refine z_iald ok hw_8 dX9_arriveAndLeak_75 hf (fun v75 hf => ?_)
    refine z_iload ok dX9_arriveAndLeak_76 0 rfl ?_
    refine z_iadd ok dX9_arriveAndLeak_78 ?_
    refine z_iast ok hw_8 dX9_arriveAndLeak_79 hf (fun σ79 hf => ?_)
    refine z_iinc (w := 1) (lv' := fun v80 => [(2, .int v80), (4, .int v56), (3, .int v17), (0, .ref (X.ad w)), (1, .ref (X.ad p1))]) ok dX9_arriveAndLeak_80 4 rfl (by decide) (by decide) (fun _ => rfl) hf (fun v80 hf => ?_)
    refine z_goto (tgt := 2) ok dX9_arriveAndLeak_83 (by decide) ?_
    obtain rfl := Option.some.inj hf
    exact z_sub [3, 4, 0] rfl hk
def Water_arriveAndLeak (σ : Sg) (w : Nat) (p1 : Nat) : Option Sg :=
  zlt 0 fun v1 =>
  (zit (fun (s : (Sg × Int32)) => Water_arriveAndLeak_l2 s.1 w p1 s.2) zFU (σ, v1)).bind fun r =>
  some r.1
set_option maxRecDepth 20000 in
theorem t_Water_arriveAndLeak {X : Zx} {Q : State → Prop} {σ : Sg} {w : Nat} {p1 : Nat} (ok : Zok X cX9_arriveAndLeak RX9 rm_Water_arriveAndLeak 198 5) (hw : zI_Water w 198) (hp1 : zI_Works p1 198) {out : Sg} (hf : Water_arriveAndLeak σ w p1 = some out) (hk : ZrV cX9_arriveAndLeak X Q out) : ZAt X Q 0 0 0 σ [(0, .ref (X.ad w)), (1, .ref (X.ad p1))] [] := by
  unfold Water_arriveAndLeak at hf
  obtain ⟨hw_0, hw_1, hw_2, hw_3, hw_4, hw_5, hw_6, hw_7, hw_8, hw_9, hw_10, hw_11, hw_12, hw_13, hw_14, hw_15, hw_16⟩ := id hw
  obtain ⟨hp1_0, hp1_1, hp1_2, hp1_3, hp1_4, hp1_5, hp1_6, hp1_7, hp1_8, hp1_9, hp1_10, hp1_11, hp1_12, hp1_13, hp1_14, hp1_15, hp1_16, hp1_17, hp1_18, hp1_19, hp1_20, hp1_21, hp1_22, hp1_23, hp1_24, hp1_25⟩ := id hp1
  refine z_iconst (v := 0) ok dX9_arriveAndLeak_0 (by decide) ?_
  refine z_nm hf (fun v1 hf => ?_)
  refine z_istore_n (lv' := [(2, .int v1), (0, .ref (X.ad w)), (1, .ref (X.ad p1))]) ok dX9_arriveAndLeak_1 (by decide) rfl ?_
  refine z_call hf (fun r hr hf => ?_)
  refine z_sub [1, 2, 0] rfl (z_iter (fun (s : (Sg × Int32)) => s.1) (fun (s : (Sg × Int32)) => [(0, .ref (X.ad w)), (1, .ref (X.ad p1)), (2, .int s.2)]) (fun s o h1 h2 => t_Water_arriveAndLeak_l2 ok hw hp1 h1 h2) _ _ _ hr ?_)
  show ZAt X Q 0 0 86 r.1 [] []
  obtain rfl := Option.some.inj hf
  exact hk _ _ dX9_arriveAndLeak_86
theorem c_Water_arriveAndLeak {σ : Sg} {w : Nat} {p1 : Nat} (hw : zI_Water w 198) (hp1 : zI_Works p1 198) {r : Sg} (h : Water_arriveAndLeak σ w p1 = some r) : ZcV yX9_arriveAndLeak cX9_arriveAndLeak 5 rm_Water_arriveAndLeak 198 (fun ad => [.ref (ad w), .ref (ad p1)]) σ r :=
  zmetV pn_9 rfl (fun _ => rfl) (fun _ => Nat.le_of_ble_eq_true rfl) (fun X Q ok hk => t_Water_arriveAndLeak ok hw hp1 h hk)
theorem dX6_isOpen_0 : decode cX6_isOpen 0 = .ok (.iload_n 2, 1) := by decide +kernel
theorem dX6_isOpen_1 : decode cX6_isOpen 1 = .ok (.aload_n 0, 1) := by decide +kernel
theorem dX6_isOpen_2 : decode cX6_isOpen 2 = .ok (.getfield 21, 3) := by decide +kernel
theorem dX6_isOpen_5 : decode cX6_isOpen 5 = .ok (.isub, 1) := by decide +kernel
theorem dX6_isOpen_6 : decode cX6_isOpen 6 = .ok (.istore_n 3, 1) := by decide +kernel
theorem dX6_isOpen_7 : decode cX6_isOpen 7 = .ok (.iload_n 3, 1) := by decide +kernel
theorem dX6_isOpen_8 : decode cX6_isOpen 8 = .ok (.ifCond .lt 27, 3) := by decide +kernel
theorem dX6_isOpen_11 : decode cX6_isOpen 11 = .ok (.iload_n 3, 1) := by decide +kernel
theorem dX6_isOpen_12 : decode cX6_isOpen 12 = .ok (.aload_n 0, 1) := by decide +kernel
theorem dX6_isOpen_13 : decode cX6_isOpen 13 = .ok (.getfield 42, 3) := by decide +kernel
theorem dX6_isOpen_16 : decode cX6_isOpen 16 = .ok (.if_icmp .gt 19, 3) := by decide +kernel
theorem dX6_isOpen_19 : decode cX6_isOpen 19 = .ok (.aload_n 0, 1) := by decide +kernel
theorem dX6_isOpen_20 : decode cX6_isOpen 20 = .ok (.getfield 13, 3) := by decide +kernel
theorem dX6_isOpen_23 : decode cX6_isOpen 23 = .ok (.iload_n 1, 1) := by decide +kernel
theorem dX6_isOpen_24 : decode cX6_isOpen 24 = .ok (.aaload, 1) := by decide +kernel
theorem dX6_isOpen_25 : decode cX6_isOpen 25 = .ok (.iload_n 3, 1) := by decide +kernel
theorem dX6_isOpen_26 : decode cX6_isOpen 26 = .ok (.baload, 1) := by decide +kernel
theorem dX6_isOpen_27 : decode cX6_isOpen 27 = .ok (.iconst 1, 1) := by decide +kernel
theorem dX6_isOpen_28 : decode cX6_isOpen 28 = .ok (.if_icmp .ne 7, 3) := by decide +kernel
theorem dX6_isOpen_31 : decode cX6_isOpen 31 = .ok (.iconst 1, 1) := by decide +kernel
theorem dX6_isOpen_32 : decode cX6_isOpen 32 = .ok (.goto 4, 3) := by decide +kernel
theorem dX6_isOpen_35 : decode cX6_isOpen 35 = .ok (.iconst 0, 1) := by decide +kernel
theorem dX6_isOpen_36 : decode cX6_isOpen 36 = .ok (.ireturn, 1) := by decide +kernel
abbrev rm_Schedule_isOpen : Room := { frames := 0, cells := 0, slots := 0, locals := 0 }
def Schedule_isOpen (σ : Sg) (x1 : Int32) (x2 : Int32) : Option Bool :=
  zgt σ 103 0 fun v2 =>
  zlt (x2 - v2) fun v6 =>
  if v6 < 0 then (
    some false
  ) else (
    zgt σ 103 2 fun v13 =>
    if v13 < v6 then (
      some false
    ) else (
      zelr 105 10 x1 fun q24 =>
      zrd σ q24 273 v6 fun v26 =>
      if v26 = 1 then (
        some true
      ) else (
        some false
      )
    )
  )
set_option maxRecDepth 20000 in
theorem t_Schedule_isOpen {X : Zx} {Q : State → Prop} {σ : Sg} {x1 : Int32} {x2 : Int32} (ok : Zok X cX6_isOpen RX6 rm_Schedule_isOpen 198 4)  {out : Bool} (hf : Schedule_isOpen σ x1 x2 = some out) (hk : ZrI cX6_isOpen X Q (zb out) σ) : ZAt X Q 0 0 0 σ [(0, .ref (X.ad 103)), (1, .int x1), (2, .int x2)] [] := by
  unfold Schedule_isOpen at hf
  refine z_iload_n ok dX6_isOpen_0 2 rfl ?_
  refine z_aload_n ok dX6_isOpen_1 0 rfl ?_
  refine z_geti ok kc_103 zc_6 hin_6 0 (by decide) fl_6_21 rfl dX6_isOpen_2 hf (fun v2 hf => ?_)
  refine z_isub ok dX6_isOpen_5 ?_
  refine z_nm hf (fun v6 hf => ?_)
  refine z_istore_n (lv' := [(3, .int v6), (0, .ref (X.ad 103)), (1, .int x1), (2, .int x2)]) ok dX6_isOpen_6 (by decide) rfl ?_
  refine z_iload_n ok dX6_isOpen_7 0 rfl ?_
  refine z_if_lt (tgt := 35) ok dX6_isOpen_8 (by decide) hf (fun _ hf => ?_) (fun _ hf => ?_)
  · refine z_iconst (v := 0) ok dX6_isOpen_35 (by decide) ?_
    obtain rfl := Option.some.inj hf
    exact hk _ _ dX6_isOpen_36
  · refine z_iload_n ok dX6_isOpen_11 0 rfl ?_
    refine z_aload_n ok dX6_isOpen_12 1 rfl ?_
    refine z_geti ok kc_103 zc_6 hin_6 2 (by decide) fl_6_42 rfl dX6_isOpen_13 hf (fun v13 hf => ?_)
    refine z_icmp_gt (tgt := 35) ok dX6_isOpen_16 (by decide) hf (fun _ hf => ?_) (fun _ hf => ?_)
    · refine z_iconst (v := 0) ok dX6_isOpen_35 (by decide) ?_
      obtain rfl := Option.some.inj hf
      exact hk _ _ dX6_isOpen_36
    · refine z_aload_n ok dX6_isOpen_19 1 rfl ?_
      refine z_getr (q := 104) ok kc_103 zc_6 hin_6 3 (by decide) fl_6_13 rfl dX6_isOpen_20 ?_
      refine z_iload_n ok dX6_isOpen_23 2 rfl ?_
      refine z_aaldr (p := 105) ok kc_104 (by decide) rfl dX6_isOpen_24 hf (fun q24 e24 hf => ?_)
      have hq24 : zk q24 198 (.inr (1, 273, [])) := (show ∀ q ∈ [105, 106, 107, 108, 109, 110, 111, 112, 113, 114], zk q 198 (.inr (1, 273, [])) from (List.forall_mem_cons.mpr ⟨kc_105, (List.forall_mem_cons.mpr ⟨kc_106, (List.forall_mem_cons.mpr ⟨kc_107, (List.forall_mem_cons.mpr ⟨kc_108, (List.forall_mem_cons.mpr ⟨kc_109, (List.forall_mem_cons.mpr ⟨kc_110, (List.forall_mem_cons.mpr ⟨kc_111, (List.forall_mem_cons.mpr ⟨kc_112, (List.forall_mem_cons.mpr ⟨kc_113, (List.forall_mem_cons.mpr ⟨kc_114, (fun _ h => absurd h List.not_mem_nil)⟩)⟩)⟩)⟩)⟩)⟩)⟩)⟩)⟩)⟩)) q24 e24
      refine z_iload_n ok dX6_isOpen_25 0 rfl ?_
      refine z_bald ok hq24 dX6_isOpen_26 hf (fun v26 hf => ?_)
      refine z_iconst (v := 1) ok dX6_isOpen_27 (by decide) ?_
      refine z_icmp_ne (tgt := 35) ok dX6_isOpen_28 (by decide) hf (fun _ hf => ?_) (fun _ hf => ?_)
      · refine z_iconst (v := 1) ok dX6_isOpen_31 (by decide) ?_
        refine z_goto (tgt := 36) ok dX6_isOpen_32 (by decide) ?_
        obtain rfl := Option.some.inj hf
        exact hk _ _ dX6_isOpen_36
      · refine z_iconst (v := 0) ok dX6_isOpen_35 (by decide) ?_
        obtain rfl := Option.some.inj hf
        exact hk _ _ dX6_isOpen_36
theorem c_Schedule_isOpen {σ : Sg} {x1 : Int32} {x2 : Int32} {r : Bool} (h : Schedule_isOpen σ x1 x2 = some r) : ZcI yX6_isOpen cX6_isOpen 4 .boolean rm_Schedule_isOpen 198 (fun ad => [.ref (ad 103), .int x1, .int x2]) σ (zb r) σ :=
  zmetI pn_6 rfl (fun _ => rfl) (fun _ => Nat.le_of_ble_eq_true rfl) (zb_nar _) (fun X Q ok hk => t_Schedule_isOpen ok h hk)
theorem dX9_serveOutlets_0 : decode cX9_serveOutlets 0 = .ok (.iconst 0, 1) := by decide +kernel
theorem dX9_serveOutlets_1 : decode cX9_serveOutlets 1 = .ok (.istore_n 3, 1) := by decide +kernel
theorem dX9_serveOutlets_2 : decode cX9_serveOutlets 2 = .ok (.iload_n 3, 1) := by decide +kernel
theorem dX9_serveOutlets_3 : decode cX9_serveOutlets 3 = .ok (.aload_n 1, 1) := by decide +kernel
theorem dX9_serveOutlets_4 : decode cX9_serveOutlets 4 = .ok (.getfield 122, 3) := by decide +kernel
theorem dX9_serveOutlets_7 : decode cX9_serveOutlets 7 = .ok (.if_icmp .ge 130, 3) := by decide +kernel
theorem dX9_serveOutlets_10 : decode cX9_serveOutlets 10 = .ok (.aload_n 2, 1) := by decide +kernel
theorem dX9_serveOutlets_11 : decode cX9_serveOutlets 11 = .ok (.iload_n 3, 1) := by decide +kernel
theorem dX9_serveOutlets_12 : decode cX9_serveOutlets 12 = .ok (.aload_n 0, 1) := by decide +kernel
theorem dX9_serveOutlets_13 : decode cX9_serveOutlets 13 = .ok (.getfield 43, 3) := by decide +kernel
theorem dX9_serveOutlets_16 : decode cX9_serveOutlets 16 = .ok (.invokevirtual 125, 3) := by decide +kernel
theorem dX9_serveOutlets_19 : decode cX9_serveOutlets 19 = .ok (.ifCond .eq 112, 3) := by decide +kernel
theorem dX9_serveOutlets_22 : decode cX9_serveOutlets 22 = .ok (.aload_n 1, 1) := by decide +kernel
theorem dX9_serveOutlets_23 : decode cX9_serveOutlets 23 = .ok (.getfield 131, 3) := by decide +kernel
theorem dX9_serveOutlets_26 : decode cX9_serveOutlets 26 = .ok (.iload_n 3, 1) := by decide +kernel
theorem dX9_serveOutlets_27 : decode cX9_serveOutlets 27 = .ok (.iaload, 1) := by decide +kernel
theorem dX9_serveOutlets_28 : decode cX9_serveOutlets 28 = .ok (.istore 4, 2) := by decide +kernel
theorem dX9_serveOutlets_30 : decode cX9_serveOutlets 30 = .ok (.aload_n 1, 1) := by decide +kernel
theorem dX9_serveOutlets_31 : decode cX9_serveOutlets 31 = .ok (.getfield 134, 3) := by decide +kernel
theorem dX9_serveOutlets_34 : decode cX9_serveOutlets 34 = .ok (.iload_n 3, 1) := by decide +kernel
theorem dX9_serveOutlets_35 : decode cX9_serveOutlets 35 = .ok (.iaload, 1) := by decide +kernel
theorem dX9_serveOutlets_36 : decode cX9_serveOutlets 36 = .ok (.aload_n 0, 1) := by decide +kernel
theorem dX9_serveOutlets_37 : decode cX9_serveOutlets 37 = .ok (.getfield 9, 3) := by decide +kernel
theorem dX9_serveOutlets_40 : decode cX9_serveOutlets 40 = .ok (.iload 4, 2) := by decide +kernel
theorem dX9_serveOutlets_42 : decode cX9_serveOutlets 42 = .ok (.iaload, 1) := by decide +kernel
theorem dX9_serveOutlets_43 : decode cX9_serveOutlets 43 = .ok (.invokestatic 116, 3) := by decide +kernel
theorem dX9_serveOutlets_46 : decode cX9_serveOutlets 46 = .ok (.istore 5, 2) := by decide +kernel
theorem dX9_serveOutlets_48 : decode cX9_serveOutlets 48 = .ok (.aload_n 1, 1) := by decide +kernel
theorem dX9_serveOutlets_49 : decode cX9_serveOutlets 49 = .ok (.getfield 134, 3) := by decide +kernel
theorem dX9_serveOutlets_52 : decode cX9_serveOutlets 52 = .ok (.iload_n 3, 1) := by decide +kernel
theorem dX9_serveOutlets_53 : decode cX9_serveOutlets 53 = .ok (.iaload, 1) := by decide +kernel
theorem dX9_serveOutlets_54 : decode cX9_serveOutlets 54 = .ok (.iload 5, 2) := by decide +kernel
theorem dX9_serveOutlets_56 : decode cX9_serveOutlets 56 = .ok (.isub, 1) := by decide +kernel
theorem dX9_serveOutlets_57 : decode cX9_serveOutlets 57 = .ok (.istore 6, 2) := by decide +kernel
theorem dX9_serveOutlets_59 : decode cX9_serveOutlets 59 = .ok (.aload_n 0, 1) := by decide +kernel
theorem dX9_serveOutlets_60 : decode cX9_serveOutlets 60 = .ok (.getfield 9, 3) := by decide +kernel
theorem dX9_serveOutlets_63 : decode cX9_serveOutlets 63 = .ok (.iload 4, 2) := by decide +kernel
theorem dX9_serveOutlets_65 : decode cX9_serveOutlets 65 = .ok (.dup2, 1) := by decide +kernel
theorem dX9_serveOutlets_66 : decode cX9_serveOutlets 66 = .ok (.iaload, 1) := by decide +kernel
theorem dX9_serveOutlets_67 : decode cX9_serveOutlets 67 = .ok (.iload 5, 2) := by decide +kernel
theorem dX9_serveOutlets_69 : decode cX9_serveOutlets 69 = .ok (.isub, 1) := by decide +kernel
theorem dX9_serveOutlets_70 : decode cX9_serveOutlets 70 = .ok (.iastore, 1) := by decide +kernel
theorem dX9_serveOutlets_71 : decode cX9_serveOutlets 71 = .ok (.aload_n 0, 1) := by decide +kernel
theorem dX9_serveOutlets_72 : decode cX9_serveOutlets 72 = .ok (.getfield 39, 3) := by decide +kernel
theorem dX9_serveOutlets_75 : decode cX9_serveOutlets 75 = .ok (.getfield 86, 3) := by decide +kernel
theorem dX9_serveOutlets_78 : decode cX9_serveOutlets 78 = .ok (.iload 4, 2) := by decide +kernel
theorem dX9_serveOutlets_80 : decode cX9_serveOutlets 80 = .ok (.dup2, 1) := by decide +kernel
theorem dX9_serveOutlets_81 : decode cX9_serveOutlets 81 = .ok (.iaload, 1) := by decide +kernel
theorem dX9_serveOutlets_82 : decode cX9_serveOutlets 82 = .ok (.iload 5, 2) := by decide +kernel
theorem dX9_serveOutlets_84 : decode cX9_serveOutlets 84 = .ok (.iadd, 1) := by decide +kernel
theorem dX9_serveOutlets_85 : decode cX9_serveOutlets 85 = .ok (.iastore, 1) := by decide +kernel
theorem dX9_serveOutlets_86 : decode cX9_serveOutlets 86 = .ok (.aload_n 0, 1) := by decide +kernel
theorem dX9_serveOutlets_87 : decode cX9_serveOutlets 87 = .ok (.getfield 27, 3) := by decide +kernel
theorem dX9_serveOutlets_90 : decode cX9_serveOutlets 90 = .ok (.iload_n 3, 1) := by decide +kernel
theorem dX9_serveOutlets_91 : decode cX9_serveOutlets 91 = .ok (.dup2, 1) := by decide +kernel
theorem dX9_serveOutlets_92 : decode cX9_serveOutlets 92 = .ok (.iaload, 1) := by decide +kernel
theorem dX9_serveOutlets_93 : decode cX9_serveOutlets 93 = .ok (.iload 5, 2) := by decide +kernel
theorem dX9_serveOutlets_95 : decode cX9_serveOutlets 95 = .ok (.iadd, 1) := by decide +kernel
theorem dX9_serveOutlets_96 : decode cX9_serveOutlets 96 = .ok (.iastore, 1) := by decide +kernel
theorem dX9_serveOutlets_97 : decode cX9_serveOutlets 97 = .ok (.aload_n 0, 1) := by decide +kernel
theorem dX9_serveOutlets_98 : decode cX9_serveOutlets 98 = .ok (.getfield 30, 3) := by decide +kernel
theorem dX9_serveOutlets_101 : decode cX9_serveOutlets 101 = .ok (.iload_n 3, 1) := by decide +kernel
theorem dX9_serveOutlets_102 : decode cX9_serveOutlets 102 = .ok (.dup2, 1) := by decide +kernel
theorem dX9_serveOutlets_103 : decode cX9_serveOutlets 103 = .ok (.iaload, 1) := by decide +kernel
theorem dX9_serveOutlets_104 : decode cX9_serveOutlets 104 = .ok (.iload 6, 2) := by decide +kernel
theorem dX9_serveOutlets_106 : decode cX9_serveOutlets 106 = .ok (.iadd, 1) := by decide +kernel
theorem dX9_serveOutlets_107 : decode cX9_serveOutlets 107 = .ok (.iastore, 1) := by decide +kernel
theorem dX9_serveOutlets_108 : decode cX9_serveOutlets 108 = .ok (.aload_n 0, 1) := by decide +kernel
theorem dX9_serveOutlets_109 : decode cX9_serveOutlets 109 = .ok (.getfield 33, 3) := by decide +kernel
theorem dX9_serveOutlets_112 : decode cX9_serveOutlets 112 = .ok (.iconst 1, 1) := by decide +kernel
theorem dX9_serveOutlets_113 : decode cX9_serveOutlets 113 = .ok (.dup2, 1) := by decide +kernel
theorem dX9_serveOutlets_114 : decode cX9_serveOutlets 114 = .ok (.iaload, 1) := by decide +kernel
theorem dX9_serveOutlets_115 : decode cX9_serveOutlets 115 = .ok (.iload 5, 2) := by decide +kernel
theorem dX9_serveOutlets_117 : decode cX9_serveOutlets 117 = .ok (.iadd, 1) := by decide +kernel
theorem dX9_serveOutlets_118 : decode cX9_serveOutlets 118 = .ok (.iastore, 1) := by decide +kernel
theorem dX9_serveOutlets_119 : decode cX9_serveOutlets 119 = .ok (.aload_n 0, 1) := by decide +kernel
theorem dX9_serveOutlets_120 : decode cX9_serveOutlets 120 = .ok (.getfield 33, 3) := by decide +kernel
theorem dX9_serveOutlets_123 : decode cX9_serveOutlets 123 = .ok (.bipush 6, 2) := by decide +kernel
theorem dX9_serveOutlets_125 : decode cX9_serveOutlets 125 = .ok (.dup2, 1) := by decide +kernel
theorem dX9_serveOutlets_126 : decode cX9_serveOutlets 126 = .ok (.iaload, 1) := by decide +kernel
theorem dX9_serveOutlets_127 : decode cX9_serveOutlets 127 = .ok (.iload 6, 2) := by decide +kernel
theorem dX9_serveOutlets_129 : decode cX9_serveOutlets 129 = .ok (.iadd, 1) := by decide +kernel
theorem dX9_serveOutlets_130 : decode cX9_serveOutlets 130 = .ok (.iastore, 1) := by decide +kernel
theorem dX9_serveOutlets_131 : decode cX9_serveOutlets 131 = .ok (.iinc 3 1, 3) := by decide +kernel
theorem dX9_serveOutlets_134 : decode cX9_serveOutlets 134 = .ok (.goto (-132), 3) := by decide +kernel
theorem dX9_serveOutlets_137 : decode cX9_serveOutlets 137 = .ok (.return_, 1) := by decide +kernel
abbrev rm_Water_serveOutlets : Room := { frames := 1, cells := 0, slots := 0, locals := 23 }
def Water_serveOutlets_l2 (σ : Sg) (w : Nat) (p1 : Nat) (x3 : Int32) : Option ((Sg × Int32) ⊕ (Sg × Int32)) :=
  zgt σ p1 7 fun v4 =>
  if v4 ≤ x3 then (
    some (.inr (σ, x3))
  ) else (
    zgt σ w 0 fun v13 =>
    (Schedule_isOpen σ x3 v13).bind fun r16 =>
    if (zb r16) = 0 then (
      zlt (x3 + 1) fun v131 =>
      some (.inl (σ, v131))
    ) else (
      zrd σ (p1 + 14) 10 x3 fun v27 =>
      zrd σ (p1 + 15) 10 x3 fun v35 =>
      zrd σ (w + 1) 8 v27 fun v42 =>
      zlt (if v42 < v35 then v42 else v35) fun v46 =>
      zrd σ (p1 + 15) 10 x3 fun v53 =>
      zlt (v53 - v46) fun v57 =>
      zrd σ (w + 1) 8 v27 fun v66 =>
      zwr σ (w + 1) 8 v27 (v66 - v46) fun σ70 =>
      zrd σ70 (w + 12) 8 v27 fun v81 =>
      zwr σ70 (w + 12) 8 v27 (v81 + v46) fun σ85 =>
      zrd σ85 (w + 6) 10 x3 fun v92 =>
      zwr σ85 (w + 6) 10 x3 (v92 + v46) fun σ96 =>
      zrd σ96 (w + 7) 10 x3 fun v103 =>
      zwr σ96 (w + 7) 10 x3 (v103 + v57) fun σ107 =>
      zrd σ107 (w + 8) 7 1 fun v114 =>
      zwr σ107 (w + 8) 7 1 (v114 + v46) fun σ118 =>
      zrd σ118 (w + 8) 7 6 fun v126 =>
      zwr σ118 (w + 8) 7 6 (v126 + v57) fun σ130 =>
      zlt (x3 + 1) fun v131 =>
      some (.inl (σ130, v131))
    )
  )
set_option maxRecDepth 20000 in
theorem t_Water_serveOutlets_l2 {X : Zx} {Q : State → Prop} {σ : Sg} {w : Nat} {p1 : Nat} {x3 : Int32} (ok : Zok X cX9_serveOutlets RX9 rm_Water_serveOutlets 198 7) (hw : zI_Water w 198) (hp1 : zI_Works p1 198) {out : ((Sg × Int32) ⊕ (Sg × Int32))} (hf : Water_serveOutlets_l2 σ w p1 x3 = some out) (hk : zout (fun (s : (Sg × Int32)) => ZAt X Q 0 0 2 s.1 [(0, .ref (X.ad w)), (1, .ref (X.ad p1)), (2, .ref (X.ad 103)), (3, .int s.2)] []) (fun (s : (Sg × Int32)) => ZAt X Q 0 0 137 s.1 [] []) out) : ZAt X Q 0 0 2 σ [(0, .ref (X.ad w)), (1, .ref (X.ad p1)), (2, .ref (X.ad 103)), (3, .int x3)] [] := by
  unfold Water_serveOutlets_l2 at hf
  obtain ⟨hw_0, hw_1, hw_2, hw_3, hw_4, hw_5, hw_6, hw_7, hw_8, hw_9, hw_10, hw_11, hw_12, hw_13, hw_14, hw_15, hw_16⟩ := id hw
  obtain ⟨hp1_0, hp1_1, hp1_2, hp1_3, hp1_4, hp1_5, hp1_6, hp1_7, hp1_8, hp1_9, hp1_10, hp1_11, hp1_12, hp1_13, hp1_14, hp1_15, hp1_16, hp1_17, hp1_18, hp1_19, hp1_20, hp1_21, hp1_22, hp1_23, hp1_24, hp1_25⟩ := id hp1
  refine z_iload_n ok dX9_serveOutlets_2 3 rfl ?_
  refine z_aload_n ok dX9_serveOutlets_3 1 rfl ?_
  refine z_geti ok hp1_0 zc_10 hin_10 7 (by decide) fl_9_122 rfl dX9_serveOutlets_4 hf (fun v4 hf => ?_)
  refine z_icmp_ge (tgt := 137) ok dX9_serveOutlets_7 (by decide) hf (fun _ hf => ?_) (fun _ hf => ?_)
  · obtain rfl := Option.some.inj hf
    exact z_sub [] rfl hk
  · refine z_aload_n ok dX9_serveOutlets_10 2 rfl ?_
    refine z_iload_n ok dX9_serveOutlets_11 3 rfl ?_
    refine z_aload_n ok dX9_serveOutlets_12 0 rfl ?_
    refine z_geti ok hw_0 zc_9 hin_9 0 (by decide) fl_9_43 rfl dX9_serveOutlets_13 hf (fun v13 hf => ?_)
    refine z_call hf (fun r16 h16 hf => ?_)
    refine z_cV (As := [.int x3, .int v13]) (rest := []) (w := 103) ok kc_103 zc_6 (c_Schedule_isOpen h16) rfl ⟨ml_9_125, w_Schedule_isOpen⟩ hy_Schedule_isOpen ⟨rfl, rfl⟩ ⟨Nat.le_of_ble_eq_true rfl, Nat.le_of_ble_eq_true rfl⟩ ⟨Nat.zero_le _, Nat.zero_le _⟩ rfl (Nat.le_of_ble_eq_true rfl) dX9_serveOutlets_16 ?_
    refine z_if_eq (tgt := 131) ok dX9_serveOutlets_19 (by decide) hf (fun _ hf => ?_) (fun _ hf => ?_)
    · refine z_iinc (w := 1) (lv' := fun v131 => [(3, .int v131), (0, .ref (X.ad w)), (1, .ref (X.ad p1)), (2, .ref (X.ad 103))]) ok dX9_serveOutlets_131 3 rfl (by decide) (by decide) (fun _ => rfl) hf (fun v131 hf => ?_)
      refine z_goto (tgt := 2) ok dX9_serveOutlets_134 (by decide) ?_
      obtain rfl := Option.some.inj hf
      exact z_sub [1, 2, 3, 0] rfl hk
    · refine z_aload_n ok dX9_serveOutlets_22 1 rfl ?_
      refine z_getr (q := (p1 + 14)) ok hp1_0 zc_10 hin_10 9 (by decide) fl_9_131 rfl dX9_serveOutlets_23 ?_
      refine z_iload_n ok dX9_serveOutlets_26 3 rfl ?_
      refine z_iald ok hp1_14 dX9_serveOutlets_27 hf (fun v27 hf => ?_)
      refine z_istore (lv' := [(4, .int v27), (0, .ref (X.ad w)), (1, .ref (X.ad p1)), (2, .ref (X.ad 103)), (3, .int x3)]) ok dX9_serveOutlets_28 (by decide) rfl ?_
      refine z_aload_n ok dX9_serveOutlets_30 2 rfl ?_
      refine z_getr (q := (p1 + 15)) ok hp1_0 zc_10 hin_10 10 (by decide) fl_9_134 rfl dX9_serveOutlets_31 ?_
      refine z_iload_n ok dX9_serveOutlets_34 4 rfl ?_
      refine z_iald ok hp1_15 dX9_serveOutlets_35 hf (fun v35 hf => ?_)
      refine z_aload_n ok dX9_serveOutlets_36 1 rfl ?_
      refine z_getr (q := (w + 1)) ok hw_0 zc_9 hin_9 3 (by decide) fl_9_9 rfl dX9_serveOutlets_37 ?_
      refine z_iload ok dX9_serveOutlets_40 0 rfl ?_
      refine z_iald ok hw_1 dX9_serveOutlets_42 hf (fun v42 hf => ?_)
      refine z_mmin ok ml_9_116 (Nat.le_of_ble_eq_true rfl) (Nat.le_of_ble_eq_true rfl) ⟨Nat.zero_le _, Nat.zero_le _⟩ dX9_serveOutlets_43 ?_
      refine z_nm hf (fun v46 hf => ?_)
      refine z_istore (lv' := [(5, .int v46), (4, .int v27), (0, .ref (X.ad w)), (1, .ref (X.ad p1)), (2, .ref (X.ad 103)), (3, .int x3)]) ok dX9_serveOutlets_46 (by decide) rfl ?_
      refine z_aload_n ok dX9_serveOutlets_48 3 rfl ?_
      refine z_getr (q := (p1 + 15)) ok hp1_0 zc_10 hin_10 10 (by decide) fl_9_134 rfl dX9_serveOutlets_49 ?_
      refine z_iload_n ok dX9_serveOutlets_52 5 rfl ?_
      refine z_iald ok hp1_15 dX9_serveOutlets_53 hf (fun v53 hf => ?_)
      refine z_iload ok dX9_serveOutlets_54 0 rfl ?_
      refine z_isub ok dX9_serveOutlets_56 ?_
      refine z_nm hf (fun v57 hf => ?_)
      refine z_istore (lv' := [(6, .int v57), (5, .int v46), (4, .int v27), (0, .ref (X.ad w)), (1, .ref (X.ad p1)), (2, .ref (X.ad 103)), (3, .int x3)]) ok dX9_serveOutlets_57 (by decide) rfl ?_
      refine z_aload_n ok dX9_serveOutlets_59 3 rfl ?_
      refine z_getr (q := (w + 1)) ok hw_0 zc_9 hin_9 3 (by decide) fl_9_9 rfl dX9_serveOutlets_60 ?_
      refine z_iload ok dX9_serveOutlets_63 2 rfl ?_
      refine z_dup2 ok dX9_serveOutlets_65 rfl rfl ?_
      refine z_iald ok hw_1 dX9_serveOutlets_66 hf (fun v66 hf => ?_)
      refine z_iload ok dX9_serveOutlets_67 1 rfl ?_
      refine z_isub ok dX9_serveOutlets_69 ?_
      refine z_iast ok hw_1 dX9_serveOutlets_70 hf (fun σ70 hf => ?_)
      refine z_aload_n ok dX9_serveOutlets_71 3 rfl ?_
      refine z_getr (q := (w + 9)) ok hw_0 zc_9 hin_9 11 (by decide) fl_9_39 rfl dX9_serveOutlets_72 ?_
      refine z_getr (q := (w + 12)) ok hw_9 zc_2 hin_2 2 (by decide) fl_9_86 rfl dX9_serveOutlets_75 ?_
      refine z_iload ok dX9_serveOutlets_78 2 rfl ?_
      refine z_dup2 ok dX9_serveOutlets_80 rfl rfl ?_
      refine z_iald ok hw_12 dX9_serveOutlets_81 hf (fun v81 hf => ?_)
      refine z_iload ok dX9_serveOutlets_82 1 rfl ?_
      refine z_iadd ok dX9_serveOutlets_84 ?_
      refine z_iast ok hw_12 dX9_serveOutlets_85 hf (fun σ85 hf => ?_)
      refine z_aload_n ok dX9_serveOutlets_86 3 rfl ?_
      refine z_getr (q := (w + 6)) ok hw_0 zc_9 hin_9 8 (by decide) fl_9_27 rfl dX9_serveOutlets_87 ?_
      refine z_iload_n ok dX9_serveOutlets_90 6 rfl ?_
      refine z_dup2 ok dX9_serveOutlets_91 rfl rfl ?_
      refine z_iald ok hw_6 dX9_serveOutlets_92 hf (fun v92 hf => ?_)
      refine z_iload ok dX9_serveOutlets_93 1 rfl ?_
      refine z_iadd ok dX9_serveOutlets_95 ?_
      refine z_iast ok hw_6 dX9_serveOutlets_96 hf (fun σ96 hf => ?_)
      refine z_aload_n ok dX9_serveOutlets_97 3 rfl ?_
      refine z_getr (q := (w + 7)) ok hw_0 zc_9 hin_9 9 (by decide) fl_9_30 rfl dX9_serveOutlets_98 ?_
      refine z_iload_n ok dX9_serveOutlets_101 6 rfl ?_
      refine z_dup2 ok dX9_serveOutlets_102 rfl rfl ?_
      refine z_iald ok hw_7 dX9_serveOutlets_103 hf (fun v103 hf => ?_)
      refine z_iload ok dX9_serveOutlets_104 0 rfl ?_
      refine z_iadd ok dX9_serveOutlets_106 ?_
      refine z_iast ok hw_7 dX9_serveOutlets_107 hf (fun σ107 hf => ?_)
      refine z_aload_n ok dX9_serveOutlets_108 3 rfl ?_
      refine z_getr (q := (w + 8)) ok hw_0 zc_9 hin_9 10 (by decide) fl_9_33 rfl dX9_serveOutlets_109 ?_
      refine z_iconst (v := 1) ok dX9_serveOutlets_112 (by decide) ?_
      refine z_dup2 ok dX9_serveOutlets_113 rfl rfl ?_
      refine z_iald ok hw_8 dX9_serveOutlets_114 hf (fun v114 hf => ?_)
      refine z_iload ok dX9_serveOutlets_115 1 rfl ?_
      refine z_iadd ok dX9_serveOutlets_117 ?_
      refine z_iast ok hw_8 dX9_serveOutlets_118 hf (fun σ118 hf => ?_)
      refine z_aload_n ok dX9_serveOutlets_119 3 rfl ?_
      refine z_getr (q := (w + 8)) ok hw_0 zc_9 hin_9 10 (by decide) fl_9_33 rfl dX9_serveOutlets_120 ?_
      refine z_bipush (v := 6) ok dX9_serveOutlets_123 (by decide) ?_
      refine z_dup2 ok dX9_serveOutlets_125 rfl rfl ?_
      refine z_iald ok hw_8 dX9_serveOutlets_126 hf (fun v126 hf => ?_)
      refine z_iload ok dX9_serveOutlets_127 0 rfl ?_
      refine z_iadd ok dX9_serveOutlets_129 ?_
      refine z_iast ok hw_8 dX9_serveOutlets_130 hf (fun σ130 hf => ?_)
      refine z_iinc (w := 1) (lv' := fun v131 => [(3, .int v131), (6, .int v57), (5, .int v46), (4, .int v27), (0, .ref (X.ad w)), (1, .ref (X.ad p1)), (2, .ref (X.ad 103))]) ok dX9_serveOutlets_131 6 rfl (by decide) (by decide) (fun _ => rfl) hf (fun v131 hf => ?_)
      refine z_goto (tgt := 2) ok dX9_serveOutlets_134 (by decide) ?_
      obtain rfl := Option.some.inj hf
      exact z_sub [4, 5, 6, 0] rfl hk
def Water_serveOutlets (σ : Sg) (w : Nat) (p1 : Nat) : Option Sg :=
  zlt 0 fun v1 =>
  (zit (fun (s : (Sg × Int32)) => Water_serveOutlets_l2 s.1 w p1 s.2) zFU (σ, v1)).bind fun r =>
  some r.1
set_option maxRecDepth 20000 in
theorem t_Water_serveOutlets {X : Zx} {Q : State → Prop} {σ : Sg} {w : Nat} {p1 : Nat} (ok : Zok X cX9_serveOutlets RX9 rm_Water_serveOutlets 198 7) (hw : zI_Water w 198) (hp1 : zI_Works p1 198) {out : Sg} (hf : Water_serveOutlets σ w p1 = some out) (hk : ZrV cX9_serveOutlets X Q out) : ZAt X Q 0 0 0 σ [(0, .ref (X.ad w)), (1, .ref (X.ad p1)), (2, .ref (X.ad 103))] [] := by
  unfold Water_serveOutlets at hf
  obtain ⟨hw_0, hw_1, hw_2, hw_3, hw_4, hw_5, hw_6, hw_7, hw_8, hw_9, hw_10, hw_11, hw_12, hw_13, hw_14, hw_15, hw_16⟩ := id hw
  obtain ⟨hp1_0, hp1_1, hp1_2, hp1_3, hp1_4, hp1_5, hp1_6, hp1_7, hp1_8, hp1_9, hp1_10, hp1_11, hp1_12, hp1_13, hp1_14, hp1_15, hp1_16, hp1_17, hp1_18, hp1_19, hp1_20, hp1_21, hp1_22, hp1_23, hp1_24, hp1_25⟩ := id hp1
  refine z_iconst (v := 0) ok dX9_serveOutlets_0 (by decide) ?_
  refine z_nm hf (fun v1 hf => ?_)
  refine z_istore_n (lv' := [(3, .int v1), (0, .ref (X.ad w)), (1, .ref (X.ad p1)), (2, .ref (X.ad 103))]) ok dX9_serveOutlets_1 (by decide) rfl ?_
  refine z_call hf (fun r hr hf => ?_)
  refine z_sub [1, 2, 3, 0] rfl (z_iter (fun (s : (Sg × Int32)) => s.1) (fun (s : (Sg × Int32)) => [(0, .ref (X.ad w)), (1, .ref (X.ad p1)), (2, .ref (X.ad 103)), (3, .int s.2)]) (fun s o h1 h2 => t_Water_serveOutlets_l2 ok hw hp1 h1 h2) _ _ _ hr ?_)
  show ZAt X Q 0 0 137 r.1 [] []
  obtain rfl := Option.some.inj hf
  exact hk _ _ dX9_serveOutlets_137
theorem c_Water_serveOutlets {σ : Sg} {w : Nat} {p1 : Nat} (hw : zI_Water w 198) (hp1 : zI_Works p1 198) {r : Sg} (h : Water_serveOutlets σ w p1 = some r) : ZcV yX9_serveOutlets cX9_serveOutlets 7 rm_Water_serveOutlets 198 (fun ad => [.ref (ad w), .ref (ad p1), .ref (ad 103)]) σ r :=
  zmetV pn_9 rfl (fun _ => rfl) (fun _ => Nat.le_of_ble_eq_true rfl) (fun X Q ok hk => t_Water_serveOutlets ok hw hp1 h hk)
theorem dX9_passGates_0 : decode cX9_passGates 0 = .ok (.iconst 0, 1) := by decide +kernel
theorem dX9_passGates_1 : decode cX9_passGates 1 = .ok (.istore_n 2, 1) := by decide +kernel
theorem dX9_passGates_2 : decode cX9_passGates 2 = .ok (.iload_n 2, 1) := by decide +kernel
theorem dX9_passGates_3 : decode cX9_passGates 3 = .ok (.aload_n 1, 1) := by decide +kernel
theorem dX9_passGates_4 : decode cX9_passGates 4 = .ok (.getfield 109, 3) := by decide +kernel
theorem dX9_passGates_7 : decode cX9_passGates 7 = .ok (.if_icmp .ge 166, 3) := by decide +kernel
theorem dX9_passGates_10 : decode cX9_passGates 10 = .ok (.aload_n 0, 1) := by decide +kernel
theorem dX9_passGates_11 : decode cX9_passGates 11 = .ok (.getfield 15, 3) := by decide +kernel
theorem dX9_passGates_14 : decode cX9_passGates 14 = .ok (.iload_n 2, 1) := by decide +kernel
theorem dX9_passGates_15 : decode cX9_passGates 15 = .ok (.iaload, 1) := by decide +kernel
theorem dX9_passGates_16 : decode cX9_passGates 16 = .ok (.iload_n 2, 1) := by decide +kernel
theorem dX9_passGates_17 : decode cX9_passGates 17 = .ok (.ifCond .ne 10, 3) := by decide +kernel
theorem dX9_passGates_20 : decode cX9_passGates 20 = .ok (.aload_n 0, 1) := by decide +kernel
theorem dX9_passGates_21 : decode cX9_passGates 21 = .ok (.getfield 47, 3) := by decide +kernel
theorem dX9_passGates_24 : decode cX9_passGates 24 = .ok (.goto 11, 3) := by decide +kernel
theorem dX9_passGates_27 : decode cX9_passGates 27 = .ok (.aload_n 0, 1) := by decide +kernel
theorem dX9_passGates_28 : decode cX9_passGates 28 = .ok (.getfield 9, 3) := by decide +kernel
theorem dX9_passGates_31 : decode cX9_passGates 31 = .ok (.iload_n 2, 1) := by decide +kernel
theorem dX9_passGates_32 : decode cX9_passGates 32 = .ok (.iconst 1, 1) := by decide +kernel
theorem dX9_passGates_33 : decode cX9_passGates 33 = .ok (.isub, 1) := by decide +kernel
theorem dX9_passGates_34 : decode cX9_passGates 34 = .ok (.iaload, 1) := by decide +kernel
theorem dX9_passGates_35 : decode cX9_passGates 35 = .ok (.invokestatic 116, 3) := by decide +kernel
theorem dX9_passGates_38 : decode cX9_passGates 38 = .ok (.istore_n 3, 1) := by decide +kernel
theorem dX9_passGates_39 : decode cX9_passGates 39 = .ok (.iload_n 2, 1) := by decide +kernel
theorem dX9_passGates_40 : decode cX9_passGates 40 = .ok (.ifCond .ne 16, 3) := by decide +kernel
theorem dX9_passGates_43 : decode cX9_passGates 43 = .ok (.aload_n 0, 1) := by decide +kernel
theorem dX9_passGates_44 : decode cX9_passGates 44 = .ok (.getfield 33, 3) := by decide +kernel
theorem dX9_passGates_47 : decode cX9_passGates 47 = .ok (.iconst 0, 1) := by decide +kernel
theorem dX9_passGates_48 : decode cX9_passGates 48 = .ok (.dup2, 1) := by decide +kernel
theorem dX9_passGates_49 : decode cX9_passGates 49 = .ok (.iaload, 1) := by decide +kernel
theorem dX9_passGates_50 : decode cX9_passGates 50 = .ok (.iload_n 3, 1) := by decide +kernel
theorem dX9_passGates_51 : decode cX9_passGates 51 = .ok (.iadd, 1) := by decide +kernel
theorem dX9_passGates_52 : decode cX9_passGates 52 = .ok (.iastore, 1) := by decide +kernel
theorem dX9_passGates_53 : decode cX9_passGates 53 = .ok (.goto 30, 3) := by decide +kernel
theorem dX9_passGates_56 : decode cX9_passGates 56 = .ok (.aload_n 0, 1) := by decide +kernel
theorem dX9_passGates_57 : decode cX9_passGates 57 = .ok (.getfield 9, 3) := by decide +kernel
theorem dX9_passGates_60 : decode cX9_passGates 60 = .ok (.iload_n 2, 1) := by decide +kernel
theorem dX9_passGates_61 : decode cX9_passGates 61 = .ok (.iconst 1, 1) := by decide +kernel
theorem dX9_passGates_62 : decode cX9_passGates 62 = .ok (.isub, 1) := by decide +kernel
theorem dX9_passGates_63 : decode cX9_passGates 63 = .ok (.dup2, 1) := by decide +kernel
theorem dX9_passGates_64 : decode cX9_passGates 64 = .ok (.iaload, 1) := by decide +kernel
theorem dX9_passGates_65 : decode cX9_passGates 65 = .ok (.iload_n 3, 1) := by decide +kernel
theorem dX9_passGates_66 : decode cX9_passGates 66 = .ok (.isub, 1) := by decide +kernel
theorem dX9_passGates_67 : decode cX9_passGates 67 = .ok (.iastore, 1) := by decide +kernel
theorem dX9_passGates_68 : decode cX9_passGates 68 = .ok (.aload_n 0, 1) := by decide +kernel
theorem dX9_passGates_69 : decode cX9_passGates 69 = .ok (.getfield 39, 3) := by decide +kernel
theorem dX9_passGates_72 : decode cX9_passGates 72 = .ok (.getfield 86, 3) := by decide +kernel
theorem dX9_passGates_75 : decode cX9_passGates 75 = .ok (.iload_n 2, 1) := by decide +kernel
theorem dX9_passGates_76 : decode cX9_passGates 76 = .ok (.iconst 1, 1) := by decide +kernel
theorem dX9_passGates_77 : decode cX9_passGates 77 = .ok (.isub, 1) := by decide +kernel
theorem dX9_passGates_78 : decode cX9_passGates 78 = .ok (.dup2, 1) := by decide +kernel
theorem dX9_passGates_79 : decode cX9_passGates 79 = .ok (.iaload, 1) := by decide +kernel
theorem dX9_passGates_80 : decode cX9_passGates 80 = .ok (.iload_n 3, 1) := by decide +kernel
theorem dX9_passGates_81 : decode cX9_passGates 81 = .ok (.iadd, 1) := by decide +kernel
theorem dX9_passGates_82 : decode cX9_passGates 82 = .ok (.iastore, 1) := by decide +kernel
theorem dX9_passGates_83 : decode cX9_passGates 83 = .ok (.aload_n 0, 1) := by decide +kernel
theorem dX9_passGates_84 : decode cX9_passGates 84 = .ok (.getfield 39, 3) := by decide +kernel
theorem dX9_passGates_87 : decode cX9_passGates 87 = .ok (.getfield 137, 3) := by decide +kernel
theorem dX9_passGates_90 : decode cX9_passGates 90 = .ok (.iload_n 2, 1) := by decide +kernel
theorem dX9_passGates_91 : decode cX9_passGates 91 = .ok (.aload_n 0, 1) := by decide +kernel
theorem dX9_passGates_92 : decode cX9_passGates 92 = .ok (.getfield 15, 3) := by decide +kernel
theorem dX9_passGates_95 : decode cX9_passGates 95 = .ok (.iload_n 2, 1) := by decide +kernel
theorem dX9_passGates_96 : decode cX9_passGates 96 = .ok (.iaload, 1) := by decide +kernel
theorem dX9_passGates_97 : decode cX9_passGates 97 = .ok (.iastore, 1) := by decide +kernel
theorem dX9_passGates_98 : decode cX9_passGates 98 = .ok (.aload_n 0, 1) := by decide +kernel
theorem dX9_passGates_99 : decode cX9_passGates 99 = .ok (.getfield 39, 3) := by decide +kernel
theorem dX9_passGates_102 : decode cX9_passGates 102 = .ok (.getfield 138, 3) := by decide +kernel
theorem dX9_passGates_105 : decode cX9_passGates 105 = .ok (.iload_n 2, 1) := by decide +kernel
theorem dX9_passGates_106 : decode cX9_passGates 106 = .ok (.iload_n 3, 1) := by decide +kernel
theorem dX9_passGates_107 : decode cX9_passGates 107 = .ok (.iastore, 1) := by decide +kernel
theorem dX9_passGates_108 : decode cX9_passGates 108 = .ok (.aload_n 1, 1) := by decide +kernel
theorem dX9_passGates_109 : decode cX9_passGates 109 = .ok (.getfield 63, 3) := by decide +kernel
theorem dX9_passGates_112 : decode cX9_passGates 112 = .ok (.iconst 4, 1) := by decide +kernel
theorem dX9_passGates_113 : decode cX9_passGates 113 = .ok (.aaload, 1) := by decide +kernel
theorem dX9_passGates_114 : decode cX9_passGates 114 = .ok (.iload_n 2, 1) := by decide +kernel
theorem dX9_passGates_115 : decode cX9_passGates 115 = .ok (.iaload, 1) := by decide +kernel
theorem dX9_passGates_116 : decode cX9_passGates 116 = .ok (.istore 4, 2) := by decide +kernel
theorem dX9_passGates_118 : decode cX9_passGates 118 = .ok (.iload 4, 2) := by decide +kernel
theorem dX9_passGates_120 : decode cX9_passGates 120 = .ok (.ifCond .le 24, 3) := by decide +kernel
theorem dX9_passGates_123 : decode cX9_passGates 123 = .ok (.aload_n 0, 1) := by decide +kernel
theorem dX9_passGates_124 : decode cX9_passGates 124 = .ok (.getfield 24, 3) := by decide +kernel
theorem dX9_passGates_127 : decode cX9_passGates 127 = .ok (.iload_n 2, 1) := by decide +kernel
theorem dX9_passGates_128 : decode cX9_passGates 128 = .ok (.bipush 9, 2) := by decide +kernel
theorem dX9_passGates_130 : decode cX9_passGates 130 = .ok (.imul, 1) := by decide +kernel
theorem dX9_passGates_131 : decode cX9_passGates 131 = .ok (.aload_n 0, 1) := by decide +kernel
theorem dX9_passGates_132 : decode cX9_passGates 132 = .ok (.getfield 43, 3) := by decide +kernel
theorem dX9_passGates_135 : decode cX9_passGates 135 = .ok (.iload 4, 2) := by decide +kernel
theorem dX9_passGates_137 : decode cX9_passGates 137 = .ok (.irem, 1) := by decide +kernel
theorem dX9_passGates_138 : decode cX9_passGates 138 = .ok (.iadd, 1) := by decide +kernel
theorem dX9_passGates_139 : decode cX9_passGates 139 = .ok (.iload_n 3, 1) := by decide +kernel
theorem dX9_passGates_140 : decode cX9_passGates 140 = .ok (.iastore, 1) := by decide +kernel
theorem dX9_passGates_141 : decode cX9_passGates 141 = .ok (.goto 26, 3) := by decide +kernel
theorem dX9_passGates_144 : decode cX9_passGates 144 = .ok (.aload_n 0, 1) := by decide +kernel
theorem dX9_passGates_145 : decode cX9_passGates 145 = .ok (.getfield 9, 3) := by decide +kernel
theorem dX9_passGates_148 : decode cX9_passGates 148 = .ok (.iload_n 2, 1) := by decide +kernel
theorem dX9_passGates_149 : decode cX9_passGates 149 = .ok (.dup2, 1) := by decide +kernel
theorem dX9_passGates_150 : decode cX9_passGates 150 = .ok (.iaload, 1) := by decide +kernel
theorem dX9_passGates_151 : decode cX9_passGates 151 = .ok (.iload_n 3, 1) := by decide +kernel
theorem dX9_passGates_152 : decode cX9_passGates 152 = .ok (.iadd, 1) := by decide +kernel
theorem dX9_passGates_153 : decode cX9_passGates 153 = .ok (.iastore, 1) := by decide +kernel
theorem dX9_passGates_154 : decode cX9_passGates 154 = .ok (.aload_n 0, 1) := by decide +kernel
theorem dX9_passGates_155 : decode cX9_passGates 155 = .ok (.getfield 39, 3) := by decide +kernel
theorem dX9_passGates_158 : decode cX9_passGates 158 = .ok (.getfield 83, 3) := by decide +kernel
theorem dX9_passGates_161 : decode cX9_passGates 161 = .ok (.iload_n 2, 1) := by decide +kernel
theorem dX9_passGates_162 : decode cX9_passGates 162 = .ok (.dup2, 1) := by decide +kernel
theorem dX9_passGates_163 : decode cX9_passGates 163 = .ok (.iaload, 1) := by decide +kernel
theorem dX9_passGates_164 : decode cX9_passGates 164 = .ok (.iload_n 3, 1) := by decide +kernel
theorem dX9_passGates_165 : decode cX9_passGates 165 = .ok (.iadd, 1) := by decide +kernel
theorem dX9_passGates_166 : decode cX9_passGates 166 = .ok (.iastore, 1) := by decide +kernel
theorem dX9_passGates_167 : decode cX9_passGates 167 = .ok (.iinc 2 1, 3) := by decide +kernel
theorem dX9_passGates_170 : decode cX9_passGates 170 = .ok (.goto (-168), 3) := by decide +kernel
theorem dX9_passGates_173 : decode cX9_passGates 173 = .ok (.return_, 1) := by decide +kernel
abbrev rm_Water_passGates : Room := { frames := 1, cells := 0, slots := 0, locals := 21 }
def Water_passGates_j2_83 (σ : Sg) (w : Nat) (p1 : Nat) (x2 : Int32) (x3 : Int32) : Option ((Sg × Int32) ⊕ (Sg × Int32)) :=
  zrd σ (w + 2) 8 x2 fun v96 =>
  zwr σ (w + 14) 8 x2 v96 fun σ97 =>
  zwr σ97 (w + 13) 8 x2 x3 fun σ107 =>
  zrd σ107 (p1 + 7) 8 x2 fun v115 =>
  if v115 ≤ 0 then (
    zrd σ107 (w + 1) 8 x2 fun v150 =>
    zwr σ107 (w + 1) 8 x2 (v150 + x3) fun σ153 =>
    zrd σ153 (w + 11) 8 x2 fun v163 =>
    zwr σ153 (w + 11) 8 x2 (v163 + x3) fun σ166 =>
    zlt (x2 + 1) fun v167 =>
    some (.inl (σ166, v167))
  ) else (
    zgt σ107 w 0 fun v132 =>
    znz v115 <|
    zwr σ107 (w + 5) 72 ((x2 * 9) + (v132 - v132 / v115 * v115)) x3 fun σ140 =>
    zlt (x2 + 1) fun v167 =>
    some (.inl (σ140, v167))
  )
set_option maxRecDepth 20000 in
theorem t_Water_passGates_j2_83 {X : Zx} {Q : State → Prop} {σ : Sg} {w : Nat} {p1 : Nat} {x2 : Int32} {x3 : Int32} (ok : Zok X cX9_passGates RX9 rm_Water_passGates 198 5) (hw : zI_Water w 198) (hp1 : zI_Works p1 198) {out : ((Sg × Int32) ⊕ (Sg × Int32))} (hf : Water_passGates_j2_83 σ w p1 x2 x3 = some out) (hk : zout (fun (s : (Sg × Int32)) => ZAt X Q 0 0 2 s.1 [(0, .ref (X.ad w)), (1, .ref (X.ad p1)), (2, .int s.2)] []) (fun (s : (Sg × Int32)) => ZAt X Q 0 0 173 s.1 [] []) out) : ZAt X Q 0 0 83 σ [(0, .ref (X.ad w)), (1, .ref (X.ad p1)), (2, .int x2), (3, .int x3)] [] := by
  unfold Water_passGates_j2_83 at hf
  obtain ⟨hw_0, hw_1, hw_2, hw_3, hw_4, hw_5, hw_6, hw_7, hw_8, hw_9, hw_10, hw_11, hw_12, hw_13, hw_14, hw_15, hw_16⟩ := id hw
  obtain ⟨hp1_0, hp1_1, hp1_2, hp1_3, hp1_4, hp1_5, hp1_6, hp1_7, hp1_8, hp1_9, hp1_10, hp1_11, hp1_12, hp1_13, hp1_14, hp1_15, hp1_16, hp1_17, hp1_18, hp1_19, hp1_20, hp1_21, hp1_22, hp1_23, hp1_24, hp1_25⟩ := id hp1
  refine z_aload_n ok dX9_passGates_83 0 rfl ?_
  refine z_getr (q := (w + 9)) ok hw_0 zc_9 hin_9 11 (by decide) fl_9_39 rfl dX9_passGates_84 ?_
  refine z_getr (q := (w + 14)) ok hw_9 zc_2 hin_2 4 (by decide) fl_9_137 rfl dX9_passGates_87 ?_
  refine z_iload_n ok dX9_passGates_90 2 rfl ?_
  refine z_aload_n ok dX9_passGates_91 0 rfl ?_
  refine z_getr (q := (w + 2)) ok hw_0 zc_9 hin_9 4 (by decide) fl_9_15 rfl dX9_passGates_92 ?_
  refine z_iload_n ok dX9_passGates_95 2 rfl ?_
  refine z_iald ok hw_2 dX9_passGates_96 hf (fun v96 hf => ?_)
  refine z_iast ok hw_14 dX9_passGates_97 hf (fun σ97 hf => ?_)
  refine z_aload_n ok dX9_passGates_98 0 rfl ?_
  refine z_getr (q := (w + 9)) ok hw_0 zc_9 hin_9 11 (by decide) fl_9_39 rfl dX9_passGates_99 ?_
  refine z_getr (q := (w + 13)) ok hw_9 zc_2 hin_2 3 (by decide) fl_9_138 rfl dX9_passGates_102 ?_
  refine z_iload_n ok dX9_passGates_105 2 rfl ?_
  refine z_iload_n ok dX9_passGates_106 3 rfl ?_
  refine z_iast ok hw_13 dX9_passGates_107 hf (fun σ107 hf => ?_)
  refine z_aload_n ok dX9_passGates_108 1 rfl ?_
  refine z_getr (q := (p1 + 2)) ok hp1_0 zc_10 hin_10 5 (by decide) fl_9_63 rfl dX9_passGates_109 ?_
  refine z_iconst (v := 4) ok dX9_passGates_112 (by decide) ?_
  refine z_aaldc (q := (p1 + 7)) ok hp1_2 (by decide) rfl (by decide) rfl dX9_passGates_113 ?_
  refine z_iload_n ok dX9_passGates_114 2 rfl ?_
  refine z_iald ok hp1_7 dX9_passGates_115 hf (fun v115 hf => ?_)
  refine z_istore (lv' := [(4, .int v115), (0, .ref (X.ad w)), (1, .ref (X.ad p1)), (2, .int x2), (3, .int x3)]) ok dX9_passGates_116 (by decide) rfl ?_
  refine z_iload ok dX9_passGates_118 0 rfl ?_
  refine z_if_le (tgt := 144) ok dX9_passGates_120 (by decide) hf (fun _ hf => ?_) (fun _ hf => ?_)
  · refine z_aload_n ok dX9_passGates_144 1 rfl ?_
    refine z_getr (q := (w + 1)) ok hw_0 zc_9 hin_9 3 (by decide) fl_9_9 rfl dX9_passGates_145 ?_
    refine z_iload_n ok dX9_passGates_148 3 rfl ?_
    refine z_dup2 ok dX9_passGates_149 rfl rfl ?_
    refine z_iald ok hw_1 dX9_passGates_150 hf (fun v150 hf => ?_)
    refine z_iload_n ok dX9_passGates_151 4 rfl ?_
    refine z_iadd ok dX9_passGates_152 ?_
    refine z_iast ok hw_1 dX9_passGates_153 hf (fun σ153 hf => ?_)
    refine z_aload_n ok dX9_passGates_154 1 rfl ?_
    refine z_getr (q := (w + 9)) ok hw_0 zc_9 hin_9 11 (by decide) fl_9_39 rfl dX9_passGates_155 ?_
    refine z_getr (q := (w + 11)) ok hw_9 zc_2 hin_2 1 (by decide) fl_9_83 rfl dX9_passGates_158 ?_
    refine z_iload_n ok dX9_passGates_161 3 rfl ?_
    refine z_dup2 ok dX9_passGates_162 rfl rfl ?_
    refine z_iald ok hw_11 dX9_passGates_163 hf (fun v163 hf => ?_)
    refine z_iload_n ok dX9_passGates_164 4 rfl ?_
    refine z_iadd ok dX9_passGates_165 ?_
    refine z_iast ok hw_11 dX9_passGates_166 hf (fun σ166 hf => ?_)
    refine z_iinc (w := 1) (lv' := fun v167 => [(2, .int v167), (4, .int v115), (0, .ref (X.ad w)), (1, .ref (X.ad p1)), (3, .int x3)]) ok dX9_passGates_167 3 rfl (by decide) (by decide) (fun _ => rfl) hf (fun v167 hf => ?_)
    refine z_goto (tgt := 2) ok dX9_passGates_170 (by decide) ?_
    obtain rfl := Option.some.inj hf
    exact z_sub [2, 3, 0] rfl hk
  · refine z_aload_n ok dX9_passGates_123 1 rfl ?_
    refine z_getr (q := (w + 5)) ok hw_0 zc_9 hin_9 7 (by decide) fl_9_24 rfl dX9_passGates_124 ?_
    refine z_iload_n ok dX9_passGates_127 3 rfl ?_
    refine z_bipush (v := 9) ok dX9_passGates_128 (by decide) ?_
    refine z_imul ok dX9_passGates_130 ?_
    refine z_aload_n ok dX9_passGates_131 1 rfl ?_
    refine z_geti ok hw_0 zc_9 hin_9 0 (by decide) fl_9_43 rfl dX9_passGates_132 hf (fun v132 hf => ?_)
    refine z_iload ok dX9_passGates_135 0 rfl ?_
    refine z_irem ok dX9_passGates_137 hf (fun hf => ?_)
    refine z_iadd ok dX9_passGates_138 ?_
    refine z_iload_n ok dX9_passGates_139 4 rfl ?_
    refine z_iast ok hw_5 dX9_passGates_140 hf (fun σ140 hf => ?_)
    refine z_goto (tgt := 167) ok dX9_passGates_141 (by decide) ?_
    refine z_iinc (w := 1) (lv' := fun v167 => [(2, .int v167), (4, .int v115), (0, .ref (X.ad w)), (1, .ref (X.ad p1)), (3, .int x3)]) ok dX9_passGates_167 3 rfl (by decide) (by decide) (fun _ => rfl) hf (fun v167 hf => ?_)
    refine z_goto (tgt := 2) ok dX9_passGates_170 (by decide) ?_
    obtain rfl := Option.some.inj hf
    exact z_sub [2, 3, 0] rfl hk
def Water_passGates_j2_35 (σ : Sg) (w : Nat) (p1 : Nat) (x2 : Int32) (s0 : Int32) (s1 : Int32) : Option ((Sg × Int32) ⊕ (Sg × Int32)) :=
  zlt (if s1 < s0 then s1 else s0) fun v38 =>
  if x2 = 0 then (
    zrd σ (w + 8) 7 0 fun v49 =>
    zwr σ (w + 8) 7 0 (v49 + v38) fun σ52 =>
    Water_passGates_j2_83 σ52 w p1 x2 v38
  ) else (
    zrd σ (w + 1) 8 (x2 - 1) fun v64 =>
    zwr σ (w + 1) 8 (x2 - 1) (v64 - v38) fun σ67 =>
    zrd σ67 (w + 12) 8 (x2 - 1) fun v79 =>
    zwr σ67 (w + 12) 8 (x2 - 1) (v79 + v38) fun σ82 =>
    Water_passGates_j2_83 σ82 w p1 x2 v38
  )
set_option maxRecDepth 20000 in
theorem t_Water_passGates_j2_35 {X : Zx} {Q : State → Prop} {σ : Sg} {w : Nat} {p1 : Nat} {x2 : Int32} {s0 : Int32} {s1 : Int32} (ok : Zok X cX9_passGates RX9 rm_Water_passGates 198 5) (hw : zI_Water w 198) (hp1 : zI_Works p1 198) {out : ((Sg × Int32) ⊕ (Sg × Int32))} (hf : Water_passGates_j2_35 σ w p1 x2 s0 s1 = some out) (hk : zout (fun (s : (Sg × Int32)) => ZAt X Q 0 0 2 s.1 [(0, .ref (X.ad w)), (1, .ref (X.ad p1)), (2, .int s.2)] []) (fun (s : (Sg × Int32)) => ZAt X Q 0 0 173 s.1 [] []) out) : ZAt X Q 0 0 35 σ [(0, .ref (X.ad w)), (1, .ref (X.ad p1)), (2, .int x2)] [.int s1, .int s0] := by
  unfold Water_passGates_j2_35 at hf
  obtain ⟨hw_0, hw_1, hw_2, hw_3, hw_4, hw_5, hw_6, hw_7, hw_8, hw_9, hw_10, hw_11, hw_12, hw_13, hw_14, hw_15, hw_16⟩ := id hw
  obtain ⟨hp1_0, hp1_1, hp1_2, hp1_3, hp1_4, hp1_5, hp1_6, hp1_7, hp1_8, hp1_9, hp1_10, hp1_11, hp1_12, hp1_13, hp1_14, hp1_15, hp1_16, hp1_17, hp1_18, hp1_19, hp1_20, hp1_21, hp1_22, hp1_23, hp1_24, hp1_25⟩ := id hp1
  refine z_mmin ok ml_9_116 (Nat.le_of_ble_eq_true rfl) (Nat.le_of_ble_eq_true rfl) ⟨Nat.zero_le _, Nat.zero_le _⟩ dX9_passGates_35 ?_
  refine z_nm hf (fun v38 hf => ?_)
  refine z_istore_n (lv' := [(3, .int v38), (0, .ref (X.ad w)), (1, .ref (X.ad p1)), (2, .int x2)]) ok dX9_passGates_38 (by decide) rfl ?_
  refine z_iload_n ok dX9_passGates_39 3 rfl ?_
  refine z_if_ne (tgt := 56) ok dX9_passGates_40 (by decide) hf (fun _ hf => ?_) (fun _ hf => ?_)
  · refine z_aload_n ok dX9_passGates_43 1 rfl ?_
    refine z_getr (q := (w + 8)) ok hw_0 zc_9 hin_9 10 (by decide) fl_9_33 rfl dX9_passGates_44 ?_
    refine z_iconst (v := 0) ok dX9_passGates_47 (by decide) ?_
    refine z_dup2 ok dX9_passGates_48 rfl rfl ?_
    refine z_iald ok hw_8 dX9_passGates_49 hf (fun v49 hf => ?_)
    refine z_iload_n ok dX9_passGates_50 0 rfl ?_
    refine z_iadd ok dX9_passGates_51 ?_
    refine z_iast ok hw_8 dX9_passGates_52 hf (fun σ52 hf => ?_)
    refine z_goto (tgt := 83) ok dX9_passGates_53 (by decide) ?_
    exact z_sub [1, 2, 3, 0] rfl (t_Water_passGates_j2_83 ok hw hp1 hf hk)
  · refine z_aload_n ok dX9_passGates_56 1 rfl ?_
    refine z_getr (q := (w + 1)) ok hw_0 zc_9 hin_9 3 (by decide) fl_9_9 rfl dX9_passGates_57 ?_
    refine z_iload_n ok dX9_passGates_60 3 rfl ?_
    refine z_iconst (v := 1) ok dX9_passGates_61 (by decide) ?_
    refine z_isub ok dX9_passGates_62 ?_
    refine z_dup2 ok dX9_passGates_63 rfl rfl ?_
    refine z_iald ok hw_1 dX9_passGates_64 hf (fun v64 hf => ?_)
    refine z_iload_n ok dX9_passGates_65 0 rfl ?_
    refine z_isub ok dX9_passGates_66 ?_
    refine z_iast ok hw_1 dX9_passGates_67 hf (fun σ67 hf => ?_)
    refine z_aload_n ok dX9_passGates_68 1 rfl ?_
    refine z_getr (q := (w + 9)) ok hw_0 zc_9 hin_9 11 (by decide) fl_9_39 rfl dX9_passGates_69 ?_
    refine z_getr (q := (w + 12)) ok hw_9 zc_2 hin_2 2 (by decide) fl_9_86 rfl dX9_passGates_72 ?_
    refine z_iload_n ok dX9_passGates_75 3 rfl ?_
    refine z_iconst (v := 1) ok dX9_passGates_76 (by decide) ?_
    refine z_isub ok dX9_passGates_77 ?_
    refine z_dup2 ok dX9_passGates_78 rfl rfl ?_
    refine z_iald ok hw_12 dX9_passGates_79 hf (fun v79 hf => ?_)
    refine z_iload_n ok dX9_passGates_80 0 rfl ?_
    refine z_iadd ok dX9_passGates_81 ?_
    refine z_iast ok hw_12 dX9_passGates_82 hf (fun σ82 hf => ?_)
    exact z_sub [1, 2, 3, 0] rfl (t_Water_passGates_j2_83 ok hw hp1 hf hk)
def Water_passGates_l2 (σ : Sg) (w : Nat) (p1 : Nat) (x2 : Int32) : Option ((Sg × Int32) ⊕ (Sg × Int32)) :=
  zgt σ p1 3 fun v4 =>
  if v4 ≤ x2 then (
    some (.inr (σ, x2))
  ) else (
    zrd σ (w + 2) 8 x2 fun v15 =>
    if x2 = 0 then (
      zgt σ w 1 fun v21 =>
      Water_passGates_j2_35 σ w p1 x2 v15 v21
    ) else (
      zrd σ (w + 1) 8 (x2 - 1) fun v34 =>
      Water_passGates_j2_35 σ w p1 x2 v15 v34
    )
  )
set_option maxRecDepth 20000 in
theorem t_Water_passGates_l2 {X : Zx} {Q : State → Prop} {σ : Sg} {w : Nat} {p1 : Nat} {x2 : Int32} (ok : Zok X cX9_passGates RX9 rm_Water_passGates 198 5) (hw : zI_Water w 198) (hp1 : zI_Works p1 198) {out : ((Sg × Int32) ⊕ (Sg × Int32))} (hf : Water_passGates_l2 σ w p1 x2 = some out) (hk : zout (fun (s : (Sg × Int32)) => ZAt X Q 0 0 2 s.1 [(0, .ref (X.ad w)), (1, .ref (X.ad p1)), (2, .int s.2)] []) (fun (s : (Sg × Int32)) => ZAt X Q 0 0 173 s.1 [] []) out) : ZAt X Q 0 0 2 σ [(0, .ref (X.ad w)), (1, .ref (X.ad p1)), (2, .int x2)] [] := by
  unfold Water_passGates_l2 at hf
  obtain ⟨hw_0, hw_1, hw_2, hw_3, hw_4, hw_5, hw_6, hw_7, hw_8, hw_9, hw_10, hw_11, hw_12, hw_13, hw_14, hw_15, hw_16⟩ := id hw
  obtain ⟨hp1_0, hp1_1, hp1_2, hp1_3, hp1_4, hp1_5, hp1_6, hp1_7, hp1_8, hp1_9, hp1_10, hp1_11, hp1_12, hp1_13, hp1_14, hp1_15, hp1_16, hp1_17, hp1_18, hp1_19, hp1_20, hp1_21, hp1_22, hp1_23, hp1_24, hp1_25⟩ := id hp1
  refine z_iload_n ok dX9_passGates_2 2 rfl ?_
  refine z_aload_n ok dX9_passGates_3 1 rfl ?_
  refine z_geti ok hp1_0 zc_10 hin_10 3 (by decide) fl_9_109 rfl dX9_passGates_4 hf (fun v4 hf => ?_)
  refine z_icmp_ge (tgt := 173) ok dX9_passGates_7 (by decide) hf (fun _ hf => ?_) (fun _ hf => ?_)
  · obtain rfl := Option.some.inj hf
    exact z_sub [] rfl hk
  · refine z_aload_n ok dX9_passGates_10 0 rfl ?_
    refine z_getr (q := (w + 2)) ok hw_0 zc_9 hin_9 4 (by decide) fl_9_15 rfl dX9_passGates_11 ?_
    refine z_iload_n ok dX9_passGates_14 2 rfl ?_
    refine z_iald ok hw_2 dX9_passGates_15 hf (fun v15 hf => ?_)
    refine z_iload_n ok dX9_passGates_16 2 rfl ?_
    refine z_if_ne (tgt := 27) ok dX9_passGates_17 (by decide) hf (fun _ hf => ?_) (fun _ hf => ?_)
    · refine z_aload_n ok dX9_passGates_20 0 rfl ?_
      refine z_geti ok hw_0 zc_9 hin_9 1 (by decide) fl_9_47 rfl dX9_passGates_21 hf (fun v21 hf => ?_)
      refine z_goto (tgt := 35) ok dX9_passGates_24 (by decide) ?_
      exact z_sub [0, 1, 2] rfl (t_Water_passGates_j2_35 ok hw hp1 hf hk)
    · refine z_aload_n ok dX9_passGates_27 0 rfl ?_
      refine z_getr (q := (w + 1)) ok hw_0 zc_9 hin_9 3 (by decide) fl_9_9 rfl dX9_passGates_28 ?_
      refine z_iload_n ok dX9_passGates_31 2 rfl ?_
      refine z_iconst (v := 1) ok dX9_passGates_32 (by decide) ?_
      refine z_isub ok dX9_passGates_33 ?_
      refine z_iald ok hw_1 dX9_passGates_34 hf (fun v34 hf => ?_)
      exact z_sub [0, 1, 2] rfl (t_Water_passGates_j2_35 ok hw hp1 hf hk)
def Water_passGates (σ : Sg) (w : Nat) (p1 : Nat) : Option Sg :=
  zlt 0 fun v1 =>
  (zit (fun (s : (Sg × Int32)) => Water_passGates_l2 s.1 w p1 s.2) zFU (σ, v1)).bind fun r =>
  some r.1
set_option maxRecDepth 20000 in
theorem t_Water_passGates {X : Zx} {Q : State → Prop} {σ : Sg} {w : Nat} {p1 : Nat} (ok : Zok X cX9_passGates RX9 rm_Water_passGates 198 5) (hw : zI_Water w 198) (hp1 : zI_Works p1 198) {out : Sg} (hf : Water_passGates σ w p1 = some out) (hk : ZrV cX9_passGates X Q out) : ZAt X Q 0 0 0 σ [(0, .ref (X.ad w)), (1, .ref (X.ad p1))] [] := by
  unfold Water_passGates at hf
  obtain ⟨hw_0, hw_1, hw_2, hw_3, hw_4, hw_5, hw_6, hw_7, hw_8, hw_9, hw_10, hw_11, hw_12, hw_13, hw_14, hw_15, hw_16⟩ := id hw
  obtain ⟨hp1_0, hp1_1, hp1_2, hp1_3, hp1_4, hp1_5, hp1_6, hp1_7, hp1_8, hp1_9, hp1_10, hp1_11, hp1_12, hp1_13, hp1_14, hp1_15, hp1_16, hp1_17, hp1_18, hp1_19, hp1_20, hp1_21, hp1_22, hp1_23, hp1_24, hp1_25⟩ := id hp1
  refine z_iconst (v := 0) ok dX9_passGates_0 (by decide) ?_
  refine z_nm hf (fun v1 hf => ?_)
  refine z_istore_n (lv' := [(2, .int v1), (0, .ref (X.ad w)), (1, .ref (X.ad p1))]) ok dX9_passGates_1 (by decide) rfl ?_
  refine z_call hf (fun r hr hf => ?_)
  refine z_sub [1, 2, 0] rfl (z_iter (fun (s : (Sg × Int32)) => s.1) (fun (s : (Sg × Int32)) => [(0, .ref (X.ad w)), (1, .ref (X.ad p1)), (2, .int s.2)]) (fun s o h1 h2 => t_Water_passGates_l2 ok hw hp1 h1 h2) _ _ _ hr ?_)
  show ZAt X Q 0 0 173 r.1 [] []
  obtain rfl := Option.some.inj hf
  exact hk _ _ dX9_passGates_173
theorem c_Water_passGates {σ : Sg} {w : Nat} {p1 : Nat} (hw : zI_Water w 198) (hp1 : zI_Works p1 198) {r : Sg} (h : Water_passGates σ w p1 = some r) : ZcV yX9_passGates cX9_passGates 5 rm_Water_passGates 198 (fun ad => [.ref (ad w), .ref (ad p1)]) σ r :=
  zmetV pn_9 rfl (fun _ => rfl) (fun _ => Nat.le_of_ble_eq_true rfl) (fun X Q ok hk => t_Water_passGates ok hw hp1 h hk)
theorem dX9_spillOver_0 : decode cX9_spillOver 0 = .ok (.iconst 0, 1) := by decide +kernel
theorem dX9_spillOver_1 : decode cX9_spillOver 1 = .ok (.istore_n 2, 1) := by decide +kernel
theorem dX9_spillOver_2 : decode cX9_spillOver 2 = .ok (.iload_n 2, 1) := by decide +kernel
theorem dX9_spillOver_3 : decode cX9_spillOver 3 = .ok (.aload_n 1, 1) := by decide +kernel
theorem dX9_spillOver_4 : decode cX9_spillOver 4 = .ok (.getfield 109, 3) := by decide +kernel
theorem dX9_spillOver_7 : decode cX9_spillOver 7 = .ok (.if_icmp .ge 114, 3) := by decide +kernel
theorem dX9_spillOver_10 : decode cX9_spillOver 10 = .ok (.aload_n 0, 1) := by decide +kernel
theorem dX9_spillOver_11 : decode cX9_spillOver 11 = .ok (.getfield 9, 3) := by decide +kernel
theorem dX9_spillOver_14 : decode cX9_spillOver 14 = .ok (.iload_n 2, 1) := by decide +kernel
theorem dX9_spillOver_15 : decode cX9_spillOver 15 = .ok (.iaload, 1) := by decide +kernel
theorem dX9_spillOver_16 : decode cX9_spillOver 16 = .ok (.aload_n 1, 1) := by decide +kernel
theorem dX9_spillOver_17 : decode cX9_spillOver 17 = .ok (.getfield 63, 3) := by decide +kernel
theorem dX9_spillOver_20 : decode cX9_spillOver 20 = .ok (.iconst 3, 1) := by decide +kernel
theorem dX9_spillOver_21 : decode cX9_spillOver 21 = .ok (.aaload, 1) := by decide +kernel
theorem dX9_spillOver_22 : decode cX9_spillOver 22 = .ok (.iload_n 2, 1) := by decide +kernel
theorem dX9_spillOver_23 : decode cX9_spillOver 23 = .ok (.iaload, 1) := by decide +kernel
theorem dX9_spillOver_24 : decode cX9_spillOver 24 = .ok (.isub, 1) := by decide +kernel
theorem dX9_spillOver_25 : decode cX9_spillOver 25 = .ok (.istore_n 3, 1) := by decide +kernel
theorem dX9_spillOver_26 : decode cX9_spillOver 26 = .ok (.iload_n 3, 1) := by decide +kernel
theorem dX9_spillOver_27 : decode cX9_spillOver 27 = .ok (.ifCond .le 88, 3) := by decide +kernel
theorem dX9_spillOver_30 : decode cX9_spillOver 30 = .ok (.aload_n 0, 1) := by decide +kernel
theorem dX9_spillOver_31 : decode cX9_spillOver 31 = .ok (.getfield 9, 3) := by decide +kernel
theorem dX9_spillOver_34 : decode cX9_spillOver 34 = .ok (.iload_n 2, 1) := by decide +kernel
theorem dX9_spillOver_35 : decode cX9_spillOver 35 = .ok (.dup2, 1) := by decide +kernel
theorem dX9_spillOver_36 : decode cX9_spillOver 36 = .ok (.iaload, 1) := by decide +kernel
theorem dX9_spillOver_37 : decode cX9_spillOver 37 = .ok (.iload_n 3, 1) := by decide +kernel
theorem dX9_spillOver_38 : decode cX9_spillOver 38 = .ok (.isub, 1) := by decide +kernel
theorem dX9_spillOver_39 : decode cX9_spillOver 39 = .ok (.iastore, 1) := by decide +kernel
theorem dX9_spillOver_40 : decode cX9_spillOver 40 = .ok (.aload_n 0, 1) := by decide +kernel
theorem dX9_spillOver_41 : decode cX9_spillOver 41 = .ok (.getfield 39, 3) := by decide +kernel
theorem dX9_spillOver_44 : decode cX9_spillOver 44 = .ok (.getfield 86, 3) := by decide +kernel
theorem dX9_spillOver_47 : decode cX9_spillOver 47 = .ok (.iload_n 2, 1) := by decide +kernel
theorem dX9_spillOver_48 : decode cX9_spillOver 48 = .ok (.dup2, 1) := by decide +kernel
theorem dX9_spillOver_49 : decode cX9_spillOver 49 = .ok (.iaload, 1) := by decide +kernel
theorem dX9_spillOver_50 : decode cX9_spillOver 50 = .ok (.iload_n 3, 1) := by decide +kernel
theorem dX9_spillOver_51 : decode cX9_spillOver 51 = .ok (.iadd, 1) := by decide +kernel
theorem dX9_spillOver_52 : decode cX9_spillOver 52 = .ok (.iastore, 1) := by decide +kernel
theorem dX9_spillOver_53 : decode cX9_spillOver 53 = .ok (.iload_n 2, 1) := by decide +kernel
theorem dX9_spillOver_54 : decode cX9_spillOver 54 = .ok (.iconst 1, 1) := by decide +kernel
theorem dX9_spillOver_55 : decode cX9_spillOver 55 = .ok (.iadd, 1) := by decide +kernel
theorem dX9_spillOver_56 : decode cX9_spillOver 56 = .ok (.aload_n 1, 1) := by decide +kernel
theorem dX9_spillOver_57 : decode cX9_spillOver 57 = .ok (.getfield 109, 3) := by decide +kernel
theorem dX9_spillOver_60 : decode cX9_spillOver 60 = .ok (.if_icmp .ge 45, 3) := by decide +kernel
theorem dX9_spillOver_63 : decode cX9_spillOver 63 = .ok (.aload_n 0, 1) := by decide +kernel
theorem dX9_spillOver_64 : decode cX9_spillOver 64 = .ok (.getfield 9, 3) := by decide +kernel
theorem dX9_spillOver_67 : decode cX9_spillOver 67 = .ok (.iload_n 2, 1) := by decide +kernel
theorem dX9_spillOver_68 : decode cX9_spillOver 68 = .ok (.iconst 1, 1) := by decide +kernel
theorem dX9_spillOver_69 : decode cX9_spillOver 69 = .ok (.iadd, 1) := by decide +kernel
theorem dX9_spillOver_70 : decode cX9_spillOver 70 = .ok (.dup2, 1) := by decide +kernel
theorem dX9_spillOver_71 : decode cX9_spillOver 71 = .ok (.iaload, 1) := by decide +kernel
theorem dX9_spillOver_72 : decode cX9_spillOver 72 = .ok (.iload_n 3, 1) := by decide +kernel
theorem dX9_spillOver_73 : decode cX9_spillOver 73 = .ok (.iadd, 1) := by decide +kernel
theorem dX9_spillOver_74 : decode cX9_spillOver 74 = .ok (.iastore, 1) := by decide +kernel
theorem dX9_spillOver_75 : decode cX9_spillOver 75 = .ok (.aload_n 0, 1) := by decide +kernel
theorem dX9_spillOver_76 : decode cX9_spillOver 76 = .ok (.getfield 39, 3) := by decide +kernel
theorem dX9_spillOver_79 : decode cX9_spillOver 79 = .ok (.getfield 83, 3) := by decide +kernel
theorem dX9_spillOver_82 : decode cX9_spillOver 82 = .ok (.iload_n 2, 1) := by decide +kernel
theorem dX9_spillOver_83 : decode cX9_spillOver 83 = .ok (.iconst 1, 1) := by decide +kernel
theorem dX9_spillOver_84 : decode cX9_spillOver 84 = .ok (.iadd, 1) := by decide +kernel
theorem dX9_spillOver_85 : decode cX9_spillOver 85 = .ok (.dup2, 1) := by decide +kernel
theorem dX9_spillOver_86 : decode cX9_spillOver 86 = .ok (.iaload, 1) := by decide +kernel
theorem dX9_spillOver_87 : decode cX9_spillOver 87 = .ok (.iload_n 3, 1) := by decide +kernel
theorem dX9_spillOver_88 : decode cX9_spillOver 88 = .ok (.iadd, 1) := by decide +kernel
theorem dX9_spillOver_89 : decode cX9_spillOver 89 = .ok (.iastore, 1) := by decide +kernel
theorem dX9_spillOver_90 : decode cX9_spillOver 90 = .ok (.aload_n 0, 1) := by decide +kernel
theorem dX9_spillOver_91 : decode cX9_spillOver 91 = .ok (.getfield 39, 3) := by decide +kernel
theorem dX9_spillOver_94 : decode cX9_spillOver 94 = .ok (.getfield 89, 3) := by decide +kernel
theorem dX9_spillOver_97 : decode cX9_spillOver 97 = .ok (.iload_n 2, 1) := by decide +kernel
theorem dX9_spillOver_98 : decode cX9_spillOver 98 = .ok (.iconst 1, 1) := by decide +kernel
theorem dX9_spillOver_99 : decode cX9_spillOver 99 = .ok (.iadd, 1) := by decide +kernel
theorem dX9_spillOver_100 : decode cX9_spillOver 100 = .ok (.iload_n 3, 1) := by decide +kernel
theorem dX9_spillOver_101 : decode cX9_spillOver 101 = .ok (.iastore, 1) := by decide +kernel
theorem dX9_spillOver_102 : decode cX9_spillOver 102 = .ok (.goto 13, 3) := by decide +kernel
theorem dX9_spillOver_105 : decode cX9_spillOver 105 = .ok (.aload_n 0, 1) := by decide +kernel
theorem dX9_spillOver_106 : decode cX9_spillOver 106 = .ok (.getfield 33, 3) := by decide +kernel
theorem dX9_spillOver_109 : decode cX9_spillOver 109 = .ok (.iconst 3, 1) := by decide +kernel
theorem dX9_spillOver_110 : decode cX9_spillOver 110 = .ok (.dup2, 1) := by decide +kernel
theorem dX9_spillOver_111 : decode cX9_spillOver 111 = .ok (.iaload, 1) := by decide +kernel
theorem dX9_spillOver_112 : decode cX9_spillOver 112 = .ok (.iload_n 3, 1) := by decide +kernel
theorem dX9_spillOver_113 : decode cX9_spillOver 113 = .ok (.iadd, 1) := by decide +kernel
theorem dX9_spillOver_114 : decode cX9_spillOver 114 = .ok (.iastore, 1) := by decide +kernel
theorem dX9_spillOver_115 : decode cX9_spillOver 115 = .ok (.iinc 2 1, 3) := by decide +kernel
theorem dX9_spillOver_118 : decode cX9_spillOver 118 = .ok (.goto (-116), 3) := by decide +kernel
theorem dX9_spillOver_121 : decode cX9_spillOver 121 = .ok (.return_, 1) := by decide +kernel
abbrev rm_Water_spillOver : Room := { frames := 0, cells := 0, slots := 0, locals := 0 }
def Water_spillOver_l2 (σ : Sg) (w : Nat) (p1 : Nat) (x2 : Int32) : Option ((Sg × Int32) ⊕ (Sg × Int32)) :=
  zgt σ p1 3 fun v4 =>
  if v4 ≤ x2 then (
    some (.inr (σ, x2))
  ) else (
    zrd σ (w + 1) 8 x2 fun v15 =>
    zrd σ (p1 + 6) 8 x2 fun v23 =>
    zlt (v15 - v23) fun v25 =>
    if v25 ≤ 0 then (
      zlt (x2 + 1) fun v115 =>
      some (.inl (σ, v115))
    ) else (
      zrd σ (w + 1) 8 x2 fun v36 =>
      zwr σ (w + 1) 8 x2 (v36 - v25) fun σ39 =>
      zrd σ39 (w + 12) 8 x2 fun v49 =>
      zwr σ39 (w + 12) 8 x2 (v49 + v25) fun σ52 =>
      zgt σ52 p1 3 fun v57 =>
      if v57 ≤ (x2 + 1) then (
        zrd σ52 (w + 8) 7 3 fun v111 =>
        zwr σ52 (w + 8) 7 3 (v111 + v25) fun σ114 =>
        zlt (x2 + 1) fun v115 =>
        some (.inl (σ114, v115))
      ) else (
        zrd σ52 (w + 1) 8 (x2 + 1) fun v71 =>
        zwr σ52 (w + 1) 8 (x2 + 1) (v71 + v25) fun σ74 =>
        zrd σ74 (w + 11) 8 (x2 + 1) fun v86 =>
        zwr σ74 (w + 11) 8 (x2 + 1) (v86 + v25) fun σ89 =>
        zwr σ89 (w + 15) 8 (x2 + 1) v25 fun σ101 =>
        zlt (x2 + 1) fun v115 =>
        some (.inl (σ101, v115))
      )
    )
  )
set_option maxRecDepth 20000 in
theorem t_Water_spillOver_l2 {X : Zx} {Q : State → Prop} {σ : Sg} {w : Nat} {p1 : Nat} {x2 : Int32} (ok : Zok X cX9_spillOver RX9 rm_Water_spillOver 198 4) (hw : zI_Water w 198) (hp1 : zI_Works p1 198) {out : ((Sg × Int32) ⊕ (Sg × Int32))} (hf : Water_spillOver_l2 σ w p1 x2 = some out) (hk : zout (fun (s : (Sg × Int32)) => ZAt X Q 0 0 2 s.1 [(0, .ref (X.ad w)), (1, .ref (X.ad p1)), (2, .int s.2)] []) (fun (s : (Sg × Int32)) => ZAt X Q 0 0 121 s.1 [] []) out) : ZAt X Q 0 0 2 σ [(0, .ref (X.ad w)), (1, .ref (X.ad p1)), (2, .int x2)] [] := by
  unfold Water_spillOver_l2 at hf
  obtain ⟨hw_0, hw_1, hw_2, hw_3, hw_4, hw_5, hw_6, hw_7, hw_8, hw_9, hw_10, hw_11, hw_12, hw_13, hw_14, hw_15, hw_16⟩ := id hw
  obtain ⟨hp1_0, hp1_1, hp1_2, hp1_3, hp1_4, hp1_5, hp1_6, hp1_7, hp1_8, hp1_9, hp1_10, hp1_11, hp1_12, hp1_13, hp1_14, hp1_15, hp1_16, hp1_17, hp1_18, hp1_19, hp1_20, hp1_21, hp1_22, hp1_23, hp1_24, hp1_25⟩ := id hp1
  refine z_iload_n ok dX9_spillOver_2 2 rfl ?_
  refine z_aload_n ok dX9_spillOver_3 1 rfl ?_
  refine z_geti ok hp1_0 zc_10 hin_10 3 (by decide) fl_9_109 rfl dX9_spillOver_4 hf (fun v4 hf => ?_)
  refine z_icmp_ge (tgt := 121) ok dX9_spillOver_7 (by decide) hf (fun _ hf => ?_) (fun _ hf => ?_)
  · obtain rfl := Option.some.inj hf
    exact z_sub [] rfl hk
  · refine z_aload_n ok dX9_spillOver_10 0 rfl ?_
    refine z_getr (q := (w + 1)) ok hw_0 zc_9 hin_9 3 (by decide) fl_9_9 rfl dX9_spillOver_11 ?_
    refine z_iload_n ok dX9_spillOver_14 2 rfl ?_
    refine z_iald ok hw_1 dX9_spillOver_15 hf (fun v15 hf => ?_)
    refine z_aload_n ok dX9_spillOver_16 1 rfl ?_
    refine z_getr (q := (p1 + 2)) ok hp1_0 zc_10 hin_10 5 (by decide) fl_9_63 rfl dX9_spillOver_17 ?_
    refine z_iconst (v := 3) ok dX9_spillOver_20 (by decide) ?_
    refine z_aaldc (q := (p1 + 6)) ok hp1_2 (by decide) rfl (by decide) rfl dX9_spillOver_21 ?_
    refine z_iload_n ok dX9_spillOver_22 2 rfl ?_
    refine z_iald ok hp1_6 dX9_spillOver_23 hf (fun v23 hf => ?_)
    refine z_isub ok dX9_spillOver_24 ?_
    refine z_nm hf (fun v25 hf => ?_)
    refine z_istore_n (lv' := [(3, .int v25), (0, .ref (X.ad w)), (1, .ref (X.ad p1)), (2, .int x2)]) ok dX9_spillOver_25 (by decide) rfl ?_
    refine z_iload_n ok dX9_spillOver_26 0 rfl ?_
    refine z_if_le (tgt := 115) ok dX9_spillOver_27 (by decide) hf (fun _ hf => ?_) (fun _ hf => ?_)
    · refine z_iinc (w := 1) (lv' := fun v115 => [(2, .int v115), (3, .int v25), (0, .ref (X.ad w)), (1, .ref (X.ad p1))]) ok dX9_spillOver_115 3 rfl (by decide) (by decide) (fun _ => rfl) hf (fun v115 hf => ?_)
      refine z_goto (tgt := 2) ok dX9_spillOver_118 (by decide) ?_
      obtain rfl := Option.some.inj hf
      exact z_sub [2, 3, 0] rfl hk
    · refine z_aload_n ok dX9_spillOver_30 1 rfl ?_
      refine z_getr (q := (w + 1)) ok hw_0 zc_9 hin_9 3 (by decide) fl_9_9 rfl dX9_spillOver_31 ?_
      refine z_iload_n ok dX9_spillOver_34 3 rfl ?_
      refine z_dup2 ok dX9_spillOver_35 rfl rfl ?_
      refine z_iald ok hw_1 dX9_spillOver_36 hf (fun v36 hf => ?_)
      refine z_iload_n ok dX9_spillOver_37 0 rfl ?_
      refine z_isub ok dX9_spillOver_38 ?_
      refine z_iast ok hw_1 dX9_spillOver_39 hf (fun σ39 hf => ?_)
      refine z_aload_n ok dX9_spillOver_40 1 rfl ?_
      refine z_getr (q := (w + 9)) ok hw_0 zc_9 hin_9 11 (by decide) fl_9_39 rfl dX9_spillOver_41 ?_
      refine z_getr (q := (w + 12)) ok hw_9 zc_2 hin_2 2 (by decide) fl_9_86 rfl dX9_spillOver_44 ?_
      refine z_iload_n ok dX9_spillOver_47 3 rfl ?_
      refine z_dup2 ok dX9_spillOver_48 rfl rfl ?_
      refine z_iald ok hw_12 dX9_spillOver_49 hf (fun v49 hf => ?_)
      refine z_iload_n ok dX9_spillOver_50 0 rfl ?_
      refine z_iadd ok dX9_spillOver_51 ?_
      refine z_iast ok hw_12 dX9_spillOver_52 hf (fun σ52 hf => ?_)
      refine z_iload_n ok dX9_spillOver_53 3 rfl ?_
      refine z_iconst (v := 1) ok dX9_spillOver_54 (by decide) ?_
      refine z_iadd ok dX9_spillOver_55 ?_
      refine z_aload_n ok dX9_spillOver_56 2 rfl ?_
      refine z_geti ok hp1_0 zc_10 hin_10 3 (by decide) fl_9_109 rfl dX9_spillOver_57 hf (fun v57 hf => ?_)
      refine z_icmp_ge (tgt := 105) ok dX9_spillOver_60 (by decide) hf (fun _ hf => ?_) (fun _ hf => ?_)
      · refine z_aload_n ok dX9_spillOver_105 1 rfl ?_
        refine z_getr (q := (w + 8)) ok hw_0 zc_9 hin_9 10 (by decide) fl_9_33 rfl dX9_spillOver_106 ?_
        refine z_iconst (v := 3) ok dX9_spillOver_109 (by decide) ?_
        refine z_dup2 ok dX9_spillOver_110 rfl rfl ?_
        refine z_iald ok hw_8 dX9_spillOver_111 hf (fun v111 hf => ?_)
        refine z_iload_n ok dX9_spillOver_112 0 rfl ?_
        refine z_iadd ok dX9_spillOver_113 ?_
        refine z_iast ok hw_8 dX9_spillOver_114 hf (fun σ114 hf => ?_)
        refine z_iinc (w := 1) (lv' := fun v115 => [(2, .int v115), (3, .int v25), (0, .ref (X.ad w)), (1, .ref (X.ad p1))]) ok dX9_spillOver_115 3 rfl (by decide) (by decide) (fun _ => rfl) hf (fun v115 hf => ?_)
        refine z_goto (tgt := 2) ok dX9_spillOver_118 (by decide) ?_
        obtain rfl := Option.some.inj hf
        exact z_sub [2, 3, 0] rfl hk
      · refine z_aload_n ok dX9_spillOver_63 1 rfl ?_
        refine z_getr (q := (w + 1)) ok hw_0 zc_9 hin_9 3 (by decide) fl_9_9 rfl dX9_spillOver_64 ?_
        refine z_iload_n ok dX9_spillOver_67 3 rfl ?_
        refine z_iconst (v := 1) ok dX9_spillOver_68 (by decide) ?_
        refine z_iadd ok dX9_spillOver_69 ?_
        refine z_dup2 ok dX9_spillOver_70 rfl rfl ?_
        refine z_iald ok hw_1 dX9_spillOver_71 hf (fun v71 hf => ?_)
        refine z_iload_n ok dX9_spillOver_72 0 rfl ?_
        refine z_iadd ok dX9_spillOver_73 ?_
        refine z_iast ok hw_1 dX9_spillOver_74 hf (fun σ74 hf => ?_)
        refine z_aload_n ok dX9_spillOver_75 1 rfl ?_
        refine z_getr (q := (w + 9)) ok hw_0 zc_9 hin_9 11 (by decide) fl_9_39 rfl dX9_spillOver_76 ?_
        refine z_getr (q := (w + 11)) ok hw_9 zc_2 hin_2 1 (by decide) fl_9_83 rfl dX9_spillOver_79 ?_
        refine z_iload_n ok dX9_spillOver_82 3 rfl ?_
        refine z_iconst (v := 1) ok dX9_spillOver_83 (by decide) ?_
        refine z_iadd ok dX9_spillOver_84 ?_
        refine z_dup2 ok dX9_spillOver_85 rfl rfl ?_
        refine z_iald ok hw_11 dX9_spillOver_86 hf (fun v86 hf => ?_)
        refine z_iload_n ok dX9_spillOver_87 0 rfl ?_
        refine z_iadd ok dX9_spillOver_88 ?_
        refine z_iast ok hw_11 dX9_spillOver_89 hf (fun σ89 hf => ?_)
        refine z_aload_n ok dX9_spillOver_90 1 rfl ?_
        refine z_getr (q := (w + 9)) ok hw_0 zc_9 hin_9 11 (by decide) fl_9_39 rfl dX9_spillOver_91 ?_
        refine z_getr (q := (w + 15)) ok hw_9 zc_2 hin_2 5 (by decide) fl_9_89 rfl dX9_spillOver_94 ?_
        refine z_iload_n ok dX9_spillOver_97 3 rfl ?_
        refine z_iconst (v := 1) ok dX9_spillOver_98 (by decide) ?_
        refine z_iadd ok dX9_spillOver_99 ?_
        refine z_iload_n ok dX9_spillOver_100 0 rfl ?_
        refine z_iast ok hw_15 dX9_spillOver_101 hf (fun σ101 hf => ?_)
        refine z_goto (tgt := 115) ok dX9_spillOver_102 (by decide) ?_
        refine z_iinc (w := 1) (lv' := fun v115 => [(2, .int v115), (3, .int v25), (0, .ref (X.ad w)), (1, .ref (X.ad p1))]) ok dX9_spillOver_115 3 rfl (by decide) (by decide) (fun _ => rfl) hf (fun v115 hf => ?_)
        refine z_goto (tgt := 2) ok dX9_spillOver_118 (by decide) ?_
        obtain rfl := Option.some.inj hf
        exact z_sub [2, 3, 0] rfl hk
def Water_spillOver (σ : Sg) (w : Nat) (p1 : Nat) : Option Sg :=
  zlt 0 fun v1 =>
  (zit (fun (s : (Sg × Int32)) => Water_spillOver_l2 s.1 w p1 s.2) zFU (σ, v1)).bind fun r =>
  some r.1
set_option maxRecDepth 20000 in
theorem t_Water_spillOver {X : Zx} {Q : State → Prop} {σ : Sg} {w : Nat} {p1 : Nat} (ok : Zok X cX9_spillOver RX9 rm_Water_spillOver 198 4) (hw : zI_Water w 198) (hp1 : zI_Works p1 198) {out : Sg} (hf : Water_spillOver σ w p1 = some out) (hk : ZrV cX9_spillOver X Q out) : ZAt X Q 0 0 0 σ [(0, .ref (X.ad w)), (1, .ref (X.ad p1))] [] := by
  unfold Water_spillOver at hf
  obtain ⟨hw_0, hw_1, hw_2, hw_3, hw_4, hw_5, hw_6, hw_7, hw_8, hw_9, hw_10, hw_11, hw_12, hw_13, hw_14, hw_15, hw_16⟩ := id hw
  obtain ⟨hp1_0, hp1_1, hp1_2, hp1_3, hp1_4, hp1_5, hp1_6, hp1_7, hp1_8, hp1_9, hp1_10, hp1_11, hp1_12, hp1_13, hp1_14, hp1_15, hp1_16, hp1_17, hp1_18, hp1_19, hp1_20, hp1_21, hp1_22, hp1_23, hp1_24, hp1_25⟩ := id hp1
  refine z_iconst (v := 0) ok dX9_spillOver_0 (by decide) ?_
  refine z_nm hf (fun v1 hf => ?_)
  refine z_istore_n (lv' := [(2, .int v1), (0, .ref (X.ad w)), (1, .ref (X.ad p1))]) ok dX9_spillOver_1 (by decide) rfl ?_
  refine z_call hf (fun r hr hf => ?_)
  refine z_sub [1, 2, 0] rfl (z_iter (fun (s : (Sg × Int32)) => s.1) (fun (s : (Sg × Int32)) => [(0, .ref (X.ad w)), (1, .ref (X.ad p1)), (2, .int s.2)]) (fun s o h1 h2 => t_Water_spillOver_l2 ok hw hp1 h1 h2) _ _ _ hr ?_)
  show ZAt X Q 0 0 121 r.1 [] []
  obtain rfl := Option.some.inj hf
  exact hk _ _ dX9_spillOver_121
theorem c_Water_spillOver {σ : Sg} {w : Nat} {p1 : Nat} (hw : zI_Water w 198) (hp1 : zI_Works p1 198) {r : Sg} (h : Water_spillOver σ w p1 = some r) : ZcV yX9_spillOver cX9_spillOver 4 rm_Water_spillOver 198 (fun ad => [.ref (ad w), .ref (ad p1)]) σ r :=
  zmetV pn_9 rfl (fun _ => rfl) (fun _ => Nat.le_of_ble_eq_true rfl) (fun X Q ok hk => t_Water_spillOver ok hw hp1 h hk)
theorem dX6_demandAt_0 : decode cX6_demandAt 0 = .ok (.iload_n 2, 1) := by decide +kernel
theorem dX6_demandAt_1 : decode cX6_demandAt 1 = .ok (.aload_n 0, 1) := by decide +kernel
theorem dX6_demandAt_2 : decode cX6_demandAt 2 = .ok (.getfield 21, 3) := by decide +kernel
theorem dX6_demandAt_5 : decode cX6_demandAt 5 = .ok (.isub, 1) := by decide +kernel
theorem dX6_demandAt_6 : decode cX6_demandAt 6 = .ok (.istore_n 3, 1) := by decide +kernel
theorem dX6_demandAt_7 : decode cX6_demandAt 7 = .ok (.iload_n 3, 1) := by decide +kernel
theorem dX6_demandAt_8 : decode cX6_demandAt 8 = .ok (.ifCond .lt 22, 3) := by decide +kernel
theorem dX6_demandAt_11 : decode cX6_demandAt 11 = .ok (.iload_n 3, 1) := by decide +kernel
theorem dX6_demandAt_12 : decode cX6_demandAt 12 = .ok (.aload_n 0, 1) := by decide +kernel
theorem dX6_demandAt_13 : decode cX6_demandAt 13 = .ok (.getfield 31, 3) := by decide +kernel
theorem dX6_demandAt_16 : decode cX6_demandAt 16 = .ok (.if_icmp .gt 14, 3) := by decide +kernel
theorem dX6_demandAt_19 : decode cX6_demandAt 19 = .ok (.aload_n 0, 1) := by decide +kernel
theorem dX6_demandAt_20 : decode cX6_demandAt 20 = .ok (.getfield 18, 3) := by decide +kernel
theorem dX6_demandAt_23 : decode cX6_demandAt 23 = .ok (.iload_n 1, 1) := by decide +kernel
theorem dX6_demandAt_24 : decode cX6_demandAt 24 = .ok (.aaload, 1) := by decide +kernel
theorem dX6_demandAt_25 : decode cX6_demandAt 25 = .ok (.iload_n 3, 1) := by decide +kernel
theorem dX6_demandAt_26 : decode cX6_demandAt 26 = .ok (.iaload, 1) := by decide +kernel
theorem dX6_demandAt_27 : decode cX6_demandAt 27 = .ok (.goto 4, 3) := by decide +kernel
theorem dX6_demandAt_30 : decode cX6_demandAt 30 = .ok (.iconst 0, 1) := by decide +kernel
theorem dX6_demandAt_31 : decode cX6_demandAt 31 = .ok (.ireturn, 1) := by decide +kernel
abbrev rm_Schedule_demandAt : Room := { frames := 0, cells := 0, slots := 0, locals := 0 }
def Schedule_demandAt (σ : Sg) (x1 : Int32) (x2 : Int32) : Option Int32 :=
  zgt σ 103 0 fun v2 =>
  zlt (x2 - v2) fun v6 =>
  if v6 < 0 then (
    some 0
  ) else (
    zgt σ 103 1 fun v13 =>
    if v13 < v6 then (
      some 0
    ) else (
      zelr 116 8 x1 fun q24 =>
      zrd σ q24 201 v6 fun v26 =>
      some v26
    )
  )
set_option maxRecDepth 20000 in
theorem t_Schedule_demandAt {X : Zx} {Q : State → Prop} {σ : Sg} {x1 : Int32} {x2 : Int32} (ok : Zok X cX6_demandAt RX6 rm_Schedule_demandAt 198 4)  {out : Int32} (hf : Schedule_demandAt σ x1 x2 = some out) (hk : ZrI cX6_demandAt X Q out σ) : ZAt X Q 0 0 0 σ [(0, .ref (X.ad 103)), (1, .int x1), (2, .int x2)] [] := by
  unfold Schedule_demandAt at hf
  refine z_iload_n ok dX6_demandAt_0 2 rfl ?_
  refine z_aload_n ok dX6_demandAt_1 0 rfl ?_
  refine z_geti ok kc_103 zc_6 hin_6 0 (by decide) fl_6_21 rfl dX6_demandAt_2 hf (fun v2 hf => ?_)
  refine z_isub ok dX6_demandAt_5 ?_
  refine z_nm hf (fun v6 hf => ?_)
  refine z_istore_n (lv' := [(3, .int v6), (0, .ref (X.ad 103)), (1, .int x1), (2, .int x2)]) ok dX6_demandAt_6 (by decide) rfl ?_
  refine z_iload_n ok dX6_demandAt_7 0 rfl ?_
  refine z_if_lt (tgt := 30) ok dX6_demandAt_8 (by decide) hf (fun _ hf => ?_) (fun _ hf => ?_)
  · refine z_iconst (v := 0) ok dX6_demandAt_30 (by decide) ?_
    obtain rfl := Option.some.inj hf
    exact hk _ _ dX6_demandAt_31
  · refine z_iload_n ok dX6_demandAt_11 0 rfl ?_
    refine z_aload_n ok dX6_demandAt_12 1 rfl ?_
    refine z_geti ok kc_103 zc_6 hin_6 1 (by decide) fl_6_31 rfl dX6_demandAt_13 hf (fun v13 hf => ?_)
    refine z_icmp_gt (tgt := 30) ok dX6_demandAt_16 (by decide) hf (fun _ hf => ?_) (fun _ hf => ?_)
    · refine z_iconst (v := 0) ok dX6_demandAt_30 (by decide) ?_
      obtain rfl := Option.some.inj hf
      exact hk _ _ dX6_demandAt_31
    · refine z_aload_n ok dX6_demandAt_19 1 rfl ?_
      refine z_getr (q := 115) ok kc_103 zc_6 hin_6 4 (by decide) fl_6_18 rfl dX6_demandAt_20 ?_
      refine z_iload_n ok dX6_demandAt_23 2 rfl ?_
      refine z_aaldr (p := 116) ok kc_115 (by decide) rfl dX6_demandAt_24 hf (fun q24 e24 hf => ?_)
      have hq24 : zk q24 198 (.inr (0, 201, [])) := (show ∀ q ∈ [116, 117, 118, 119, 120, 121, 122, 123], zk q 198 (.inr (0, 201, [])) from (List.forall_mem_cons.mpr ⟨kc_116, (List.forall_mem_cons.mpr ⟨kc_117, (List.forall_mem_cons.mpr ⟨kc_118, (List.forall_mem_cons.mpr ⟨kc_119, (List.forall_mem_cons.mpr ⟨kc_120, (List.forall_mem_cons.mpr ⟨kc_121, (List.forall_mem_cons.mpr ⟨kc_122, (List.forall_mem_cons.mpr ⟨kc_123, (fun _ h => absurd h List.not_mem_nil)⟩)⟩)⟩)⟩)⟩)⟩)⟩)⟩)) q24 e24
      refine z_iload_n ok dX6_demandAt_25 0 rfl ?_
      refine z_iald ok hq24 dX6_demandAt_26 hf (fun v26 hf => ?_)
      refine z_goto (tgt := 31) ok dX6_demandAt_27 (by decide) ?_
      obtain rfl := Option.some.inj hf
      exact hk _ _ dX6_demandAt_31
theorem c_Schedule_demandAt {σ : Sg} {x1 : Int32} {x2 : Int32} {r : Int32} (h : Schedule_demandAt σ x1 x2 = some r) : ZcI yX6_demandAt cX6_demandAt 4 .int rm_Schedule_demandAt 198 (fun ad => [.ref (ad 103), .int x1, .int x2]) σ r σ :=
  zmetI pn_6 rfl (fun _ => rfl) (fun _ => Nat.le_of_ble_eq_true rfl) rfl (fun X Q ok hk => t_Schedule_demandAt ok h hk)
theorem dX9_moveGates_0 : decode cX9_moveGates 0 = .ok (.iconst 0, 1) := by decide +kernel
theorem dX9_moveGates_1 : decode cX9_moveGates 1 = .ok (.istore_n 3, 1) := by decide +kernel
theorem dX9_moveGates_2 : decode cX9_moveGates 2 = .ok (.aload_n 1, 1) := by decide +kernel
theorem dX9_moveGates_3 : decode cX9_moveGates 3 = .ok (.getfield 109, 3) := by decide +kernel
theorem dX9_moveGates_6 : decode cX9_moveGates 6 = .ok (.iconst 1, 1) := by decide +kernel
theorem dX9_moveGates_7 : decode cX9_moveGates 7 = .ok (.isub, 1) := by decide +kernel
theorem dX9_moveGates_8 : decode cX9_moveGates 8 = .ok (.istore 4, 2) := by decide +kernel
theorem dX9_moveGates_10 : decode cX9_moveGates 10 = .ok (.iload 4, 2) := by decide +kernel
theorem dX9_moveGates_12 : decode cX9_moveGates 12 = .ok (.ifCond .lt 107, 3) := by decide +kernel
theorem dX9_moveGates_15 : decode cX9_moveGates 15 = .ok (.iload_n 3, 1) := by decide +kernel
theorem dX9_moveGates_16 : decode cX9_moveGates 16 = .ok (.aload_n 0, 1) := by decide +kernel
theorem dX9_moveGates_17 : decode cX9_moveGates 17 = .ok (.getfield 18, 3) := by decide +kernel
theorem dX9_moveGates_20 : decode cX9_moveGates 20 = .ok (.iload 4, 2) := by decide +kernel
theorem dX9_moveGates_22 : decode cX9_moveGates 22 = .ok (.iaload, 1) := by decide +kernel
theorem dX9_moveGates_23 : decode cX9_moveGates 23 = .ok (.iadd, 1) := by decide +kernel
theorem dX9_moveGates_24 : decode cX9_moveGates 24 = .ok (.istore_n 3, 1) := by decide +kernel
theorem dX9_moveGates_25 : decode cX9_moveGates 25 = .ok (.aload_n 0, 1) := by decide +kernel
theorem dX9_moveGates_26 : decode cX9_moveGates 26 = .ok (.aload_n 1, 1) := by decide +kernel
theorem dX9_moveGates_27 : decode cX9_moveGates 27 = .ok (.iload 4, 2) := by decide +kernel
theorem dX9_moveGates_29 : decode cX9_moveGates 29 = .ok (.iload_n 3, 1) := by decide +kernel
theorem dX9_moveGates_30 : decode cX9_moveGates 30 = .ok (.aload_n 2, 1) := by decide +kernel
theorem dX9_moveGates_31 : decode cX9_moveGates 31 = .ok (.iload 4, 2) := by decide +kernel
theorem dX9_moveGates_33 : decode cX9_moveGates 33 = .ok (.aload_n 0, 1) := by decide +kernel
theorem dX9_moveGates_34 : decode cX9_moveGates 34 = .ok (.getfield 43, 3) := by decide +kernel
theorem dX9_moveGates_37 : decode cX9_moveGates 37 = .ok (.iconst 1, 1) := by decide +kernel
theorem dX9_moveGates_38 : decode cX9_moveGates 38 = .ok (.iadd, 1) := by decide +kernel
theorem dX9_moveGates_39 : decode cX9_moveGates 39 = .ok (.invokevirtual 141, 3) := by decide +kernel
theorem dX9_moveGates_42 : decode cX9_moveGates 42 = .ok (.iadd, 1) := by decide +kernel
theorem dX9_moveGates_43 : decode cX9_moveGates 43 = .ok (.invokevirtual 144, 3) := by decide +kernel
theorem dX9_moveGates_46 : decode cX9_moveGates 46 = .ok (.istore 5, 2) := by decide +kernel
theorem dX9_moveGates_48 : decode cX9_moveGates 48 = .ok (.aload_n 0, 1) := by decide +kernel
theorem dX9_moveGates_49 : decode cX9_moveGates 49 = .ok (.getfield 39, 3) := by decide +kernel
theorem dX9_moveGates_52 : decode cX9_moveGates 52 = .ok (.getfield 147, 3) := by decide +kernel
theorem dX9_moveGates_55 : decode cX9_moveGates 55 = .ok (.iload 4, 2) := by decide +kernel
theorem dX9_moveGates_57 : decode cX9_moveGates 57 = .ok (.iload 5, 2) := by decide +kernel
theorem dX9_moveGates_59 : decode cX9_moveGates 59 = .ok (.iastore, 1) := by decide +kernel
theorem dX9_moveGates_60 : decode cX9_moveGates 60 = .ok (.aload_n 1, 1) := by decide +kernel
theorem dX9_moveGates_61 : decode cX9_moveGates 61 = .ok (.getfield 63, 3) := by decide +kernel
theorem dX9_moveGates_64 : decode cX9_moveGates 64 = .ok (.bipush 7, 2) := by decide +kernel
theorem dX9_moveGates_66 : decode cX9_moveGates 66 = .ok (.aaload, 1) := by decide +kernel
theorem dX9_moveGates_67 : decode cX9_moveGates 67 = .ok (.iload 4, 2) := by decide +kernel
theorem dX9_moveGates_69 : decode cX9_moveGates 69 = .ok (.iaload, 1) := by decide +kernel
theorem dX9_moveGates_70 : decode cX9_moveGates 70 = .ok (.istore 6, 2) := by decide +kernel
theorem dX9_moveGates_72 : decode cX9_moveGates 72 = .ok (.aload_n 1, 1) := by decide +kernel
theorem dX9_moveGates_73 : decode cX9_moveGates 73 = .ok (.iload 4, 2) := by decide +kernel
theorem dX9_moveGates_75 : decode cX9_moveGates 75 = .ok (.iload 5, 2) := by decide +kernel
theorem dX9_moveGates_77 : decode cX9_moveGates 77 = .ok (.invokevirtual 150, 3) := by decide +kernel
theorem dX9_moveGates_80 : decode cX9_moveGates 80 = .ok (.aload_n 0, 1) := by decide +kernel
theorem dX9_moveGates_81 : decode cX9_moveGates 81 = .ok (.getfield 15, 3) := by decide +kernel
theorem dX9_moveGates_84 : decode cX9_moveGates 84 = .ok (.iload 4, 2) := by decide +kernel
theorem dX9_moveGates_86 : decode cX9_moveGates 86 = .ok (.iaload, 1) := by decide +kernel
theorem dX9_moveGates_87 : decode cX9_moveGates 87 = .ok (.isub, 1) := by decide +kernel
theorem dX9_moveGates_88 : decode cX9_moveGates 88 = .ok (.istore 7, 2) := by decide +kernel
theorem dX9_moveGates_90 : decode cX9_moveGates 90 = .ok (.aload_n 0, 1) := by decide +kernel
theorem dX9_moveGates_91 : decode cX9_moveGates 91 = .ok (.getfield 15, 3) := by decide +kernel
theorem dX9_moveGates_94 : decode cX9_moveGates 94 = .ok (.iload 4, 2) := by decide +kernel
theorem dX9_moveGates_96 : decode cX9_moveGates 96 = .ok (.dup2, 1) := by decide +kernel
theorem dX9_moveGates_97 : decode cX9_moveGates 97 = .ok (.iaload, 1) := by decide +kernel
theorem dX9_moveGates_98 : decode cX9_moveGates 98 = .ok (.iload 6, 2) := by decide +kernel
theorem dX9_moveGates_100 : decode cX9_moveGates 100 = .ok (.ineg, 1) := by decide +kernel
theorem dX9_moveGates_101 : decode cX9_moveGates 101 = .ok (.iload 6, 2) := by decide +kernel
theorem dX9_moveGates_103 : decode cX9_moveGates 103 = .ok (.iload 7, 2) := by decide +kernel
theorem dX9_moveGates_105 : decode cX9_moveGates 105 = .ok (.invokestatic 116, 3) := by decide +kernel
theorem dX9_moveGates_108 : decode cX9_moveGates 108 = .ok (.invokestatic 153, 3) := by decide +kernel
theorem dX9_moveGates_111 : decode cX9_moveGates 111 = .ok (.iadd, 1) := by decide +kernel
theorem dX9_moveGates_112 : decode cX9_moveGates 112 = .ok (.iastore, 1) := by decide +kernel
theorem dX9_moveGates_113 : decode cX9_moveGates 113 = .ok (.iinc 4 (-1), 3) := by decide +kernel
theorem dX9_moveGates_116 : decode cX9_moveGates 116 = .ok (.goto (-106), 3) := by decide +kernel
theorem dX9_moveGates_119 : decode cX9_moveGates 119 = .ok (.return_, 1) := by decide +kernel
abbrev rm_Water_moveGates : Room := { frames := 2, cells := 0, slots := 0, locals := 43 }
def Water_moveGates_l10 (σ : Sg) (w : Nat) (p1 : Nat) (x3 : Int32) (x4 : Int32) : Option ((Sg × Int32 × Int32) ⊕ (Sg × Int32 × Int32)) :=
  if x4 < 0 then (
    some (.inr (σ, x3, x4))
  ) else (
    zrd σ (w + 3) 8 x4 fun v22 =>
    zlt (x3 + v22) fun v24 =>
    zgt σ w 0 fun v34 =>
    (Schedule_demandAt σ x4 (v34 + 1)).bind fun r39 =>
    (Water_wishOf σ w p1 x4 (v24 + r39)).bind fun r43 =>
    zlt r43 fun v46 =>
    zwr σ (w + 16) 8 x4 v46 fun σ59 =>
    zrd σ59 (p1 + 10) 8 x4 fun v69 =>
    (Works_heldIn σ59 p1 x4 v46).bind fun r77 =>
    zrd σ59 (w + 2) 8 x4 fun v86 =>
    zlt (r77 - v86) fun v88 =>
    zrd σ59 (w + 2) 8 x4 fun v97 =>
    zwr σ59 (w + 2) 8 x4 (v97 + (if (-v69) < (if v88 < v69 then v88 else v69) then (if v88 < v69 then v88 else v69) else (-v69))) fun σ112 =>
    zlt (x4 + (-1)) fun v113 =>
    some (.inl (σ112, v24, v113))
  )
set_option maxRecDepth 20000 in
theorem t_Water_moveGates_l10 {X : Zx} {Q : State → Prop} {σ : Sg} {w : Nat} {p1 : Nat} {x3 : Int32} {x4 : Int32} (ok : Zok X cX9_moveGates RX9 rm_Water_moveGates 198 8) (hw : zI_Water w 198) (hp1 : zI_Works p1 198) {out : ((Sg × Int32 × Int32) ⊕ (Sg × Int32 × Int32))} (hf : Water_moveGates_l10 σ w p1 x3 x4 = some out) (hk : zout (fun (s : (Sg × Int32 × Int32)) => ZAt X Q 0 0 10 s.1 [(0, .ref (X.ad w)), (1, .ref (X.ad p1)), (2, .ref (X.ad 103)), (3, .int s.2.1), (4, .int s.2.2)] []) (fun (s : (Sg × Int32 × Int32)) => ZAt X Q 0 0 119 s.1 [] []) out) : ZAt X Q 0 0 10 σ [(0, .ref (X.ad w)), (1, .ref (X.ad p1)), (2, .ref (X.ad 103)), (3, .int x3), (4, .int x4)] [] := by
  unfold Water_moveGates_l10 at hf
  obtain ⟨hw_0, hw_1, hw_2, hw_3, hw_4, hw_5, hw_6, hw_7, hw_8, hw_9, hw_10, hw_11, hw_12, hw_13, hw_14, hw_15, hw_16⟩ := id hw
  obtain ⟨hp1_0, hp1_1, hp1_2, hp1_3, hp1_4, hp1_5, hp1_6, hp1_7, hp1_8, hp1_9, hp1_10, hp1_11, hp1_12, hp1_13, hp1_14, hp1_15, hp1_16, hp1_17, hp1_18, hp1_19, hp1_20, hp1_21, hp1_22, hp1_23, hp1_24, hp1_25⟩ := id hp1
  refine z_iload ok dX9_moveGates_10 4 rfl ?_
  refine z_if_lt (tgt := 119) ok dX9_moveGates_12 (by decide) hf (fun _ hf => ?_) (fun _ hf => ?_)
  · obtain rfl := Option.some.inj hf
    exact z_sub [] rfl hk
  · refine z_iload_n ok dX9_moveGates_15 3 rfl ?_
    refine z_aload_n ok dX9_moveGates_16 0 rfl ?_
    refine z_getr (q := (w + 3)) ok hw_0 zc_9 hin_9 5 (by decide) fl_9_18 rfl dX9_moveGates_17 ?_
    refine z_iload ok dX9_moveGates_20 4 rfl ?_
    refine z_iald ok hw_3 dX9_moveGates_22 hf (fun v22 hf => ?_)
    refine z_iadd ok dX9_moveGates_23 ?_
    refine z_nm hf (fun v24 hf => ?_)
    refine z_istore_n (lv' := [(3, .int v24), (0, .ref (X.ad w)), (1, .ref (X.ad p1)), (2, .ref (X.ad 103)), (4, .int x4)]) ok dX9_moveGates_24 (by decide) rfl ?_
    refine z_aload_n ok dX9_moveGates_25 1 rfl ?_
    refine z_aload_n ok dX9_moveGates_26 2 rfl ?_
    refine z_iload ok dX9_moveGates_27 4 rfl ?_
    refine z_iload_n ok dX9_moveGates_29 0 rfl ?_
    refine z_aload_n ok dX9_moveGates_30 3 rfl ?_
    refine z_iload ok dX9_moveGates_31 4 rfl ?_
    refine z_aload_n ok dX9_moveGates_33 1 rfl ?_
    refine z_geti ok hw_0 zc_9 hin_9 0 (by decide) fl_9_43 rfl dX9_moveGates_34 hf (fun v34 hf => ?_)
    refine z_iconst (v := 1) ok dX9_moveGates_37 (by decide) ?_
    refine z_iadd ok dX9_moveGates_38 ?_
    refine z_call hf (fun r39 h39 hf => ?_)
    refine z_cV (As := [.int x4, .int (v34 + 1)]) (rest := [.int v24, .int x4, .ref (X.ad p1), .ref (X.ad w)]) (w := 103) ok kc_103 zc_6 (c_Schedule_demandAt h39) rfl ⟨ml_9_141, w_Schedule_demandAt⟩ hy_Schedule_demandAt ⟨rfl, rfl⟩ ⟨Nat.le_of_ble_eq_true rfl, Nat.le_of_ble_eq_true rfl⟩ ⟨Nat.zero_le _, Nat.zero_le _⟩ rfl (Nat.le_of_ble_eq_true rfl) dX9_moveGates_39 ?_
    refine z_iadd ok dX9_moveGates_42 ?_
    refine z_call hf (fun r43 h43 hf => ?_)
    refine z_cV (As := [.ref (X.ad p1), .int x4, .int (v24 + r39)]) (rest := []) (w := w) ok hw_0 zc_9 (c_Water_wishOf hw hp1 h43) rfl ⟨ml_9_144, w_Water_wishOf⟩ hy_Water_wishOf ⟨rfl, rfl⟩ ⟨Nat.le_of_ble_eq_true rfl, Nat.le_of_ble_eq_true rfl⟩ ⟨Nat.zero_le _, Nat.zero_le _⟩ rfl (Nat.le_of_ble_eq_true rfl) dX9_moveGates_43 ?_
    refine z_nm hf (fun v46 hf => ?_)
    refine z_istore (lv' := [(5, .int v46), (3, .int v24), (0, .ref (X.ad w)), (1, .ref (X.ad p1)), (2, .ref (X.ad 103)), (4, .int x4)]) ok dX9_moveGates_46 (by decide) rfl ?_
    refine z_aload_n ok dX9_moveGates_48 2 rfl ?_
    refine z_getr (q := (w + 9)) ok hw_0 zc_9 hin_9 11 (by decide) fl_9_39 rfl dX9_moveGates_49 ?_
    refine z_getr (q := (w + 16)) ok hw_9 zc_2 hin_2 6 (by decide) fl_9_147 rfl dX9_moveGates_52 ?_
    refine z_iload ok dX9_moveGates_55 5 rfl ?_
    refine z_iload ok dX9_moveGates_57 0 rfl ?_
    refine z_iast ok hw_16 dX9_moveGates_59 hf (fun σ59 hf => ?_)
    refine z_aload_n ok dX9_moveGates_60 3 rfl ?_
    refine z_getr (q := (p1 + 2)) ok hp1_0 zc_10 hin_10 5 (by decide) fl_9_63 rfl dX9_moveGates_61 ?_
    refine z_bipush (v := 7) ok dX9_moveGates_64 (by decide) ?_
    refine z_aaldc (q := (p1 + 10)) ok hp1_2 (by decide) rfl (by decide) rfl dX9_moveGates_66 ?_
    refine z_iload ok dX9_moveGates_67 5 rfl ?_
    refine z_iald ok hp1_10 dX9_moveGates_69 hf (fun v69 hf => ?_)
    refine z_istore (lv' := [(6, .int v69), (5, .int v46), (3, .int v24), (0, .ref (X.ad w)), (1, .ref (X.ad p1)), (2, .ref (X.ad 103)), (4, .int x4)]) ok dX9_moveGates_70 (by decide) rfl ?_
    refine z_aload_n ok dX9_moveGates_72 4 rfl ?_
    refine z_iload ok dX9_moveGates_73 6 rfl ?_
    refine z_iload ok dX9_moveGates_75 1 rfl ?_
    refine z_call hf (fun r77 h77 hf => ?_)
    refine z_cV (As := [.int x4, .int v46]) (rest := []) (w := p1) ok hp1_0 zc_10 (c_Works_heldIn hp1 h77) rfl ⟨ml_9_150, w_Works_heldIn⟩ hy_Works_heldIn ⟨rfl, rfl⟩ ⟨Nat.le_of_ble_eq_true rfl, Nat.le_of_ble_eq_true rfl⟩ ⟨Nat.zero_le _, Nat.zero_le _⟩ rfl (Nat.le_of_ble_eq_true rfl) dX9_moveGates_77 ?_
    refine z_aload_n ok dX9_moveGates_80 3 rfl ?_
    refine z_getr (q := (w + 2)) ok hw_0 zc_9 hin_9 4 (by decide) fl_9_15 rfl dX9_moveGates_81 ?_
    refine z_iload ok dX9_moveGates_84 6 rfl ?_
    refine z_iald ok hw_2 dX9_moveGates_86 hf (fun v86 hf => ?_)
    refine z_isub ok dX9_moveGates_87 ?_
    refine z_nm hf (fun v88 hf => ?_)
    refine z_istore (lv' := [(7, .int v88), (6, .int v69), (5, .int v46), (3, .int v24), (0, .ref (X.ad w)), (1, .ref (X.ad p1)), (2, .ref (X.ad 103)), (4, .int x4)]) ok dX9_moveGates_88 (by decide) rfl ?_
    refine z_aload_n ok dX9_moveGates_90 4 rfl ?_
    refine z_getr (q := (w + 2)) ok hw_0 zc_9 hin_9 4 (by decide) fl_9_15 rfl dX9_moveGates_91 ?_
    refine z_iload ok dX9_moveGates_94 7 rfl ?_
    refine z_dup2 ok dX9_moveGates_96 rfl rfl ?_
    refine z_iald ok hw_2 dX9_moveGates_97 hf (fun v97 hf => ?_)
    refine z_iload ok dX9_moveGates_98 1 rfl ?_
    refine z_ineg ok dX9_moveGates_100 ?_
    refine z_iload ok dX9_moveGates_101 1 rfl ?_
    refine z_iload ok dX9_moveGates_103 0 rfl ?_
    refine z_mmin ok ml_9_116 (Nat.le_of_ble_eq_true rfl) (Nat.le_of_ble_eq_true rfl) ⟨Nat.zero_le _, Nat.zero_le _⟩ dX9_moveGates_105 ?_
    refine z_mmax ok ml_9_153 (Nat.le_of_ble_eq_true rfl) (Nat.le_of_ble_eq_true rfl) ⟨Nat.zero_le _, Nat.zero_le _⟩ dX9_moveGates_108 ?_
    refine z_iadd ok dX9_moveGates_111 ?_
    refine z_iast ok hw_2 dX9_moveGates_112 hf (fun σ112 hf => ?_)
    refine z_iinc (w := (-1)) (lv' := fun v113 => [(4, .int v113), (7, .int v88), (6, .int v69), (5, .int v46), (3, .int v24), (0, .ref (X.ad w)), (1, .ref (X.ad p1)), (2, .ref (X.ad 103))]) ok dX9_moveGates_113 7 rfl (by decide) (by decide) (fun _ => rfl) hf (fun v113 hf => ?_)
    refine z_goto (tgt := 10) ok dX9_moveGates_116 (by decide) ?_
    obtain rfl := Option.some.inj hf
    exact z_sub [5, 6, 7, 4, 0] rfl hk
def Water_moveGates (σ : Sg) (w : Nat) (p1 : Nat) : Option Sg :=
  zlt 0 fun v1 =>
  zgt σ p1 3 fun v3 =>
  zlt (v3 - 1) fun v8 =>
  (zit (fun (s : (Sg × Int32 × Int32)) => Water_moveGates_l10 s.1 w p1 s.2.1 s.2.2) zFU (σ, v1, v8)).bind fun r =>
  some r.1
set_option maxRecDepth 20000 in
theorem t_Water_moveGates {X : Zx} {Q : State → Prop} {σ : Sg} {w : Nat} {p1 : Nat} (ok : Zok X cX9_moveGates RX9 rm_Water_moveGates 198 8) (hw : zI_Water w 198) (hp1 : zI_Works p1 198) {out : Sg} (hf : Water_moveGates σ w p1 = some out) (hk : ZrV cX9_moveGates X Q out) : ZAt X Q 0 0 0 σ [(0, .ref (X.ad w)), (1, .ref (X.ad p1)), (2, .ref (X.ad 103))] [] := by
  unfold Water_moveGates at hf
  obtain ⟨hw_0, hw_1, hw_2, hw_3, hw_4, hw_5, hw_6, hw_7, hw_8, hw_9, hw_10, hw_11, hw_12, hw_13, hw_14, hw_15, hw_16⟩ := id hw
  obtain ⟨hp1_0, hp1_1, hp1_2, hp1_3, hp1_4, hp1_5, hp1_6, hp1_7, hp1_8, hp1_9, hp1_10, hp1_11, hp1_12, hp1_13, hp1_14, hp1_15, hp1_16, hp1_17, hp1_18, hp1_19, hp1_20, hp1_21, hp1_22, hp1_23, hp1_24, hp1_25⟩ := id hp1
  refine z_iconst (v := 0) ok dX9_moveGates_0 (by decide) ?_
  refine z_nm hf (fun v1 hf => ?_)
  refine z_istore_n (lv' := [(3, .int v1), (0, .ref (X.ad w)), (1, .ref (X.ad p1)), (2, .ref (X.ad 103))]) ok dX9_moveGates_1 (by decide) rfl ?_
  refine z_aload_n ok dX9_moveGates_2 2 rfl ?_
  refine z_geti ok hp1_0 zc_10 hin_10 3 (by decide) fl_9_109 rfl dX9_moveGates_3 hf (fun v3 hf => ?_)
  refine z_iconst (v := 1) ok dX9_moveGates_6 (by decide) ?_
  refine z_isub ok dX9_moveGates_7 ?_
  refine z_nm hf (fun v8 hf => ?_)
  refine z_istore (lv' := [(4, .int v8), (3, .int v1), (0, .ref (X.ad w)), (1, .ref (X.ad p1)), (2, .ref (X.ad 103))]) ok dX9_moveGates_8 (by decide) rfl ?_
  refine z_call hf (fun r hr hf => ?_)
  refine z_sub [2, 3, 4, 1, 0] rfl (z_iter (fun (s : (Sg × Int32 × Int32)) => s.1) (fun (s : (Sg × Int32 × Int32)) => [(0, .ref (X.ad w)), (1, .ref (X.ad p1)), (2, .ref (X.ad 103)), (3, .int s.2.1), (4, .int s.2.2)]) (fun s o h1 h2 => t_Water_moveGates_l10 ok hw hp1 h1 h2) _ _ _ hr ?_)
  show ZAt X Q 0 0 119 r.1 [] []
  obtain rfl := Option.some.inj hf
  exact hk _ _ dX9_moveGates_119
theorem c_Water_moveGates {σ : Sg} {w : Nat} {p1 : Nat} (hw : zI_Water w 198) (hp1 : zI_Works p1 198) {r : Sg} (h : Water_moveGates σ w p1 = some r) : ZcV yX9_moveGates cX9_moveGates 8 rm_Water_moveGates 198 (fun ad => [.ref (ad w), .ref (ad p1), .ref (ad 103)]) σ r :=
  zmetV pn_9 rfl (fun _ => rfl) (fun _ => Nat.le_of_ble_eq_true rfl) (fun X Q ok hk => t_Water_moveGates ok hw hp1 h hk)
theorem dX9_goOn_0 : decode cX9_goOn 0 = .ok (.aload_n 0, 1) := by decide +kernel
theorem dX9_goOn_1 : decode cX9_goOn 1 = .ok (.aload_n 1, 1) := by decide +kernel
theorem dX9_goOn_2 : decode cX9_goOn 2 = .ok (.invokevirtual 92, 3) := by decide +kernel
theorem dX9_goOn_5 : decode cX9_goOn 5 = .ok (.aload_n 0, 1) := by decide +kernel
theorem dX9_goOn_6 : decode cX9_goOn 6 = .ok (.aload_n 1, 1) := by decide +kernel
theorem dX9_goOn_7 : decode cX9_goOn 7 = .ok (.aload_n 2, 1) := by decide +kernel
theorem dX9_goOn_8 : decode cX9_goOn 8 = .ok (.invokevirtual 96, 3) := by decide +kernel
theorem dX9_goOn_11 : decode cX9_goOn 11 = .ok (.aload_n 0, 1) := by decide +kernel
theorem dX9_goOn_12 : decode cX9_goOn 12 = .ok (.aload_n 1, 1) := by decide +kernel
theorem dX9_goOn_13 : decode cX9_goOn 13 = .ok (.invokevirtual 100, 3) := by decide +kernel
theorem dX9_goOn_16 : decode cX9_goOn 16 = .ok (.aload_n 0, 1) := by decide +kernel
theorem dX9_goOn_17 : decode cX9_goOn 17 = .ok (.aload_n 1, 1) := by decide +kernel
theorem dX9_goOn_18 : decode cX9_goOn 18 = .ok (.invokevirtual 103, 3) := by decide +kernel
theorem dX9_goOn_21 : decode cX9_goOn 21 = .ok (.aload_n 0, 1) := by decide +kernel
theorem dX9_goOn_22 : decode cX9_goOn 22 = .ok (.aload_n 1, 1) := by decide +kernel
theorem dX9_goOn_23 : decode cX9_goOn 23 = .ok (.aload_n 2, 1) := by decide +kernel
theorem dX9_goOn_24 : decode cX9_goOn 24 = .ok (.invokevirtual 106, 3) := by decide +kernel
theorem dX9_goOn_27 : decode cX9_goOn 27 = .ok (.aload_n 0, 1) := by decide +kernel
theorem dX9_goOn_28 : decode cX9_goOn 28 = .ok (.dup, 1) := by decide +kernel
theorem dX9_goOn_29 : decode cX9_goOn 29 = .ok (.getfield 43, 3) := by decide +kernel
theorem dX9_goOn_32 : decode cX9_goOn 32 = .ok (.iconst 1, 1) := by decide +kernel
theorem dX9_goOn_33 : decode cX9_goOn 33 = .ok (.iadd, 1) := by decide +kernel
theorem dX9_goOn_34 : decode cX9_goOn 34 = .ok (.putfield 43, 3) := by decide +kernel
theorem dX9_goOn_37 : decode cX9_goOn 37 = .ok (.return_, 1) := by decide +kernel
abbrev rm_Water_goOn : Room := { frames := 3, cells := 0, slots := 0, locals := 70 }
def Water_goOn (σ : Sg) (w : Nat) (p1 : Nat) : Option Sg :=
  (Water_arriveAndLeak σ w p1).bind fun r2 =>
  (Water_serveOutlets r2 w p1).bind fun r8 =>
  (Water_passGates r8 w p1).bind fun r13 =>
  (Water_spillOver r13 w p1).bind fun r18 =>
  (Water_moveGates r18 w p1).bind fun r24 =>
  zgt r24 w 0 fun v29 =>
  zpt r24 w 0 (v29 + 1) fun σ34 =>
  some σ34
set_option maxRecDepth 20000 in
theorem t_Water_goOn {X : Zx} {Q : State → Prop} {σ : Sg} {w : Nat} {p1 : Nat} (ok : Zok X cX9_goOn RX9 rm_Water_goOn 198 3) (hw : zI_Water w 198) (hp1 : zI_Works p1 198) {out : Sg} (hf : Water_goOn σ w p1 = some out) (hk : ZrV cX9_goOn X Q out) : ZAt X Q 0 0 0 σ [(0, .ref (X.ad w)), (1, .ref (X.ad p1)), (2, .ref (X.ad 103))] [] := by
  unfold Water_goOn at hf
  obtain ⟨hw_0, hw_1, hw_2, hw_3, hw_4, hw_5, hw_6, hw_7, hw_8, hw_9, hw_10, hw_11, hw_12, hw_13, hw_14, hw_15, hw_16⟩ := id hw
  obtain ⟨hp1_0, hp1_1, hp1_2, hp1_3, hp1_4, hp1_5, hp1_6, hp1_7, hp1_8, hp1_9, hp1_10, hp1_11, hp1_12, hp1_13, hp1_14, hp1_15, hp1_16, hp1_17, hp1_18, hp1_19, hp1_20, hp1_21, hp1_22, hp1_23, hp1_24, hp1_25⟩ := id hp1
  refine z_aload_n ok dX9_goOn_0 0 rfl ?_
  refine z_aload_n ok dX9_goOn_1 1 rfl ?_
  refine z_call hf (fun r2 h2 hf => ?_)
  refine z_cVv (As := [.ref (X.ad p1)]) (rest := []) (w := w) ok hw_0 zc_9 (c_Water_arriveAndLeak hw hp1 h2) rfl ⟨ml_9_92, w_Water_arriveAndLeak⟩ hy_Water_arriveAndLeak ⟨rfl, rfl⟩ ⟨Nat.le_of_ble_eq_true rfl, Nat.le_of_ble_eq_true rfl⟩ ⟨Nat.zero_le _, Nat.zero_le _⟩ rfl (Nat.le_of_ble_eq_true rfl) dX9_goOn_2 ?_
  refine z_aload_n ok dX9_goOn_5 0 rfl ?_
  refine z_aload_n ok dX9_goOn_6 1 rfl ?_
  refine z_aload_n ok dX9_goOn_7 2 rfl ?_
  refine z_call hf (fun r8 h8 hf => ?_)
  refine z_cVv (As := [.ref (X.ad p1), .ref (X.ad 103)]) (rest := []) (w := w) ok hw_0 zc_9 (c_Water_serveOutlets hw hp1 h8) rfl ⟨ml_9_96, w_Water_serveOutlets⟩ hy_Water_serveOutlets ⟨rfl, rfl⟩ ⟨Nat.le_of_ble_eq_true rfl, Nat.le_of_ble_eq_true rfl⟩ ⟨Nat.zero_le _, Nat.zero_le _⟩ rfl (Nat.le_of_ble_eq_true rfl) dX9_goOn_8 ?_
  refine z_aload_n ok dX9_goOn_11 0 rfl ?_
  refine z_aload_n ok dX9_goOn_12 1 rfl ?_
  refine z_call hf (fun r13 h13 hf => ?_)
  refine z_cVv (As := [.ref (X.ad p1)]) (rest := []) (w := w) ok hw_0 zc_9 (c_Water_passGates hw hp1 h13) rfl ⟨ml_9_100, w_Water_passGates⟩ hy_Water_passGates ⟨rfl, rfl⟩ ⟨Nat.le_of_ble_eq_true rfl, Nat.le_of_ble_eq_true rfl⟩ ⟨Nat.zero_le _, Nat.zero_le _⟩ rfl (Nat.le_of_ble_eq_true rfl) dX9_goOn_13 ?_
  refine z_aload_n ok dX9_goOn_16 0 rfl ?_
  refine z_aload_n ok dX9_goOn_17 1 rfl ?_
  refine z_call hf (fun r18 h18 hf => ?_)
  refine z_cVv (As := [.ref (X.ad p1)]) (rest := []) (w := w) ok hw_0 zc_9 (c_Water_spillOver hw hp1 h18) rfl ⟨ml_9_103, w_Water_spillOver⟩ hy_Water_spillOver ⟨rfl, rfl⟩ ⟨Nat.le_of_ble_eq_true rfl, Nat.le_of_ble_eq_true rfl⟩ ⟨Nat.zero_le _, Nat.zero_le _⟩ rfl (Nat.le_of_ble_eq_true rfl) dX9_goOn_18 ?_
  refine z_aload_n ok dX9_goOn_21 0 rfl ?_
  refine z_aload_n ok dX9_goOn_22 1 rfl ?_
  refine z_aload_n ok dX9_goOn_23 2 rfl ?_
  refine z_call hf (fun r24 h24 hf => ?_)
  refine z_cVv (As := [.ref (X.ad p1), .ref (X.ad 103)]) (rest := []) (w := w) ok hw_0 zc_9 (c_Water_moveGates hw hp1 h24) rfl ⟨ml_9_106, w_Water_moveGates⟩ hy_Water_moveGates ⟨rfl, rfl⟩ ⟨Nat.le_of_ble_eq_true rfl, Nat.le_of_ble_eq_true rfl⟩ ⟨Nat.zero_le _, Nat.zero_le _⟩ rfl (Nat.le_of_ble_eq_true rfl) dX9_goOn_24 ?_
  refine z_aload_n ok dX9_goOn_27 0 rfl ?_
  refine z_dup ok dX9_goOn_28 rfl ?_
  refine z_geti ok hw_0 zc_9 hin_9 0 (by decide) fl_9_43 rfl dX9_goOn_29 hf (fun v29 hf => ?_)
  refine z_iconst (v := 1) ok dX9_goOn_32 (by decide) ?_
  refine z_iadd ok dX9_goOn_33 ?_
  refine z_puti ok hw_0 zc_9 hin_9 tyX9 tyX9_ok nmX9 0 (by decide) fl_9_43 rfl rfl (tyX9_ok 0 (by decide)) dX9_goOn_34 hf (fun σ34 hf => ?_)
  obtain rfl := Option.some.inj hf
  exact hk _ _ dX9_goOn_37
theorem c_Water_goOn {σ : Sg} {w : Nat} {p1 : Nat} (hw : zI_Water w 198) (hp1 : zI_Works p1 198) {r : Sg} (h : Water_goOn σ w p1 = some r) : ZcV yX9_goOn cX9_goOn 3 rm_Water_goOn 198 (fun ad => [.ref (ad w), .ref (ad p1), .ref (ad 103)]) σ r :=
  zmetV pn_9 rfl (fun _ => rfl) (fun _ => Nat.le_of_ble_eq_true rfl) (fun X Q ok hk => t_Water_goOn ok hw hp1 h hk)
theorem dX4_runOne_0 : decode cX4_runOne 0 = .ok (.aload_n 0, 1) := by decide +kernel
theorem dX4_runOne_1 : decode cX4_runOne 1 = .ok (.getfield 12, 3) := by decide +kernel
theorem dX4_runOne_4 : decode cX4_runOne 4 = .ok (.aload_n 0, 1) := by decide +kernel
theorem dX4_runOne_5 : decode cX4_runOne 5 = .ok (.getfield 32, 3) := by decide +kernel
theorem dX4_runOne_8 : decode cX4_runOne 8 = .ok (.getfield 59, 3) := by decide +kernel
theorem dX4_runOne_11 : decode cX4_runOne 11 = .ok (.invokevirtual 64, 3) := by decide +kernel
theorem dX4_runOne_14 : decode cX4_runOne 14 = .ok (.aload_n 0, 1) := by decide +kernel
theorem dX4_runOne_15 : decode cX4_runOne 15 = .ok (.getfield 12, 3) := by decide +kernel
theorem dX4_runOne_18 : decode cX4_runOne 18 = .ok (.aload_n 0, 1) := by decide +kernel
theorem dX4_runOne_19 : decode cX4_runOne 19 = .ok (.getfield 32, 3) := by decide +kernel
theorem dX4_runOne_22 : decode cX4_runOne 22 = .ok (.aload_n 0, 1) := by decide +kernel
theorem dX4_runOne_23 : decode cX4_runOne 23 = .ok (.getfield 28, 3) := by decide +kernel
theorem dX4_runOne_26 : decode cX4_runOne 26 = .ok (.invokevirtual 68, 3) := by decide +kernel
theorem dX4_runOne_29 : decode cX4_runOne 29 = .ok (.return_, 1) := by decide +kernel
abbrev rm_Outlook_runOne : Room := { frames := 4, cells := 0, slots := 0, locals := 92 }
def Outlook_runOne (σ : Sg)  : Option Sg :=
  zmr2 3 29 (σ 81 3) fun q5 =>
  zgt σ q5 3 fun v8 =>
  (Water_beginStep σ 82 v8).bind fun r11 =>
  zmr2 3 29 (r11 81 3) fun q19 =>
  (Water_goOn r11 82 q19).bind fun r26 =>
  some r26
set_option maxRecDepth 20000 in
theorem t_Outlook_runOne {X : Zx} {Q : State → Prop} {σ : Sg}  (ok : Zok X cX4_runOne RX4 rm_Outlook_runOne 198 1)  {out : Sg} (hf : Outlook_runOne σ = some out) (hk : ZrV cX4_runOne X Q out) : ZAt X Q 0 0 0 σ [(0, .ref (X.ad 81))] [] := by
  unfold Outlook_runOne at hf
  refine z_aload_n ok dX4_runOne_0 0 rfl ?_
  refine z_getr (q := 82) ok kc_81 zc_4 hin_4 0 (by decide) fl_4_12 rfl dX4_runOne_1 ?_
  refine z_aload_n ok dX4_runOne_4 0 rfl ?_
  refine z_getm2 (p := 3) (q := 29) ok kc_81 zc_4 hin_4 3 (by decide) fl_4_32 rfl (by decide) (by decide) dX4_runOne_5 hf (fun q5 e5 hf => ?_)
  have hq5 : zI_Works q5 198 := by rcases e5 with rfl | rfl; exact kI_Works_3; exact kI_Works_29
  obtain ⟨hq5_0, hq5_1, hq5_2, hq5_3, hq5_4, hq5_5, hq5_6, hq5_7, hq5_8, hq5_9, hq5_10, hq5_11, hq5_12, hq5_13, hq5_14, hq5_15, hq5_16, hq5_17, hq5_18, hq5_19, hq5_20, hq5_21, hq5_22, hq5_23, hq5_24, hq5_25⟩ := id hq5
  refine z_geti ok hq5_0 zc_10 hin_10 3 (by decide) fl_4_59 rfl dX4_runOne_8 hf (fun v8 hf => ?_)
  refine z_call hf (fun r11 h11 hf => ?_)
  refine z_cVv (As := [.int v8]) (rest := []) (w := 82) ok kc_82 zc_9 (c_Water_beginStep kI_Water_82 h11) rfl ⟨ml_4_64, w_Water_beginStep⟩ hy_Water_beginStep ⟨rfl, rfl⟩ ⟨Nat.le_of_ble_eq_true rfl, Nat.le_of_ble_eq_true rfl⟩ ⟨Nat.zero_le _, Nat.zero_le _⟩ rfl (Nat.le_of_ble_eq_true rfl) dX4_runOne_11 ?_
  refine z_aload_n ok dX4_runOne_14 0 rfl ?_
  refine z_getr (q := 82) ok kc_81 zc_4 hin_4 0 (by decide) fl_4_12 rfl dX4_runOne_15 ?_
  refine z_aload_n ok dX4_runOne_18 0 rfl ?_
  refine z_getm2 (p := 3) (q := 29) ok kc_81 zc_4 hin_4 3 (by decide) fl_4_32 rfl (by decide) (by decide) dX4_runOne_19 hf (fun q19 e19 hf => ?_)
  have hq19 : zI_Works q19 198 := by rcases e19 with rfl | rfl; exact kI_Works_3; exact kI_Works_29
  obtain ⟨hq19_0, hq19_1, hq19_2, hq19_3, hq19_4, hq19_5, hq19_6, hq19_7, hq19_8, hq19_9, hq19_10, hq19_11, hq19_12, hq19_13, hq19_14, hq19_15, hq19_16, hq19_17, hq19_18, hq19_19, hq19_20, hq19_21, hq19_22, hq19_23, hq19_24, hq19_25⟩ := id hq19
  refine z_aload_n ok dX4_runOne_22 0 rfl ?_
  refine z_getr (q := 103) ok kc_81 zc_4 hin_4 2 (by decide) fl_4_28 rfl dX4_runOne_23 ?_
  refine z_call hf (fun r26 h26 hf => ?_)
  refine z_cVv (As := [.ref (X.ad q19), .ref (X.ad 103)]) (rest := []) (w := 82) ok kc_82 zc_9 (c_Water_goOn kI_Water_82 hq19 h26) rfl ⟨ml_4_68, w_Water_goOn⟩ hy_Water_goOn ⟨rfl, rfl⟩ ⟨Nat.le_of_ble_eq_true rfl, Nat.le_of_ble_eq_true rfl⟩ ⟨Nat.zero_le _, Nat.zero_le _⟩ rfl (Nat.le_of_ble_eq_true rfl) dX4_runOne_26 ?_
  obtain rfl := Option.some.inj hf
  exact hk _ _ dX4_runOne_29
theorem c_Outlook_runOne {σ : Sg} {r : Sg} (h : Outlook_runOne σ = some r) : ZcV yX4_runOne cX4_runOne 1 rm_Outlook_runOne 198 (fun ad => [.ref (ad 81)]) σ r :=
  zmetV pn_4 rfl (fun _ => rfl) (fun _ => Nat.le_of_ble_eq_true rfl) (fun X Q ok hk => t_Outlook_runOne ok h hk)
