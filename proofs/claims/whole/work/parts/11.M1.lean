theorem fl_12_102 : Cond.fieldLink RX12 102 (TX12 30).1 (TX12 30).2.1 (TX12 30).2.2.1 ∈ zT := zT_of (i := 1429) (by decide +kernel) rfl
theorem fl_12_105 : Cond.fieldLink RX12 105 (TX12 31).1 (TX12 31).2.1 (TX12 31).2.2.1 ∈ zT := zT_of (i := 1430) (by decide +kernel) rfl
theorem fl_12_13 : Cond.fieldLink RX12 13 (TX12 1).1 (TX12 1).2.1 (TX12 1).2.2.1 ∈ zT := zT_of (i := 1400) (by decide +kernel) rfl
theorem fl_12_141 : Cond.fieldLink RX12 141 (TX12 43).1 (TX12 43).2.1 (TX12 43).2.2.1 ∈ zT := zT_of (i := 1442) (by decide +kernel) rfl
theorem fl_12_16 : Cond.fieldLink RX12 16 (TX12 2).1 (TX12 2).2.1 (TX12 2).2.2.1 ∈ zT := zT_of (i := 1401) (by decide +kernel) rfl
theorem fl_12_19 : Cond.fieldLink RX12 19 (TX12 3).1 (TX12 3).2.1 (TX12 3).2.2.1 ∈ zT := zT_of (i := 1402) (by decide +kernel) rfl
theorem fl_12_23 : Cond.fieldLink RX12 23 (TX12 4).1 (TX12 4).2.1 (TX12 4).2.2.1 ∈ zT := zT_of (i := 1403) (by decide +kernel) rfl
theorem fl_12_26 : Cond.fieldLink RX12 26 (TX12 5).1 (TX12 5).2.1 (TX12 5).2.2.1 ∈ zT := zT_of (i := 1404) (by decide +kernel) rfl
theorem fl_12_29 : Cond.fieldLink RX12 29 (TX12 6).1 (TX12 6).2.1 (TX12 6).2.2.1 ∈ zT := zT_of (i := 1405) (by decide +kernel) rfl
theorem fl_12_32 : Cond.fieldLink RX12 32 (TX12 7).1 (TX12 7).2.1 (TX12 7).2.2.1 ∈ zT := zT_of (i := 1406) (by decide +kernel) rfl
theorem fl_12_41 : Cond.fieldLink RX12 41 (TX12 10).1 (TX12 10).2.1 (TX12 10).2.2.1 ∈ zT := zT_of (i := 1409) (by decide +kernel) rfl
theorem fl_12_44 : Cond.fieldLink RX12 44 (TX12 11).1 (TX12 11).2.1 (TX12 11).2.2.1 ∈ zT := zT_of (i := 1410) (by decide +kernel) rfl
theorem fl_12_47 : Cond.fieldLink RX12 47 (TX12 12).1 (TX12 12).2.1 (TX12 12).2.2.1 ∈ zT := zT_of (i := 1411) (by decide +kernel) rfl
theorem fl_12_50 : Cond.fieldLink RX12 50 (TX12 13).1 (TX12 13).2.1 (TX12 13).2.2.1 ∈ zT := zT_of (i := 1412) (by decide +kernel) rfl
theorem fl_12_56 : Cond.fieldLink RX12 56 (TX12 15).1 (TX12 15).2.1 (TX12 15).2.2.1 ∈ zT := zT_of (i := 1414) (by decide +kernel) rfl
theorem fl_12_59 : Cond.fieldLink RX12 59 (TX12 16).1 (TX12 16).2.1 (TX12 16).2.2.1 ∈ zT := zT_of (i := 1415) (by decide +kernel) rfl
theorem fl_12_62 : Cond.fieldLink RX12 62 (TX12 17).1 (TX12 17).2.1 (TX12 17).2.2.1 ∈ zT := zT_of (i := 1416) (by decide +kernel) rfl
theorem fl_12_7 : Cond.fieldLink RX12 7 (TX12 0).1 (TX12 0).2.1 (TX12 0).2.2.1 ∈ zT := zT_of (i := 1399) (by decide +kernel) rfl
theorem fl_12_71 : Cond.fieldLink RX12 71 (TX12 20).1 (TX12 20).2.1 (TX12 20).2.2.1 ∈ zT := zT_of (i := 1419) (by decide +kernel) rfl
theorem fl_12_80 : Cond.fieldLink RX12 80 (TX12 23).1 (TX12 23).2.1 (TX12 23).2.2.1 ∈ zT := zT_of (i := 1422) (by decide +kernel) rfl
theorem fl_12_86 : Cond.fieldLink RX12 86 (TX12 25).1 (TX12 25).2.1 (TX12 25).2.2.1 ∈ zT := zT_of (i := 1424) (by decide +kernel) rfl
theorem ml_12_227 : Cond.methodLink RX12 227 yX12_outletNamed ∈ zT := zT_of (i := 1658) (by decide +kernel) rfl
theorem ml_12_230 : Cond.methodLink RX12 230 yX12_endsWell ∈ zT := zT_of (i := 1626) (by decide +kernel) rfl
theorem ml_12_233 : Cond.methodLink RX12 233 yX12_readsPool ∈ zT := zT_of (i := 1630) (by decide +kernel) rfl
theorem ml_12_236 : Cond.methodLink RX12 236 yX12_readsOutlet ∈ zT := zT_of (i := 1650) (by decide +kernel) rfl
theorem ml_12_239 : Cond.methodLink RX12 239 yX12_readsOrder ∈ zT := zT_of (i := 1654) (by decide +kernel) rfl
theorem ml_12_242 : Cond.methodLink RX12 242 yX12_readsTurns ∈ zT := zT_of (i := 1662) (by decide +kernel) rfl
theorem ml_12_245 : Cond.methodLink RX12 245 yX12_taken ∈ zT := zT_of (i := 1571) (by decide +kernel) rfl
theorem ml_12_248 : Cond.methodLink RX12 248 yX12_readsAll ∈ zT := zT_of (i := 1575) (by decide +kernel) rfl
theorem ml_12_251 : Cond.methodLink RX12 251 yX12_toldOf ∈ zT := zT_of (i := 1666) (by decide +kernel) rfl
theorem ml_12_282 : Cond.methodLink RX12 282 yX12_standOf ∈ zT := zT_of (i := 1682) (by decide +kernel) rfl
theorem w_M_canal : Cond.instanceMethod yX12_canal ∈ zT ∧ Cond.selects yX12_canal.cls yX12_canal yX12_canal ∈ zT ∧ Cond.initialized yX12_canal.cls ∈ zT ∧ Cond.code yX12_canal cX12_canal 3 (some .int) ∈ zT := ⟨zT_of (i := 1568) (by decide +kernel) rfl, zT_of (i := 1569) (by decide +kernel) rfl, zT_of (i := 135) (by decide +kernel) rfl, zT_of (i := 1570) (by decide +kernel) rfl⟩
theorem hy_M_canal : yX12_canal.cls ≠ "java/lang/invoke/MethodHandle" ∧ yX12_canal.cls ≠ "java/lang/invoke/VarHandle" ∧ (parseMethodDescriptor yX12_canal.desc).map (fun d => d.parameters.length) = some 0 := by decide +kernel
theorem w_M_fault : Cond.instanceMethod yX12_fault ∈ zT ∧ Cond.selects yX12_fault.cls yX12_fault yX12_fault ∈ zT ∧ Cond.initialized yX12_fault.cls ∈ zT ∧ Cond.code yX12_fault cX12_fault 2 (some .int) ∈ zT := ⟨zT_of (i := 1671) (by decide +kernel) rfl, zT_of (i := 1672) (by decide +kernel) rfl, zT_of (i := 135) (by decide +kernel) rfl, zT_of (i := 1673) (by decide +kernel) rfl⟩
theorem hy_M_fault : yX12_fault.cls ≠ "java/lang/invoke/MethodHandle" ∧ yX12_fault.cls ≠ "java/lang/invoke/VarHandle" ∧ (parseMethodDescriptor yX12_fault.desc).map (fun d => d.parameters.length) = some 1 := by decide +kernel
theorem w_M_outOfBand : Cond.instanceMethod yX12_outOfBand ∈ zT ∧ Cond.selects yX12_outOfBand.cls yX12_outOfBand yX12_outOfBand ∈ zT ∧ Cond.initialized yX12_outOfBand.cls ∈ zT ∧ Cond.code yX12_outOfBand cX12_outOfBand 3 (some .int) ∈ zT := ⟨zT_of (i := 1680) (by decide +kernel) rfl, zT_of (i := 82) (by decide +kernel) rfl, zT_of (i := 135) (by decide +kernel) rfl, zT_of (i := 1681) (by decide +kernel) rfl⟩
theorem hy_M_outOfBand : yX12_outOfBand.cls ≠ "java/lang/invoke/MethodHandle" ∧ yX12_outOfBand.cls ≠ "java/lang/invoke/VarHandle" ∧ (parseMethodDescriptor yX12_outOfBand.desc).map (fun d => d.parameters.length) = some 0 := by decide +kernel
theorem w_M_outletNamed : Cond.instanceMethod yX12_outletNamed ∈ zT ∧ Cond.selects yX12_outletNamed.cls yX12_outletNamed yX12_outletNamed ∈ zT ∧ Cond.initialized yX12_outletNamed.cls ∈ zT ∧ Cond.code yX12_outletNamed cX12_outletNamed 2 (some .int) ∈ zT := ⟨zT_of (i := 1660) (by decide +kernel) rfl, zT_of (i := 79) (by decide +kernel) rfl, zT_of (i := 135) (by decide +kernel) rfl, zT_of (i := 1661) (by decide +kernel) rfl⟩
theorem hy_M_outletNamed : yX12_outletNamed.cls ≠ "java/lang/invoke/MethodHandle" ∧ yX12_outletNamed.cls ≠ "java/lang/invoke/VarHandle" ∧ (parseMethodDescriptor yX12_outletNamed.desc).map (fun d => d.parameters.length) = some 0 := by decide +kernel
theorem w_M_readsAll : Cond.instanceMethod yX12_readsAll ∈ zT ∧ Cond.selects yX12_readsAll.cls yX12_readsAll yX12_readsAll ∈ zT ∧ Cond.initialized yX12_readsAll.cls ∈ zT ∧ Cond.code yX12_readsAll cX12_readsAll 3 (some .int) ∈ zT := ⟨zT_of (i := 1577) (by decide +kernel) rfl, zT_of (i := 59) (by decide +kernel) rfl, zT_of (i := 135) (by decide +kernel) rfl, zT_of (i := 1578) (by decide +kernel) rfl⟩
theorem hy_M_readsAll : yX12_readsAll.cls ≠ "java/lang/invoke/MethodHandle" ∧ yX12_readsAll.cls ≠ "java/lang/invoke/VarHandle" ∧ (parseMethodDescriptor yX12_readsAll.desc).map (fun d => d.parameters.length) = some 0 := by decide +kernel
theorem w_M_readsOrder : Cond.instanceMethod yX12_readsOrder ∈ zT ∧ Cond.selects yX12_readsOrder.cls yX12_readsOrder yX12_readsOrder ∈ zT ∧ Cond.initialized yX12_readsOrder.cls ∈ zT ∧ Cond.code yX12_readsOrder cX12_readsOrder 4 none ∈ zT := ⟨zT_of (i := 1656) (by decide +kernel) rfl, zT_of (i := 78) (by decide +kernel) rfl, zT_of (i := 135) (by decide +kernel) rfl, zT_of (i := 1657) (by decide +kernel) rfl⟩
theorem hy_M_readsOrder : yX12_readsOrder.cls ≠ "java/lang/invoke/MethodHandle" ∧ yX12_readsOrder.cls ≠ "java/lang/invoke/VarHandle" ∧ (parseMethodDescriptor yX12_readsOrder.desc).map (fun d => d.parameters.length) = some 0 := by decide +kernel
theorem w_M_readsOutlet : Cond.instanceMethod yX12_readsOutlet ∈ zT ∧ Cond.selects yX12_readsOutlet.cls yX12_readsOutlet yX12_readsOutlet ∈ zT ∧ Cond.initialized yX12_readsOutlet.cls ∈ zT ∧ Cond.code yX12_readsOutlet cX12_readsOutlet 3 none ∈ zT := ⟨zT_of (i := 1652) (by decide +kernel) rfl, zT_of (i := 77) (by decide +kernel) rfl, zT_of (i := 135) (by decide +kernel) rfl, zT_of (i := 1653) (by decide +kernel) rfl⟩
theorem hy_M_readsOutlet : yX12_readsOutlet.cls ≠ "java/lang/invoke/MethodHandle" ∧ yX12_readsOutlet.cls ≠ "java/lang/invoke/VarHandle" ∧ (parseMethodDescriptor yX12_readsOutlet.desc).map (fun d => d.parameters.length) = some 0 := by decide +kernel
theorem w_M_readsTurns : Cond.instanceMethod yX12_readsTurns ∈ zT ∧ Cond.selects yX12_readsTurns.cls yX12_readsTurns yX12_readsTurns ∈ zT ∧ Cond.initialized yX12_readsTurns.cls ∈ zT ∧ Cond.code yX12_readsTurns cX12_readsTurns 6 none ∈ zT := ⟨zT_of (i := 1664) (by decide +kernel) rfl, zT_of (i := 80) (by decide +kernel) rfl, zT_of (i := 135) (by decide +kernel) rfl, zT_of (i := 1665) (by decide +kernel) rfl⟩
theorem hy_M_readsTurns : yX12_readsTurns.cls ≠ "java/lang/invoke/MethodHandle" ∧ yX12_readsTurns.cls ≠ "java/lang/invoke/VarHandle" ∧ (parseMethodDescriptor yX12_readsTurns.desc).map (fun d => d.parameters.length) = some 0 := by decide +kernel
theorem w_M_standOf : Cond.instanceMethod yX12_standOf ∈ zT ∧ Cond.selects yX12_standOf.cls yX12_standOf yX12_standOf ∈ zT ∧ Cond.initialized yX12_standOf.cls ∈ zT ∧ Cond.code yX12_standOf cX12_standOf 2 (some .int) ∈ zT := ⟨zT_of (i := 1684) (by decide +kernel) rfl, zT_of (i := 83) (by decide +kernel) rfl, zT_of (i := 135) (by decide +kernel) rfl, zT_of (i := 1685) (by decide +kernel) rfl⟩
theorem hy_M_standOf : yX12_standOf.cls ≠ "java/lang/invoke/MethodHandle" ∧ yX12_standOf.cls ≠ "java/lang/invoke/VarHandle" ∧ (parseMethodDescriptor yX12_standOf.desc).map (fun d => d.parameters.length) = some 1 := by decide +kernel
theorem w_M_toldOf : Cond.instanceMethod yX12_toldOf ∈ zT ∧ Cond.selects yX12_toldOf.cls yX12_toldOf yX12_toldOf ∈ zT ∧ Cond.initialized yX12_toldOf.cls ∈ zT ∧ Cond.code yX12_toldOf cX12_toldOf 3 (some .int) ∈ zT := ⟨zT_of (i := 1668) (by decide +kernel) rfl, zT_of (i := 81) (by decide +kernel) rfl, zT_of (i := 135) (by decide +kernel) rfl, zT_of (i := 1669) (by decide +kernel) rfl⟩
theorem hy_M_toldOf : yX12_toldOf.cls ≠ "java/lang/invoke/MethodHandle" ∧ yX12_toldOf.cls ≠ "java/lang/invoke/VarHandle" ∧ (parseMethodDescriptor yX12_toldOf.desc).map (fun d => d.parameters.length) = some 2 := by decide +kernel
theorem dX12_readsOutlet_0 : decode cX12_readsOutlet 0 = .ok (.aload_n 0, 1) := by decide +kernel
theorem dX12_readsOutlet_1 : decode cX12_readsOutlet 1 = .ok (.getfield 38, 3) := by decide +kernel
theorem dX12_readsOutlet_4 : decode cX12_readsOutlet 4 = .ok (.bipush 10, 2) := by decide +kernel
theorem dX12_readsOutlet_6 : decode cX12_readsOutlet 6 = .ok (.if_icmp .ne 12, 3) := by decide +kernel
theorem dX12_readsOutlet_9 : decode cX12_readsOutlet 9 = .ok (.aload_n 0, 1) := by decide +kernel
theorem dX12_readsOutlet_10 : decode cX12_readsOutlet 10 = .ok (.iconst 5, 1) := by decide +kernel
theorem dX12_readsOutlet_11 : decode cX12_readsOutlet 11 = .ok (.aload_n 0, 1) := by decide +kernel
theorem dX12_readsOutlet_12 : decode cX12_readsOutlet 12 = .ok (.getfield 114, 3) := by decide +kernel
theorem dX12_readsOutlet_15 : decode cX12_readsOutlet 15 = .ok (.invokevirtual 188, 3) := by decide +kernel
theorem dX12_readsOutlet_18 : decode cX12_readsOutlet 18 = .ok (.aload_n 0, 1) := by decide +kernel
theorem dX12_readsOutlet_19 : decode cX12_readsOutlet 19 = .ok (.invokevirtual 174, 3) := by decide +kernel
theorem dX12_readsOutlet_22 : decode cX12_readsOutlet 22 = .ok (.ifCond .ne 4, 3) := by decide +kernel
theorem dX12_readsOutlet_25 : decode cX12_readsOutlet 25 = .ok (.return_, 1) := by decide +kernel
theorem dX12_readsOutlet_26 : decode cX12_readsOutlet 26 = .ok (.aload_n 0, 1) := by decide +kernel
theorem dX12_readsOutlet_27 : decode cX12_readsOutlet 27 = .ok (.aload_n 0, 1) := by decide +kernel
theorem dX12_readsOutlet_28 : decode cX12_readsOutlet 28 = .ok (.getfield 68, 3) := by decide +kernel
theorem dX12_readsOutlet_31 : decode cX12_readsOutlet 31 = .ok (.aload_n 0, 1) := by decide +kernel
theorem dX12_readsOutlet_32 : decode cX12_readsOutlet 32 = .ok (.getfield 38, 3) := by decide +kernel
theorem dX12_readsOutlet_35 : decode cX12_readsOutlet 35 = .ok (.invokevirtual 219, 3) := by decide +kernel
theorem dX12_readsOutlet_38 : decode cX12_readsOutlet 38 = .ok (.aload_n 0, 1) := by decide +kernel
theorem dX12_readsOutlet_39 : decode cX12_readsOutlet 39 = .ok (.bipush 14, 2) := by decide +kernel
theorem dX12_readsOutlet_41 : decode cX12_readsOutlet 41 = .ok (.invokevirtual 212, 3) := by decide +kernel
theorem dX12_readsOutlet_44 : decode cX12_readsOutlet 44 = .ok (.aload_n 0, 1) := by decide +kernel
theorem dX12_readsOutlet_45 : decode cX12_readsOutlet 45 = .ok (.invokevirtual 205, 3) := by decide +kernel
theorem dX12_readsOutlet_48 : decode cX12_readsOutlet 48 = .ok (.aload_n 0, 1) := by decide +kernel
theorem dX12_readsOutlet_49 : decode cX12_readsOutlet 49 = .ok (.aload_n 0, 1) := by decide +kernel
theorem dX12_readsOutlet_50 : decode cX12_readsOutlet 50 = .ok (.getfield 65, 3) := by decide +kernel
theorem dX12_readsOutlet_53 : decode cX12_readsOutlet 53 = .ok (.aload_n 0, 1) := by decide +kernel
theorem dX12_readsOutlet_54 : decode cX12_readsOutlet 54 = .ok (.getfield 35, 3) := by decide +kernel
theorem dX12_readsOutlet_57 : decode cX12_readsOutlet 57 = .ok (.invokevirtual 208, 3) := by decide +kernel
theorem dX12_readsOutlet_60 : decode cX12_readsOutlet 60 = .ok (.istore_n 1, 1) := by decide +kernel
theorem dX12_readsOutlet_61 : decode cX12_readsOutlet 61 = .ok (.aload_n 0, 1) := by decide +kernel
theorem dX12_readsOutlet_62 : decode cX12_readsOutlet 62 = .ok (.invokevirtual 174, 3) := by decide +kernel
theorem dX12_readsOutlet_65 : decode cX12_readsOutlet 65 = .ok (.ifCond .eq 17, 3) := by decide +kernel
theorem dX12_readsOutlet_68 : decode cX12_readsOutlet 68 = .ok (.iload_n 1, 1) := by decide +kernel
theorem dX12_readsOutlet_69 : decode cX12_readsOutlet 69 = .ok (.iconst (-1), 1) := by decide +kernel
theorem dX12_readsOutlet_70 : decode cX12_readsOutlet 70 = .ok (.if_icmp .ne 12, 3) := by decide +kernel
theorem dX12_readsOutlet_73 : decode cX12_readsOutlet 73 = .ok (.aload_n 0, 1) := by decide +kernel
theorem dX12_readsOutlet_74 : decode cX12_readsOutlet 74 = .ok (.iconst 3, 1) := by decide +kernel
theorem dX12_readsOutlet_75 : decode cX12_readsOutlet 75 = .ok (.aload_n 0, 1) := by decide +kernel
theorem dX12_readsOutlet_76 : decode cX12_readsOutlet 76 = .ok (.getfield 114, 3) := by decide +kernel
theorem dX12_readsOutlet_79 : decode cX12_readsOutlet 79 = .ok (.invokevirtual 188, 3) := by decide +kernel
theorem dX12_readsOutlet_82 : decode cX12_readsOutlet 82 = .ok (.aload_n 0, 1) := by decide +kernel
theorem dX12_readsOutlet_83 : decode cX12_readsOutlet 83 = .ok (.bipush 15, 2) := by decide +kernel
theorem dX12_readsOutlet_85 : decode cX12_readsOutlet 85 = .ok (.iconst 1, 1) := by decide +kernel
theorem dX12_readsOutlet_86 : decode cX12_readsOutlet 86 = .ok (.bipush 99, 2) := by decide +kernel
theorem dX12_readsOutlet_88 : decode cX12_readsOutlet 88 = .ok (.invokevirtual 223, 3) := by decide +kernel
theorem dX12_readsOutlet_91 : decode cX12_readsOutlet 91 = .ok (.istore_n 2, 1) := by decide +kernel
theorem dX12_readsOutlet_92 : decode cX12_readsOutlet 92 = .ok (.aload_n 0, 1) := by decide +kernel
theorem dX12_readsOutlet_93 : decode cX12_readsOutlet 93 = .ok (.invokevirtual 174, 3) := by decide +kernel
theorem dX12_readsOutlet_96 : decode cX12_readsOutlet 96 = .ok (.ifCond .ne 4, 3) := by decide +kernel
theorem dX12_readsOutlet_99 : decode cX12_readsOutlet 99 = .ok (.return_, 1) := by decide +kernel
theorem dX12_readsOutlet_100 : decode cX12_readsOutlet 100 = .ok (.aload_n 0, 1) := by decide +kernel
theorem dX12_readsOutlet_101 : decode cX12_readsOutlet 101 = .ok (.getfield 56, 3) := by decide +kernel
theorem dX12_readsOutlet_104 : decode cX12_readsOutlet 104 = .ok (.iconst 2, 1) := by decide +kernel
theorem dX12_readsOutlet_105 : decode cX12_readsOutlet 105 = .ok (.aload_n 0, 1) := by decide +kernel
theorem dX12_readsOutlet_106 : decode cX12_readsOutlet 106 = .ok (.getfield 38, 3) := by decide +kernel
theorem dX12_readsOutlet_109 : decode cX12_readsOutlet 109 = .ok (.imul, 1) := by decide +kernel
theorem dX12_readsOutlet_110 : decode cX12_readsOutlet 110 = .ok (.iload_n 1, 1) := by decide +kernel
theorem dX12_readsOutlet_111 : decode cX12_readsOutlet 111 = .ok (.iastore, 1) := by decide +kernel
theorem dX12_readsOutlet_112 : decode cX12_readsOutlet 112 = .ok (.aload_n 0, 1) := by decide +kernel
theorem dX12_readsOutlet_113 : decode cX12_readsOutlet 113 = .ok (.getfield 56, 3) := by decide +kernel
theorem dX12_readsOutlet_116 : decode cX12_readsOutlet 116 = .ok (.iconst 2, 1) := by decide +kernel
theorem dX12_readsOutlet_117 : decode cX12_readsOutlet 117 = .ok (.aload_n 0, 1) := by decide +kernel
theorem dX12_readsOutlet_118 : decode cX12_readsOutlet 118 = .ok (.getfield 38, 3) := by decide +kernel
theorem dX12_readsOutlet_121 : decode cX12_readsOutlet 121 = .ok (.imul, 1) := by decide +kernel
theorem dX12_readsOutlet_122 : decode cX12_readsOutlet 122 = .ok (.iconst 1, 1) := by decide +kernel
theorem dX12_readsOutlet_123 : decode cX12_readsOutlet 123 = .ok (.iadd, 1) := by decide +kernel
theorem dX12_readsOutlet_124 : decode cX12_readsOutlet 124 = .ok (.iload_n 2, 1) := by decide +kernel
theorem dX12_readsOutlet_125 : decode cX12_readsOutlet 125 = .ok (.iastore, 1) := by decide +kernel
theorem dX12_readsOutlet_126 : decode cX12_readsOutlet 126 = .ok (.aload_n 0, 1) := by decide +kernel
theorem dX12_readsOutlet_127 : decode cX12_readsOutlet 127 = .ok (.dup, 1) := by decide +kernel
theorem dX12_readsOutlet_128 : decode cX12_readsOutlet 128 = .ok (.getfield 38, 3) := by decide +kernel
theorem dX12_readsOutlet_131 : decode cX12_readsOutlet 131 = .ok (.iconst 1, 1) := by decide +kernel
theorem dX12_readsOutlet_132 : decode cX12_readsOutlet 132 = .ok (.iadd, 1) := by decide +kernel
theorem dX12_readsOutlet_133 : decode cX12_readsOutlet 133 = .ok (.putfield 38, 3) := by decide +kernel
theorem dX12_readsOutlet_136 : decode cX12_readsOutlet 136 = .ok (.return_, 1) := by decide +kernel
abbrev rm_M_readsOutlet : Room := { frames := 5, cells := 0, slots := 0, locals := 106 }
def M_readsOutlet_j82 (σ : Sg) (x1 : Int32) : Option Sg :=
  (M_after σ 15 1 99).bind fun r88 =>
  zlt r88.1 fun v91 =>
  (M_goesWell r88.2).bind fun r93 =>
  if (zb r93) = 0 then (
    some r88.2
  ) else (
    zgt r88.2 171 9 fun v106 =>
    zwr r88.2 178 20 (2 * v106) x1 fun σ111 =>
    zgt σ111 171 9 fun v118 =>
    zwr σ111 178 20 ((2 * v118) + 1) v91 fun σ125 =>
    zgt σ125 171 9 fun v128 =>
    zpt σ125 171 9 (v128 + 1) fun σ133 =>
    some σ133
  )
set_option maxRecDepth 20000 in
theorem t_M_readsOutlet_j82 {X : Zx} {Q : State → Prop} {σ : Sg} {x1 : Int32} (ok : Zok X cX12_readsOutlet RX12 rm_M_readsOutlet 198 3)  {out : Sg} (hf : M_readsOutlet_j82 σ x1 = some out) (hk : ZrV cX12_readsOutlet X Q out) : ZAt X Q 0 0 82 σ [(0, .ref (X.ad 171)), (1, .int x1)] [] := by
  unfold M_readsOutlet_j82 at hf
  refine z_aload_n ok dX12_readsOutlet_82 0 rfl ?_
  refine z_bipush (v := 15) ok dX12_readsOutlet_83 (by decide) ?_
  refine z_iconst (v := 1) ok dX12_readsOutlet_85 (by decide) ?_
  refine z_bipush (v := 99) ok dX12_readsOutlet_86 (by decide) ?_
  refine z_call hf (fun r88 h88 hf => ?_)
  refine z_cV (As := [.int 15, .int 1, .int 99]) (rest := []) (w := 171) ok kc_171 zc_12 (c_M_after h88) rfl ⟨ml_12_223, w_M_after⟩ hy_M_after ⟨rfl, rfl⟩ ⟨Nat.le_of_ble_eq_true rfl, Nat.le_of_ble_eq_true rfl⟩ ⟨Nat.zero_le _, Nat.zero_le _⟩ rfl (Nat.le_of_ble_eq_true rfl) dX12_readsOutlet_88 ?_
  refine z_nm hf (fun v91 hf => ?_)
  refine z_istore_n (lv' := [(2, .int v91), (0, .ref (X.ad 171)), (1, .int x1)]) ok dX12_readsOutlet_91 (by decide) rfl ?_
  refine z_aload_n ok dX12_readsOutlet_92 1 rfl ?_
  refine z_call hf (fun r93 h93 hf => ?_)
  refine z_cV (As := []) (rest := []) (w := 171) ok kc_171 zc_12 (c_M_goesWell h93) rfl ⟨ml_12_174, w_M_goesWell⟩ hy_M_goesWell ⟨rfl, rfl⟩ ⟨Nat.le_of_ble_eq_true rfl, Nat.le_of_ble_eq_true rfl⟩ ⟨Nat.zero_le _, Nat.zero_le _⟩ rfl (Nat.le_of_ble_eq_true rfl) dX12_readsOutlet_93 ?_
  refine z_if_ne (tgt := 100) ok dX12_readsOutlet_96 (by decide) hf (fun _ hf => ?_) (fun _ hf => ?_)
  · obtain rfl := Option.some.inj hf
    exact hk _ _ dX12_readsOutlet_99
  · refine z_aload_n ok dX12_readsOutlet_100 1 rfl ?_
    refine z_getr (q := 178) ok kc_171 zc_12 hin_12 15 (by decide) fl_12_56 rfl dX12_readsOutlet_101 ?_
    refine z_iconst (v := 2) ok dX12_readsOutlet_104 (by decide) ?_
    refine z_aload_n ok dX12_readsOutlet_105 1 rfl ?_
    refine z_geti ok kc_171 zc_12 hin_12 9 (by decide) fl_12_38 rfl dX12_readsOutlet_106 hf (fun v106 hf => ?_)
    refine z_imul ok dX12_readsOutlet_109 ?_
    refine z_iload_n ok dX12_readsOutlet_110 2 rfl ?_
    refine z_iast ok kc_178 dX12_readsOutlet_111 hf (fun σ111 hf => ?_)
    refine z_aload_n ok dX12_readsOutlet_112 1 rfl ?_
    refine z_getr (q := 178) ok kc_171 zc_12 hin_12 15 (by decide) fl_12_56 rfl dX12_readsOutlet_113 ?_
    refine z_iconst (v := 2) ok dX12_readsOutlet_116 (by decide) ?_
    refine z_aload_n ok dX12_readsOutlet_117 1 rfl ?_
    refine z_geti ok kc_171 zc_12 hin_12 9 (by decide) fl_12_38 rfl dX12_readsOutlet_118 hf (fun v118 hf => ?_)
    refine z_imul ok dX12_readsOutlet_121 ?_
    refine z_iconst (v := 1) ok dX12_readsOutlet_122 (by decide) ?_
    refine z_iadd ok dX12_readsOutlet_123 ?_
    refine z_iload_n ok dX12_readsOutlet_124 0 rfl ?_
    refine z_iast ok kc_178 dX12_readsOutlet_125 hf (fun σ125 hf => ?_)
    refine z_aload_n ok dX12_readsOutlet_126 1 rfl ?_
    refine z_dup ok dX12_readsOutlet_127 rfl ?_
    refine z_geti ok kc_171 zc_12 hin_12 9 (by decide) fl_12_38 rfl dX12_readsOutlet_128 hf (fun v128 hf => ?_)
    refine z_iconst (v := 1) ok dX12_readsOutlet_131 (by decide) ?_
    refine z_iadd ok dX12_readsOutlet_132 ?_
    refine z_puti ok kc_171 zc_12 hin_12 tyX12 tyX12_ok nmX12 9 (by decide) fl_12_38 rfl rfl (tyX12_ok 9 (by decide)) dX12_readsOutlet_133 hf (fun σ133 hf => ?_)
    obtain rfl := Option.some.inj hf
    exact hk _ _ dX12_readsOutlet_136
def M_readsOutlet_j18 (σ : Sg)  : Option Sg :=
  (M_goesWell σ).bind fun r19 =>
  if (zb r19) = 0 then (
    some σ
  ) else (
    zgt σ 171 9 fun v32 =>
    (M_freshName σ 182 60 v32).bind fun r35 =>
    (M_must r35 14).bind fun r41 =>
    (M_name r41).bind fun r45 =>
    zgt r45 171 8 fun v54 =>
    (M_among r45 181 48 v54).bind fun r57 =>
    zlt r57 fun v60 =>
    (M_goesWell r45).bind fun r62 =>
    if (zb r62) = 0 then (
      M_readsOutlet_j82 r45 v60
    ) else (
      if v60 = (-1) then (
        zgt r45 171 34 fun v76 =>
        (M_faults r45 3 v76).bind fun r79 =>
        M_readsOutlet_j82 r79 v60
      ) else (
        M_readsOutlet_j82 r45 v60
      )
    )
  )
set_option maxRecDepth 20000 in
theorem t_M_readsOutlet_j18 {X : Zx} {Q : State → Prop} {σ : Sg}  (ok : Zok X cX12_readsOutlet RX12 rm_M_readsOutlet 198 3)  {out : Sg} (hf : M_readsOutlet_j18 σ = some out) (hk : ZrV cX12_readsOutlet X Q out) : ZAt X Q 0 0 18 σ [(0, .ref (X.ad 171))] [] := by
  unfold M_readsOutlet_j18 at hf
  refine z_aload_n ok dX12_readsOutlet_18 0 rfl ?_
  refine z_call hf (fun r19 h19 hf => ?_)
  refine z_cV (As := []) (rest := []) (w := 171) ok kc_171 zc_12 (c_M_goesWell h19) rfl ⟨ml_12_174, w_M_goesWell⟩ hy_M_goesWell ⟨rfl, rfl⟩ ⟨Nat.le_of_ble_eq_true rfl, Nat.le_of_ble_eq_true rfl⟩ ⟨Nat.zero_le _, Nat.zero_le _⟩ rfl (Nat.le_of_ble_eq_true rfl) dX12_readsOutlet_19 ?_
  refine z_if_ne (tgt := 26) ok dX12_readsOutlet_22 (by decide) hf (fun _ hf => ?_) (fun _ hf => ?_)
  · obtain rfl := Option.some.inj hf
    exact hk _ _ dX12_readsOutlet_25
  · refine z_aload_n ok dX12_readsOutlet_26 0 rfl ?_
    refine z_aload_n ok dX12_readsOutlet_27 0 rfl ?_
    refine z_getr (q := 182) ok kc_171 zc_12 hin_12 19 (by decide) fl_12_68 rfl dX12_readsOutlet_28 ?_
    refine z_aload_n ok dX12_readsOutlet_31 0 rfl ?_
    refine z_geti ok kc_171 zc_12 hin_12 9 (by decide) fl_12_38 rfl dX12_readsOutlet_32 hf (fun v32 hf => ?_)
    refine z_call hf (fun r35 h35 hf => ?_)
    refine z_cVv (As := [.ref (X.ad 182), .int v32]) (rest := []) (w := 171) ok kc_171 zc_12 (c_M_freshName kc_182 h35) rfl ⟨ml_12_219, w_M_freshName⟩ hy_M_freshName ⟨rfl, rfl⟩ ⟨Nat.le_of_ble_eq_true rfl, Nat.le_of_ble_eq_true rfl⟩ ⟨Nat.zero_le _, Nat.zero_le _⟩ rfl (Nat.le_of_ble_eq_true rfl) dX12_readsOutlet_35 ?_
    refine z_aload_n ok dX12_readsOutlet_38 0 rfl ?_
    refine z_bipush (v := 14) ok dX12_readsOutlet_39 (by decide) ?_
    refine z_call hf (fun r41 h41 hf => ?_)
    refine z_cVv (As := [.int 14]) (rest := []) (w := 171) ok kc_171 zc_12 (c_M_must h41) rfl ⟨ml_12_212, w_M_must⟩ hy_M_must ⟨rfl, rfl⟩ ⟨Nat.le_of_ble_eq_true rfl, Nat.le_of_ble_eq_true rfl⟩ ⟨Nat.zero_le _, Nat.zero_le _⟩ rfl (Nat.le_of_ble_eq_true rfl) dX12_readsOutlet_41 ?_
    refine z_aload_n ok dX12_readsOutlet_44 0 rfl ?_
    refine z_call hf (fun r45 h45 hf => ?_)
    refine z_cVv (As := []) (rest := []) (w := 171) ok kc_171 zc_12 (c_M_name h45) rfl ⟨ml_12_205, w_M_name⟩ hy_M_name ⟨rfl, rfl⟩ ⟨Nat.le_of_ble_eq_true rfl, Nat.le_of_ble_eq_true rfl⟩ ⟨Nat.zero_le _, Nat.zero_le _⟩ rfl (Nat.le_of_ble_eq_true rfl) dX12_readsOutlet_45 ?_
    refine z_aload_n ok dX12_readsOutlet_48 0 rfl ?_
    refine z_aload_n ok dX12_readsOutlet_49 0 rfl ?_
    refine z_getr (q := 181) ok kc_171 zc_12 hin_12 18 (by decide) fl_12_65 rfl dX12_readsOutlet_50 ?_
    refine z_aload_n ok dX12_readsOutlet_53 0 rfl ?_
    refine z_geti ok kc_171 zc_12 hin_12 8 (by decide) fl_12_35 rfl dX12_readsOutlet_54 hf (fun v54 hf => ?_)
    refine z_call hf (fun r57 h57 hf => ?_)
    refine z_cV (As := [.ref (X.ad 181), .int v54]) (rest := []) (w := 171) ok kc_171 zc_12 (c_M_among kc_181 h57) rfl ⟨ml_12_208, w_M_among⟩ hy_M_among ⟨rfl, rfl⟩ ⟨Nat.le_of_ble_eq_true rfl, Nat.le_of_ble_eq_true rfl⟩ ⟨Nat.zero_le _, Nat.zero_le _⟩ rfl (Nat.le_of_ble_eq_true rfl) dX12_readsOutlet_57 ?_
    refine z_nm hf (fun v60 hf => ?_)
    refine z_istore_n (lv' := [(1, .int v60), (0, .ref (X.ad 171))]) ok dX12_readsOutlet_60 (by decide) rfl ?_
    refine z_aload_n ok dX12_readsOutlet_61 1 rfl ?_
    refine z_call hf (fun r62 h62 hf => ?_)
    refine z_cV (As := []) (rest := []) (w := 171) ok kc_171 zc_12 (c_M_goesWell h62) rfl ⟨ml_12_174, w_M_goesWell⟩ hy_M_goesWell ⟨rfl, rfl⟩ ⟨Nat.le_of_ble_eq_true rfl, Nat.le_of_ble_eq_true rfl⟩ ⟨Nat.zero_le _, Nat.zero_le _⟩ rfl (Nat.le_of_ble_eq_true rfl) dX12_readsOutlet_62 ?_
    refine z_if_eq (tgt := 82) ok dX12_readsOutlet_65 (by decide) hf (fun _ hf => ?_) (fun _ hf => ?_)
    · exact z_sub [1, 0] rfl (t_M_readsOutlet_j82 ok hf hk)
    · refine z_iload_n ok dX12_readsOutlet_68 0 rfl ?_
      refine z_iconst (v := (-1)) ok dX12_readsOutlet_69 (by decide) ?_
      refine z_icmp_ne (tgt := 82) ok dX12_readsOutlet_70 (by decide) hf (fun _ hf => ?_) (fun _ hf => ?_)
      · refine z_aload_n ok dX12_readsOutlet_73 1 rfl ?_
        refine z_iconst (v := 3) ok dX12_readsOutlet_74 (by decide) ?_
        refine z_aload_n ok dX12_readsOutlet_75 1 rfl ?_
        refine z_geti ok kc_171 zc_12 hin_12 34 (by decide) fl_12_114 rfl dX12_readsOutlet_76 hf (fun v76 hf => ?_)
        refine z_call hf (fun r79 h79 hf => ?_)
        refine z_cVv (As := [.int 3, .int v76]) (rest := []) (w := 171) ok kc_171 zc_12 (c_M_faults h79) rfl ⟨ml_12_188, w_M_faults⟩ hy_M_faults ⟨rfl, rfl⟩ ⟨Nat.le_of_ble_eq_true rfl, Nat.le_of_ble_eq_true rfl⟩ ⟨Nat.zero_le _, Nat.zero_le _⟩ rfl (Nat.le_of_ble_eq_true rfl) dX12_readsOutlet_79 ?_
        exact z_sub [1, 0] rfl (t_M_readsOutlet_j82 ok hf hk)
      · exact z_sub [1, 0] rfl (t_M_readsOutlet_j82 ok hf hk)
def M_readsOutlet (σ : Sg)  : Option Sg :=
  zgt σ 171 9 fun v1 =>
  if v1 = 10 then (
    zgt σ 171 34 fun v12 =>
    (M_faults σ 5 v12).bind fun r15 =>
    M_readsOutlet_j18 r15
  ) else (
    M_readsOutlet_j18 σ
  )
set_option maxRecDepth 20000 in
theorem t_M_readsOutlet {X : Zx} {Q : State → Prop} {σ : Sg}  (ok : Zok X cX12_readsOutlet RX12 rm_M_readsOutlet 198 3)  {out : Sg} (hf : M_readsOutlet σ = some out) (hk : ZrV cX12_readsOutlet X Q out) : ZAt X Q 0 0 0 σ [(0, .ref (X.ad 171))] [] := by
  unfold M_readsOutlet at hf
  refine z_aload_n ok dX12_readsOutlet_0 0 rfl ?_
  refine z_geti ok kc_171 zc_12 hin_12 9 (by decide) fl_12_38 rfl dX12_readsOutlet_1 hf (fun v1 hf => ?_)
  refine z_bipush (v := 10) ok dX12_readsOutlet_4 (by decide) ?_
  refine z_icmp_ne (tgt := 18) ok dX12_readsOutlet_6 (by decide) hf (fun _ hf => ?_) (fun _ hf => ?_)
  · refine z_aload_n ok dX12_readsOutlet_9 0 rfl ?_
    refine z_iconst (v := 5) ok dX12_readsOutlet_10 (by decide) ?_
    refine z_aload_n ok dX12_readsOutlet_11 0 rfl ?_
    refine z_geti ok kc_171 zc_12 hin_12 34 (by decide) fl_12_114 rfl dX12_readsOutlet_12 hf (fun v12 hf => ?_)
    refine z_call hf (fun r15 h15 hf => ?_)
    refine z_cVv (As := [.int 5, .int v12]) (rest := []) (w := 171) ok kc_171 zc_12 (c_M_faults h15) rfl ⟨ml_12_188, w_M_faults⟩ hy_M_faults ⟨rfl, rfl⟩ ⟨Nat.le_of_ble_eq_true rfl, Nat.le_of_ble_eq_true rfl⟩ ⟨Nat.zero_le _, Nat.zero_le _⟩ rfl (Nat.le_of_ble_eq_true rfl) dX12_readsOutlet_15 ?_
    exact z_sub [0] rfl (t_M_readsOutlet_j18 ok hf hk)
  · exact z_sub [0] rfl (t_M_readsOutlet_j18 ok hf hk)
theorem c_M_readsOutlet {σ : Sg} {r : Sg} (h : M_readsOutlet σ = some r) : ZcV yX12_readsOutlet cX12_readsOutlet 3 rm_M_readsOutlet 198 (fun ad => [.ref (ad 171)]) σ r :=
  zmetV pn_12 rfl (fun _ => rfl) (fun _ => Nat.le_of_ble_eq_true rfl) (fun X Q ok hk => t_M_readsOutlet ok h hk)
theorem dX12_outletNamed_0 : decode cX12_outletNamed 0 = .ok (.aload_n 0, 1) := by decide +kernel
theorem dX12_outletNamed_1 : decode cX12_outletNamed 1 = .ok (.invokevirtual 205, 3) := by decide +kernel
theorem dX12_outletNamed_4 : decode cX12_outletNamed 4 = .ok (.aload_n 0, 1) := by decide +kernel
theorem dX12_outletNamed_5 : decode cX12_outletNamed 5 = .ok (.aload_n 0, 1) := by decide +kernel
theorem dX12_outletNamed_6 : decode cX12_outletNamed 6 = .ok (.getfield 68, 3) := by decide +kernel
theorem dX12_outletNamed_9 : decode cX12_outletNamed 9 = .ok (.aload_n 0, 1) := by decide +kernel
theorem dX12_outletNamed_10 : decode cX12_outletNamed 10 = .ok (.getfield 38, 3) := by decide +kernel
theorem dX12_outletNamed_13 : decode cX12_outletNamed 13 = .ok (.invokevirtual 208, 3) := by decide +kernel
theorem dX12_outletNamed_16 : decode cX12_outletNamed 16 = .ok (.istore_n 1, 1) := by decide +kernel
theorem dX12_outletNamed_17 : decode cX12_outletNamed 17 = .ok (.aload_n 0, 1) := by decide +kernel
theorem dX12_outletNamed_18 : decode cX12_outletNamed 18 = .ok (.invokevirtual 174, 3) := by decide +kernel
theorem dX12_outletNamed_21 : decode cX12_outletNamed 21 = .ok (.ifCond .eq 17, 3) := by decide +kernel
theorem dX12_outletNamed_24 : decode cX12_outletNamed 24 = .ok (.iload_n 1, 1) := by decide +kernel
theorem dX12_outletNamed_25 : decode cX12_outletNamed 25 = .ok (.iconst (-1), 1) := by decide +kernel
theorem dX12_outletNamed_26 : decode cX12_outletNamed 26 = .ok (.if_icmp .ne 12, 3) := by decide +kernel
theorem dX12_outletNamed_29 : decode cX12_outletNamed 29 = .ok (.aload_n 0, 1) := by decide +kernel
theorem dX12_outletNamed_30 : decode cX12_outletNamed 30 = .ok (.iconst 3, 1) := by decide +kernel
theorem dX12_outletNamed_31 : decode cX12_outletNamed 31 = .ok (.aload_n 0, 1) := by decide +kernel
theorem dX12_outletNamed_32 : decode cX12_outletNamed 32 = .ok (.getfield 114, 3) := by decide +kernel
theorem dX12_outletNamed_35 : decode cX12_outletNamed 35 = .ok (.invokevirtual 188, 3) := by decide +kernel
theorem dX12_outletNamed_38 : decode cX12_outletNamed 38 = .ok (.iload_n 1, 1) := by decide +kernel
theorem dX12_outletNamed_39 : decode cX12_outletNamed 39 = .ok (.ireturn, 1) := by decide +kernel
abbrev rm_M_outletNamed : Room := { frames := 4, cells := 0, slots := 0, locals := 82 }
def M_outletNamed (σ : Sg)  : Option (Int32 × Sg) :=
  (M_name σ).bind fun r1 =>
  zgt r1 171 9 fun v10 =>
  (M_among r1 182 60 v10).bind fun r13 =>
  zlt r13 fun v16 =>
  (M_goesWell r1).bind fun r18 =>
  if (zb r18) = 0 then (
    some (v16, r1)
  ) else (
    if v16 = (-1) then (
      zgt r1 171 34 fun v32 =>
      (M_faults r1 3 v32).bind fun r35 =>
      some (v16, r35)
    ) else (
      some (v16, r1)
    )
  )
set_option maxRecDepth 20000 in
theorem t_M_outletNamed {X : Zx} {Q : State → Prop} {σ : Sg}  (ok : Zok X cX12_outletNamed RX12 rm_M_outletNamed 198 2)  {out : (Int32 × Sg)} (hf : M_outletNamed σ = some out) (hk : ZrI cX12_outletNamed X Q out.1 out.2) : ZAt X Q 0 0 0 σ [(0, .ref (X.ad 171))] [] := by
  unfold M_outletNamed at hf
  refine z_aload_n ok dX12_outletNamed_0 0 rfl ?_
  refine z_call hf (fun r1 h1 hf => ?_)
  refine z_cVv (As := []) (rest := []) (w := 171) ok kc_171 zc_12 (c_M_name h1) rfl ⟨ml_12_205, w_M_name⟩ hy_M_name ⟨rfl, rfl⟩ ⟨Nat.le_of_ble_eq_true rfl, Nat.le_of_ble_eq_true rfl⟩ ⟨Nat.zero_le _, Nat.zero_le _⟩ rfl (Nat.le_of_ble_eq_true rfl) dX12_outletNamed_1 ?_
  refine z_aload_n ok dX12_outletNamed_4 0 rfl ?_
  refine z_aload_n ok dX12_outletNamed_5 0 rfl ?_
  refine z_getr (q := 182) ok kc_171 zc_12 hin_12 19 (by decide) fl_12_68 rfl dX12_outletNamed_6 ?_
  refine z_aload_n ok dX12_outletNamed_9 0 rfl ?_
  refine z_geti ok kc_171 zc_12 hin_12 9 (by decide) fl_12_38 rfl dX12_outletNamed_10 hf (fun v10 hf => ?_)
  refine z_call hf (fun r13 h13 hf => ?_)
  refine z_cV (As := [.ref (X.ad 182), .int v10]) (rest := []) (w := 171) ok kc_171 zc_12 (c_M_among kc_182 h13) rfl ⟨ml_12_208, w_M_among⟩ hy_M_among ⟨rfl, rfl⟩ ⟨Nat.le_of_ble_eq_true rfl, Nat.le_of_ble_eq_true rfl⟩ ⟨Nat.zero_le _, Nat.zero_le _⟩ rfl (Nat.le_of_ble_eq_true rfl) dX12_outletNamed_13 ?_
  refine z_nm hf (fun v16 hf => ?_)
  refine z_istore_n (lv' := [(1, .int v16), (0, .ref (X.ad 171))]) ok dX12_outletNamed_16 (by decide) rfl ?_
  refine z_aload_n ok dX12_outletNamed_17 1 rfl ?_
  refine z_call hf (fun r18 h18 hf => ?_)
  refine z_cV (As := []) (rest := []) (w := 171) ok kc_171 zc_12 (c_M_goesWell h18) rfl ⟨ml_12_174, w_M_goesWell⟩ hy_M_goesWell ⟨rfl, rfl⟩ ⟨Nat.le_of_ble_eq_true rfl, Nat.le_of_ble_eq_true rfl⟩ ⟨Nat.zero_le _, Nat.zero_le _⟩ rfl (Nat.le_of_ble_eq_true rfl) dX12_outletNamed_18 ?_
  refine z_if_eq (tgt := 38) ok dX12_outletNamed_21 (by decide) hf (fun _ hf => ?_) (fun _ hf => ?_)
  · refine z_iload_n ok dX12_outletNamed_38 0 rfl ?_
    obtain rfl := Option.some.inj hf
    exact hk _ _ dX12_outletNamed_39
  · refine z_iload_n ok dX12_outletNamed_24 0 rfl ?_
    refine z_iconst (v := (-1)) ok dX12_outletNamed_25 (by decide) ?_
    refine z_icmp_ne (tgt := 38) ok dX12_outletNamed_26 (by decide) hf (fun _ hf => ?_) (fun _ hf => ?_)
    · refine z_aload_n ok dX12_outletNamed_29 1 rfl ?_
      refine z_iconst (v := 3) ok dX12_outletNamed_30 (by decide) ?_
      refine z_aload_n ok dX12_outletNamed_31 1 rfl ?_
      refine z_geti ok kc_171 zc_12 hin_12 34 (by decide) fl_12_114 rfl dX12_outletNamed_32 hf (fun v32 hf => ?_)
      refine z_call hf (fun r35 h35 hf => ?_)
      refine z_cVv (As := [.int 3, .int v32]) (rest := []) (w := 171) ok kc_171 zc_12 (c_M_faults h35) rfl ⟨ml_12_188, w_M_faults⟩ hy_M_faults ⟨rfl, rfl⟩ ⟨Nat.le_of_ble_eq_true rfl, Nat.le_of_ble_eq_true rfl⟩ ⟨Nat.zero_le _, Nat.zero_le _⟩ rfl (Nat.le_of_ble_eq_true rfl) dX12_outletNamed_35 ?_
      refine z_iload_n ok dX12_outletNamed_38 0 rfl ?_
      obtain rfl := Option.some.inj hf
      exact hk _ _ dX12_outletNamed_39
    · refine z_iload_n ok dX12_outletNamed_38 0 rfl ?_
      obtain rfl := Option.some.inj hf
      exact hk _ _ dX12_outletNamed_39
theorem c_M_outletNamed {σ : Sg} {r : (Int32 × Sg)} (h : M_outletNamed σ = some r) : ZcI yX12_outletNamed cX12_outletNamed 2 .int rm_M_outletNamed 198 (fun ad => [.ref (ad 171)]) σ r.1 r.2 :=
  zmetI pn_12 rfl (fun _ => rfl) (fun _ => Nat.le_of_ble_eq_true rfl) rfl (fun X Q ok hk => t_M_outletNamed ok h hk)
theorem dX12_readsOrder_0 : decode cX12_readsOrder 0 = .ok (.aload_n 0, 1) := by decide +kernel
theorem dX12_readsOrder_1 : decode cX12_readsOrder 1 = .ok (.getfield 44, 3) := by decide +kernel
theorem dX12_readsOrder_4 : decode cX12_readsOrder 4 = .ok (.bipush 16, 2) := by decide +kernel
theorem dX12_readsOrder_6 : decode cX12_readsOrder 6 = .ok (.if_icmp .ne 12, 3) := by decide +kernel
theorem dX12_readsOrder_9 : decode cX12_readsOrder 9 = .ok (.aload_n 0, 1) := by decide +kernel
theorem dX12_readsOrder_10 : decode cX12_readsOrder 10 = .ok (.iconst 5, 1) := by decide +kernel
theorem dX12_readsOrder_11 : decode cX12_readsOrder 11 = .ok (.aload_n 0, 1) := by decide +kernel
theorem dX12_readsOrder_12 : decode cX12_readsOrder 12 = .ok (.getfield 114, 3) := by decide +kernel
theorem dX12_readsOrder_15 : decode cX12_readsOrder 15 = .ok (.invokevirtual 188, 3) := by decide +kernel
theorem dX12_readsOrder_18 : decode cX12_readsOrder 18 = .ok (.aload_n 0, 1) := by decide +kernel
theorem dX12_readsOrder_19 : decode cX12_readsOrder 19 = .ok (.invokevirtual 174, 3) := by decide +kernel
theorem dX12_readsOrder_22 : decode cX12_readsOrder 22 = .ok (.ifCond .ne 4, 3) := by decide +kernel
theorem dX12_readsOrder_25 : decode cX12_readsOrder 25 = .ok (.return_, 1) := by decide +kernel
theorem dX12_readsOrder_26 : decode cX12_readsOrder 26 = .ok (.aload_n 0, 1) := by decide +kernel
theorem dX12_readsOrder_27 : decode cX12_readsOrder 27 = .ok (.invokevirtual 227, 3) := by decide +kernel
theorem dX12_readsOrder_30 : decode cX12_readsOrder 30 = .ok (.istore_n 1, 1) := by decide +kernel
theorem dX12_readsOrder_31 : decode cX12_readsOrder 31 = .ok (.aload_n 0, 1) := by decide +kernel
theorem dX12_readsOrder_32 : decode cX12_readsOrder 32 = .ok (.bipush 17, 2) := by decide +kernel
theorem dX12_readsOrder_34 : decode cX12_readsOrder 34 = .ok (.iconst 0, 1) := by decide +kernel
theorem dX12_readsOrder_35 : decode cX12_readsOrder 35 = .ok (.sipush 999, 3) := by decide +kernel
theorem dX12_readsOrder_38 : decode cX12_readsOrder 38 = .ok (.invokevirtual 223, 3) := by decide +kernel
theorem dX12_readsOrder_41 : decode cX12_readsOrder 41 = .ok (.istore_n 2, 1) := by decide +kernel
theorem dX12_readsOrder_42 : decode cX12_readsOrder 42 = .ok (.aload_n 0, 1) := by decide +kernel
theorem dX12_readsOrder_43 : decode cX12_readsOrder 43 = .ok (.bipush 18, 2) := by decide +kernel
theorem dX12_readsOrder_45 : decode cX12_readsOrder 45 = .ok (.iconst 1, 1) := by decide +kernel
theorem dX12_readsOrder_46 : decode cX12_readsOrder 46 = .ok (.bipush 99, 2) := by decide +kernel
theorem dX12_readsOrder_48 : decode cX12_readsOrder 48 = .ok (.invokevirtual 223, 3) := by decide +kernel
theorem dX12_readsOrder_51 : decode cX12_readsOrder 51 = .ok (.istore_n 3, 1) := by decide +kernel
theorem dX12_readsOrder_52 : decode cX12_readsOrder 52 = .ok (.aload_n 0, 1) := by decide +kernel
theorem dX12_readsOrder_53 : decode cX12_readsOrder 53 = .ok (.invokevirtual 174, 3) := by decide +kernel
theorem dX12_readsOrder_56 : decode cX12_readsOrder 56 = .ok (.ifCond .ne 4, 3) := by decide +kernel
theorem dX12_readsOrder_59 : decode cX12_readsOrder 59 = .ok (.return_, 1) := by decide +kernel
theorem dX12_readsOrder_60 : decode cX12_readsOrder 60 = .ok (.aload_n 0, 1) := by decide +kernel
theorem dX12_readsOrder_61 : decode cX12_readsOrder 61 = .ok (.getfield 62, 3) := by decide +kernel
theorem dX12_readsOrder_64 : decode cX12_readsOrder 64 = .ok (.iconst 3, 1) := by decide +kernel
theorem dX12_readsOrder_65 : decode cX12_readsOrder 65 = .ok (.aload_n 0, 1) := by decide +kernel
theorem dX12_readsOrder_66 : decode cX12_readsOrder 66 = .ok (.getfield 44, 3) := by decide +kernel
theorem dX12_readsOrder_69 : decode cX12_readsOrder 69 = .ok (.imul, 1) := by decide +kernel
theorem dX12_readsOrder_70 : decode cX12_readsOrder 70 = .ok (.iload_n 1, 1) := by decide +kernel
theorem dX12_readsOrder_71 : decode cX12_readsOrder 71 = .ok (.iastore, 1) := by decide +kernel
theorem dX12_readsOrder_72 : decode cX12_readsOrder 72 = .ok (.aload_n 0, 1) := by decide +kernel
theorem dX12_readsOrder_73 : decode cX12_readsOrder 73 = .ok (.getfield 62, 3) := by decide +kernel
theorem dX12_readsOrder_76 : decode cX12_readsOrder 76 = .ok (.iconst 3, 1) := by decide +kernel
theorem dX12_readsOrder_77 : decode cX12_readsOrder 77 = .ok (.aload_n 0, 1) := by decide +kernel
theorem dX12_readsOrder_78 : decode cX12_readsOrder 78 = .ok (.getfield 44, 3) := by decide +kernel
theorem dX12_readsOrder_81 : decode cX12_readsOrder 81 = .ok (.imul, 1) := by decide +kernel
theorem dX12_readsOrder_82 : decode cX12_readsOrder 82 = .ok (.iconst 1, 1) := by decide +kernel
theorem dX12_readsOrder_83 : decode cX12_readsOrder 83 = .ok (.iadd, 1) := by decide +kernel
theorem dX12_readsOrder_84 : decode cX12_readsOrder 84 = .ok (.iload_n 2, 1) := by decide +kernel
theorem dX12_readsOrder_85 : decode cX12_readsOrder 85 = .ok (.iastore, 1) := by decide +kernel
theorem dX12_readsOrder_86 : decode cX12_readsOrder 86 = .ok (.aload_n 0, 1) := by decide +kernel
theorem dX12_readsOrder_87 : decode cX12_readsOrder 87 = .ok (.getfield 62, 3) := by decide +kernel
theorem dX12_readsOrder_90 : decode cX12_readsOrder 90 = .ok (.iconst 3, 1) := by decide +kernel
theorem dX12_readsOrder_91 : decode cX12_readsOrder 91 = .ok (.aload_n 0, 1) := by decide +kernel
theorem dX12_readsOrder_92 : decode cX12_readsOrder 92 = .ok (.getfield 44, 3) := by decide +kernel
theorem dX12_readsOrder_95 : decode cX12_readsOrder 95 = .ok (.imul, 1) := by decide +kernel
theorem dX12_readsOrder_96 : decode cX12_readsOrder 96 = .ok (.iconst 2, 1) := by decide +kernel
theorem dX12_readsOrder_97 : decode cX12_readsOrder 97 = .ok (.iadd, 1) := by decide +kernel
theorem dX12_readsOrder_98 : decode cX12_readsOrder 98 = .ok (.iload_n 3, 1) := by decide +kernel
theorem dX12_readsOrder_99 : decode cX12_readsOrder 99 = .ok (.iastore, 1) := by decide +kernel
theorem dX12_readsOrder_100 : decode cX12_readsOrder 100 = .ok (.aload_n 0, 1) := by decide +kernel
theorem dX12_readsOrder_101 : decode cX12_readsOrder 101 = .ok (.dup, 1) := by decide +kernel
theorem dX12_readsOrder_102 : decode cX12_readsOrder 102 = .ok (.getfield 44, 3) := by decide +kernel
theorem dX12_readsOrder_105 : decode cX12_readsOrder 105 = .ok (.iconst 1, 1) := by decide +kernel
theorem dX12_readsOrder_106 : decode cX12_readsOrder 106 = .ok (.iadd, 1) := by decide +kernel
theorem dX12_readsOrder_107 : decode cX12_readsOrder 107 = .ok (.putfield 44, 3) := by decide +kernel
theorem dX12_readsOrder_110 : decode cX12_readsOrder 110 = .ok (.return_, 1) := by decide +kernel
abbrev rm_M_readsOrder : Room := { frames := 5, cells := 0, slots := 0, locals := 106 }
def M_readsOrder_j18 (σ : Sg)  : Option Sg :=
  (M_goesWell σ).bind fun r19 =>
  if (zb r19) = 0 then (
    some σ
  ) else (
    (M_outletNamed σ).bind fun r27 =>
    zlt r27.1 fun v30 =>
    (M_after r27.2 17 0 999).bind fun r38 =>
    zlt r38.1 fun v41 =>
    (M_after r38.2 18 1 99).bind fun r48 =>
    zlt r48.1 fun v51 =>
    (M_goesWell r48.2).bind fun r53 =>
    if (zb r53) = 0 then (
      some r48.2
    ) else (
      zgt r48.2 171 11 fun v66 =>
      zwr r48.2 180 48 (3 * v66) v30 fun σ71 =>
      zgt σ71 171 11 fun v78 =>
      zwr σ71 180 48 ((3 * v78) + 1) v41 fun σ85 =>
      zgt σ85 171 11 fun v92 =>
      zwr σ85 180 48 ((3 * v92) + 2) v51 fun σ99 =>
      zgt σ99 171 11 fun v102 =>
      zpt σ99 171 11 (v102 + 1) fun σ107 =>
      some σ107
    )
  )
set_option maxRecDepth 20000 in
theorem t_M_readsOrder_j18 {X : Zx} {Q : State → Prop} {σ : Sg}  (ok : Zok X cX12_readsOrder RX12 rm_M_readsOrder 198 4)  {out : Sg} (hf : M_readsOrder_j18 σ = some out) (hk : ZrV cX12_readsOrder X Q out) : ZAt X Q 0 0 18 σ [(0, .ref (X.ad 171))] [] := by
  unfold M_readsOrder_j18 at hf
  refine z_aload_n ok dX12_readsOrder_18 0 rfl ?_
  refine z_call hf (fun r19 h19 hf => ?_)
  refine z_cV (As := []) (rest := []) (w := 171) ok kc_171 zc_12 (c_M_goesWell h19) rfl ⟨ml_12_174, w_M_goesWell⟩ hy_M_goesWell ⟨rfl, rfl⟩ ⟨Nat.le_of_ble_eq_true rfl, Nat.le_of_ble_eq_true rfl⟩ ⟨Nat.zero_le _, Nat.zero_le _⟩ rfl (Nat.le_of_ble_eq_true rfl) dX12_readsOrder_19 ?_
  refine z_if_ne (tgt := 26) ok dX12_readsOrder_22 (by decide) hf (fun _ hf => ?_) (fun _ hf => ?_)
  · obtain rfl := Option.some.inj hf
    exact hk _ _ dX12_readsOrder_25
  · refine z_aload_n ok dX12_readsOrder_26 0 rfl ?_
    refine z_call hf (fun r27 h27 hf => ?_)
    refine z_cV (As := []) (rest := []) (w := 171) ok kc_171 zc_12 (c_M_outletNamed h27) rfl ⟨ml_12_227, w_M_outletNamed⟩ hy_M_outletNamed ⟨rfl, rfl⟩ ⟨Nat.le_of_ble_eq_true rfl, Nat.le_of_ble_eq_true rfl⟩ ⟨Nat.zero_le _, Nat.zero_le _⟩ rfl (Nat.le_of_ble_eq_true rfl) dX12_readsOrder_27 ?_
    refine z_nm hf (fun v30 hf => ?_)
    refine z_istore_n (lv' := [(1, .int v30), (0, .ref (X.ad 171))]) ok dX12_readsOrder_30 (by decide) rfl ?_
    refine z_aload_n ok dX12_readsOrder_31 1 rfl ?_
    refine z_bipush (v := 17) ok dX12_readsOrder_32 (by decide) ?_
    refine z_iconst (v := 0) ok dX12_readsOrder_34 (by decide) ?_
    refine z_sipush (v := 999) ok dX12_readsOrder_35 (by decide) ?_
    refine z_call hf (fun r38 h38 hf => ?_)
    refine z_cV (As := [.int 17, .int 0, .int 999]) (rest := []) (w := 171) ok kc_171 zc_12 (c_M_after h38) rfl ⟨ml_12_223, w_M_after⟩ hy_M_after ⟨rfl, rfl⟩ ⟨Nat.le_of_ble_eq_true rfl, Nat.le_of_ble_eq_true rfl⟩ ⟨Nat.zero_le _, Nat.zero_le _⟩ rfl (Nat.le_of_ble_eq_true rfl) dX12_readsOrder_38 ?_
    refine z_nm hf (fun v41 hf => ?_)
    refine z_istore_n (lv' := [(2, .int v41), (1, .int v30), (0, .ref (X.ad 171))]) ok dX12_readsOrder_41 (by decide) rfl ?_
    refine z_aload_n ok dX12_readsOrder_42 2 rfl ?_
    refine z_bipush (v := 18) ok dX12_readsOrder_43 (by decide) ?_
    refine z_iconst (v := 1) ok dX12_readsOrder_45 (by decide) ?_
    refine z_bipush (v := 99) ok dX12_readsOrder_46 (by decide) ?_
    refine z_call hf (fun r48 h48 hf => ?_)
    refine z_cV (As := [.int 18, .int 1, .int 99]) (rest := []) (w := 171) ok kc_171 zc_12 (c_M_after h48) rfl ⟨ml_12_223, w_M_after⟩ hy_M_after ⟨rfl, rfl⟩ ⟨Nat.le_of_ble_eq_true rfl, Nat.le_of_ble_eq_true rfl⟩ ⟨Nat.zero_le _, Nat.zero_le _⟩ rfl (Nat.le_of_ble_eq_true rfl) dX12_readsOrder_48 ?_
    refine z_nm hf (fun v51 hf => ?_)
    refine z_istore_n (lv' := [(3, .int v51), (2, .int v41), (1, .int v30), (0, .ref (X.ad 171))]) ok dX12_readsOrder_51 (by decide) rfl ?_
    refine z_aload_n ok dX12_readsOrder_52 3 rfl ?_
    refine z_call hf (fun r53 h53 hf => ?_)
    refine z_cV (As := []) (rest := []) (w := 171) ok kc_171 zc_12 (c_M_goesWell h53) rfl ⟨ml_12_174, w_M_goesWell⟩ hy_M_goesWell ⟨rfl, rfl⟩ ⟨Nat.le_of_ble_eq_true rfl, Nat.le_of_ble_eq_true rfl⟩ ⟨Nat.zero_le _, Nat.zero_le _⟩ rfl (Nat.le_of_ble_eq_true rfl) dX12_readsOrder_53 ?_
    refine z_if_ne (tgt := 60) ok dX12_readsOrder_56 (by decide) hf (fun _ hf => ?_) (fun _ hf => ?_)
    · obtain rfl := Option.some.inj hf
      exact hk _ _ dX12_readsOrder_59
    · refine z_aload_n ok dX12_readsOrder_60 3 rfl ?_
      refine z_getr (q := 180) ok kc_171 zc_12 hin_12 17 (by decide) fl_12_62 rfl dX12_readsOrder_61 ?_
      refine z_iconst (v := 3) ok dX12_readsOrder_64 (by decide) ?_
      refine z_aload_n ok dX12_readsOrder_65 3 rfl ?_
      refine z_geti ok kc_171 zc_12 hin_12 11 (by decide) fl_12_44 rfl dX12_readsOrder_66 hf (fun v66 hf => ?_)
      refine z_imul ok dX12_readsOrder_69 ?_
      refine z_iload_n ok dX12_readsOrder_70 2 rfl ?_
      refine z_iast ok kc_180 dX12_readsOrder_71 hf (fun σ71 hf => ?_)
      refine z_aload_n ok dX12_readsOrder_72 3 rfl ?_
      refine z_getr (q := 180) ok kc_171 zc_12 hin_12 17 (by decide) fl_12_62 rfl dX12_readsOrder_73 ?_
      refine z_iconst (v := 3) ok dX12_readsOrder_76 (by decide) ?_
      refine z_aload_n ok dX12_readsOrder_77 3 rfl ?_
      refine z_geti ok kc_171 zc_12 hin_12 11 (by decide) fl_12_44 rfl dX12_readsOrder_78 hf (fun v78 hf => ?_)
      refine z_imul ok dX12_readsOrder_81 ?_
      refine z_iconst (v := 1) ok dX12_readsOrder_82 (by decide) ?_
      refine z_iadd ok dX12_readsOrder_83 ?_
      refine z_iload_n ok dX12_readsOrder_84 1 rfl ?_
      refine z_iast ok kc_180 dX12_readsOrder_85 hf (fun σ85 hf => ?_)
      refine z_aload_n ok dX12_readsOrder_86 3 rfl ?_
      refine z_getr (q := 180) ok kc_171 zc_12 hin_12 17 (by decide) fl_12_62 rfl dX12_readsOrder_87 ?_
      refine z_iconst (v := 3) ok dX12_readsOrder_90 (by decide) ?_
      refine z_aload_n ok dX12_readsOrder_91 3 rfl ?_
      refine z_geti ok kc_171 zc_12 hin_12 11 (by decide) fl_12_44 rfl dX12_readsOrder_92 hf (fun v92 hf => ?_)
      refine z_imul ok dX12_readsOrder_95 ?_
      refine z_iconst (v := 2) ok dX12_readsOrder_96 (by decide) ?_
      refine z_iadd ok dX12_readsOrder_97 ?_
      refine z_iload_n ok dX12_readsOrder_98 0 rfl ?_
      refine z_iast ok kc_180 dX12_readsOrder_99 hf (fun σ99 hf => ?_)
      refine z_aload_n ok dX12_readsOrder_100 3 rfl ?_
      refine z_dup ok dX12_readsOrder_101 rfl ?_
      refine z_geti ok kc_171 zc_12 hin_12 11 (by decide) fl_12_44 rfl dX12_readsOrder_102 hf (fun v102 hf => ?_)
      refine z_iconst (v := 1) ok dX12_readsOrder_105 (by decide) ?_
      refine z_iadd ok dX12_readsOrder_106 ?_
      refine z_puti ok kc_171 zc_12 hin_12 tyX12 tyX12_ok nmX12 11 (by decide) fl_12_44 rfl rfl (tyX12_ok 11 (by decide)) dX12_readsOrder_107 hf (fun σ107 hf => ?_)
      obtain rfl := Option.some.inj hf
      exact hk _ _ dX12_readsOrder_110
def M_readsOrder (σ : Sg)  : Option Sg :=
  zgt σ 171 11 fun v1 =>
  if v1 = 16 then (
    zgt σ 171 34 fun v12 =>
    (M_faults σ 5 v12).bind fun r15 =>
    M_readsOrder_j18 r15
  ) else (
    M_readsOrder_j18 σ
  )
set_option maxRecDepth 20000 in
theorem t_M_readsOrder {X : Zx} {Q : State → Prop} {σ : Sg}  (ok : Zok X cX12_readsOrder RX12 rm_M_readsOrder 198 4)  {out : Sg} (hf : M_readsOrder σ = some out) (hk : ZrV cX12_readsOrder X Q out) : ZAt X Q 0 0 0 σ [(0, .ref (X.ad 171))] [] := by
  unfold M_readsOrder at hf
  refine z_aload_n ok dX12_readsOrder_0 0 rfl ?_
  refine z_geti ok kc_171 zc_12 hin_12 11 (by decide) fl_12_44 rfl dX12_readsOrder_1 hf (fun v1 hf => ?_)
  refine z_bipush (v := 16) ok dX12_readsOrder_4 (by decide) ?_
  refine z_icmp_ne (tgt := 18) ok dX12_readsOrder_6 (by decide) hf (fun _ hf => ?_) (fun _ hf => ?_)
  · refine z_aload_n ok dX12_readsOrder_9 0 rfl ?_
    refine z_iconst (v := 5) ok dX12_readsOrder_10 (by decide) ?_
    refine z_aload_n ok dX12_readsOrder_11 0 rfl ?_
    refine z_geti ok kc_171 zc_12 hin_12 34 (by decide) fl_12_114 rfl dX12_readsOrder_12 hf (fun v12 hf => ?_)
    refine z_call hf (fun r15 h15 hf => ?_)
    refine z_cVv (As := [.int 5, .int v12]) (rest := []) (w := 171) ok kc_171 zc_12 (c_M_faults h15) rfl ⟨ml_12_188, w_M_faults⟩ hy_M_faults ⟨rfl, rfl⟩ ⟨Nat.le_of_ble_eq_true rfl, Nat.le_of_ble_eq_true rfl⟩ ⟨Nat.zero_le _, Nat.zero_le _⟩ rfl (Nat.le_of_ble_eq_true rfl) dX12_readsOrder_15 ?_
    exact z_sub [0] rfl (t_M_readsOrder_j18 ok hf hk)
  · exact z_sub [0] rfl (t_M_readsOrder_j18 ok hf hk)
theorem c_M_readsOrder {σ : Sg} {r : Sg} (h : M_readsOrder σ = some r) : ZcV yX12_readsOrder cX12_readsOrder 4 rm_M_readsOrder 198 (fun ad => [.ref (ad 171)]) σ r :=
  zmetV pn_12 rfl (fun _ => rfl) (fun _ => Nat.le_of_ble_eq_true rfl) (fun X Q ok hk => t_M_readsOrder ok h hk)
theorem dX12_readsTurns_0 : decode cX12_readsTurns 0 = .ok (.aload_n 0, 1) := by decide +kernel
theorem dX12_readsTurns_1 : decode cX12_readsTurns 1 = .ok (.getfield 41, 3) := by decide +kernel
theorem dX12_readsTurns_4 : decode cX12_readsTurns 4 = .ok (.iconst 2, 1) := by decide +kernel
theorem dX12_readsTurns_5 : decode cX12_readsTurns 5 = .ok (.if_icmp .ne 12, 3) := by decide +kernel
theorem dX12_readsTurns_8 : decode cX12_readsTurns 8 = .ok (.aload_n 0, 1) := by decide +kernel
theorem dX12_readsTurns_9 : decode cX12_readsTurns 9 = .ok (.iconst 5, 1) := by decide +kernel
theorem dX12_readsTurns_10 : decode cX12_readsTurns 10 = .ok (.aload_n 0, 1) := by decide +kernel
theorem dX12_readsTurns_11 : decode cX12_readsTurns 11 = .ok (.getfield 114, 3) := by decide +kernel
theorem dX12_readsTurns_14 : decode cX12_readsTurns 14 = .ok (.invokevirtual 188, 3) := by decide +kernel
theorem dX12_readsTurns_17 : decode cX12_readsTurns 17 = .ok (.aload_n 0, 1) := by decide +kernel
theorem dX12_readsTurns_18 : decode cX12_readsTurns 18 = .ok (.invokevirtual 174, 3) := by decide +kernel
theorem dX12_readsTurns_21 : decode cX12_readsTurns 21 = .ok (.ifCond .ne 4, 3) := by decide +kernel
theorem dX12_readsTurns_24 : decode cX12_readsTurns 24 = .ok (.return_, 1) := by decide +kernel
theorem dX12_readsTurns_25 : decode cX12_readsTurns 25 = .ok (.bipush 8, 2) := by decide +kernel
theorem dX12_readsTurns_27 : decode cX12_readsTurns 27 = .ok (.aload_n 0, 1) := by decide +kernel
theorem dX12_readsTurns_28 : decode cX12_readsTurns 28 = .ok (.getfield 41, 3) := by decide +kernel
theorem dX12_readsTurns_31 : decode cX12_readsTurns 31 = .ok (.imul, 1) := by decide +kernel
theorem dX12_readsTurns_32 : decode cX12_readsTurns 32 = .ok (.istore_n 1, 1) := by decide +kernel
theorem dX12_readsTurns_33 : decode cX12_readsTurns 33 = .ok (.aload_n 0, 1) := by decide +kernel
theorem dX12_readsTurns_34 : decode cX12_readsTurns 34 = .ok (.getfield 59, 3) := by decide +kernel
theorem dX12_readsTurns_37 : decode cX12_readsTurns 37 = .ok (.iload_n 1, 1) := by decide +kernel
theorem dX12_readsTurns_38 : decode cX12_readsTurns 38 = .ok (.aload_n 0, 1) := by decide +kernel
theorem dX12_readsTurns_39 : decode cX12_readsTurns 39 = .ok (.iconst 1, 1) := by decide +kernel
theorem dX12_readsTurns_40 : decode cX12_readsTurns 40 = .ok (.bipush 30, 2) := by decide +kernel
theorem dX12_readsTurns_42 : decode cX12_readsTurns 42 = .ok (.invokevirtual 215, 3) := by decide +kernel
theorem dX12_readsTurns_45 : decode cX12_readsTurns 45 = .ok (.iastore, 1) := by decide +kernel
theorem dX12_readsTurns_46 : decode cX12_readsTurns 46 = .ok (.aload_n 0, 1) := by decide +kernel
theorem dX12_readsTurns_47 : decode cX12_readsTurns 47 = .ok (.getfield 59, 3) := by decide +kernel
theorem dX12_readsTurns_50 : decode cX12_readsTurns 50 = .ok (.iload_n 1, 1) := by decide +kernel
theorem dX12_readsTurns_51 : decode cX12_readsTurns 51 = .ok (.iconst 1, 1) := by decide +kernel
theorem dX12_readsTurns_52 : decode cX12_readsTurns 52 = .ok (.iadd, 1) := by decide +kernel
theorem dX12_readsTurns_53 : decode cX12_readsTurns 53 = .ok (.iconst 0, 1) := by decide +kernel
theorem dX12_readsTurns_54 : decode cX12_readsTurns 54 = .ok (.iastore, 1) := by decide +kernel
theorem dX12_readsTurns_55 : decode cX12_readsTurns 55 = .ok (.iconst 1, 1) := by decide +kernel
theorem dX12_readsTurns_56 : decode cX12_readsTurns 56 = .ok (.istore_n 2, 1) := by decide +kernel
theorem dX12_readsTurns_57 : decode cX12_readsTurns 57 = .ok (.iload_n 2, 1) := by decide +kernel
theorem dX12_readsTurns_58 : decode cX12_readsTurns 58 = .ok (.ifCond .eq 199, 3) := by decide +kernel
theorem dX12_readsTurns_61 : decode cX12_readsTurns 61 = .ok (.aload_n 0, 1) := by decide +kernel
theorem dX12_readsTurns_62 : decode cX12_readsTurns 62 = .ok (.invokevirtual 174, 3) := by decide +kernel
theorem dX12_readsTurns_65 : decode cX12_readsTurns 65 = .ok (.ifCond .eq 192, 3) := by decide +kernel
theorem dX12_readsTurns_68 : decode cX12_readsTurns 68 = .ok (.aload_n 0, 1) := by decide +kernel
theorem dX12_readsTurns_69 : decode cX12_readsTurns 69 = .ok (.getfield 59, 3) := by decide +kernel
theorem dX12_readsTurns_72 : decode cX12_readsTurns 72 = .ok (.iload_n 1, 1) := by decide +kernel
theorem dX12_readsTurns_73 : decode cX12_readsTurns 73 = .ok (.iconst 1, 1) := by decide +kernel
theorem dX12_readsTurns_74 : decode cX12_readsTurns 74 = .ok (.iadd, 1) := by decide +kernel
theorem dX12_readsTurns_75 : decode cX12_readsTurns 75 = .ok (.iaload, 1) := by decide +kernel
theorem dX12_readsTurns_76 : decode cX12_readsTurns 76 = .ok (.istore_n 3, 1) := by decide +kernel
theorem dX12_readsTurns_77 : decode cX12_readsTurns 77 = .ok (.aload_n 0, 1) := by decide +kernel
theorem dX12_readsTurns_78 : decode cX12_readsTurns 78 = .ok (.invokevirtual 178, 3) := by decide +kernel
theorem dX12_readsTurns_81 : decode cX12_readsTurns 81 = .ok (.iconst (-1), 1) := by decide +kernel
theorem dX12_readsTurns_82 : decode cX12_readsTurns 82 = .ok (.if_icmp .eq 18, 3) := by decide +kernel
theorem dX12_readsTurns_85 : decode cX12_readsTurns 85 = .ok (.iload_n 3, 1) := by decide +kernel
theorem dX12_readsTurns_86 : decode cX12_readsTurns 86 = .ok (.bipush 6, 2) := by decide +kernel
theorem dX12_readsTurns_88 : decode cX12_readsTurns 88 = .ok (.if_icmp .ne 12, 3) := by decide +kernel
theorem dX12_readsTurns_91 : decode cX12_readsTurns 91 = .ok (.aload_n 0, 1) := by decide +kernel
theorem dX12_readsTurns_92 : decode cX12_readsTurns 92 = .ok (.iconst 5, 1) := by decide +kernel
theorem dX12_readsTurns_93 : decode cX12_readsTurns 93 = .ok (.aload_n 0, 1) := by decide +kernel
theorem dX12_readsTurns_94 : decode cX12_readsTurns 94 = .ok (.getfield 111, 3) := by decide +kernel
theorem dX12_readsTurns_97 : decode cX12_readsTurns 97 = .ok (.invokevirtual 188, 3) := by decide +kernel
theorem dX12_readsTurns_100 : decode cX12_readsTurns 100 = .ok (.aload_n 0, 1) := by decide +kernel
theorem dX12_readsTurns_101 : decode cX12_readsTurns 101 = .ok (.invokevirtual 174, 3) := by decide +kernel
theorem dX12_readsTurns_104 : decode cX12_readsTurns 104 = .ok (.ifCond .eq 10, 3) := by decide +kernel
theorem dX12_readsTurns_107 : decode cX12_readsTurns 107 = .ok (.aload_n 0, 1) := by decide +kernel
theorem dX12_readsTurns_108 : decode cX12_readsTurns 108 = .ok (.invokevirtual 227, 3) := by decide +kernel
theorem dX12_readsTurns_111 : decode cX12_readsTurns 111 = .ok (.goto 4, 3) := by decide +kernel
theorem dX12_readsTurns_114 : decode cX12_readsTurns 114 = .ok (.iconst (-1), 1) := by decide +kernel
theorem dX12_readsTurns_115 : decode cX12_readsTurns 115 = .ok (.istore 4, 2) := by decide +kernel
theorem dX12_readsTurns_117 : decode cX12_readsTurns 117 = .ok (.iconst 0, 1) := by decide +kernel
theorem dX12_readsTurns_118 : decode cX12_readsTurns 118 = .ok (.istore 5, 2) := by decide +kernel
theorem dX12_readsTurns_120 : decode cX12_readsTurns 120 = .ok (.iload 5, 2) := by decide +kernel
theorem dX12_readsTurns_122 : decode cX12_readsTurns 122 = .ok (.iload_n 3, 1) := by decide +kernel
theorem dX12_readsTurns_123 : decode cX12_readsTurns 123 = .ok (.if_icmp .ge 41, 3) := by decide +kernel
theorem dX12_readsTurns_126 : decode cX12_readsTurns 126 = .ok (.aload_n 0, 1) := by decide +kernel
theorem dX12_readsTurns_127 : decode cX12_readsTurns 127 = .ok (.invokevirtual 174, 3) := by decide +kernel
theorem dX12_readsTurns_130 : decode cX12_readsTurns 130 = .ok (.ifCond .eq 34, 3) := by decide +kernel
theorem dX12_readsTurns_133 : decode cX12_readsTurns 133 = .ok (.aload_n 0, 1) := by decide +kernel
theorem dX12_readsTurns_134 : decode cX12_readsTurns 134 = .ok (.getfield 59, 3) := by decide +kernel
theorem dX12_readsTurns_137 : decode cX12_readsTurns 137 = .ok (.iload_n 1, 1) := by decide +kernel
theorem dX12_readsTurns_138 : decode cX12_readsTurns 138 = .ok (.iconst 2, 1) := by decide +kernel
theorem dX12_readsTurns_139 : decode cX12_readsTurns 139 = .ok (.iadd, 1) := by decide +kernel
theorem dX12_readsTurns_140 : decode cX12_readsTurns 140 = .ok (.iload 5, 2) := by decide +kernel
theorem dX12_readsTurns_142 : decode cX12_readsTurns 142 = .ok (.iadd, 1) := by decide +kernel
theorem dX12_readsTurns_143 : decode cX12_readsTurns 143 = .ok (.iaload, 1) := by decide +kernel
theorem dX12_readsTurns_144 : decode cX12_readsTurns 144 = .ok (.iload 4, 2) := by decide +kernel
theorem dX12_readsTurns_146 : decode cX12_readsTurns 146 = .ok (.if_icmp .ne 12, 3) := by decide +kernel
theorem dX12_readsTurns_149 : decode cX12_readsTurns 149 = .ok (.aload_n 0, 1) := by decide +kernel
theorem dX12_readsTurns_150 : decode cX12_readsTurns 150 = .ok (.iconst 3, 1) := by decide +kernel
theorem dX12_readsTurns_151 : decode cX12_readsTurns 151 = .ok (.aload_n 0, 1) := by decide +kernel
theorem dX12_readsTurns_152 : decode cX12_readsTurns 152 = .ok (.getfield 114, 3) := by decide +kernel
theorem dX12_readsTurns_155 : decode cX12_readsTurns 155 = .ok (.invokevirtual 188, 3) := by decide +kernel
theorem dX12_readsTurns_158 : decode cX12_readsTurns 158 = .ok (.iinc 5 1, 3) := by decide +kernel
theorem dX12_readsTurns_161 : decode cX12_readsTurns 161 = .ok (.goto (-41), 3) := by decide +kernel
theorem dX12_readsTurns_164 : decode cX12_readsTurns 164 = .ok (.aload_n 0, 1) := by decide +kernel
theorem dX12_readsTurns_165 : decode cX12_readsTurns 165 = .ok (.invokevirtual 174, 3) := by decide +kernel
theorem dX12_readsTurns_168 : decode cX12_readsTurns 168 = .ok (.ifCond .ne 4, 3) := by decide +kernel
theorem dX12_readsTurns_171 : decode cX12_readsTurns 171 = .ok (.return_, 1) := by decide +kernel
theorem dX12_readsTurns_172 : decode cX12_readsTurns 172 = .ok (.aload_n 0, 1) := by decide +kernel
theorem dX12_readsTurns_173 : decode cX12_readsTurns 173 = .ok (.getfield 59, 3) := by decide +kernel
theorem dX12_readsTurns_176 : decode cX12_readsTurns 176 = .ok (.iload_n 1, 1) := by decide +kernel
theorem dX12_readsTurns_177 : decode cX12_readsTurns 177 = .ok (.iconst 2, 1) := by decide +kernel
theorem dX12_readsTurns_178 : decode cX12_readsTurns 178 = .ok (.iadd, 1) := by decide +kernel
theorem dX12_readsTurns_179 : decode cX12_readsTurns 179 = .ok (.iload_n 3, 1) := by decide +kernel
theorem dX12_readsTurns_180 : decode cX12_readsTurns 180 = .ok (.iadd, 1) := by decide +kernel
theorem dX12_readsTurns_181 : decode cX12_readsTurns 181 = .ok (.iload 4, 2) := by decide +kernel
theorem dX12_readsTurns_183 : decode cX12_readsTurns 183 = .ok (.iastore, 1) := by decide +kernel
theorem dX12_readsTurns_184 : decode cX12_readsTurns 184 = .ok (.aload_n 0, 1) := by decide +kernel
theorem dX12_readsTurns_185 : decode cX12_readsTurns 185 = .ok (.getfield 59, 3) := by decide +kernel
theorem dX12_readsTurns_188 : decode cX12_readsTurns 188 = .ok (.iload_n 1, 1) := by decide +kernel
theorem dX12_readsTurns_189 : decode cX12_readsTurns 189 = .ok (.iconst 1, 1) := by decide +kernel
theorem dX12_readsTurns_190 : decode cX12_readsTurns 190 = .ok (.iadd, 1) := by decide +kernel
theorem dX12_readsTurns_191 : decode cX12_readsTurns 191 = .ok (.dup2, 1) := by decide +kernel
theorem dX12_readsTurns_192 : decode cX12_readsTurns 192 = .ok (.iaload, 1) := by decide +kernel
theorem dX12_readsTurns_193 : decode cX12_readsTurns 193 = .ok (.iconst 1, 1) := by decide +kernel
theorem dX12_readsTurns_194 : decode cX12_readsTurns 194 = .ok (.iadd, 1) := by decide +kernel
theorem dX12_readsTurns_195 : decode cX12_readsTurns 195 = .ok (.iastore, 1) := by decide +kernel
theorem dX12_readsTurns_196 : decode cX12_readsTurns 196 = .ok (.aload_n 0, 1) := by decide +kernel
theorem dX12_readsTurns_197 : decode cX12_readsTurns 197 = .ok (.invokevirtual 178, 3) := by decide +kernel
theorem dX12_readsTurns_200 : decode cX12_readsTurns 200 = .ok (.bipush 44, 2) := by decide +kernel
theorem dX12_readsTurns_202 : decode cX12_readsTurns 202 = .ok (.if_icmp .eq 7, 3) := by decide +kernel
theorem dX12_readsTurns_205 : decode cX12_readsTurns 205 = .ok (.iload_n 3, 1) := by decide +kernel
theorem dX12_readsTurns_206 : decode cX12_readsTurns 206 = .ok (.ifCond .ne 7, 3) := by decide +kernel
theorem dX12_readsTurns_209 : decode cX12_readsTurns 209 = .ok (.iconst 1, 1) := by decide +kernel
theorem dX12_readsTurns_210 : decode cX12_readsTurns 210 = .ok (.goto 4, 3) := by decide +kernel
theorem dX12_readsTurns_213 : decode cX12_readsTurns 213 = .ok (.iconst 0, 1) := by decide +kernel
theorem dX12_readsTurns_214 : decode cX12_readsTurns 214 = .ok (.istore_n 2, 1) := by decide +kernel
theorem dX12_readsTurns_215 : decode cX12_readsTurns 215 = .ok (.iload_n 2, 1) := by decide +kernel
theorem dX12_readsTurns_216 : decode cX12_readsTurns 216 = .ok (.ifCond .eq 25, 3) := by decide +kernel
theorem dX12_readsTurns_219 : decode cX12_readsTurns 219 = .ok (.aload_n 0, 1) := by decide +kernel
theorem dX12_readsTurns_220 : decode cX12_readsTurns 220 = .ok (.invokevirtual 178, 3) := by decide +kernel
theorem dX12_readsTurns_223 : decode cX12_readsTurns 223 = .ok (.bipush 44, 2) := by decide +kernel
theorem dX12_readsTurns_225 : decode cX12_readsTurns 225 = .ok (.if_icmp .ne 16, 3) := by decide +kernel
theorem dX12_readsTurns_228 : decode cX12_readsTurns 228 = .ok (.aload_n 0, 1) := by decide +kernel
theorem dX12_readsTurns_229 : decode cX12_readsTurns 229 = .ok (.dup, 1) := by decide +kernel
theorem dX12_readsTurns_230 : decode cX12_readsTurns 230 = .ok (.getfield 111, 3) := by decide +kernel
theorem dX12_readsTurns_233 : decode cX12_readsTurns 233 = .ok (.iconst 1, 1) := by decide +kernel
theorem dX12_readsTurns_234 : decode cX12_readsTurns 234 = .ok (.iadd, 1) := by decide +kernel
theorem dX12_readsTurns_235 : decode cX12_readsTurns 235 = .ok (.putfield 111, 3) := by decide +kernel
theorem dX12_readsTurns_238 : decode cX12_readsTurns 238 = .ok (.goto 16, 3) := by decide +kernel
theorem dX12_readsTurns_241 : decode cX12_readsTurns 241 = .ok (.iload_n 2, 1) := by decide +kernel
theorem dX12_readsTurns_242 : decode cX12_readsTurns 242 = .ok (.ifCond .eq 12, 3) := by decide +kernel
theorem dX12_readsTurns_245 : decode cX12_readsTurns 245 = .ok (.aload_n 0, 1) := by decide +kernel
theorem dX12_readsTurns_246 : decode cX12_readsTurns 246 = .ok (.iconst 1, 1) := by decide +kernel
theorem dX12_readsTurns_247 : decode cX12_readsTurns 247 = .ok (.aload_n 0, 1) := by decide +kernel
theorem dX12_readsTurns_248 : decode cX12_readsTurns 248 = .ok (.getfield 111, 3) := by decide +kernel
theorem dX12_readsTurns_251 : decode cX12_readsTurns 251 = .ok (.invokevirtual 188, 3) := by decide +kernel
theorem dX12_readsTurns_254 : decode cX12_readsTurns 254 = .ok (.goto (-197), 3) := by decide +kernel
theorem dX12_readsTurns_257 : decode cX12_readsTurns 257 = .ok (.aload_n 0, 1) := by decide +kernel
theorem dX12_readsTurns_258 : decode cX12_readsTurns 258 = .ok (.dup, 1) := by decide +kernel
theorem dX12_readsTurns_259 : decode cX12_readsTurns 259 = .ok (.getfield 41, 3) := by decide +kernel
theorem dX12_readsTurns_262 : decode cX12_readsTurns 262 = .ok (.iconst 1, 1) := by decide +kernel
theorem dX12_readsTurns_263 : decode cX12_readsTurns 263 = .ok (.iadd, 1) := by decide +kernel
theorem dX12_readsTurns_264 : decode cX12_readsTurns 264 = .ok (.putfield 41, 3) := by decide +kernel
theorem dX12_readsTurns_267 : decode cX12_readsTurns 267 = .ok (.return_, 1) := by decide +kernel
abbrev rm_M_readsTurns : Room := { frames := 5, cells := 0, slots := 0, locals := 103 }
def M_readsTurns_l120 (σ : Sg) (x1 : Int32) (x3 : Int32) (x4 : Int32) (x5 : Int32) : Option ((Sg × Int32) ⊕ (Sg × Int32)) :=
  if x3 ≤ x5 then (
    some (.inr (σ, x5))
  ) else (
    (M_goesWell σ).bind fun r127 =>
    if (zb r127) = 0 then (
      some (.inr (σ, x5))
    ) else (
      zrd σ 179 16 ((x1 + 2) + x5) fun v143 =>
      if v143 = x4 then (
        zgt σ 171 34 fun v152 =>
        (M_faults σ 3 v152).bind fun r155 =>
        zlt (x5 + 1) fun v158 =>
        some (.inl (r155, v158))
      ) else (
        zlt (x5 + 1) fun v158 =>
        some (.inl (σ, v158))
      )
    )
  )
set_option maxRecDepth 20000 in
theorem t_M_readsTurns_l120 {X : Zx} {Q : State → Prop} {σ : Sg} {x1 : Int32} {x3 : Int32} {x4 : Int32} {x5 : Int32} (ok : Zok X cX12_readsTurns RX12 rm_M_readsTurns 198 6)  {out : ((Sg × Int32) ⊕ (Sg × Int32))} (hf : M_readsTurns_l120 σ x1 x3 x4 x5 = some out) (hk : zout (fun (s : (Sg × Int32)) => ZAt X Q 0 0 120 s.1 [(0, .ref (X.ad 171)), (1, .int x1), (3, .int x3), (4, .int x4), (5, .int s.2)] []) (fun (s : (Sg × Int32)) => ZAt X Q 0 0 164 s.1 [(0, .ref (X.ad 171)), (1, .int x1), (3, .int x3), (4, .int x4)] []) out) : ZAt X Q 0 0 120 σ [(0, .ref (X.ad 171)), (1, .int x1), (3, .int x3), (4, .int x4), (5, .int x5)] [] := by
  unfold M_readsTurns_l120 at hf
  refine z_iload ok dX12_readsTurns_120 4 rfl ?_
  refine z_iload_n ok dX12_readsTurns_122 2 rfl ?_
  refine z_icmp_ge (tgt := 164) ok dX12_readsTurns_123 (by decide) hf (fun _ hf => ?_) (fun _ hf => ?_)
  · obtain rfl := Option.some.inj hf
    exact z_sub [0, 1, 2, 3] rfl hk
  · refine z_aload_n ok dX12_readsTurns_126 0 rfl ?_
    refine z_call hf (fun r127 h127 hf => ?_)
    refine z_cV (As := []) (rest := []) (w := 171) ok kc_171 zc_12 (c_M_goesWell h127) rfl ⟨ml_12_174, w_M_goesWell⟩ hy_M_goesWell ⟨rfl, rfl⟩ ⟨Nat.le_of_ble_eq_true rfl, Nat.le_of_ble_eq_true rfl⟩ ⟨Nat.zero_le _, Nat.zero_le _⟩ rfl (Nat.le_of_ble_eq_true rfl) dX12_readsTurns_127 ?_
    refine z_if_eq (tgt := 164) ok dX12_readsTurns_130 (by decide) hf (fun _ hf => ?_) (fun _ hf => ?_)
    · obtain rfl := Option.some.inj hf
      exact z_sub [0, 1, 2, 3] rfl hk
    · refine z_aload_n ok dX12_readsTurns_133 0 rfl ?_
      refine z_getr (q := 179) ok kc_171 zc_12 hin_12 16 (by decide) fl_12_59 rfl dX12_readsTurns_134 ?_
      refine z_iload_n ok dX12_readsTurns_137 1 rfl ?_
      refine z_iconst (v := 2) ok dX12_readsTurns_138 (by decide) ?_
      refine z_iadd ok dX12_readsTurns_139 ?_
      refine z_iload ok dX12_readsTurns_140 4 rfl ?_
      refine z_iadd ok dX12_readsTurns_142 ?_
      refine z_iald ok kc_179 dX12_readsTurns_143 hf (fun v143 hf => ?_)
      refine z_iload ok dX12_readsTurns_144 3 rfl ?_
      refine z_icmp_ne (tgt := 158) ok dX12_readsTurns_146 (by decide) hf (fun _ hf => ?_) (fun _ hf => ?_)
      · refine z_aload_n ok dX12_readsTurns_149 0 rfl ?_
        refine z_iconst (v := 3) ok dX12_readsTurns_150 (by decide) ?_
        refine z_aload_n ok dX12_readsTurns_151 0 rfl ?_
        refine z_geti ok kc_171 zc_12 hin_12 34 (by decide) fl_12_114 rfl dX12_readsTurns_152 hf (fun v152 hf => ?_)
        refine z_call hf (fun r155 h155 hf => ?_)
        refine z_cVv (As := [.int 3, .int v152]) (rest := []) (w := 171) ok kc_171 zc_12 (c_M_faults h155) rfl ⟨ml_12_188, w_M_faults⟩ hy_M_faults ⟨rfl, rfl⟩ ⟨Nat.le_of_ble_eq_true rfl, Nat.le_of_ble_eq_true rfl⟩ ⟨Nat.zero_le _, Nat.zero_le _⟩ rfl (Nat.le_of_ble_eq_true rfl) dX12_readsTurns_155 ?_
        refine z_iinc (w := 1) (lv' := fun v158 => [(5, .int v158), (0, .ref (X.ad 171)), (1, .int x1), (3, .int x3), (4, .int x4)]) ok dX12_readsTurns_158 4 rfl (by decide) (by decide) (fun _ => rfl) hf (fun v158 hf => ?_)
        refine z_goto (tgt := 120) ok dX12_readsTurns_161 (by decide) ?_
        obtain rfl := Option.some.inj hf
        exact z_sub [1, 2, 3, 4, 0] rfl hk
      · refine z_iinc (w := 1) (lv' := fun v158 => [(5, .int v158), (0, .ref (X.ad 171)), (1, .int x1), (3, .int x3), (4, .int x4)]) ok dX12_readsTurns_158 4 rfl (by decide) (by decide) (fun _ => rfl) hf (fun v158 hf => ?_)
        refine z_goto (tgt := 120) ok dX12_readsTurns_161 (by decide) ?_
        obtain rfl := Option.some.inj hf
        exact z_sub [1, 2, 3, 4, 0] rfl hk
def M_readsTurns_j57_241 (σ : Sg) (x1 : Int32) (x2 : Int32) : Option ((Sg × Int32) ⊕ (Sg ⊕ (Sg × Int32))) :=
  if x2 = 0 then (
    some (.inl (σ, x2))
  ) else (
    zgt σ 171 33 fun v248 =>
    (M_faults σ 1 v248).bind fun r251 =>
    some (.inl (r251, x2))
  )
set_option maxRecDepth 20000 in
theorem t_M_readsTurns_j57_241 {X : Zx} {Q : State → Prop} {σ : Sg} {x1 : Int32} {x2 : Int32} (ok : Zok X cX12_readsTurns RX12 rm_M_readsTurns 198 6)  {out : ((Sg × Int32) ⊕ (Sg ⊕ (Sg × Int32)))} (hf : M_readsTurns_j57_241 σ x1 x2 = some out) (hk : zout (fun (s : (Sg × Int32)) => ZAt X Q 0 0 57 s.1 [(0, .ref (X.ad 171)), (1, .int x1), (2, .int s.2)] []) (zout (fun (r : Sg) => ZrV cX12_readsTurns X Q r) (fun (s : (Sg × Int32)) => ZAt X Q 0 0 257 s.1 [(0, .ref (X.ad 171))] [])) out) : ZAt X Q 0 0 241 σ [(0, .ref (X.ad 171)), (1, .int x1), (2, .int x2)] [] := by
  unfold M_readsTurns_j57_241 at hf
  refine z_iload_n ok dX12_readsTurns_241 2 rfl ?_
  refine z_if_eq (tgt := 254) ok dX12_readsTurns_242 (by decide) hf (fun _ hf => ?_) (fun _ hf => ?_)
  · refine z_goto (tgt := 57) ok dX12_readsTurns_254 (by decide) ?_
    obtain rfl := Option.some.inj hf
    exact z_sub [0, 1, 2] rfl hk
  · refine z_aload_n ok dX12_readsTurns_245 0 rfl ?_
    refine z_iconst (v := 1) ok dX12_readsTurns_246 (by decide) ?_
    refine z_aload_n ok dX12_readsTurns_247 0 rfl ?_
    refine z_geti ok kc_171 zc_12 hin_12 33 (by decide) fl_12_111 rfl dX12_readsTurns_248 hf (fun v248 hf => ?_)
    refine z_call hf (fun r251 h251 hf => ?_)
    refine z_cVv (As := [.int 1, .int v248]) (rest := []) (w := 171) ok kc_171 zc_12 (c_M_faults h251) rfl ⟨ml_12_188, w_M_faults⟩ hy_M_faults ⟨rfl, rfl⟩ ⟨Nat.le_of_ble_eq_true rfl, Nat.le_of_ble_eq_true rfl⟩ ⟨Nat.zero_le _, Nat.zero_le _⟩ rfl (Nat.le_of_ble_eq_true rfl) dX12_readsTurns_251 ?_
    refine z_goto (tgt := 57) ok dX12_readsTurns_254 (by decide) ?_
    obtain rfl := Option.some.inj hf
    exact z_sub [0, 1, 2] rfl hk
def M_readsTurns_j57_214 (σ : Sg) (x1 : Int32) (s0 : Int32) : Option ((Sg × Int32) ⊕ (Sg ⊕ (Sg × Int32))) :=
  if s0 = 0 then (
    M_readsTurns_j57_241 σ x1 s0
  ) else (
    (M_here σ).bind fun r220 =>
    if r220.1 = 44 then (
      zgt r220.2 171 33 fun v230 =>
      zpt r220.2 171 33 (v230 + 1) fun σ235 =>
      some (.inl (σ235, s0))
    ) else (
      M_readsTurns_j57_241 r220.2 x1 s0
    )
  )
set_option maxRecDepth 20000 in
theorem t_M_readsTurns_j57_214 {X : Zx} {Q : State → Prop} {σ : Sg} {x1 : Int32} {s0 : Int32} (ok : Zok X cX12_readsTurns RX12 rm_M_readsTurns 198 6)  {out : ((Sg × Int32) ⊕ (Sg ⊕ (Sg × Int32)))} (hf : M_readsTurns_j57_214 σ x1 s0 = some out) (hk : zout (fun (s : (Sg × Int32)) => ZAt X Q 0 0 57 s.1 [(0, .ref (X.ad 171)), (1, .int x1), (2, .int s.2)] []) (zout (fun (r : Sg) => ZrV cX12_readsTurns X Q r) (fun (s : (Sg × Int32)) => ZAt X Q 0 0 257 s.1 [(0, .ref (X.ad 171))] [])) out) : ZAt X Q 0 0 214 σ [(0, .ref (X.ad 171)), (1, .int x1)] [.int s0] := by
  unfold M_readsTurns_j57_214 at hf
  refine z_istore_n (lv' := [(2, .int s0), (0, .ref (X.ad 171)), (1, .int x1)]) ok dX12_readsTurns_214 (by decide) rfl ?_
  refine z_iload_n ok dX12_readsTurns_215 0 rfl ?_
  refine z_if_eq (tgt := 241) ok dX12_readsTurns_216 (by decide) hf (fun _ hf => ?_) (fun _ hf => ?_)
  · exact z_sub [1, 2, 0] rfl (t_M_readsTurns_j57_241 ok hf hk)
  · refine z_aload_n ok dX12_readsTurns_219 1 rfl ?_
    refine z_call hf (fun r220 h220 hf => ?_)
    refine z_cV (As := []) (rest := []) (w := 171) ok kc_171 zc_12 (c_M_here h220) rfl ⟨ml_12_178, w_M_here⟩ hy_M_here ⟨rfl, rfl⟩ ⟨Nat.le_of_ble_eq_true rfl, Nat.le_of_ble_eq_true rfl⟩ ⟨Nat.zero_le _, Nat.zero_le _⟩ rfl (Nat.le_of_ble_eq_true rfl) dX12_readsTurns_220 ?_
    refine z_bipush (v := 44) ok dX12_readsTurns_223 (by decide) ?_
    refine z_icmp_ne (tgt := 241) ok dX12_readsTurns_225 (by decide) hf (fun _ hf => ?_) (fun _ hf => ?_)
    · refine z_aload_n ok dX12_readsTurns_228 1 rfl ?_
      refine z_dup ok dX12_readsTurns_229 rfl ?_
      refine z_geti ok kc_171 zc_12 hin_12 33 (by decide) fl_12_111 rfl dX12_readsTurns_230 hf (fun v230 hf => ?_)
      refine z_iconst (v := 1) ok dX12_readsTurns_233 (by decide) ?_
      refine z_iadd ok dX12_readsTurns_234 ?_
      refine z_puti ok kc_171 zc_12 hin_12 tyX12 tyX12_ok nmX12 33 (by decide) fl_12_111 rfl rfl (tyX12_ok 33 (by decide)) dX12_readsTurns_235 hf (fun σ235 hf => ?_)
      refine z_goto (tgt := 254) ok dX12_readsTurns_238 (by decide) ?_
      refine z_goto (tgt := 57) ok dX12_readsTurns_254 (by decide) ?_
      obtain rfl := Option.some.inj hf
      exact z_sub [1, 2, 0] rfl hk
    · exact z_sub [1, 2, 0] rfl (t_M_readsTurns_j57_241 ok hf hk)
def M_readsTurns_j57_209 (σ : Sg) (x1 : Int32) : Option ((Sg × Int32) ⊕ (Sg ⊕ (Sg × Int32))) :=
  M_readsTurns_j57_214 σ x1 1
set_option maxRecDepth 20000 in
theorem t_M_readsTurns_j57_209 {X : Zx} {Q : State → Prop} {σ : Sg} {x1 : Int32} (ok : Zok X cX12_readsTurns RX12 rm_M_readsTurns 198 6)  {out : ((Sg × Int32) ⊕ (Sg ⊕ (Sg × Int32)))} (hf : M_readsTurns_j57_209 σ x1 = some out) (hk : zout (fun (s : (Sg × Int32)) => ZAt X Q 0 0 57 s.1 [(0, .ref (X.ad 171)), (1, .int x1), (2, .int s.2)] []) (zout (fun (r : Sg) => ZrV cX12_readsTurns X Q r) (fun (s : (Sg × Int32)) => ZAt X Q 0 0 257 s.1 [(0, .ref (X.ad 171))] [])) out) : ZAt X Q 0 0 209 σ [(0, .ref (X.ad 171)), (1, .int x1)] [] := by
  unfold M_readsTurns_j57_209 at hf
  refine z_iconst (v := 1) ok dX12_readsTurns_209 (by decide) ?_
  refine z_goto (tgt := 214) ok dX12_readsTurns_210 (by decide) ?_
  exact z_sub [0, 1] rfl (t_M_readsTurns_j57_214 ok hf hk)
def M_readsTurns_j57_164 (σ : Sg) (x1 : Int32) (x3 : Int32) (x4 : Int32) : Option ((Sg × Int32) ⊕ (Sg ⊕ (Sg × Int32))) :=
  (M_goesWell σ).bind fun r165 =>
  if (zb r165) = 0 then (
    some (.inr (.inl σ))
  ) else (
    zwr σ 179 16 ((x1 + 2) + x3) x4 fun σ183 =>
    zrd σ183 179 16 (x1 + 1) fun v192 =>
    zwr σ183 179 16 (x1 + 1) (v192 + 1) fun σ195 =>
    (M_here σ195).bind fun r197 =>
    if r197.1 = 44 then (
      M_readsTurns_j57_209 r197.2 x1
    ) else (
      if x3 = 0 then (
        M_readsTurns_j57_209 r197.2 x1
      ) else (
        M_readsTurns_j57_214 r197.2 x1 0
      )
    )
  )
set_option maxRecDepth 20000 in
theorem t_M_readsTurns_j57_164 {X : Zx} {Q : State → Prop} {σ : Sg} {x1 : Int32} {x3 : Int32} {x4 : Int32} (ok : Zok X cX12_readsTurns RX12 rm_M_readsTurns 198 6)  {out : ((Sg × Int32) ⊕ (Sg ⊕ (Sg × Int32)))} (hf : M_readsTurns_j57_164 σ x1 x3 x4 = some out) (hk : zout (fun (s : (Sg × Int32)) => ZAt X Q 0 0 57 s.1 [(0, .ref (X.ad 171)), (1, .int x1), (2, .int s.2)] []) (zout (fun (r : Sg) => ZrV cX12_readsTurns X Q r) (fun (s : (Sg × Int32)) => ZAt X Q 0 0 257 s.1 [(0, .ref (X.ad 171))] [])) out) : ZAt X Q 0 0 164 σ [(0, .ref (X.ad 171)), (1, .int x1), (3, .int x3), (4, .int x4)] [] := by
  unfold M_readsTurns_j57_164 at hf
  refine z_aload_n ok dX12_readsTurns_164 0 rfl ?_
  refine z_call hf (fun r165 h165 hf => ?_)
  refine z_cV (As := []) (rest := []) (w := 171) ok kc_171 zc_12 (c_M_goesWell h165) rfl ⟨ml_12_174, w_M_goesWell⟩ hy_M_goesWell ⟨rfl, rfl⟩ ⟨Nat.le_of_ble_eq_true rfl, Nat.le_of_ble_eq_true rfl⟩ ⟨Nat.zero_le _, Nat.zero_le _⟩ rfl (Nat.le_of_ble_eq_true rfl) dX12_readsTurns_165 ?_
  refine z_if_ne (tgt := 172) ok dX12_readsTurns_168 (by decide) hf (fun _ hf => ?_) (fun _ hf => ?_)
  · obtain rfl := Option.some.inj hf
    exact hk _ _ dX12_readsTurns_171
  · refine z_aload_n ok dX12_readsTurns_172 0 rfl ?_
    refine z_getr (q := 179) ok kc_171 zc_12 hin_12 16 (by decide) fl_12_59 rfl dX12_readsTurns_173 ?_
    refine z_iload_n ok dX12_readsTurns_176 1 rfl ?_
    refine z_iconst (v := 2) ok dX12_readsTurns_177 (by decide) ?_
    refine z_iadd ok dX12_readsTurns_178 ?_
    refine z_iload_n ok dX12_readsTurns_179 2 rfl ?_
    refine z_iadd ok dX12_readsTurns_180 ?_
    refine z_iload ok dX12_readsTurns_181 3 rfl ?_
    refine z_iast ok kc_179 dX12_readsTurns_183 hf (fun σ183 hf => ?_)
    refine z_aload_n ok dX12_readsTurns_184 0 rfl ?_
    refine z_getr (q := 179) ok kc_171 zc_12 hin_12 16 (by decide) fl_12_59 rfl dX12_readsTurns_185 ?_
    refine z_iload_n ok dX12_readsTurns_188 1 rfl ?_
    refine z_iconst (v := 1) ok dX12_readsTurns_189 (by decide) ?_
    refine z_iadd ok dX12_readsTurns_190 ?_
    refine z_dup2 ok dX12_readsTurns_191 rfl rfl ?_
    refine z_iald ok kc_179 dX12_readsTurns_192 hf (fun v192 hf => ?_)
    refine z_iconst (v := 1) ok dX12_readsTurns_193 (by decide) ?_
    refine z_iadd ok dX12_readsTurns_194 ?_
    refine z_iast ok kc_179 dX12_readsTurns_195 hf (fun σ195 hf => ?_)
    refine z_aload_n ok dX12_readsTurns_196 0 rfl ?_
    refine z_call hf (fun r197 h197 hf => ?_)
    refine z_cV (As := []) (rest := []) (w := 171) ok kc_171 zc_12 (c_M_here h197) rfl ⟨ml_12_178, w_M_here⟩ hy_M_here ⟨rfl, rfl⟩ ⟨Nat.le_of_ble_eq_true rfl, Nat.le_of_ble_eq_true rfl⟩ ⟨Nat.zero_le _, Nat.zero_le _⟩ rfl (Nat.le_of_ble_eq_true rfl) dX12_readsTurns_197 ?_
    refine z_bipush (v := 44) ok dX12_readsTurns_200 (by decide) ?_
    refine z_icmp_eq (tgt := 209) ok dX12_readsTurns_202 (by decide) hf (fun _ hf => ?_) (fun _ hf => ?_)
    · exact z_sub [0, 1] rfl (t_M_readsTurns_j57_209 ok hf hk)
    · refine z_iload_n ok dX12_readsTurns_205 2 rfl ?_
      refine z_if_ne (tgt := 213) ok dX12_readsTurns_206 (by decide) hf (fun _ hf => ?_) (fun _ hf => ?_)
      · exact z_sub [0, 1] rfl (t_M_readsTurns_j57_209 ok hf hk)
      · refine z_iconst (v := 0) ok dX12_readsTurns_213 (by decide) ?_
        exact z_sub [0, 1] rfl (t_M_readsTurns_j57_214 ok hf hk)
def M_readsTurns_j57_115 (σ : Sg) (x1 : Int32) (x3 : Int32) (s0 : Int32) : Option ((Sg × Int32) ⊕ (Sg ⊕ (Sg × Int32))) :=
  zlt 0 fun v118 =>
  (zit (fun (s : (Sg × Int32)) => M_readsTurns_l120 s.1 x1 x3 s0 s.2) zFU (σ, v118)).bind fun r =>
  M_readsTurns_j57_164 r.1 x1 x3 s0
set_option maxRecDepth 20000 in
theorem t_M_readsTurns_j57_115 {X : Zx} {Q : State → Prop} {σ : Sg} {x1 : Int32} {x3 : Int32} {s0 : Int32} (ok : Zok X cX12_readsTurns RX12 rm_M_readsTurns 198 6)  {out : ((Sg × Int32) ⊕ (Sg ⊕ (Sg × Int32)))} (hf : M_readsTurns_j57_115 σ x1 x3 s0 = some out) (hk : zout (fun (s : (Sg × Int32)) => ZAt X Q 0 0 57 s.1 [(0, .ref (X.ad 171)), (1, .int x1), (2, .int s.2)] []) (zout (fun (r : Sg) => ZrV cX12_readsTurns X Q r) (fun (s : (Sg × Int32)) => ZAt X Q 0 0 257 s.1 [(0, .ref (X.ad 171))] [])) out) : ZAt X Q 0 0 115 σ [(0, .ref (X.ad 171)), (1, .int x1), (3, .int x3)] [.int s0] := by
  unfold M_readsTurns_j57_115 at hf
  refine z_istore (lv' := [(4, .int s0), (0, .ref (X.ad 171)), (1, .int x1), (3, .int x3)]) ok dX12_readsTurns_115 (by decide) rfl ?_
  refine z_iconst (v := 0) ok dX12_readsTurns_117 (by decide) ?_
  refine z_nm hf (fun v118 hf => ?_)
  refine z_istore (lv' := [(5, .int v118), (4, .int s0), (0, .ref (X.ad 171)), (1, .int x1), (3, .int x3)]) ok dX12_readsTurns_118 (by decide) rfl ?_
  refine z_call hf (fun r hr hf => ?_)
  refine z_sub [2, 3, 4, 1, 0] rfl (z_iter (fun (s : (Sg × Int32)) => s.1) (fun (s : (Sg × Int32)) => [(0, .ref (X.ad 171)), (1, .int x1), (3, .int x3), (4, .int s0), (5, .int s.2)]) (fun s o h1 h2 => t_M_readsTurns_l120 ok h1 h2) _ _ _ hr ?_)
  show ZAt X Q 0 0 164 r.1 [(0, .ref (X.ad 171)), (1, .int x1), (3, .int x3), (4, .int s0)] []
  exact z_sub [0, 1, 2, 3] rfl (t_M_readsTurns_j57_164 ok hf hk)
def M_readsTurns_j57_100 (σ : Sg) (x1 : Int32) (x3 : Int32) : Option ((Sg × Int32) ⊕ (Sg ⊕ (Sg × Int32))) :=
  (M_goesWell σ).bind fun r101 =>
  if (zb r101) = 0 then (
    M_readsTurns_j57_115 σ x1 x3 (-1)
  ) else (
    (M_outletNamed σ).bind fun r108 =>
    M_readsTurns_j57_115 r108.2 x1 x3 r108.1
  )
set_option maxRecDepth 20000 in
theorem t_M_readsTurns_j57_100 {X : Zx} {Q : State → Prop} {σ : Sg} {x1 : Int32} {x3 : Int32} (ok : Zok X cX12_readsTurns RX12 rm_M_readsTurns 198 6)  {out : ((Sg × Int32) ⊕ (Sg ⊕ (Sg × Int32)))} (hf : M_readsTurns_j57_100 σ x1 x3 = some out) (hk : zout (fun (s : (Sg × Int32)) => ZAt X Q 0 0 57 s.1 [(0, .ref (X.ad 171)), (1, .int x1), (2, .int s.2)] []) (zout (fun (r : Sg) => ZrV cX12_readsTurns X Q r) (fun (s : (Sg × Int32)) => ZAt X Q 0 0 257 s.1 [(0, .ref (X.ad 171))] [])) out) : ZAt X Q 0 0 100 σ [(0, .ref (X.ad 171)), (1, .int x1), (3, .int x3)] [] := by
  unfold M_readsTurns_j57_100 at hf
  refine z_aload_n ok dX12_readsTurns_100 0 rfl ?_
  refine z_call hf (fun r101 h101 hf => ?_)
  refine z_cV (As := []) (rest := []) (w := 171) ok kc_171 zc_12 (c_M_goesWell h101) rfl ⟨ml_12_174, w_M_goesWell⟩ hy_M_goesWell ⟨rfl, rfl⟩ ⟨Nat.le_of_ble_eq_true rfl, Nat.le_of_ble_eq_true rfl⟩ ⟨Nat.zero_le _, Nat.zero_le _⟩ rfl (Nat.le_of_ble_eq_true rfl) dX12_readsTurns_101 ?_
  refine z_if_eq (tgt := 114) ok dX12_readsTurns_104 (by decide) hf (fun _ hf => ?_) (fun _ hf => ?_)
  · refine z_iconst (v := (-1)) ok dX12_readsTurns_114 (by decide) ?_
    exact z_sub [0, 1, 2] rfl (t_M_readsTurns_j57_115 ok hf hk)
  · refine z_aload_n ok dX12_readsTurns_107 0 rfl ?_
    refine z_call hf (fun r108 h108 hf => ?_)
    refine z_cV (As := []) (rest := []) (w := 171) ok kc_171 zc_12 (c_M_outletNamed h108) rfl ⟨ml_12_227, w_M_outletNamed⟩ hy_M_outletNamed ⟨rfl, rfl⟩ ⟨Nat.le_of_ble_eq_true rfl, Nat.le_of_ble_eq_true rfl⟩ ⟨Nat.zero_le _, Nat.zero_le _⟩ rfl (Nat.le_of_ble_eq_true rfl) dX12_readsTurns_108 ?_
    refine z_goto (tgt := 115) ok dX12_readsTurns_111 (by decide) ?_
    exact z_sub [0, 1, 2] rfl (t_M_readsTurns_j57_115 ok hf hk)
def M_readsTurns_l57 (σ : Sg) (x1 : Int32) (x2 : Int32) : Option ((Sg × Int32) ⊕ (Sg ⊕ (Sg × Int32))) :=
  if x2 = 0 then (
    some (.inr (.inr (σ, x2)))
  ) else (
    (M_goesWell σ).bind fun r62 =>
    if (zb r62) = 0 then (
      some (.inr (.inr (σ, x2)))
    ) else (
      zrd σ 179 16 (x1 + 1) fun v75 =>
      (M_here σ).bind fun r78 =>
      if r78.1 = (-1) then (
        M_readsTurns_j57_100 r78.2 x1 v75
      ) else (
        if v75 = 6 then (
          zgt r78.2 171 33 fun v94 =>
          (M_faults r78.2 5 v94).bind fun r97 =>
          M_readsTurns_j57_100 r97 x1 v75
        ) else (
          M_readsTurns_j57_100 r78.2 x1 v75
        )
      )
    )
  )
set_option maxRecDepth 20000 in
theorem t_M_readsTurns_l57 {X : Zx} {Q : State → Prop} {σ : Sg} {x1 : Int32} {x2 : Int32} (ok : Zok X cX12_readsTurns RX12 rm_M_readsTurns 198 6)  {out : ((Sg × Int32) ⊕ (Sg ⊕ (Sg × Int32)))} (hf : M_readsTurns_l57 σ x1 x2 = some out) (hk : zout (fun (s : (Sg × Int32)) => ZAt X Q 0 0 57 s.1 [(0, .ref (X.ad 171)), (1, .int x1), (2, .int s.2)] []) (zout (fun (r : Sg) => ZrV cX12_readsTurns X Q r) (fun (s : (Sg × Int32)) => ZAt X Q 0 0 257 s.1 [(0, .ref (X.ad 171))] [])) out) : ZAt X Q 0 0 57 σ [(0, .ref (X.ad 171)), (1, .int x1), (2, .int x2)] [] := by
  unfold M_readsTurns_l57 at hf
  refine z_iload_n ok dX12_readsTurns_57 2 rfl ?_
  refine z_if_eq (tgt := 257) ok dX12_readsTurns_58 (by decide) hf (fun _ hf => ?_) (fun _ hf => ?_)
  · obtain rfl := Option.some.inj hf
    exact z_sub [0] rfl hk
  · refine z_aload_n ok dX12_readsTurns_61 0 rfl ?_
    refine z_call hf (fun r62 h62 hf => ?_)
    refine z_cV (As := []) (rest := []) (w := 171) ok kc_171 zc_12 (c_M_goesWell h62) rfl ⟨ml_12_174, w_M_goesWell⟩ hy_M_goesWell ⟨rfl, rfl⟩ ⟨Nat.le_of_ble_eq_true rfl, Nat.le_of_ble_eq_true rfl⟩ ⟨Nat.zero_le _, Nat.zero_le _⟩ rfl (Nat.le_of_ble_eq_true rfl) dX12_readsTurns_62 ?_
    refine z_if_eq (tgt := 257) ok dX12_readsTurns_65 (by decide) hf (fun _ hf => ?_) (fun _ hf => ?_)
    · obtain rfl := Option.some.inj hf
      exact z_sub [0] rfl hk
    · refine z_aload_n ok dX12_readsTurns_68 0 rfl ?_
      refine z_getr (q := 179) ok kc_171 zc_12 hin_12 16 (by decide) fl_12_59 rfl dX12_readsTurns_69 ?_
      refine z_iload_n ok dX12_readsTurns_72 1 rfl ?_
      refine z_iconst (v := 1) ok dX12_readsTurns_73 (by decide) ?_
      refine z_iadd ok dX12_readsTurns_74 ?_
      refine z_iald ok kc_179 dX12_readsTurns_75 hf (fun v75 hf => ?_)
      refine z_istore_n (lv' := [(3, .int v75), (0, .ref (X.ad 171)), (1, .int x1), (2, .int x2)]) ok dX12_readsTurns_76 (by decide) rfl ?_
      refine z_aload_n ok dX12_readsTurns_77 1 rfl ?_
      refine z_call hf (fun r78 h78 hf => ?_)
      refine z_cV (As := []) (rest := []) (w := 171) ok kc_171 zc_12 (c_M_here h78) rfl ⟨ml_12_178, w_M_here⟩ hy_M_here ⟨rfl, rfl⟩ ⟨Nat.le_of_ble_eq_true rfl, Nat.le_of_ble_eq_true rfl⟩ ⟨Nat.zero_le _, Nat.zero_le _⟩ rfl (Nat.le_of_ble_eq_true rfl) dX12_readsTurns_78 ?_
      refine z_iconst (v := (-1)) ok dX12_readsTurns_81 (by decide) ?_
      refine z_icmp_eq (tgt := 100) ok dX12_readsTurns_82 (by decide) hf (fun _ hf => ?_) (fun _ hf => ?_)
      · exact z_sub [1, 2, 0] rfl (t_M_readsTurns_j57_100 ok hf hk)
      · refine z_iload_n ok dX12_readsTurns_85 0 rfl ?_
        refine z_bipush (v := 6) ok dX12_readsTurns_86 (by decide) ?_
        refine z_icmp_ne (tgt := 100) ok dX12_readsTurns_88 (by decide) hf (fun _ hf => ?_) (fun _ hf => ?_)
        · refine z_aload_n ok dX12_readsTurns_91 1 rfl ?_
          refine z_iconst (v := 5) ok dX12_readsTurns_92 (by decide) ?_
          refine z_aload_n ok dX12_readsTurns_93 1 rfl ?_
          refine z_geti ok kc_171 zc_12 hin_12 33 (by decide) fl_12_111 rfl dX12_readsTurns_94 hf (fun v94 hf => ?_)
          refine z_call hf (fun r97 h97 hf => ?_)
          refine z_cVv (As := [.int 5, .int v94]) (rest := []) (w := 171) ok kc_171 zc_12 (c_M_faults h97) rfl ⟨ml_12_188, w_M_faults⟩ hy_M_faults ⟨rfl, rfl⟩ ⟨Nat.le_of_ble_eq_true rfl, Nat.le_of_ble_eq_true rfl⟩ ⟨Nat.zero_le _, Nat.zero_le _⟩ rfl (Nat.le_of_ble_eq_true rfl) dX12_readsTurns_97 ?_
          exact z_sub [1, 2, 0] rfl (t_M_readsTurns_j57_100 ok hf hk)
        · exact z_sub [1, 2, 0] rfl (t_M_readsTurns_j57_100 ok hf hk)
def M_readsTurns_j17 (σ : Sg)  : Option Sg :=
  (M_goesWell σ).bind fun r18 =>
  if (zb r18) = 0 then (
    some σ
  ) else (
    zgt σ 171 10 fun v28 =>
    zlt (8 * v28) fun v32 =>
    (M_number σ 1 30).bind fun r42 =>
    zwr r42.2 179 16 v32 r42.1 fun σ45 =>
    zwr σ45 179 16 (v32 + 1) 0 fun σ54 =>
    zlt 1 fun v56 =>
    (zit (fun (s : (Sg × Int32)) => M_readsTurns_l57 s.1 v32 s.2) zFU (σ54, v56)).bind fun r => r.elim (fun r =>
    some r
    ) (fun r =>
    zgt r.1 171 10 fun v259 =>
    zpt r.1 171 10 (v259 + 1) fun σ264 =>
    some σ264
    )
  )
set_option maxRecDepth 20000 in
theorem t_M_readsTurns_j17 {X : Zx} {Q : State → Prop} {σ : Sg}  (ok : Zok X cX12_readsTurns RX12 rm_M_readsTurns 198 6)  {out : Sg} (hf : M_readsTurns_j17 σ = some out) (hk : ZrV cX12_readsTurns X Q out) : ZAt X Q 0 0 17 σ [(0, .ref (X.ad 171))] [] := by
  unfold M_readsTurns_j17 at hf
  refine z_aload_n ok dX12_readsTurns_17 0 rfl ?_
  refine z_call hf (fun r18 h18 hf => ?_)
  refine z_cV (As := []) (rest := []) (w := 171) ok kc_171 zc_12 (c_M_goesWell h18) rfl ⟨ml_12_174, w_M_goesWell⟩ hy_M_goesWell ⟨rfl, rfl⟩ ⟨Nat.le_of_ble_eq_true rfl, Nat.le_of_ble_eq_true rfl⟩ ⟨Nat.zero_le _, Nat.zero_le _⟩ rfl (Nat.le_of_ble_eq_true rfl) dX12_readsTurns_18 ?_
  refine z_if_ne (tgt := 25) ok dX12_readsTurns_21 (by decide) hf (fun _ hf => ?_) (fun _ hf => ?_)
  · obtain rfl := Option.some.inj hf
    exact hk _ _ dX12_readsTurns_24
  · refine z_bipush (v := 8) ok dX12_readsTurns_25 (by decide) ?_
    refine z_aload_n ok dX12_readsTurns_27 0 rfl ?_
    refine z_geti ok kc_171 zc_12 hin_12 10 (by decide) fl_12_41 rfl dX12_readsTurns_28 hf (fun v28 hf => ?_)
    refine z_imul ok dX12_readsTurns_31 ?_
    refine z_nm hf (fun v32 hf => ?_)
    refine z_istore_n (lv' := [(1, .int v32), (0, .ref (X.ad 171))]) ok dX12_readsTurns_32 (by decide) rfl ?_
    refine z_aload_n ok dX12_readsTurns_33 1 rfl ?_
    refine z_getr (q := 179) ok kc_171 zc_12 hin_12 16 (by decide) fl_12_59 rfl dX12_readsTurns_34 ?_
    refine z_iload_n ok dX12_readsTurns_37 0 rfl ?_
    refine z_aload_n ok dX12_readsTurns_38 1 rfl ?_
    refine z_iconst (v := 1) ok dX12_readsTurns_39 (by decide) ?_
    refine z_bipush (v := 30) ok dX12_readsTurns_40 (by decide) ?_
    refine z_call hf (fun r42 h42 hf => ?_)
    refine z_cV (As := [.int 1, .int 30]) (rest := [.int v32, .ref (X.ad 179)]) (w := 171) ok kc_171 zc_12 (c_M_number h42) rfl ⟨ml_12_215, w_M_number⟩ hy_M_number ⟨rfl, rfl⟩ ⟨Nat.le_of_ble_eq_true rfl, Nat.le_of_ble_eq_true rfl⟩ ⟨Nat.zero_le _, Nat.zero_le _⟩ rfl (Nat.le_of_ble_eq_true rfl) dX12_readsTurns_42 ?_
    refine z_iast ok kc_179 dX12_readsTurns_45 hf (fun σ45 hf => ?_)
    refine z_aload_n ok dX12_readsTurns_46 1 rfl ?_
    refine z_getr (q := 179) ok kc_171 zc_12 hin_12 16 (by decide) fl_12_59 rfl dX12_readsTurns_47 ?_
    refine z_iload_n ok dX12_readsTurns_50 0 rfl ?_
    refine z_iconst (v := 1) ok dX12_readsTurns_51 (by decide) ?_
    refine z_iadd ok dX12_readsTurns_52 ?_
    refine z_iconst (v := 0) ok dX12_readsTurns_53 (by decide) ?_
    refine z_iast ok kc_179 dX12_readsTurns_54 hf (fun σ54 hf => ?_)
    refine z_iconst (v := 1) ok dX12_readsTurns_55 (by decide) ?_
    refine z_nm hf (fun v56 hf => ?_)
    refine z_istore_n (lv' := [(2, .int v56), (1, .int v32), (0, .ref (X.ad 171))]) ok dX12_readsTurns_56 (by decide) rfl ?_
    refine z_call hf (fun r hr hf => ?_)
    refine z_sub [2, 1, 0] rfl (z_iter (fun (s : (Sg × Int32)) => s.1) (fun (s : (Sg × Int32)) => [(0, .ref (X.ad 171)), (1, .int v32), (2, .int s.2)]) (fun s o h1 h2 => t_M_readsTurns_l57 ok h1 h2) _ _ _ hr ?_)
    cases r with
    | inl r =>
      obtain rfl := Option.some.inj hf
      exact hk
    | inr r =>
      simp only [Sum.elim_inr] at hf
      show ZAt X Q 0 0 257 r.1 [(0, .ref (X.ad 171))] []
      refine z_aload_n ok dX12_readsTurns_257 0 rfl ?_
      refine z_dup ok dX12_readsTurns_258 rfl ?_
      refine z_geti ok kc_171 zc_12 hin_12 10 (by decide) fl_12_41 rfl dX12_readsTurns_259 hf (fun v259 hf => ?_)
      refine z_iconst (v := 1) ok dX12_readsTurns_262 (by decide) ?_
      refine z_iadd ok dX12_readsTurns_263 ?_
      refine z_puti ok kc_171 zc_12 hin_12 tyX12 tyX12_ok nmX12 10 (by decide) fl_12_41 rfl rfl (tyX12_ok 10 (by decide)) dX12_readsTurns_264 hf (fun σ264 hf => ?_)
      obtain rfl := Option.some.inj hf
      exact hk _ _ dX12_readsTurns_267
def M_readsTurns (σ : Sg)  : Option Sg :=
  zgt σ 171 10 fun v1 =>
  if v1 = 2 then (
    zgt σ 171 34 fun v11 =>
    (M_faults σ 5 v11).bind fun r14 =>
    M_readsTurns_j17 r14
  ) else (
    M_readsTurns_j17 σ
  )
set_option maxRecDepth 20000 in
theorem t_M_readsTurns {X : Zx} {Q : State → Prop} {σ : Sg}  (ok : Zok X cX12_readsTurns RX12 rm_M_readsTurns 198 6)  {out : Sg} (hf : M_readsTurns σ = some out) (hk : ZrV cX12_readsTurns X Q out) : ZAt X Q 0 0 0 σ [(0, .ref (X.ad 171))] [] := by
  unfold M_readsTurns at hf
  refine z_aload_n ok dX12_readsTurns_0 0 rfl ?_
  refine z_geti ok kc_171 zc_12 hin_12 10 (by decide) fl_12_41 rfl dX12_readsTurns_1 hf (fun v1 hf => ?_)
  refine z_iconst (v := 2) ok dX12_readsTurns_4 (by decide) ?_
  refine z_icmp_ne (tgt := 17) ok dX12_readsTurns_5 (by decide) hf (fun _ hf => ?_) (fun _ hf => ?_)
  · refine z_aload_n ok dX12_readsTurns_8 0 rfl ?_
    refine z_iconst (v := 5) ok dX12_readsTurns_9 (by decide) ?_
    refine z_aload_n ok dX12_readsTurns_10 0 rfl ?_
    refine z_geti ok kc_171 zc_12 hin_12 34 (by decide) fl_12_114 rfl dX12_readsTurns_11 hf (fun v11 hf => ?_)
    refine z_call hf (fun r14 h14 hf => ?_)
    refine z_cVv (As := [.int 5, .int v11]) (rest := []) (w := 171) ok kc_171 zc_12 (c_M_faults h14) rfl ⟨ml_12_188, w_M_faults⟩ hy_M_faults ⟨rfl, rfl⟩ ⟨Nat.le_of_ble_eq_true rfl, Nat.le_of_ble_eq_true rfl⟩ ⟨Nat.zero_le _, Nat.zero_le _⟩ rfl (Nat.le_of_ble_eq_true rfl) dX12_readsTurns_14 ?_
    exact z_sub [0] rfl (t_M_readsTurns_j17 ok hf hk)
  · exact z_sub [0] rfl (t_M_readsTurns_j17 ok hf hk)
theorem c_M_readsTurns {σ : Sg} {r : Sg} (h : M_readsTurns σ = some r) : ZcV yX12_readsTurns cX12_readsTurns 6 rm_M_readsTurns 198 (fun ad => [.ref (ad 171)]) σ r :=
  zmetV pn_12 rfl (fun _ => rfl) (fun _ => Nat.le_of_ble_eq_true rfl) (fun X Q ok hk => t_M_readsTurns ok h hk)
theorem dX12_readsAll_0 : decode cX12_readsAll 0 = .ok (.aload_n 0, 1) := by decide +kernel
theorem dX12_readsAll_1 : decode cX12_readsAll 1 = .ok (.iconst 0, 1) := by decide +kernel
theorem dX12_readsAll_2 : decode cX12_readsAll 2 = .ok (.putfield 35, 3) := by decide +kernel
theorem dX12_readsAll_5 : decode cX12_readsAll 5 = .ok (.aload_n 0, 1) := by decide +kernel
theorem dX12_readsAll_6 : decode cX12_readsAll 6 = .ok (.iconst 0, 1) := by decide +kernel
theorem dX12_readsAll_7 : decode cX12_readsAll 7 = .ok (.putfield 38, 3) := by decide +kernel
theorem dX12_readsAll_10 : decode cX12_readsAll 10 = .ok (.aload_n 0, 1) := by decide +kernel
theorem dX12_readsAll_11 : decode cX12_readsAll 11 = .ok (.iconst 0, 1) := by decide +kernel
theorem dX12_readsAll_12 : decode cX12_readsAll 12 = .ok (.putfield 41, 3) := by decide +kernel
theorem dX12_readsAll_15 : decode cX12_readsAll 15 = .ok (.aload_n 0, 1) := by decide +kernel
theorem dX12_readsAll_16 : decode cX12_readsAll 16 = .ok (.iconst 0, 1) := by decide +kernel
theorem dX12_readsAll_17 : decode cX12_readsAll 17 = .ok (.putfield 44, 3) := by decide +kernel
theorem dX12_readsAll_20 : decode cX12_readsAll 20 = .ok (.aload_n 0, 1) := by decide +kernel
theorem dX12_readsAll_21 : decode cX12_readsAll 21 = .ok (.iconst 4, 1) := by decide +kernel
theorem dX12_readsAll_22 : decode cX12_readsAll 22 = .ok (.putfield 50, 3) := by decide +kernel
theorem dX12_readsAll_25 : decode cX12_readsAll 25 = .ok (.aload_n 0, 1) := by decide +kernel
theorem dX12_readsAll_26 : decode cX12_readsAll 26 = .ok (.iconst 0, 1) := by decide +kernel
theorem dX12_readsAll_27 : decode cX12_readsAll 27 = .ok (.invokevirtual 212, 3) := by decide +kernel
theorem dX12_readsAll_30 : decode cX12_readsAll 30 = .ok (.aload_n 0, 1) := by decide +kernel
theorem dX12_readsAll_31 : decode cX12_readsAll 31 = .ok (.aload_n 0, 1) := by decide +kernel
theorem dX12_readsAll_32 : decode cX12_readsAll 32 = .ok (.iconst 1, 1) := by decide +kernel
theorem dX12_readsAll_33 : decode cX12_readsAll 33 = .ok (.iconst 0, 1) := by decide +kernel
theorem dX12_readsAll_34 : decode cX12_readsAll 34 = .ok (.sipush 999, 3) := by decide +kernel
theorem dX12_readsAll_37 : decode cX12_readsAll 37 = .ok (.invokevirtual 223, 3) := by decide +kernel
theorem dX12_readsAll_40 : decode cX12_readsAll 40 = .ok (.putfield 47, 3) := by decide +kernel
theorem dX12_readsAll_43 : decode cX12_readsAll 43 = .ok (.aload_n 0, 1) := by decide +kernel
theorem dX12_readsAll_44 : decode cX12_readsAll 44 = .ok (.invokevirtual 230, 3) := by decide +kernel
theorem dX12_readsAll_47 : decode cX12_readsAll 47 = .ok (.iconst 1, 1) := by decide +kernel
theorem dX12_readsAll_48 : decode cX12_readsAll 48 = .ok (.istore_n 1, 1) := by decide +kernel
theorem dX12_readsAll_49 : decode cX12_readsAll 49 = .ok (.aload_n 0, 1) := by decide +kernel
theorem dX12_readsAll_50 : decode cX12_readsAll 50 = .ok (.invokevirtual 174, 3) := by decide +kernel
theorem dX12_readsAll_53 : decode cX12_readsAll 53 = .ok (.ifCond .eq 129, 3) := by decide +kernel
theorem dX12_readsAll_56 : decode cX12_readsAll 56 = .ok (.aload_n 0, 1) := by decide +kernel
theorem dX12_readsAll_57 : decode cX12_readsAll 57 = .ok (.invokevirtual 178, 3) := by decide +kernel
theorem dX12_readsAll_60 : decode cX12_readsAll 60 = .ok (.iconst (-1), 1) := by decide +kernel
theorem dX12_readsAll_61 : decode cX12_readsAll 61 = .ok (.if_icmp .eq 121, 3) := by decide +kernel
theorem dX12_readsAll_64 : decode cX12_readsAll 64 = .ok (.aload_n 0, 1) := by decide +kernel
theorem dX12_readsAll_65 : decode cX12_readsAll 65 = .ok (.invokevirtual 192, 3) := by decide +kernel
theorem dX12_readsAll_68 : decode cX12_readsAll 68 = .ok (.aload_n 0, 1) := by decide +kernel
theorem dX12_readsAll_69 : decode cX12_readsAll 69 = .ok (.invokevirtual 174, 3) := by decide +kernel
theorem dX12_readsAll_72 : decode cX12_readsAll 72 = .ok (.ifCond .eq 10, 3) := by decide +kernel
theorem dX12_readsAll_75 : decode cX12_readsAll 75 = .ok (.aload_n 0, 1) := by decide +kernel
theorem dX12_readsAll_76 : decode cX12_readsAll 76 = .ok (.invokevirtual 195, 3) := by decide +kernel
theorem dX12_readsAll_79 : decode cX12_readsAll 79 = .ok (.goto 4, 3) := by decide +kernel
theorem dX12_readsAll_82 : decode cX12_readsAll 82 = .ok (.iconst (-1), 1) := by decide +kernel
theorem dX12_readsAll_83 : decode cX12_readsAll 83 = .ok (.istore_n 2, 1) := by decide +kernel
theorem dX12_readsAll_84 : decode cX12_readsAll 84 = .ok (.aload_n 0, 1) := by decide +kernel
theorem dX12_readsAll_85 : decode cX12_readsAll 85 = .ok (.invokevirtual 174, 3) := by decide +kernel
theorem dX12_readsAll_88 : decode cX12_readsAll 88 = .ok (.ifCond .ne 5, 3) := by decide +kernel
theorem dX12_readsAll_91 : decode cX12_readsAll 91 = .ok (.iload_n 1, 1) := by decide +kernel
theorem dX12_readsAll_92 : decode cX12_readsAll 92 = .ok (.ireturn, 1) := by decide +kernel
theorem dX12_readsAll_93 : decode cX12_readsAll 93 = .ok (.iload_n 2, 1) := by decide +kernel
theorem dX12_readsAll_94 : decode cX12_readsAll 94 = .ok (.iconst 2, 1) := by decide +kernel
theorem dX12_readsAll_95 : decode cX12_readsAll 95 = .ok (.if_icmp .ne 17, 3) := by decide +kernel
theorem dX12_readsAll_98 : decode cX12_readsAll 98 = .ok (.aload_n 0, 1) := by decide +kernel
theorem dX12_readsAll_99 : decode cX12_readsAll 99 = .ok (.aload_n 0, 1) := by decide +kernel
theorem dX12_readsAll_100 : decode cX12_readsAll 100 = .ok (.iconst 1, 1) := by decide +kernel
theorem dX12_readsAll_101 : decode cX12_readsAll 101 = .ok (.bipush 99, 2) := by decide +kernel
theorem dX12_readsAll_103 : decode cX12_readsAll 103 = .ok (.invokevirtual 215, 3) := by decide +kernel
theorem dX12_readsAll_106 : decode cX12_readsAll 106 = .ok (.putfield 50, 3) := by decide +kernel
theorem dX12_readsAll_109 : decode cX12_readsAll 109 = .ok (.goto 63, 3) := by decide +kernel
theorem dX12_readsAll_112 : decode cX12_readsAll 112 = .ok (.iload_n 2, 1) := by decide +kernel
theorem dX12_readsAll_113 : decode cX12_readsAll 113 = .ok (.iconst 3, 1) := by decide +kernel
theorem dX12_readsAll_114 : decode cX12_readsAll 114 = .ok (.if_icmp .ne 10, 3) := by decide +kernel
theorem dX12_readsAll_117 : decode cX12_readsAll 117 = .ok (.aload_n 0, 1) := by decide +kernel
theorem dX12_readsAll_118 : decode cX12_readsAll 118 = .ok (.invokevirtual 233, 3) := by decide +kernel
theorem dX12_readsAll_121 : decode cX12_readsAll 121 = .ok (.goto 51, 3) := by decide +kernel
theorem dX12_readsAll_124 : decode cX12_readsAll 124 = .ok (.iload_n 2, 1) := by decide +kernel
theorem dX12_readsAll_125 : decode cX12_readsAll 125 = .ok (.bipush 13, 2) := by decide +kernel
theorem dX12_readsAll_127 : decode cX12_readsAll 127 = .ok (.if_icmp .ne 10, 3) := by decide +kernel
theorem dX12_readsAll_130 : decode cX12_readsAll 130 = .ok (.aload_n 0, 1) := by decide +kernel
theorem dX12_readsAll_131 : decode cX12_readsAll 131 = .ok (.invokevirtual 236, 3) := by decide +kernel
theorem dX12_readsAll_134 : decode cX12_readsAll 134 = .ok (.goto 38, 3) := by decide +kernel
theorem dX12_readsAll_137 : decode cX12_readsAll 137 = .ok (.iload_n 2, 1) := by decide +kernel
theorem dX12_readsAll_138 : decode cX12_readsAll 138 = .ok (.bipush 16, 2) := by decide +kernel
theorem dX12_readsAll_140 : decode cX12_readsAll 140 = .ok (.if_icmp .ne 10, 3) := by decide +kernel
theorem dX12_readsAll_143 : decode cX12_readsAll 143 = .ok (.aload_n 0, 1) := by decide +kernel
theorem dX12_readsAll_144 : decode cX12_readsAll 144 = .ok (.invokevirtual 239, 3) := by decide +kernel
theorem dX12_readsAll_147 : decode cX12_readsAll 147 = .ok (.goto 25, 3) := by decide +kernel
theorem dX12_readsAll_150 : decode cX12_readsAll 150 = .ok (.iload_n 2, 1) := by decide +kernel
theorem dX12_readsAll_151 : decode cX12_readsAll 151 = .ok (.bipush 19, 2) := by decide +kernel
theorem dX12_readsAll_153 : decode cX12_readsAll 153 = .ok (.if_icmp .ne 10, 3) := by decide +kernel
theorem dX12_readsAll_156 : decode cX12_readsAll 156 = .ok (.aload_n 0, 1) := by decide +kernel
theorem dX12_readsAll_157 : decode cX12_readsAll 157 = .ok (.invokevirtual 242, 3) := by decide +kernel
theorem dX12_readsAll_160 : decode cX12_readsAll 160 = .ok (.goto 12, 3) := by decide +kernel
theorem dX12_readsAll_163 : decode cX12_readsAll 163 = .ok (.aload_n 0, 1) := by decide +kernel
theorem dX12_readsAll_164 : decode cX12_readsAll 164 = .ok (.iconst 1, 1) := by decide +kernel
theorem dX12_readsAll_165 : decode cX12_readsAll 165 = .ok (.aload_n 0, 1) := by decide +kernel
theorem dX12_readsAll_166 : decode cX12_readsAll 166 = .ok (.getfield 114, 3) := by decide +kernel
theorem dX12_readsAll_169 : decode cX12_readsAll 169 = .ok (.invokevirtual 188, 3) := by decide +kernel
theorem dX12_readsAll_172 : decode cX12_readsAll 172 = .ok (.aload_n 0, 1) := by decide +kernel
theorem dX12_readsAll_173 : decode cX12_readsAll 173 = .ok (.invokevirtual 230, 3) := by decide +kernel
theorem dX12_readsAll_176 : decode cX12_readsAll 176 = .ok (.iinc 1 1, 3) := by decide +kernel
theorem dX12_readsAll_179 : decode cX12_readsAll 179 = .ok (.goto (-130), 3) := by decide +kernel
theorem dX12_readsAll_182 : decode cX12_readsAll 182 = .ok (.iload_n 1, 1) := by decide +kernel
theorem dX12_readsAll_183 : decode cX12_readsAll 183 = .ok (.ireturn, 1) := by decide +kernel
abbrev rm_M_readsAll : Room := { frames := 6, cells := 0, slots := 0, locals := 129 }
def M_readsAll_j49_83 (σ : Sg) (x1 : Int32) (s0 : Int32) : Option ((Sg × Int32) ⊕ ((Int32 × Sg) ⊕ (Sg × Int32))) :=
  (M_goesWell σ).bind fun r85 =>
  if (zb r85) = 0 then (
    some (.inr (.inl (x1, σ)))
  ) else (
    if s0 = 2 then (
      (M_number σ 1 99).bind fun r103 =>
      zpt r103.2 171 13 r103.1 fun σ106 =>
      (M_endsWell σ106).bind fun r173 =>
      zlt (x1 + 1) fun v176 =>
      some (.inl (r173, v176))
    ) else (
      if s0 = 3 then (
        (M_readsPool σ).bind fun r118 =>
        (M_endsWell r118).bind fun r173 =>
        zlt (x1 + 1) fun v176 =>
        some (.inl (r173, v176))
      ) else (
        if s0 = 13 then (
          (M_readsOutlet σ).bind fun r131 =>
          (M_endsWell r131).bind fun r173 =>
          zlt (x1 + 1) fun v176 =>
          some (.inl (r173, v176))
        ) else (
          if s0 = 16 then (
            (M_readsOrder σ).bind fun r144 =>
            (M_endsWell r144).bind fun r173 =>
            zlt (x1 + 1) fun v176 =>
            some (.inl (r173, v176))
          ) else (
            if s0 = 19 then (
              (M_readsTurns σ).bind fun r157 =>
              (M_endsWell r157).bind fun r173 =>
              zlt (x1 + 1) fun v176 =>
              some (.inl (r173, v176))
            ) else (
              zgt σ 171 34 fun v166 =>
              (M_faults σ 1 v166).bind fun r169 =>
              (M_endsWell r169).bind fun r173 =>
              zlt (x1 + 1) fun v176 =>
              some (.inl (r173, v176))
            )
          )
        )
      )
    )
  )
set_option maxRecDepth 20000 in
theorem t_M_readsAll_j49_83 {X : Zx} {Q : State → Prop} {σ : Sg} {x1 : Int32} {s0 : Int32} (ok : Zok X cX12_readsAll RX12 rm_M_readsAll 198 3)  {out : ((Sg × Int32) ⊕ ((Int32 × Sg) ⊕ (Sg × Int32)))} (hf : M_readsAll_j49_83 σ x1 s0 = some out) (hk : zout (fun (s : (Sg × Int32)) => ZAt X Q 0 0 49 s.1 [(0, .ref (X.ad 171)), (1, .int s.2)] []) (zout (fun (r : (Int32 × Sg)) => ZrI cX12_readsAll X Q r.1 r.2) (fun (s : (Sg × Int32)) => ZAt X Q 0 0 182 s.1 [(1, .int s.2)] [])) out) : ZAt X Q 0 0 83 σ [(0, .ref (X.ad 171)), (1, .int x1)] [.int s0] := by
  unfold M_readsAll_j49_83 at hf
  refine z_istore_n (lv' := [(2, .int s0), (0, .ref (X.ad 171)), (1, .int x1)]) ok dX12_readsAll_83 (by decide) rfl ?_
  refine z_aload_n ok dX12_readsAll_84 1 rfl ?_
  refine z_call hf (fun r85 h85 hf => ?_)
  refine z_cV (As := []) (rest := []) (w := 171) ok kc_171 zc_12 (c_M_goesWell h85) rfl ⟨ml_12_174, w_M_goesWell⟩ hy_M_goesWell ⟨rfl, rfl⟩ ⟨Nat.le_of_ble_eq_true rfl, Nat.le_of_ble_eq_true rfl⟩ ⟨Nat.zero_le _, Nat.zero_le _⟩ rfl (Nat.le_of_ble_eq_true rfl) dX12_readsAll_85 ?_
  refine z_if_ne (tgt := 93) ok dX12_readsAll_88 (by decide) hf (fun _ hf => ?_) (fun _ hf => ?_)
  · refine z_iload_n ok dX12_readsAll_91 2 rfl ?_
    obtain rfl := Option.some.inj hf
    exact hk _ _ dX12_readsAll_92
  · refine z_iload_n ok dX12_readsAll_93 0 rfl ?_
    refine z_iconst (v := 2) ok dX12_readsAll_94 (by decide) ?_
    refine z_icmp_ne (tgt := 112) ok dX12_readsAll_95 (by decide) hf (fun _ hf => ?_) (fun _ hf => ?_)
    · refine z_aload_n ok dX12_readsAll_98 1 rfl ?_
      refine z_aload_n ok dX12_readsAll_99 1 rfl ?_
      refine z_iconst (v := 1) ok dX12_readsAll_100 (by decide) ?_
      refine z_bipush (v := 99) ok dX12_readsAll_101 (by decide) ?_
      refine z_call hf (fun r103 h103 hf => ?_)
      refine z_cV (As := [.int 1, .int 99]) (rest := [.ref (X.ad 171)]) (w := 171) ok kc_171 zc_12 (c_M_number h103) rfl ⟨ml_12_215, w_M_number⟩ hy_M_number ⟨rfl, rfl⟩ ⟨Nat.le_of_ble_eq_true rfl, Nat.le_of_ble_eq_true rfl⟩ ⟨Nat.zero_le _, Nat.zero_le _⟩ rfl (Nat.le_of_ble_eq_true rfl) dX12_readsAll_103 ?_
      refine z_puti ok kc_171 zc_12 hin_12 tyX12 tyX12_ok nmX12 13 (by decide) fl_12_50 rfl rfl (tyX12_ok 13 (by decide)) dX12_readsAll_106 hf (fun σ106 hf => ?_)
      refine z_goto (tgt := 172) ok dX12_readsAll_109 (by decide) ?_
      refine z_aload_n ok dX12_readsAll_172 1 rfl ?_
      refine z_call hf (fun r173 h173 hf => ?_)
      refine z_cVv (As := []) (rest := []) (w := 171) ok kc_171 zc_12 (c_M_endsWell h173) rfl ⟨ml_12_230, w_M_endsWell⟩ hy_M_endsWell ⟨rfl, rfl⟩ ⟨Nat.le_of_ble_eq_true rfl, Nat.le_of_ble_eq_true rfl⟩ ⟨Nat.zero_le _, Nat.zero_le _⟩ rfl (Nat.le_of_ble_eq_true rfl) dX12_readsAll_173 ?_
      refine z_iinc (w := 1) (lv' := fun v176 => [(1, .int v176), (2, .int s0), (0, .ref (X.ad 171))]) ok dX12_readsAll_176 2 rfl (by decide) (by decide) (fun _ => rfl) hf (fun v176 hf => ?_)
      refine z_goto (tgt := 49) ok dX12_readsAll_179 (by decide) ?_
      obtain rfl := Option.some.inj hf
      exact z_sub [2, 0] rfl hk
    · refine z_iload_n ok dX12_readsAll_112 0 rfl ?_
      refine z_iconst (v := 3) ok dX12_readsAll_113 (by decide) ?_
      refine z_icmp_ne (tgt := 124) ok dX12_readsAll_114 (by decide) hf (fun _ hf => ?_) (fun _ hf => ?_)
      · refine z_aload_n ok dX12_readsAll_117 1 rfl ?_
        refine z_call hf (fun r118 h118 hf => ?_)
        refine z_cVv (As := []) (rest := []) (w := 171) ok kc_171 zc_12 (c_M_readsPool h118) rfl ⟨ml_12_233, w_M_readsPool⟩ hy_M_readsPool ⟨rfl, rfl⟩ ⟨Nat.le_of_ble_eq_true rfl, Nat.le_of_ble_eq_true rfl⟩ ⟨Nat.zero_le _, Nat.zero_le _⟩ rfl (Nat.le_of_ble_eq_true rfl) dX12_readsAll_118 ?_
        refine z_goto (tgt := 172) ok dX12_readsAll_121 (by decide) ?_
        refine z_aload_n ok dX12_readsAll_172 1 rfl ?_
        refine z_call hf (fun r173 h173 hf => ?_)
        refine z_cVv (As := []) (rest := []) (w := 171) ok kc_171 zc_12 (c_M_endsWell h173) rfl ⟨ml_12_230, w_M_endsWell⟩ hy_M_endsWell ⟨rfl, rfl⟩ ⟨Nat.le_of_ble_eq_true rfl, Nat.le_of_ble_eq_true rfl⟩ ⟨Nat.zero_le _, Nat.zero_le _⟩ rfl (Nat.le_of_ble_eq_true rfl) dX12_readsAll_173 ?_
        refine z_iinc (w := 1) (lv' := fun v176 => [(1, .int v176), (2, .int s0), (0, .ref (X.ad 171))]) ok dX12_readsAll_176 2 rfl (by decide) (by decide) (fun _ => rfl) hf (fun v176 hf => ?_)
        refine z_goto (tgt := 49) ok dX12_readsAll_179 (by decide) ?_
        obtain rfl := Option.some.inj hf
        exact z_sub [2, 0] rfl hk
      · refine z_iload_n ok dX12_readsAll_124 0 rfl ?_
        refine z_bipush (v := 13) ok dX12_readsAll_125 (by decide) ?_
        refine z_icmp_ne (tgt := 137) ok dX12_readsAll_127 (by decide) hf (fun _ hf => ?_) (fun _ hf => ?_)
        · refine z_aload_n ok dX12_readsAll_130 1 rfl ?_
          refine z_call hf (fun r131 h131 hf => ?_)
          refine z_cVv (As := []) (rest := []) (w := 171) ok kc_171 zc_12 (c_M_readsOutlet h131) rfl ⟨ml_12_236, w_M_readsOutlet⟩ hy_M_readsOutlet ⟨rfl, rfl⟩ ⟨Nat.le_of_ble_eq_true rfl, Nat.le_of_ble_eq_true rfl⟩ ⟨Nat.zero_le _, Nat.zero_le _⟩ rfl (Nat.le_of_ble_eq_true rfl) dX12_readsAll_131 ?_
          refine z_goto (tgt := 172) ok dX12_readsAll_134 (by decide) ?_
          refine z_aload_n ok dX12_readsAll_172 1 rfl ?_
          refine z_call hf (fun r173 h173 hf => ?_)
          refine z_cVv (As := []) (rest := []) (w := 171) ok kc_171 zc_12 (c_M_endsWell h173) rfl ⟨ml_12_230, w_M_endsWell⟩ hy_M_endsWell ⟨rfl, rfl⟩ ⟨Nat.le_of_ble_eq_true rfl, Nat.le_of_ble_eq_true rfl⟩ ⟨Nat.zero_le _, Nat.zero_le _⟩ rfl (Nat.le_of_ble_eq_true rfl) dX12_readsAll_173 ?_
          refine z_iinc (w := 1) (lv' := fun v176 => [(1, .int v176), (2, .int s0), (0, .ref (X.ad 171))]) ok dX12_readsAll_176 2 rfl (by decide) (by decide) (fun _ => rfl) hf (fun v176 hf => ?_)
          refine z_goto (tgt := 49) ok dX12_readsAll_179 (by decide) ?_
          obtain rfl := Option.some.inj hf
          exact z_sub [2, 0] rfl hk
        · refine z_iload_n ok dX12_readsAll_137 0 rfl ?_
          refine z_bipush (v := 16) ok dX12_readsAll_138 (by decide) ?_
          refine z_icmp_ne (tgt := 150) ok dX12_readsAll_140 (by decide) hf (fun _ hf => ?_) (fun _ hf => ?_)
          · refine z_aload_n ok dX12_readsAll_143 1 rfl ?_
            refine z_call hf (fun r144 h144 hf => ?_)
            refine z_cVv (As := []) (rest := []) (w := 171) ok kc_171 zc_12 (c_M_readsOrder h144) rfl ⟨ml_12_239, w_M_readsOrder⟩ hy_M_readsOrder ⟨rfl, rfl⟩ ⟨Nat.le_of_ble_eq_true rfl, Nat.le_of_ble_eq_true rfl⟩ ⟨Nat.zero_le _, Nat.zero_le _⟩ rfl (Nat.le_of_ble_eq_true rfl) dX12_readsAll_144 ?_
            refine z_goto (tgt := 172) ok dX12_readsAll_147 (by decide) ?_
            refine z_aload_n ok dX12_readsAll_172 1 rfl ?_
            refine z_call hf (fun r173 h173 hf => ?_)
            refine z_cVv (As := []) (rest := []) (w := 171) ok kc_171 zc_12 (c_M_endsWell h173) rfl ⟨ml_12_230, w_M_endsWell⟩ hy_M_endsWell ⟨rfl, rfl⟩ ⟨Nat.le_of_ble_eq_true rfl, Nat.le_of_ble_eq_true rfl⟩ ⟨Nat.zero_le _, Nat.zero_le _⟩ rfl (Nat.le_of_ble_eq_true rfl) dX12_readsAll_173 ?_
            refine z_iinc (w := 1) (lv' := fun v176 => [(1, .int v176), (2, .int s0), (0, .ref (X.ad 171))]) ok dX12_readsAll_176 2 rfl (by decide) (by decide) (fun _ => rfl) hf (fun v176 hf => ?_)
            refine z_goto (tgt := 49) ok dX12_readsAll_179 (by decide) ?_
            obtain rfl := Option.some.inj hf
            exact z_sub [2, 0] rfl hk
          · refine z_iload_n ok dX12_readsAll_150 0 rfl ?_
            refine z_bipush (v := 19) ok dX12_readsAll_151 (by decide) ?_
            refine z_icmp_ne (tgt := 163) ok dX12_readsAll_153 (by decide) hf (fun _ hf => ?_) (fun _ hf => ?_)
            · refine z_aload_n ok dX12_readsAll_156 1 rfl ?_
              refine z_call hf (fun r157 h157 hf => ?_)
              refine z_cVv (As := []) (rest := []) (w := 171) ok kc_171 zc_12 (c_M_readsTurns h157) rfl ⟨ml_12_242, w_M_readsTurns⟩ hy_M_readsTurns ⟨rfl, rfl⟩ ⟨Nat.le_of_ble_eq_true rfl, Nat.le_of_ble_eq_true rfl⟩ ⟨Nat.zero_le _, Nat.zero_le _⟩ rfl (Nat.le_of_ble_eq_true rfl) dX12_readsAll_157 ?_
              refine z_goto (tgt := 172) ok dX12_readsAll_160 (by decide) ?_
              refine z_aload_n ok dX12_readsAll_172 1 rfl ?_
              refine z_call hf (fun r173 h173 hf => ?_)
              refine z_cVv (As := []) (rest := []) (w := 171) ok kc_171 zc_12 (c_M_endsWell h173) rfl ⟨ml_12_230, w_M_endsWell⟩ hy_M_endsWell ⟨rfl, rfl⟩ ⟨Nat.le_of_ble_eq_true rfl, Nat.le_of_ble_eq_true rfl⟩ ⟨Nat.zero_le _, Nat.zero_le _⟩ rfl (Nat.le_of_ble_eq_true rfl) dX12_readsAll_173 ?_
              refine z_iinc (w := 1) (lv' := fun v176 => [(1, .int v176), (2, .int s0), (0, .ref (X.ad 171))]) ok dX12_readsAll_176 2 rfl (by decide) (by decide) (fun _ => rfl) hf (fun v176 hf => ?_)
              refine z_goto (tgt := 49) ok dX12_readsAll_179 (by decide) ?_
              obtain rfl := Option.some.inj hf
              exact z_sub [2, 0] rfl hk
            · refine z_aload_n ok dX12_readsAll_163 1 rfl ?_
              refine z_iconst (v := 1) ok dX12_readsAll_164 (by decide) ?_
              refine z_aload_n ok dX12_readsAll_165 1 rfl ?_
              refine z_geti ok kc_171 zc_12 hin_12 34 (by decide) fl_12_114 rfl dX12_readsAll_166 hf (fun v166 hf => ?_)
              refine z_call hf (fun r169 h169 hf => ?_)
              refine z_cVv (As := [.int 1, .int v166]) (rest := []) (w := 171) ok kc_171 zc_12 (c_M_faults h169) rfl ⟨ml_12_188, w_M_faults⟩ hy_M_faults ⟨rfl, rfl⟩ ⟨Nat.le_of_ble_eq_true rfl, Nat.le_of_ble_eq_true rfl⟩ ⟨Nat.zero_le _, Nat.zero_le _⟩ rfl (Nat.le_of_ble_eq_true rfl) dX12_readsAll_169 ?_
              refine z_aload_n ok dX12_readsAll_172 1 rfl ?_
              refine z_call hf (fun r173 h173 hf => ?_)
              refine z_cVv (As := []) (rest := []) (w := 171) ok kc_171 zc_12 (c_M_endsWell h173) rfl ⟨ml_12_230, w_M_endsWell⟩ hy_M_endsWell ⟨rfl, rfl⟩ ⟨Nat.le_of_ble_eq_true rfl, Nat.le_of_ble_eq_true rfl⟩ ⟨Nat.zero_le _, Nat.zero_le _⟩ rfl (Nat.le_of_ble_eq_true rfl) dX12_readsAll_173 ?_
              refine z_iinc (w := 1) (lv' := fun v176 => [(1, .int v176), (2, .int s0), (0, .ref (X.ad 171))]) ok dX12_readsAll_176 2 rfl (by decide) (by decide) (fun _ => rfl) hf (fun v176 hf => ?_)
              refine z_goto (tgt := 49) ok dX12_readsAll_179 (by decide) ?_
              obtain rfl := Option.some.inj hf
              exact z_sub [2, 0] rfl hk
def M_readsAll_l49 (σ : Sg) (x1 : Int32) : Option ((Sg × Int32) ⊕ ((Int32 × Sg) ⊕ (Sg × Int32))) :=
  (M_goesWell σ).bind fun r50 =>
  if (zb r50) = 0 then (
    some (.inr (.inr (σ, x1)))
  ) else (
    (M_here σ).bind fun r57 =>
    if r57.1 = (-1) then (
      some (.inr (.inr (r57.2, x1)))
    ) else (
      (M_word r57.2).bind fun r65 =>
      (M_goesWell r65).bind fun r69 =>
      if (zb r69) = 0 then (
        M_readsAll_j49_83 r65 x1 (-1)
      ) else (
        (M_own r65).bind fun r76 =>
        M_readsAll_j49_83 r65 x1 r76
      )
    )
  )
set_option maxRecDepth 20000 in
theorem t_M_readsAll_l49 {X : Zx} {Q : State → Prop} {σ : Sg} {x1 : Int32} (ok : Zok X cX12_readsAll RX12 rm_M_readsAll 198 3)  {out : ((Sg × Int32) ⊕ ((Int32 × Sg) ⊕ (Sg × Int32)))} (hf : M_readsAll_l49 σ x1 = some out) (hk : zout (fun (s : (Sg × Int32)) => ZAt X Q 0 0 49 s.1 [(0, .ref (X.ad 171)), (1, .int s.2)] []) (zout (fun (r : (Int32 × Sg)) => ZrI cX12_readsAll X Q r.1 r.2) (fun (s : (Sg × Int32)) => ZAt X Q 0 0 182 s.1 [(1, .int s.2)] [])) out) : ZAt X Q 0 0 49 σ [(0, .ref (X.ad 171)), (1, .int x1)] [] := by
  unfold M_readsAll_l49 at hf
  refine z_aload_n ok dX12_readsAll_49 0 rfl ?_
  refine z_call hf (fun r50 h50 hf => ?_)
  refine z_cV (As := []) (rest := []) (w := 171) ok kc_171 zc_12 (c_M_goesWell h50) rfl ⟨ml_12_174, w_M_goesWell⟩ hy_M_goesWell ⟨rfl, rfl⟩ ⟨Nat.le_of_ble_eq_true rfl, Nat.le_of_ble_eq_true rfl⟩ ⟨Nat.zero_le _, Nat.zero_le _⟩ rfl (Nat.le_of_ble_eq_true rfl) dX12_readsAll_50 ?_
  refine z_if_eq (tgt := 182) ok dX12_readsAll_53 (by decide) hf (fun _ hf => ?_) (fun _ hf => ?_)
  · obtain rfl := Option.some.inj hf
    exact z_sub [1] rfl hk
  · refine z_aload_n ok dX12_readsAll_56 0 rfl ?_
    refine z_call hf (fun r57 h57 hf => ?_)
    refine z_cV (As := []) (rest := []) (w := 171) ok kc_171 zc_12 (c_M_here h57) rfl ⟨ml_12_178, w_M_here⟩ hy_M_here ⟨rfl, rfl⟩ ⟨Nat.le_of_ble_eq_true rfl, Nat.le_of_ble_eq_true rfl⟩ ⟨Nat.zero_le _, Nat.zero_le _⟩ rfl (Nat.le_of_ble_eq_true rfl) dX12_readsAll_57 ?_
    refine z_iconst (v := (-1)) ok dX12_readsAll_60 (by decide) ?_
    refine z_icmp_eq (tgt := 182) ok dX12_readsAll_61 (by decide) hf (fun _ hf => ?_) (fun _ hf => ?_)
    · obtain rfl := Option.some.inj hf
      exact z_sub [1] rfl hk
    · refine z_aload_n ok dX12_readsAll_64 0 rfl ?_
      refine z_call hf (fun r65 h65 hf => ?_)
      refine z_cVv (As := []) (rest := []) (w := 171) ok kc_171 zc_12 (c_M_word h65) rfl ⟨ml_12_192, w_M_word⟩ hy_M_word ⟨rfl, rfl⟩ ⟨Nat.le_of_ble_eq_true rfl, Nat.le_of_ble_eq_true rfl⟩ ⟨Nat.zero_le _, Nat.zero_le _⟩ rfl (Nat.le_of_ble_eq_true rfl) dX12_readsAll_65 ?_
      refine z_aload_n ok dX12_readsAll_68 0 rfl ?_
      refine z_call hf (fun r69 h69 hf => ?_)
      refine z_cV (As := []) (rest := []) (w := 171) ok kc_171 zc_12 (c_M_goesWell h69) rfl ⟨ml_12_174, w_M_goesWell⟩ hy_M_goesWell ⟨rfl, rfl⟩ ⟨Nat.le_of_ble_eq_true rfl, Nat.le_of_ble_eq_true rfl⟩ ⟨Nat.zero_le _, Nat.zero_le _⟩ rfl (Nat.le_of_ble_eq_true rfl) dX12_readsAll_69 ?_
      refine z_if_eq (tgt := 82) ok dX12_readsAll_72 (by decide) hf (fun _ hf => ?_) (fun _ hf => ?_)
      · refine z_iconst (v := (-1)) ok dX12_readsAll_82 (by decide) ?_
        exact z_sub [0, 1] rfl (t_M_readsAll_j49_83 ok hf hk)
      · refine z_aload_n ok dX12_readsAll_75 0 rfl ?_
        refine z_call hf (fun r76 h76 hf => ?_)
        refine z_cV (As := []) (rest := []) (w := 171) ok kc_171 zc_12 (c_M_own h76) rfl ⟨ml_12_195, w_M_own⟩ hy_M_own ⟨rfl, rfl⟩ ⟨Nat.le_of_ble_eq_true rfl, Nat.le_of_ble_eq_true rfl⟩ ⟨Nat.zero_le _, Nat.zero_le _⟩ rfl (Nat.le_of_ble_eq_true rfl) dX12_readsAll_76 ?_
        refine z_goto (tgt := 83) ok dX12_readsAll_79 (by decide) ?_
        exact z_sub [0, 1] rfl (t_M_readsAll_j49_83 ok hf hk)
def M_readsAll (σ : Sg)  : Option (Int32 × Sg) :=
  zpt σ 171 8 0 fun σ2 =>
  zpt σ2 171 9 0 fun σ7 =>
  zpt σ7 171 10 0 fun σ12 =>
  zpt σ12 171 11 0 fun σ17 =>
  zpt σ17 171 13 4 fun σ22 =>
  (M_must σ22 0).bind fun r27 =>
  (M_after r27 1 0 999).bind fun r37 =>
  zpt r37.2 171 12 r37.1 fun σ40 =>
  (M_endsWell σ40).bind fun r44 =>
  zlt 1 fun v48 =>
  (zit (fun (s : (Sg × Int32)) => M_readsAll_l49 s.1 s.2) zFU (r44, v48)).bind fun r => r.elim (fun r =>
  some r
  ) (fun r =>
  some (r.2, r.1)
  )
set_option maxRecDepth 20000 in
theorem t_M_readsAll {X : Zx} {Q : State → Prop} {σ : Sg}  (ok : Zok X cX12_readsAll RX12 rm_M_readsAll 198 3)  {out : (Int32 × Sg)} (hf : M_readsAll σ = some out) (hk : ZrI cX12_readsAll X Q out.1 out.2) : ZAt X Q 0 0 0 σ [(0, .ref (X.ad 171))] [] := by
  unfold M_readsAll at hf
  refine z_aload_n ok dX12_readsAll_0 0 rfl ?_
  refine z_iconst (v := 0) ok dX12_readsAll_1 (by decide) ?_
  refine z_puti ok kc_171 zc_12 hin_12 tyX12 tyX12_ok nmX12 8 (by decide) fl_12_35 rfl rfl (tyX12_ok 8 (by decide)) dX12_readsAll_2 hf (fun σ2 hf => ?_)
  refine z_aload_n ok dX12_readsAll_5 0 rfl ?_
  refine z_iconst (v := 0) ok dX12_readsAll_6 (by decide) ?_
  refine z_puti ok kc_171 zc_12 hin_12 tyX12 tyX12_ok nmX12 9 (by decide) fl_12_38 rfl rfl (tyX12_ok 9 (by decide)) dX12_readsAll_7 hf (fun σ7 hf => ?_)
  refine z_aload_n ok dX12_readsAll_10 0 rfl ?_
  refine z_iconst (v := 0) ok dX12_readsAll_11 (by decide) ?_
  refine z_puti ok kc_171 zc_12 hin_12 tyX12 tyX12_ok nmX12 10 (by decide) fl_12_41 rfl rfl (tyX12_ok 10 (by decide)) dX12_readsAll_12 hf (fun σ12 hf => ?_)
  refine z_aload_n ok dX12_readsAll_15 0 rfl ?_
  refine z_iconst (v := 0) ok dX12_readsAll_16 (by decide) ?_
  refine z_puti ok kc_171 zc_12 hin_12 tyX12 tyX12_ok nmX12 11 (by decide) fl_12_44 rfl rfl (tyX12_ok 11 (by decide)) dX12_readsAll_17 hf (fun σ17 hf => ?_)
  refine z_aload_n ok dX12_readsAll_20 0 rfl ?_
  refine z_iconst (v := 4) ok dX12_readsAll_21 (by decide) ?_
  refine z_puti ok kc_171 zc_12 hin_12 tyX12 tyX12_ok nmX12 13 (by decide) fl_12_50 rfl rfl (tyX12_ok 13 (by decide)) dX12_readsAll_22 hf (fun σ22 hf => ?_)
  refine z_aload_n ok dX12_readsAll_25 0 rfl ?_
  refine z_iconst (v := 0) ok dX12_readsAll_26 (by decide) ?_
  refine z_call hf (fun r27 h27 hf => ?_)
  refine z_cVv (As := [.int 0]) (rest := []) (w := 171) ok kc_171 zc_12 (c_M_must h27) rfl ⟨ml_12_212, w_M_must⟩ hy_M_must ⟨rfl, rfl⟩ ⟨Nat.le_of_ble_eq_true rfl, Nat.le_of_ble_eq_true rfl⟩ ⟨Nat.zero_le _, Nat.zero_le _⟩ rfl (Nat.le_of_ble_eq_true rfl) dX12_readsAll_27 ?_
  refine z_aload_n ok dX12_readsAll_30 0 rfl ?_
  refine z_aload_n ok dX12_readsAll_31 0 rfl ?_
  refine z_iconst (v := 1) ok dX12_readsAll_32 (by decide) ?_
  refine z_iconst (v := 0) ok dX12_readsAll_33 (by decide) ?_
  refine z_sipush (v := 999) ok dX12_readsAll_34 (by decide) ?_
  refine z_call hf (fun r37 h37 hf => ?_)
  refine z_cV (As := [.int 1, .int 0, .int 999]) (rest := [.ref (X.ad 171)]) (w := 171) ok kc_171 zc_12 (c_M_after h37) rfl ⟨ml_12_223, w_M_after⟩ hy_M_after ⟨rfl, rfl⟩ ⟨Nat.le_of_ble_eq_true rfl, Nat.le_of_ble_eq_true rfl⟩ ⟨Nat.zero_le _, Nat.zero_le _⟩ rfl (Nat.le_of_ble_eq_true rfl) dX12_readsAll_37 ?_
  refine z_puti ok kc_171 zc_12 hin_12 tyX12 tyX12_ok nmX12 12 (by decide) fl_12_47 rfl rfl (tyX12_ok 12 (by decide)) dX12_readsAll_40 hf (fun σ40 hf => ?_)
  refine z_aload_n ok dX12_readsAll_43 0 rfl ?_
  refine z_call hf (fun r44 h44 hf => ?_)
  refine z_cVv (As := []) (rest := []) (w := 171) ok kc_171 zc_12 (c_M_endsWell h44) rfl ⟨ml_12_230, w_M_endsWell⟩ hy_M_endsWell ⟨rfl, rfl⟩ ⟨Nat.le_of_ble_eq_true rfl, Nat.le_of_ble_eq_true rfl⟩ ⟨Nat.zero_le _, Nat.zero_le _⟩ rfl (Nat.le_of_ble_eq_true rfl) dX12_readsAll_44 ?_
  refine z_iconst (v := 1) ok dX12_readsAll_47 (by decide) ?_
  refine z_nm hf (fun v48 hf => ?_)
  refine z_istore_n (lv' := [(1, .int v48), (0, .ref (X.ad 171))]) ok dX12_readsAll_48 (by decide) rfl ?_
  refine z_call hf (fun r hr hf => ?_)
  refine z_sub [1, 0] rfl (z_iter (fun (s : (Sg × Int32)) => s.1) (fun (s : (Sg × Int32)) => [(0, .ref (X.ad 171)), (1, .int s.2)]) (fun s o h1 h2 => t_M_readsAll_l49 ok h1 h2) _ _ _ hr ?_)
  cases r with
  | inl r =>
    obtain rfl := Option.some.inj hf
    exact hk
  | inr r =>
    simp only [Sum.elim_inr] at hf
    show ZAt X Q 0 0 182 r.1 [(1, .int r.2)] []
    refine z_iload_n ok dX12_readsAll_182 0 rfl ?_
    obtain rfl := Option.some.inj hf
    exact hk _ _ dX12_readsAll_183
theorem c_M_readsAll {σ : Sg} {r : (Int32 × Sg)} (h : M_readsAll σ = some r) : ZcI yX12_readsAll cX12_readsAll 3 .int rm_M_readsAll 198 (fun ad => [.ref (ad 171)]) σ r.1 r.2 :=
  zmetI pn_12 rfl (fun _ => rfl) (fun _ => Nat.le_of_ble_eq_true rfl) rfl (fun X Q ok hk => t_M_readsAll ok h hk)
theorem dX12_toldOf_0 : decode cX12_toldOf 0 = .ok (.aload_n 0, 1) := by decide +kernel
theorem dX12_toldOf_1 : decode cX12_toldOf 1 = .ok (.getfield 19, 3) := by decide +kernel
theorem dX12_toldOf_4 : decode cX12_toldOf 4 = .ok (.bipush 9, 2) := by decide +kernel
theorem dX12_toldOf_6 : decode cX12_toldOf 6 = .ok (.iload_n 1, 1) := by decide +kernel
theorem dX12_toldOf_7 : decode cX12_toldOf 7 = .ok (.imul, 1) := by decide +kernel
theorem dX12_toldOf_8 : decode cX12_toldOf 8 = .ok (.iload_n 2, 1) := by decide +kernel
theorem dX12_toldOf_9 : decode cX12_toldOf 9 = .ok (.iadd, 1) := by decide +kernel
theorem dX12_toldOf_10 : decode cX12_toldOf 10 = .ok (.iaload, 1) := by decide +kernel
theorem dX12_toldOf_11 : decode cX12_toldOf 11 = .ok (.ireturn, 1) := by decide +kernel
abbrev rm_M_toldOf : Room := { frames := 0, cells := 0, slots := 0, locals := 0 }
def M_toldOf (σ : Sg) (x1 : Int32) (x2 : Int32) : Option Int32 :=
  zrd σ 172 72 ((9 * x1) + x2) fun v10 =>
  some v10
set_option maxRecDepth 20000 in
theorem t_M_toldOf {X : Zx} {Q : State → Prop} {σ : Sg} {x1 : Int32} {x2 : Int32} (ok : Zok X cX12_toldOf RX12 rm_M_toldOf 198 3)  {out : Int32} (hf : M_toldOf σ x1 x2 = some out) (hk : ZrI cX12_toldOf X Q out σ) : ZAt X Q 0 0 0 σ [(0, .ref (X.ad 171)), (1, .int x1), (2, .int x2)] [] := by
  unfold M_toldOf at hf
  refine z_aload_n ok dX12_toldOf_0 0 rfl ?_
  refine z_getr (q := 172) ok kc_171 zc_12 hin_12 3 (by decide) fl_12_19 rfl dX12_toldOf_1 ?_
  refine z_bipush (v := 9) ok dX12_toldOf_4 (by decide) ?_
  refine z_iload_n ok dX12_toldOf_6 1 rfl ?_
  refine z_imul ok dX12_toldOf_7 ?_
  refine z_iload_n ok dX12_toldOf_8 2 rfl ?_
  refine z_iadd ok dX12_toldOf_9 ?_
  refine z_iald ok kc_172 dX12_toldOf_10 hf (fun v10 hf => ?_)
  obtain rfl := Option.some.inj hf
  exact hk _ _ dX12_toldOf_11
theorem c_M_toldOf {σ : Sg} {x1 : Int32} {x2 : Int32} {r : Int32} (h : M_toldOf σ x1 x2 = some r) : ZcI yX12_toldOf cX12_toldOf 3 .int rm_M_toldOf 198 (fun ad => [.ref (ad 171), .int x1, .int x2]) σ r σ :=
  zmetI pn_12 rfl (fun _ => rfl) (fun _ => Nat.le_of_ble_eq_true rfl) rfl (fun X Q ok hk => t_M_toldOf ok h hk)
theorem dX12_canal_0 : decode cX12_canal 0 = .ok (.aload_n 0, 1) := by decide +kernel
theorem dX12_canal_1 : decode cX12_canal 1 = .ok (.aload_n 0, 1) := by decide +kernel
theorem dX12_canal_2 : decode cX12_canal 2 = .ok (.invokevirtual 245, 3) := by decide +kernel
theorem dX12_canal_5 : decode cX12_canal 5 = .ok (.putfield 108, 3) := by decide +kernel
theorem dX12_canal_8 : decode cX12_canal 8 = .ok (.aload_n 0, 1) := by decide +kernel
theorem dX12_canal_9 : decode cX12_canal 9 = .ok (.iconst 0, 1) := by decide +kernel
theorem dX12_canal_10 : decode cX12_canal 10 = .ok (.putfield 111, 3) := by decide +kernel
theorem dX12_canal_13 : decode cX12_canal 13 = .ok (.aload_n 0, 1) := by decide +kernel
theorem dX12_canal_14 : decode cX12_canal 14 = .ok (.iconst 0, 1) := by decide +kernel
theorem dX12_canal_15 : decode cX12_canal 15 = .ok (.putfield 117, 3) := by decide +kernel
theorem dX12_canal_18 : decode cX12_canal 18 = .ok (.aload_n 0, 1) := by decide +kernel
theorem dX12_canal_19 : decode cX12_canal 19 = .ok (.iconst (-1), 1) := by decide +kernel
theorem dX12_canal_20 : decode cX12_canal 20 = .ok (.putfield 120, 3) := by decide +kernel
theorem dX12_canal_23 : decode cX12_canal 23 = .ok (.aload_n 0, 1) := by decide +kernel
theorem dX12_canal_24 : decode cX12_canal 24 = .ok (.invokevirtual 248, 3) := by decide +kernel
theorem dX12_canal_27 : decode cX12_canal 27 = .ok (.istore_n 1, 1) := by decide +kernel
theorem dX12_canal_28 : decode cX12_canal 28 = .ok (.aload_n 0, 1) := by decide +kernel
theorem dX12_canal_29 : decode cX12_canal 29 = .ok (.aload_n 0, 1) := by decide +kernel
theorem dX12_canal_30 : decode cX12_canal 30 = .ok (.getfield 117, 3) := by decide +kernel
theorem dX12_canal_33 : decode cX12_canal 33 = .ok (.putfield 102, 3) := by decide +kernel
theorem dX12_canal_36 : decode cX12_canal 36 = .ok (.aload_n 0, 1) := by decide +kernel
theorem dX12_canal_37 : decode cX12_canal 37 = .ok (.aload_n 0, 1) := by decide +kernel
theorem dX12_canal_38 : decode cX12_canal 38 = .ok (.getfield 120, 3) := by decide +kernel
theorem dX12_canal_41 : decode cX12_canal 41 = .ok (.putfield 105, 3) := by decide +kernel
theorem dX12_canal_44 : decode cX12_canal 44 = .ok (.aload_n 0, 1) := by decide +kernel
theorem dX12_canal_45 : decode cX12_canal 45 = .ok (.getfield 117, 3) := by decide +kernel
theorem dX12_canal_48 : decode cX12_canal 48 = .ok (.ifCond .eq 9, 3) := by decide +kernel
theorem dX12_canal_51 : decode cX12_canal 51 = .ok (.aload_n 0, 1) := by decide +kernel
theorem dX12_canal_52 : decode cX12_canal 52 = .ok (.iconst 1, 1) := by decide +kernel
theorem dX12_canal_53 : decode cX12_canal 53 = .ok (.invokevirtual 159, 3) := by decide +kernel
theorem dX12_canal_56 : decode cX12_canal 56 = .ok (.ireturn, 1) := by decide +kernel
theorem dX12_canal_57 : decode cX12_canal 57 = .ok (.aload_n 0, 1) := by decide +kernel
theorem dX12_canal_58 : decode cX12_canal 58 = .ok (.aload_n 0, 1) := by decide +kernel
theorem dX12_canal_59 : decode cX12_canal 59 = .ok (.getfield 35, 3) := by decide +kernel
theorem dX12_canal_62 : decode cX12_canal 62 = .ok (.putfield 7, 3) := by decide +kernel
theorem dX12_canal_65 : decode cX12_canal 65 = .ok (.aload_n 0, 1) := by decide +kernel
theorem dX12_canal_66 : decode cX12_canal 66 = .ok (.aload_n 0, 1) := by decide +kernel
theorem dX12_canal_67 : decode cX12_canal 67 = .ok (.getfield 38, 3) := by decide +kernel
theorem dX12_canal_70 : decode cX12_canal 70 = .ok (.putfield 13, 3) := by decide +kernel
theorem dX12_canal_73 : decode cX12_canal 73 = .ok (.aload_n 0, 1) := by decide +kernel
theorem dX12_canal_74 : decode cX12_canal 74 = .ok (.aload_n 0, 1) := by decide +kernel
theorem dX12_canal_75 : decode cX12_canal 75 = .ok (.getfield 41, 3) := by decide +kernel
theorem dX12_canal_78 : decode cX12_canal 78 = .ok (.putfield 16, 3) := by decide +kernel
theorem dX12_canal_81 : decode cX12_canal 81 = .ok (.iconst 0, 1) := by decide +kernel
theorem dX12_canal_82 : decode cX12_canal 82 = .ok (.istore_n 2, 1) := by decide +kernel
theorem dX12_canal_83 : decode cX12_canal 83 = .ok (.iload_n 2, 1) := by decide +kernel
theorem dX12_canal_84 : decode cX12_canal 84 = .ok (.bipush 72, 2) := by decide +kernel
theorem dX12_canal_86 : decode cX12_canal 86 = .ok (.if_icmp .ge 21, 3) := by decide +kernel
theorem dX12_canal_89 : decode cX12_canal 89 = .ok (.aload_n 0, 1) := by decide +kernel
theorem dX12_canal_90 : decode cX12_canal 90 = .ok (.getfield 19, 3) := by decide +kernel
theorem dX12_canal_93 : decode cX12_canal 93 = .ok (.iload_n 2, 1) := by decide +kernel
theorem dX12_canal_94 : decode cX12_canal 94 = .ok (.aload_n 0, 1) := by decide +kernel
theorem dX12_canal_95 : decode cX12_canal 95 = .ok (.getfield 53, 3) := by decide +kernel
theorem dX12_canal_98 : decode cX12_canal 98 = .ok (.iload_n 2, 1) := by decide +kernel
theorem dX12_canal_99 : decode cX12_canal 99 = .ok (.iaload, 1) := by decide +kernel
theorem dX12_canal_100 : decode cX12_canal 100 = .ok (.iastore, 1) := by decide +kernel
theorem dX12_canal_101 : decode cX12_canal 101 = .ok (.iinc 2 1, 3) := by decide +kernel
theorem dX12_canal_104 : decode cX12_canal 104 = .ok (.goto (-21), 3) := by decide +kernel
theorem dX12_canal_107 : decode cX12_canal 107 = .ok (.iconst 0, 1) := by decide +kernel
theorem dX12_canal_108 : decode cX12_canal 108 = .ok (.istore_n 2, 1) := by decide +kernel
theorem dX12_canal_109 : decode cX12_canal 109 = .ok (.iload_n 2, 1) := by decide +kernel
theorem dX12_canal_110 : decode cX12_canal 110 = .ok (.bipush 20, 2) := by decide +kernel
theorem dX12_canal_112 : decode cX12_canal 112 = .ok (.if_icmp .ge 21, 3) := by decide +kernel
theorem dX12_canal_115 : decode cX12_canal 115 = .ok (.aload_n 0, 1) := by decide +kernel
theorem dX12_canal_116 : decode cX12_canal 116 = .ok (.getfield 23, 3) := by decide +kernel
theorem dX12_canal_119 : decode cX12_canal 119 = .ok (.iload_n 2, 1) := by decide +kernel
theorem dX12_canal_120 : decode cX12_canal 120 = .ok (.aload_n 0, 1) := by decide +kernel
theorem dX12_canal_121 : decode cX12_canal 121 = .ok (.getfield 56, 3) := by decide +kernel
theorem dX12_canal_124 : decode cX12_canal 124 = .ok (.iload_n 2, 1) := by decide +kernel
theorem dX12_canal_125 : decode cX12_canal 125 = .ok (.iaload, 1) := by decide +kernel
theorem dX12_canal_126 : decode cX12_canal 126 = .ok (.iastore, 1) := by decide +kernel
theorem dX12_canal_127 : decode cX12_canal 127 = .ok (.iinc 2 1, 3) := by decide +kernel
theorem dX12_canal_130 : decode cX12_canal 130 = .ok (.goto (-21), 3) := by decide +kernel
theorem dX12_canal_133 : decode cX12_canal 133 = .ok (.iconst 0, 1) := by decide +kernel
theorem dX12_canal_134 : decode cX12_canal 134 = .ok (.istore_n 2, 1) := by decide +kernel
theorem dX12_canal_135 : decode cX12_canal 135 = .ok (.iload_n 2, 1) := by decide +kernel
theorem dX12_canal_136 : decode cX12_canal 136 = .ok (.bipush 16, 2) := by decide +kernel
theorem dX12_canal_138 : decode cX12_canal 138 = .ok (.if_icmp .ge 21, 3) := by decide +kernel
theorem dX12_canal_141 : decode cX12_canal 141 = .ok (.aload_n 0, 1) := by decide +kernel
theorem dX12_canal_142 : decode cX12_canal 142 = .ok (.getfield 26, 3) := by decide +kernel
theorem dX12_canal_145 : decode cX12_canal 145 = .ok (.iload_n 2, 1) := by decide +kernel
theorem dX12_canal_146 : decode cX12_canal 146 = .ok (.aload_n 0, 1) := by decide +kernel
theorem dX12_canal_147 : decode cX12_canal 147 = .ok (.getfield 59, 3) := by decide +kernel
theorem dX12_canal_150 : decode cX12_canal 150 = .ok (.iload_n 2, 1) := by decide +kernel
theorem dX12_canal_151 : decode cX12_canal 151 = .ok (.iaload, 1) := by decide +kernel
theorem dX12_canal_152 : decode cX12_canal 152 = .ok (.iastore, 1) := by decide +kernel
theorem dX12_canal_153 : decode cX12_canal 153 = .ok (.iinc 2 1, 3) := by decide +kernel
theorem dX12_canal_156 : decode cX12_canal 156 = .ok (.goto (-21), 3) := by decide +kernel
theorem dX12_canal_159 : decode cX12_canal 159 = .ok (.iconst 0, 1) := by decide +kernel
theorem dX12_canal_160 : decode cX12_canal 160 = .ok (.istore_n 2, 1) := by decide +kernel
theorem dX12_canal_161 : decode cX12_canal 161 = .ok (.iload_n 2, 1) := by decide +kernel
theorem dX12_canal_162 : decode cX12_canal 162 = .ok (.bipush 48, 2) := by decide +kernel
theorem dX12_canal_164 : decode cX12_canal 164 = .ok (.if_icmp .ge 21, 3) := by decide +kernel
theorem dX12_canal_167 : decode cX12_canal 167 = .ok (.aload_n 0, 1) := by decide +kernel
theorem dX12_canal_168 : decode cX12_canal 168 = .ok (.getfield 29, 3) := by decide +kernel
theorem dX12_canal_171 : decode cX12_canal 171 = .ok (.iload_n 2, 1) := by decide +kernel
theorem dX12_canal_172 : decode cX12_canal 172 = .ok (.aload_n 0, 1) := by decide +kernel
theorem dX12_canal_173 : decode cX12_canal 173 = .ok (.getfield 65, 3) := by decide +kernel
theorem dX12_canal_176 : decode cX12_canal 176 = .ok (.iload_n 2, 1) := by decide +kernel
theorem dX12_canal_177 : decode cX12_canal 177 = .ok (.iaload, 1) := by decide +kernel
theorem dX12_canal_178 : decode cX12_canal 178 = .ok (.iastore, 1) := by decide +kernel
theorem dX12_canal_179 : decode cX12_canal 179 = .ok (.iinc 2 1, 3) := by decide +kernel
theorem dX12_canal_182 : decode cX12_canal 182 = .ok (.goto (-21), 3) := by decide +kernel
theorem dX12_canal_185 : decode cX12_canal 185 = .ok (.iconst 0, 1) := by decide +kernel
theorem dX12_canal_186 : decode cX12_canal 186 = .ok (.istore_n 2, 1) := by decide +kernel
theorem dX12_canal_187 : decode cX12_canal 187 = .ok (.iload_n 2, 1) := by decide +kernel
theorem dX12_canal_188 : decode cX12_canal 188 = .ok (.bipush 60, 2) := by decide +kernel
theorem dX12_canal_190 : decode cX12_canal 190 = .ok (.if_icmp .ge 21, 3) := by decide +kernel
theorem dX12_canal_193 : decode cX12_canal 193 = .ok (.aload_n 0, 1) := by decide +kernel
theorem dX12_canal_194 : decode cX12_canal 194 = .ok (.getfield 32, 3) := by decide +kernel
theorem dX12_canal_197 : decode cX12_canal 197 = .ok (.iload_n 2, 1) := by decide +kernel
theorem dX12_canal_198 : decode cX12_canal 198 = .ok (.aload_n 0, 1) := by decide +kernel
theorem dX12_canal_199 : decode cX12_canal 199 = .ok (.getfield 68, 3) := by decide +kernel
theorem dX12_canal_202 : decode cX12_canal 202 = .ok (.iload_n 2, 1) := by decide +kernel
theorem dX12_canal_203 : decode cX12_canal 203 = .ok (.iaload, 1) := by decide +kernel
theorem dX12_canal_204 : decode cX12_canal 204 = .ok (.iastore, 1) := by decide +kernel
theorem dX12_canal_205 : decode cX12_canal 205 = .ok (.iinc 2 1, 3) := by decide +kernel
theorem dX12_canal_208 : decode cX12_canal 208 = .ok (.goto (-21), 3) := by decide +kernel
theorem dX12_canal_211 : decode cX12_canal 211 = .ok (.iconst 0, 1) := by decide +kernel
theorem dX12_canal_212 : decode cX12_canal 212 = .ok (.istore_n 2, 1) := by decide +kernel
theorem dX12_canal_213 : decode cX12_canal 213 = .ok (.iload_n 2, 1) := by decide +kernel
theorem dX12_canal_214 : decode cX12_canal 214 = .ok (.sipush 1607, 3) := by decide +kernel
theorem dX12_canal_217 : decode cX12_canal 217 = .ok (.if_icmp .ge 16, 3) := by decide +kernel
theorem dX12_canal_220 : decode cX12_canal 220 = .ok (.aload_n 0, 1) := by decide +kernel
theorem dX12_canal_221 : decode cX12_canal 221 = .ok (.getfield 71, 3) := by decide +kernel
theorem dX12_canal_224 : decode cX12_canal 224 = .ok (.iload_n 2, 1) := by decide +kernel
theorem dX12_canal_225 : decode cX12_canal 225 = .ok (.iconst 0, 1) := by decide +kernel
theorem dX12_canal_226 : decode cX12_canal 226 = .ok (.iastore, 1) := by decide +kernel
theorem dX12_canal_227 : decode cX12_canal 227 = .ok (.iinc 2 1, 3) := by decide +kernel
theorem dX12_canal_230 : decode cX12_canal 230 = .ok (.goto (-17), 3) := by decide +kernel
theorem dX12_canal_233 : decode cX12_canal 233 = .ok (.iconst 0, 1) := by decide +kernel
theorem dX12_canal_234 : decode cX12_canal 234 = .ok (.istore_n 2, 1) := by decide +kernel
theorem dX12_canal_235 : decode cX12_canal 235 = .ok (.iload_n 2, 1) := by decide +kernel
theorem dX12_canal_236 : decode cX12_canal 236 = .ok (.aload_n 0, 1) := by decide +kernel
theorem dX12_canal_237 : decode cX12_canal 237 = .ok (.getfield 7, 3) := by decide +kernel
theorem dX12_canal_240 : decode cX12_canal 240 = .ok (.if_icmp .ge 66, 3) := by decide +kernel
theorem dX12_canal_243 : decode cX12_canal 243 = .ok (.aload_n 0, 1) := by decide +kernel
theorem dX12_canal_244 : decode cX12_canal 244 = .ok (.getfield 71, 3) := by decide +kernel
theorem dX12_canal_247 : decode cX12_canal 247 = .ok (.iconst 0, 1) := by decide +kernel
theorem dX12_canal_248 : decode cX12_canal 248 = .ok (.iload_n 2, 1) := by decide +kernel
theorem dX12_canal_249 : decode cX12_canal 249 = .ok (.iadd, 1) := by decide +kernel
theorem dX12_canal_250 : decode cX12_canal 250 = .ok (.aload_n 0, 1) := by decide +kernel
theorem dX12_canal_251 : decode cX12_canal 251 = .ok (.iload_n 2, 1) := by decide +kernel
theorem dX12_canal_252 : decode cX12_canal 252 = .ok (.bipush 6, 2) := by decide +kernel
theorem dX12_canal_254 : decode cX12_canal 254 = .ok (.invokevirtual 251, 3) := by decide +kernel
theorem dX12_canal_257 : decode cX12_canal 257 = .ok (.iastore, 1) := by decide +kernel
theorem dX12_canal_258 : decode cX12_canal 258 = .ok (.aload_n 0, 1) := by decide +kernel
theorem dX12_canal_259 : decode cX12_canal 259 = .ok (.getfield 71, 3) := by decide +kernel
theorem dX12_canal_262 : decode cX12_canal 262 = .ok (.bipush 8, 2) := by decide +kernel
theorem dX12_canal_264 : decode cX12_canal 264 = .ok (.iload_n 2, 1) := by decide +kernel
theorem dX12_canal_265 : decode cX12_canal 265 = .ok (.iadd, 1) := by decide +kernel
theorem dX12_canal_266 : decode cX12_canal 266 = .ok (.aload_n 0, 1) := by decide +kernel
theorem dX12_canal_267 : decode cX12_canal 267 = .ok (.iload_n 2, 1) := by decide +kernel
theorem dX12_canal_268 : decode cX12_canal 268 = .ok (.bipush 8, 2) := by decide +kernel
theorem dX12_canal_270 : decode cX12_canal 270 = .ok (.invokevirtual 251, 3) := by decide +kernel
theorem dX12_canal_273 : decode cX12_canal 273 = .ok (.iastore, 1) := by decide +kernel
theorem dX12_canal_274 : decode cX12_canal 274 = .ok (.aload_n 0, 1) := by decide +kernel
theorem dX12_canal_275 : decode cX12_canal 275 = .ok (.getfield 71, 3) := by decide +kernel
theorem dX12_canal_278 : decode cX12_canal 278 = .ok (.bipush 16, 2) := by decide +kernel
theorem dX12_canal_280 : decode cX12_canal 280 = .ok (.iload_n 2, 1) := by decide +kernel
theorem dX12_canal_281 : decode cX12_canal 281 = .ok (.iadd, 1) := by decide +kernel
theorem dX12_canal_282 : decode cX12_canal 282 = .ok (.iconst (-1), 1) := by decide +kernel
theorem dX12_canal_283 : decode cX12_canal 283 = .ok (.iastore, 1) := by decide +kernel
theorem dX12_canal_284 : decode cX12_canal 284 = .ok (.aload_n 0, 1) := by decide +kernel
theorem dX12_canal_285 : decode cX12_canal 285 = .ok (.getfield 71, 3) := by decide +kernel
theorem dX12_canal_288 : decode cX12_canal 288 = .ok (.bipush 24, 2) := by decide +kernel
theorem dX12_canal_290 : decode cX12_canal 290 = .ok (.iload_n 2, 1) := by decide +kernel
theorem dX12_canal_291 : decode cX12_canal 291 = .ok (.iadd, 1) := by decide +kernel
theorem dX12_canal_292 : decode cX12_canal 292 = .ok (.aload_n 0, 1) := by decide +kernel
theorem dX12_canal_293 : decode cX12_canal 293 = .ok (.iload_n 2, 1) := by decide +kernel
theorem dX12_canal_294 : decode cX12_canal 294 = .ok (.bipush 7, 2) := by decide +kernel
theorem dX12_canal_296 : decode cX12_canal 296 = .ok (.invokevirtual 251, 3) := by decide +kernel
theorem dX12_canal_299 : decode cX12_canal 299 = .ok (.iastore, 1) := by decide +kernel
theorem dX12_canal_300 : decode cX12_canal 300 = .ok (.iinc 2 1, 3) := by decide +kernel
theorem dX12_canal_303 : decode cX12_canal 303 = .ok (.goto (-68), 3) := by decide +kernel
theorem dX12_canal_306 : decode cX12_canal 306 = .ok (.iconst 0, 1) := by decide +kernel
theorem dX12_canal_307 : decode cX12_canal 307 = .ok (.istore_n 2, 1) := by decide +kernel
theorem dX12_canal_308 : decode cX12_canal 308 = .ok (.iload_n 2, 1) := by decide +kernel
theorem dX12_canal_309 : decode cX12_canal 309 = .ok (.iconst 3, 1) := by decide +kernel
theorem dX12_canal_310 : decode cX12_canal 310 = .ok (.aload_n 0, 1) := by decide +kernel
theorem dX12_canal_311 : decode cX12_canal 311 = .ok (.getfield 44, 3) := by decide +kernel
theorem dX12_canal_314 : decode cX12_canal 314 = .ok (.imul, 1) := by decide +kernel
theorem dX12_canal_315 : decode cX12_canal 315 = .ok (.if_icmp .ge 25, 3) := by decide +kernel
theorem dX12_canal_318 : decode cX12_canal 318 = .ok (.aload_n 0, 1) := by decide +kernel
theorem dX12_canal_319 : decode cX12_canal 319 = .ok (.getfield 71, 3) := by decide +kernel
theorem dX12_canal_322 : decode cX12_canal 322 = .ok (.sipush 148, 3) := by decide +kernel
theorem dX12_canal_325 : decode cX12_canal 325 = .ok (.iload_n 2, 1) := by decide +kernel
theorem dX12_canal_326 : decode cX12_canal 326 = .ok (.iadd, 1) := by decide +kernel
theorem dX12_canal_327 : decode cX12_canal 327 = .ok (.aload_n 0, 1) := by decide +kernel
theorem dX12_canal_328 : decode cX12_canal 328 = .ok (.getfield 62, 3) := by decide +kernel
theorem dX12_canal_331 : decode cX12_canal 331 = .ok (.iload_n 2, 1) := by decide +kernel
theorem dX12_canal_332 : decode cX12_canal 332 = .ok (.iaload, 1) := by decide +kernel
theorem dX12_canal_333 : decode cX12_canal 333 = .ok (.iastore, 1) := by decide +kernel
theorem dX12_canal_334 : decode cX12_canal 334 = .ok (.iinc 2 1, 3) := by decide +kernel
theorem dX12_canal_337 : decode cX12_canal 337 = .ok (.goto (-29), 3) := by decide +kernel
theorem dX12_canal_340 : decode cX12_canal 340 = .ok (.aload_n 0, 1) := by decide +kernel
theorem dX12_canal_341 : decode cX12_canal 341 = .ok (.getfield 71, 3) := by decide +kernel
theorem dX12_canal_344 : decode cX12_canal 344 = .ok (.sipush 199, 3) := by decide +kernel
theorem dX12_canal_347 : decode cX12_canal 347 = .ok (.aload_n 0, 1) := by decide +kernel
theorem dX12_canal_348 : decode cX12_canal 348 = .ok (.getfield 44, 3) := by decide +kernel
theorem dX12_canal_351 : decode cX12_canal 351 = .ok (.iastore, 1) := by decide +kernel
theorem dX12_canal_352 : decode cX12_canal 352 = .ok (.aload_n 0, 1) := by decide +kernel
theorem dX12_canal_353 : decode cX12_canal 353 = .ok (.getfield 71, 3) := by decide +kernel
theorem dX12_canal_356 : decode cX12_canal 356 = .ok (.sipush 197, 3) := by decide +kernel
theorem dX12_canal_359 : decode cX12_canal 359 = .ok (.aload_n 0, 1) := by decide +kernel
theorem dX12_canal_360 : decode cX12_canal 360 = .ok (.getfield 47, 3) := by decide +kernel
theorem dX12_canal_363 : decode cX12_canal 363 = .ok (.iastore, 1) := by decide +kernel
theorem dX12_canal_364 : decode cX12_canal 364 = .ok (.aload_n 0, 1) := by decide +kernel
theorem dX12_canal_365 : decode cX12_canal 365 = .ok (.getfield 71, 3) := by decide +kernel
theorem dX12_canal_368 : decode cX12_canal 368 = .ok (.sipush 198, 3) := by decide +kernel
theorem dX12_canal_371 : decode cX12_canal 371 = .ok (.aload_n 0, 1) := by decide +kernel
theorem dX12_canal_372 : decode cX12_canal 372 = .ok (.getfield 50, 3) := by decide +kernel
theorem dX12_canal_375 : decode cX12_canal 375 = .ok (.iastore, 1) := by decide +kernel
theorem dX12_canal_376 : decode cX12_canal 376 = .ok (.aload_n 0, 1) := by decide +kernel
theorem dX12_canal_377 : decode cX12_canal 377 = .ok (.iconst 1, 1) := by decide +kernel
theorem dX12_canal_378 : decode cX12_canal 378 = .ok (.putfield 86, 3) := by decide +kernel
theorem dX12_canal_381 : decode cX12_canal 381 = .ok (.aload_n 0, 1) := by decide +kernel
theorem dX12_canal_382 : decode cX12_canal 382 = .ok (.iconst 0, 1) := by decide +kernel
theorem dX12_canal_383 : decode cX12_canal 383 = .ok (.putfield 80, 3) := by decide +kernel
theorem dX12_canal_386 : decode cX12_canal 386 = .ok (.aload_n 0, 1) := by decide +kernel
theorem dX12_canal_387 : decode cX12_canal 387 = .ok (.iconst 0, 1) := by decide +kernel
theorem dX12_canal_388 : decode cX12_canal 388 = .ok (.putfield 141, 3) := by decide +kernel
theorem dX12_canal_391 : decode cX12_canal 391 = .ok (.iload_n 1, 1) := by decide +kernel
theorem dX12_canal_392 : decode cX12_canal 392 = .ok (.ireturn, 1) := by decide +kernel
abbrev rm_M_canal : Room := { frames := 7, cells := 0, slots := 0, locals := 151 }
def M_canal_l83 (σ : Sg) (x1 : Int32) (x2 : Int32) : Option ((Sg × Int32) ⊕ (Sg × Int32)) :=
  if 72 ≤ x2 then (
    some (.inr (σ, x2))
  ) else (
    zrd σ 177 72 x2 fun v99 =>
    zwr σ 172 72 x2 v99 fun σ100 =>
    zlt (x2 + 1) fun v101 =>
    some (.inl (σ100, v101))
  )
set_option maxRecDepth 20000 in
theorem t_M_canal_l83 {X : Zx} {Q : State → Prop} {σ : Sg} {x1 : Int32} {x2 : Int32} (ok : Zok X cX12_canal RX12 rm_M_canal 198 3)  {out : ((Sg × Int32) ⊕ (Sg × Int32))} (hf : M_canal_l83 σ x1 x2 = some out) (hk : zout (fun (s : (Sg × Int32)) => ZAt X Q 0 0 83 s.1 [(0, .ref (X.ad 171)), (1, .int x1), (2, .int s.2)] []) (fun (s : (Sg × Int32)) => ZAt X Q 0 0 107 s.1 [(0, .ref (X.ad 171)), (1, .int x1)] []) out) : ZAt X Q 0 0 83 σ [(0, .ref (X.ad 171)), (1, .int x1), (2, .int x2)] [] := by
  unfold M_canal_l83 at hf
  refine z_iload_n ok dX12_canal_83 2 rfl ?_
  refine z_bipush (v := 72) ok dX12_canal_84 (by decide) ?_
  refine z_icmp_ge (tgt := 107) ok dX12_canal_86 (by decide) hf (fun _ hf => ?_) (fun _ hf => ?_)
  · obtain rfl := Option.some.inj hf
    exact z_sub [0, 1] rfl hk
  · refine z_aload_n ok dX12_canal_89 0 rfl ?_
    refine z_getr (q := 172) ok kc_171 zc_12 hin_12 3 (by decide) fl_12_19 rfl dX12_canal_90 ?_
    refine z_iload_n ok dX12_canal_93 2 rfl ?_
    refine z_aload_n ok dX12_canal_94 0 rfl ?_
    refine z_getr (q := 177) ok kc_171 zc_12 hin_12 14 (by decide) fl_12_53 rfl dX12_canal_95 ?_
    refine z_iload_n ok dX12_canal_98 2 rfl ?_
    refine z_iald ok kc_177 dX12_canal_99 hf (fun v99 hf => ?_)
    refine z_iast ok kc_172 dX12_canal_100 hf (fun σ100 hf => ?_)
    refine z_iinc (w := 1) (lv' := fun v101 => [(2, .int v101), (0, .ref (X.ad 171)), (1, .int x1)]) ok dX12_canal_101 2 rfl (by decide) (by decide) (fun _ => rfl) hf (fun v101 hf => ?_)
    refine z_goto (tgt := 83) ok dX12_canal_104 (by decide) ?_
    obtain rfl := Option.some.inj hf
    exact z_sub [1, 2, 0] rfl hk
def M_canal_l109 (σ : Sg) (x1 : Int32) (x2 : Int32) : Option ((Sg × Int32) ⊕ (Sg × Int32)) :=
  if 20 ≤ x2 then (
    some (.inr (σ, x2))
  ) else (
    zrd σ 178 20 x2 fun v125 =>
    zwr σ 173 20 x2 v125 fun σ126 =>
    zlt (x2 + 1) fun v127 =>
    some (.inl (σ126, v127))
  )
set_option maxRecDepth 20000 in
theorem t_M_canal_l109 {X : Zx} {Q : State → Prop} {σ : Sg} {x1 : Int32} {x2 : Int32} (ok : Zok X cX12_canal RX12 rm_M_canal 198 3)  {out : ((Sg × Int32) ⊕ (Sg × Int32))} (hf : M_canal_l109 σ x1 x2 = some out) (hk : zout (fun (s : (Sg × Int32)) => ZAt X Q 0 0 109 s.1 [(0, .ref (X.ad 171)), (1, .int x1), (2, .int s.2)] []) (fun (s : (Sg × Int32)) => ZAt X Q 0 0 133 s.1 [(0, .ref (X.ad 171)), (1, .int x1)] []) out) : ZAt X Q 0 0 109 σ [(0, .ref (X.ad 171)), (1, .int x1), (2, .int x2)] [] := by
  unfold M_canal_l109 at hf
  refine z_iload_n ok dX12_canal_109 2 rfl ?_
  refine z_bipush (v := 20) ok dX12_canal_110 (by decide) ?_
  refine z_icmp_ge (tgt := 133) ok dX12_canal_112 (by decide) hf (fun _ hf => ?_) (fun _ hf => ?_)
  · obtain rfl := Option.some.inj hf
    exact z_sub [0, 1] rfl hk
  · refine z_aload_n ok dX12_canal_115 0 rfl ?_
    refine z_getr (q := 173) ok kc_171 zc_12 hin_12 4 (by decide) fl_12_23 rfl dX12_canal_116 ?_
    refine z_iload_n ok dX12_canal_119 2 rfl ?_
    refine z_aload_n ok dX12_canal_120 0 rfl ?_
    refine z_getr (q := 178) ok kc_171 zc_12 hin_12 15 (by decide) fl_12_56 rfl dX12_canal_121 ?_
    refine z_iload_n ok dX12_canal_124 2 rfl ?_
    refine z_iald ok kc_178 dX12_canal_125 hf (fun v125 hf => ?_)
    refine z_iast ok kc_173 dX12_canal_126 hf (fun σ126 hf => ?_)
    refine z_iinc (w := 1) (lv' := fun v127 => [(2, .int v127), (0, .ref (X.ad 171)), (1, .int x1)]) ok dX12_canal_127 2 rfl (by decide) (by decide) (fun _ => rfl) hf (fun v127 hf => ?_)
    refine z_goto (tgt := 109) ok dX12_canal_130 (by decide) ?_
    obtain rfl := Option.some.inj hf
    exact z_sub [1, 2, 0] rfl hk
def M_canal_l135 (σ : Sg) (x1 : Int32) (x2 : Int32) : Option ((Sg × Int32) ⊕ (Sg × Int32)) :=
  if 16 ≤ x2 then (
    some (.inr (σ, x2))
  ) else (
    zrd σ 179 16 x2 fun v151 =>
    zwr σ 174 16 x2 v151 fun σ152 =>
    zlt (x2 + 1) fun v153 =>
    some (.inl (σ152, v153))
  )
set_option maxRecDepth 20000 in
theorem t_M_canal_l135 {X : Zx} {Q : State → Prop} {σ : Sg} {x1 : Int32} {x2 : Int32} (ok : Zok X cX12_canal RX12 rm_M_canal 198 3)  {out : ((Sg × Int32) ⊕ (Sg × Int32))} (hf : M_canal_l135 σ x1 x2 = some out) (hk : zout (fun (s : (Sg × Int32)) => ZAt X Q 0 0 135 s.1 [(0, .ref (X.ad 171)), (1, .int x1), (2, .int s.2)] []) (fun (s : (Sg × Int32)) => ZAt X Q 0 0 159 s.1 [(0, .ref (X.ad 171)), (1, .int x1)] []) out) : ZAt X Q 0 0 135 σ [(0, .ref (X.ad 171)), (1, .int x1), (2, .int x2)] [] := by
  unfold M_canal_l135 at hf
  refine z_iload_n ok dX12_canal_135 2 rfl ?_
  refine z_bipush (v := 16) ok dX12_canal_136 (by decide) ?_
  refine z_icmp_ge (tgt := 159) ok dX12_canal_138 (by decide) hf (fun _ hf => ?_) (fun _ hf => ?_)
  · obtain rfl := Option.some.inj hf
    exact z_sub [0, 1] rfl hk
  · refine z_aload_n ok dX12_canal_141 0 rfl ?_
    refine z_getr (q := 174) ok kc_171 zc_12 hin_12 5 (by decide) fl_12_26 rfl dX12_canal_142 ?_
    refine z_iload_n ok dX12_canal_145 2 rfl ?_
    refine z_aload_n ok dX12_canal_146 0 rfl ?_
    refine z_getr (q := 179) ok kc_171 zc_12 hin_12 16 (by decide) fl_12_59 rfl dX12_canal_147 ?_
    refine z_iload_n ok dX12_canal_150 2 rfl ?_
    refine z_iald ok kc_179 dX12_canal_151 hf (fun v151 hf => ?_)
    refine z_iast ok kc_174 dX12_canal_152 hf (fun σ152 hf => ?_)
    refine z_iinc (w := 1) (lv' := fun v153 => [(2, .int v153), (0, .ref (X.ad 171)), (1, .int x1)]) ok dX12_canal_153 2 rfl (by decide) (by decide) (fun _ => rfl) hf (fun v153 hf => ?_)
    refine z_goto (tgt := 135) ok dX12_canal_156 (by decide) ?_
    obtain rfl := Option.some.inj hf
    exact z_sub [1, 2, 0] rfl hk
def M_canal_l161 (σ : Sg) (x1 : Int32) (x2 : Int32) : Option ((Sg × Int32) ⊕ (Sg × Int32)) :=
  if 48 ≤ x2 then (
    some (.inr (σ, x2))
  ) else (
    zrd σ 181 48 x2 fun v177 =>
    zwr σ 175 48 x2 v177 fun σ178 =>
    zlt (x2 + 1) fun v179 =>
    some (.inl (σ178, v179))
  )
set_option maxRecDepth 20000 in
theorem t_M_canal_l161 {X : Zx} {Q : State → Prop} {σ : Sg} {x1 : Int32} {x2 : Int32} (ok : Zok X cX12_canal RX12 rm_M_canal 198 3)  {out : ((Sg × Int32) ⊕ (Sg × Int32))} (hf : M_canal_l161 σ x1 x2 = some out) (hk : zout (fun (s : (Sg × Int32)) => ZAt X Q 0 0 161 s.1 [(0, .ref (X.ad 171)), (1, .int x1), (2, .int s.2)] []) (fun (s : (Sg × Int32)) => ZAt X Q 0 0 185 s.1 [(0, .ref (X.ad 171)), (1, .int x1)] []) out) : ZAt X Q 0 0 161 σ [(0, .ref (X.ad 171)), (1, .int x1), (2, .int x2)] [] := by
  unfold M_canal_l161 at hf
  refine z_iload_n ok dX12_canal_161 2 rfl ?_
  refine z_bipush (v := 48) ok dX12_canal_162 (by decide) ?_
  refine z_icmp_ge (tgt := 185) ok dX12_canal_164 (by decide) hf (fun _ hf => ?_) (fun _ hf => ?_)
  · obtain rfl := Option.some.inj hf
    exact z_sub [0, 1] rfl hk
  · refine z_aload_n ok dX12_canal_167 0 rfl ?_
    refine z_getr (q := 175) ok kc_171 zc_12 hin_12 6 (by decide) fl_12_29 rfl dX12_canal_168 ?_
    refine z_iload_n ok dX12_canal_171 2 rfl ?_
    refine z_aload_n ok dX12_canal_172 0 rfl ?_
    refine z_getr (q := 181) ok kc_171 zc_12 hin_12 18 (by decide) fl_12_65 rfl dX12_canal_173 ?_
    refine z_iload_n ok dX12_canal_176 2 rfl ?_
    refine z_iald ok kc_181 dX12_canal_177 hf (fun v177 hf => ?_)
    refine z_iast ok kc_175 dX12_canal_178 hf (fun σ178 hf => ?_)
    refine z_iinc (w := 1) (lv' := fun v179 => [(2, .int v179), (0, .ref (X.ad 171)), (1, .int x1)]) ok dX12_canal_179 2 rfl (by decide) (by decide) (fun _ => rfl) hf (fun v179 hf => ?_)
    refine z_goto (tgt := 161) ok dX12_canal_182 (by decide) ?_
    obtain rfl := Option.some.inj hf
    exact z_sub [1, 2, 0] rfl hk
def M_canal_l187 (σ : Sg) (x1 : Int32) (x2 : Int32) : Option ((Sg × Int32) ⊕ (Sg × Int32)) :=
  if 60 ≤ x2 then (
    some (.inr (σ, x2))
  ) else (
    zrd σ 182 60 x2 fun v203 =>
    zwr σ 176 60 x2 v203 fun σ204 =>
    zlt (x2 + 1) fun v205 =>
    some (.inl (σ204, v205))
  )
set_option maxRecDepth 20000 in
theorem t_M_canal_l187 {X : Zx} {Q : State → Prop} {σ : Sg} {x1 : Int32} {x2 : Int32} (ok : Zok X cX12_canal RX12 rm_M_canal 198 3)  {out : ((Sg × Int32) ⊕ (Sg × Int32))} (hf : M_canal_l187 σ x1 x2 = some out) (hk : zout (fun (s : (Sg × Int32)) => ZAt X Q 0 0 187 s.1 [(0, .ref (X.ad 171)), (1, .int x1), (2, .int s.2)] []) (fun (s : (Sg × Int32)) => ZAt X Q 0 0 211 s.1 [(0, .ref (X.ad 171)), (1, .int x1)] []) out) : ZAt X Q 0 0 187 σ [(0, .ref (X.ad 171)), (1, .int x1), (2, .int x2)] [] := by
  unfold M_canal_l187 at hf
  refine z_iload_n ok dX12_canal_187 2 rfl ?_
  refine z_bipush (v := 60) ok dX12_canal_188 (by decide) ?_
  refine z_icmp_ge (tgt := 211) ok dX12_canal_190 (by decide) hf (fun _ hf => ?_) (fun _ hf => ?_)
  · obtain rfl := Option.some.inj hf
    exact z_sub [0, 1] rfl hk
  · refine z_aload_n ok dX12_canal_193 0 rfl ?_
    refine z_getr (q := 176) ok kc_171 zc_12 hin_12 7 (by decide) fl_12_32 rfl dX12_canal_194 ?_
    refine z_iload_n ok dX12_canal_197 2 rfl ?_
    refine z_aload_n ok dX12_canal_198 0 rfl ?_
    refine z_getr (q := 182) ok kc_171 zc_12 hin_12 19 (by decide) fl_12_68 rfl dX12_canal_199 ?_
    refine z_iload_n ok dX12_canal_202 2 rfl ?_
    refine z_iald ok kc_182 dX12_canal_203 hf (fun v203 hf => ?_)
    refine z_iast ok kc_176 dX12_canal_204 hf (fun σ204 hf => ?_)
    refine z_iinc (w := 1) (lv' := fun v205 => [(2, .int v205), (0, .ref (X.ad 171)), (1, .int x1)]) ok dX12_canal_205 2 rfl (by decide) (by decide) (fun _ => rfl) hf (fun v205 hf => ?_)
    refine z_goto (tgt := 187) ok dX12_canal_208 (by decide) ?_
    obtain rfl := Option.some.inj hf
    exact z_sub [1, 2, 0] rfl hk
def M_canal_l213 (σ : Sg) (x1 : Int32) (x2 : Int32) : Option ((Sg × Int32) ⊕ (Sg × Int32)) :=
  if 1607 ≤ x2 then (
    some (.inr (σ, x2))
  ) else (
    zwr σ 183 1607 x2 0 fun σ226 =>
    zlt (x2 + 1) fun v227 =>
    some (.inl (σ226, v227))
  )
set_option maxRecDepth 20000 in
theorem t_M_canal_l213 {X : Zx} {Q : State → Prop} {σ : Sg} {x1 : Int32} {x2 : Int32} (ok : Zok X cX12_canal RX12 rm_M_canal 198 3)  {out : ((Sg × Int32) ⊕ (Sg × Int32))} (hf : M_canal_l213 σ x1 x2 = some out) (hk : zout (fun (s : (Sg × Int32)) => ZAt X Q 0 0 213 s.1 [(0, .ref (X.ad 171)), (1, .int x1), (2, .int s.2)] []) (fun (s : (Sg × Int32)) => ZAt X Q 0 0 233 s.1 [(0, .ref (X.ad 171)), (1, .int x1)] []) out) : ZAt X Q 0 0 213 σ [(0, .ref (X.ad 171)), (1, .int x1), (2, .int x2)] [] := by
  unfold M_canal_l213 at hf
  refine z_iload_n ok dX12_canal_213 2 rfl ?_
  refine z_sipush (v := 1607) ok dX12_canal_214 (by decide) ?_
  refine z_icmp_ge (tgt := 233) ok dX12_canal_217 (by decide) hf (fun _ hf => ?_) (fun _ hf => ?_)
  · obtain rfl := Option.some.inj hf
    exact z_sub [0, 1] rfl hk
  · refine z_aload_n ok dX12_canal_220 0 rfl ?_
    refine z_getr (q := 183) ok kc_171 zc_12 hin_12 20 (by decide) fl_12_71 rfl dX12_canal_221 ?_
    refine z_iload_n ok dX12_canal_224 2 rfl ?_
    refine z_iconst (v := 0) ok dX12_canal_225 (by decide) ?_
    refine z_iast ok kc_183 dX12_canal_226 hf (fun σ226 hf => ?_)
    refine z_iinc (w := 1) (lv' := fun v227 => [(2, .int v227), (0, .ref (X.ad 171)), (1, .int x1)]) ok dX12_canal_227 2 rfl (by decide) (by decide) (fun _ => rfl) hf (fun v227 hf => ?_)
    refine z_goto (tgt := 213) ok dX12_canal_230 (by decide) ?_
    obtain rfl := Option.some.inj hf
    exact z_sub [1, 2, 0] rfl hk
def M_canal_l235 (σ : Sg) (x1 : Int32) (x2 : Int32) : Option ((Sg × Int32) ⊕ (Sg × Int32)) :=
  zgt σ 171 0 fun v237 =>
  if v237 ≤ x2 then (
    some (.inr (σ, x2))
  ) else (
    (M_toldOf σ x2 6).bind fun r254 =>
    zwr σ 183 1607 (0 + x2) r254 fun σ257 =>
    (M_toldOf σ257 x2 8).bind fun r270 =>
    zwr σ257 183 1607 (8 + x2) r270 fun σ273 =>
    zwr σ273 183 1607 (16 + x2) (-1) fun σ283 =>
    (M_toldOf σ283 x2 7).bind fun r296 =>
    zwr σ283 183 1607 (24 + x2) r296 fun σ299 =>
    zlt (x2 + 1) fun v300 =>
    some (.inl (σ299, v300))
  )
set_option maxRecDepth 20000 in
theorem t_M_canal_l235 {X : Zx} {Q : State → Prop} {σ : Sg} {x1 : Int32} {x2 : Int32} (ok : Zok X cX12_canal RX12 rm_M_canal 198 3)  {out : ((Sg × Int32) ⊕ (Sg × Int32))} (hf : M_canal_l235 σ x1 x2 = some out) (hk : zout (fun (s : (Sg × Int32)) => ZAt X Q 0 0 235 s.1 [(0, .ref (X.ad 171)), (1, .int x1), (2, .int s.2)] []) (fun (s : (Sg × Int32)) => ZAt X Q 0 0 306 s.1 [(0, .ref (X.ad 171)), (1, .int x1)] []) out) : ZAt X Q 0 0 235 σ [(0, .ref (X.ad 171)), (1, .int x1), (2, .int x2)] [] := by
  unfold M_canal_l235 at hf
  refine z_iload_n ok dX12_canal_235 2 rfl ?_
  refine z_aload_n ok dX12_canal_236 0 rfl ?_
  refine z_geti ok kc_171 zc_12 hin_12 0 (by decide) fl_12_7 rfl dX12_canal_237 hf (fun v237 hf => ?_)
  refine z_icmp_ge (tgt := 306) ok dX12_canal_240 (by decide) hf (fun _ hf => ?_) (fun _ hf => ?_)
  · obtain rfl := Option.some.inj hf
    exact z_sub [0, 1] rfl hk
  · refine z_aload_n ok dX12_canal_243 0 rfl ?_
    refine z_getr (q := 183) ok kc_171 zc_12 hin_12 20 (by decide) fl_12_71 rfl dX12_canal_244 ?_
    refine z_iconst (v := 0) ok dX12_canal_247 (by decide) ?_
    refine z_iload_n ok dX12_canal_248 2 rfl ?_
    refine z_iadd ok dX12_canal_249 ?_
    refine z_aload_n ok dX12_canal_250 0 rfl ?_
    refine z_iload_n ok dX12_canal_251 2 rfl ?_
    refine z_bipush (v := 6) ok dX12_canal_252 (by decide) ?_
    refine z_call hf (fun r254 h254 hf => ?_)
    refine z_cV (As := [.int x2, .int 6]) (rest := [.int (0 + x2), .ref (X.ad 183)]) (w := 171) ok kc_171 zc_12 (c_M_toldOf h254) rfl ⟨ml_12_251, w_M_toldOf⟩ hy_M_toldOf ⟨rfl, rfl⟩ ⟨Nat.le_of_ble_eq_true rfl, Nat.le_of_ble_eq_true rfl⟩ ⟨Nat.zero_le _, Nat.zero_le _⟩ rfl (Nat.le_of_ble_eq_true rfl) dX12_canal_254 ?_
    refine z_iast ok kc_183 dX12_canal_257 hf (fun σ257 hf => ?_)
    refine z_aload_n ok dX12_canal_258 0 rfl ?_
    refine z_getr (q := 183) ok kc_171 zc_12 hin_12 20 (by decide) fl_12_71 rfl dX12_canal_259 ?_
    refine z_bipush (v := 8) ok dX12_canal_262 (by decide) ?_
    refine z_iload_n ok dX12_canal_264 2 rfl ?_
    refine z_iadd ok dX12_canal_265 ?_
    refine z_aload_n ok dX12_canal_266 0 rfl ?_
    refine z_iload_n ok dX12_canal_267 2 rfl ?_
    refine z_bipush (v := 8) ok dX12_canal_268 (by decide) ?_
    refine z_call hf (fun r270 h270 hf => ?_)
    refine z_cV (As := [.int x2, .int 8]) (rest := [.int (8 + x2), .ref (X.ad 183)]) (w := 171) ok kc_171 zc_12 (c_M_toldOf h270) rfl ⟨ml_12_251, w_M_toldOf⟩ hy_M_toldOf ⟨rfl, rfl⟩ ⟨Nat.le_of_ble_eq_true rfl, Nat.le_of_ble_eq_true rfl⟩ ⟨Nat.zero_le _, Nat.zero_le _⟩ rfl (Nat.le_of_ble_eq_true rfl) dX12_canal_270 ?_
    refine z_iast ok kc_183 dX12_canal_273 hf (fun σ273 hf => ?_)
    refine z_aload_n ok dX12_canal_274 0 rfl ?_
    refine z_getr (q := 183) ok kc_171 zc_12 hin_12 20 (by decide) fl_12_71 rfl dX12_canal_275 ?_
    refine z_bipush (v := 16) ok dX12_canal_278 (by decide) ?_
    refine z_iload_n ok dX12_canal_280 2 rfl ?_
    refine z_iadd ok dX12_canal_281 ?_
    refine z_iconst (v := (-1)) ok dX12_canal_282 (by decide) ?_
    refine z_iast ok kc_183 dX12_canal_283 hf (fun σ283 hf => ?_)
    refine z_aload_n ok dX12_canal_284 0 rfl ?_
    refine z_getr (q := 183) ok kc_171 zc_12 hin_12 20 (by decide) fl_12_71 rfl dX12_canal_285 ?_
    refine z_bipush (v := 24) ok dX12_canal_288 (by decide) ?_
    refine z_iload_n ok dX12_canal_290 2 rfl ?_
    refine z_iadd ok dX12_canal_291 ?_
    refine z_aload_n ok dX12_canal_292 0 rfl ?_
    refine z_iload_n ok dX12_canal_293 2 rfl ?_
    refine z_bipush (v := 7) ok dX12_canal_294 (by decide) ?_
    refine z_call hf (fun r296 h296 hf => ?_)
    refine z_cV (As := [.int x2, .int 7]) (rest := [.int (24 + x2), .ref (X.ad 183)]) (w := 171) ok kc_171 zc_12 (c_M_toldOf h296) rfl ⟨ml_12_251, w_M_toldOf⟩ hy_M_toldOf ⟨rfl, rfl⟩ ⟨Nat.le_of_ble_eq_true rfl, Nat.le_of_ble_eq_true rfl⟩ ⟨Nat.zero_le _, Nat.zero_le _⟩ rfl (Nat.le_of_ble_eq_true rfl) dX12_canal_296 ?_
    refine z_iast ok kc_183 dX12_canal_299 hf (fun σ299 hf => ?_)
    refine z_iinc (w := 1) (lv' := fun v300 => [(2, .int v300), (0, .ref (X.ad 171)), (1, .int x1)]) ok dX12_canal_300 2 rfl (by decide) (by decide) (fun _ => rfl) hf (fun v300 hf => ?_)
    refine z_goto (tgt := 235) ok dX12_canal_303 (by decide) ?_
    obtain rfl := Option.some.inj hf
    exact z_sub [1, 2, 0] rfl hk
def M_canal_l308 (σ : Sg) (x1 : Int32) (x2 : Int32) : Option ((Sg × Int32) ⊕ (Sg × Int32)) :=
  zgt σ 171 11 fun v311 =>
  if (3 * v311) ≤ x2 then (
    some (.inr (σ, x2))
  ) else (
    zrd σ 180 48 x2 fun v332 =>
    zwr σ 183 1607 (148 + x2) v332 fun σ333 =>
    zlt (x2 + 1) fun v334 =>
    some (.inl (σ333, v334))
  )
set_option maxRecDepth 20000 in
theorem t_M_canal_l308 {X : Zx} {Q : State → Prop} {σ : Sg} {x1 : Int32} {x2 : Int32} (ok : Zok X cX12_canal RX12 rm_M_canal 198 3)  {out : ((Sg × Int32) ⊕ (Sg × Int32))} (hf : M_canal_l308 σ x1 x2 = some out) (hk : zout (fun (s : (Sg × Int32)) => ZAt X Q 0 0 308 s.1 [(0, .ref (X.ad 171)), (1, .int x1), (2, .int s.2)] []) (fun (s : (Sg × Int32)) => ZAt X Q 0 0 340 s.1 [(0, .ref (X.ad 171)), (1, .int x1)] []) out) : ZAt X Q 0 0 308 σ [(0, .ref (X.ad 171)), (1, .int x1), (2, .int x2)] [] := by
  unfold M_canal_l308 at hf
  refine z_iload_n ok dX12_canal_308 2 rfl ?_
  refine z_iconst (v := 3) ok dX12_canal_309 (by decide) ?_
  refine z_aload_n ok dX12_canal_310 0 rfl ?_
  refine z_geti ok kc_171 zc_12 hin_12 11 (by decide) fl_12_44 rfl dX12_canal_311 hf (fun v311 hf => ?_)
  refine z_imul ok dX12_canal_314 ?_
  refine z_icmp_ge (tgt := 340) ok dX12_canal_315 (by decide) hf (fun _ hf => ?_) (fun _ hf => ?_)
  · obtain rfl := Option.some.inj hf
    exact z_sub [0, 1] rfl hk
  · refine z_aload_n ok dX12_canal_318 0 rfl ?_
    refine z_getr (q := 183) ok kc_171 zc_12 hin_12 20 (by decide) fl_12_71 rfl dX12_canal_319 ?_
    refine z_sipush (v := 148) ok dX12_canal_322 (by decide) ?_
    refine z_iload_n ok dX12_canal_325 2 rfl ?_
    refine z_iadd ok dX12_canal_326 ?_
    refine z_aload_n ok dX12_canal_327 0 rfl ?_
    refine z_getr (q := 180) ok kc_171 zc_12 hin_12 17 (by decide) fl_12_62 rfl dX12_canal_328 ?_
    refine z_iload_n ok dX12_canal_331 2 rfl ?_
    refine z_iald ok kc_180 dX12_canal_332 hf (fun v332 hf => ?_)
    refine z_iast ok kc_183 dX12_canal_333 hf (fun σ333 hf => ?_)
    refine z_iinc (w := 1) (lv' := fun v334 => [(2, .int v334), (0, .ref (X.ad 171)), (1, .int x1)]) ok dX12_canal_334 2 rfl (by decide) (by decide) (fun _ => rfl) hf (fun v334 hf => ?_)
    refine z_goto (tgt := 308) ok dX12_canal_337 (by decide) ?_
    obtain rfl := Option.some.inj hf
    exact z_sub [1, 2, 0] rfl hk
def M_canal_j340 (σ : Sg) (x1 : Int32) : Option (Int32 × Sg) :=
  zgt σ 171 11 fun v348 =>
  zwr σ 183 1607 199 v348 fun σ351 =>
  zgt σ351 171 12 fun v360 =>
  zwr σ351 183 1607 197 v360 fun σ363 =>
  zgt σ363 171 13 fun v372 =>
  zwr σ363 183 1607 198 v372 fun σ375 =>
  zbo 1 <| zpt σ375 171 25 1 fun σ378 =>
  zpt σ378 171 23 0 fun σ383 =>
  zpt σ383 171 43 0 fun σ388 =>
  some (x1, σ388)
set_option maxRecDepth 20000 in
theorem t_M_canal_j340 {X : Zx} {Q : State → Prop} {σ : Sg} {x1 : Int32} (ok : Zok X cX12_canal RX12 rm_M_canal 198 3)  {out : (Int32 × Sg)} (hf : M_canal_j340 σ x1 = some out) (hk : ZrI cX12_canal X Q out.1 out.2) : ZAt X Q 0 0 340 σ [(0, .ref (X.ad 171)), (1, .int x1)] [] := by
  unfold M_canal_j340 at hf
  refine z_aload_n ok dX12_canal_340 0 rfl ?_
  refine z_getr (q := 183) ok kc_171 zc_12 hin_12 20 (by decide) fl_12_71 rfl dX12_canal_341 ?_
  refine z_sipush (v := 199) ok dX12_canal_344 (by decide) ?_
  refine z_aload_n ok dX12_canal_347 0 rfl ?_
  refine z_geti ok kc_171 zc_12 hin_12 11 (by decide) fl_12_44 rfl dX12_canal_348 hf (fun v348 hf => ?_)
  refine z_iast ok kc_183 dX12_canal_351 hf (fun σ351 hf => ?_)
  refine z_aload_n ok dX12_canal_352 0 rfl ?_
  refine z_getr (q := 183) ok kc_171 zc_12 hin_12 20 (by decide) fl_12_71 rfl dX12_canal_353 ?_
  refine z_sipush (v := 197) ok dX12_canal_356 (by decide) ?_
  refine z_aload_n ok dX12_canal_359 0 rfl ?_
  refine z_geti ok kc_171 zc_12 hin_12 12 (by decide) fl_12_47 rfl dX12_canal_360 hf (fun v360 hf => ?_)
  refine z_iast ok kc_183 dX12_canal_363 hf (fun σ363 hf => ?_)
  refine z_aload_n ok dX12_canal_364 0 rfl ?_
  refine z_getr (q := 183) ok kc_171 zc_12 hin_12 20 (by decide) fl_12_71 rfl dX12_canal_365 ?_
  refine z_sipush (v := 198) ok dX12_canal_368 (by decide) ?_
  refine z_aload_n ok dX12_canal_371 0 rfl ?_
  refine z_geti ok kc_171 zc_12 hin_12 13 (by decide) fl_12_50 rfl dX12_canal_372 hf (fun v372 hf => ?_)
  refine z_iast ok kc_183 dX12_canal_375 hf (fun σ375 hf => ?_)
  refine z_aload_n ok dX12_canal_376 0 rfl ?_
  refine z_iconst (v := 1) ok dX12_canal_377 (by decide) ?_
  refine z_putz ok kc_171 zc_12 hin_12 tyX12 tyX12_ok nmX12 25 (by decide) fl_12_86 rfl rfl (tyX12_ok 25 (by decide)) dX12_canal_378 hf (fun σ378 hf => ?_)
  refine z_aload_n ok dX12_canal_381 0 rfl ?_
  refine z_iconst (v := 0) ok dX12_canal_382 (by decide) ?_
  refine z_puti ok kc_171 zc_12 hin_12 tyX12 tyX12_ok nmX12 23 (by decide) fl_12_80 rfl rfl (tyX12_ok 23 (by decide)) dX12_canal_383 hf (fun σ383 hf => ?_)
  refine z_aload_n ok dX12_canal_386 0 rfl ?_
  refine z_iconst (v := 0) ok dX12_canal_387 (by decide) ?_
  refine z_puti ok kc_171 zc_12 hin_12 tyX12 tyX12_ok nmX12 43 (by decide) fl_12_141 rfl rfl (tyX12_ok 43 (by decide)) dX12_canal_388 hf (fun σ388 hf => ?_)
  refine z_iload_n ok dX12_canal_391 1 rfl ?_
  obtain rfl := Option.some.inj hf
  exact hk _ _ dX12_canal_392
def M_canal_j306 (σ : Sg) (x1 : Int32) : Option (Int32 × Sg) :=
  zlt 0 fun v307 =>
  (zit (fun (s : (Sg × Int32)) => M_canal_l308 s.1 x1 s.2) zFU (σ, v307)).bind fun r =>
  M_canal_j340 r.1 x1
set_option maxRecDepth 20000 in
theorem t_M_canal_j306 {X : Zx} {Q : State → Prop} {σ : Sg} {x1 : Int32} (ok : Zok X cX12_canal RX12 rm_M_canal 198 3)  {out : (Int32 × Sg)} (hf : M_canal_j306 σ x1 = some out) (hk : ZrI cX12_canal X Q out.1 out.2) : ZAt X Q 0 0 306 σ [(0, .ref (X.ad 171)), (1, .int x1)] [] := by
  unfold M_canal_j306 at hf
  refine z_iconst (v := 0) ok dX12_canal_306 (by decide) ?_
  refine z_nm hf (fun v307 hf => ?_)
  refine z_istore_n (lv' := [(2, .int v307), (0, .ref (X.ad 171)), (1, .int x1)]) ok dX12_canal_307 (by decide) rfl ?_
  refine z_call hf (fun r hr hf => ?_)
  refine z_sub [1, 2, 0] rfl (z_iter (fun (s : (Sg × Int32)) => s.1) (fun (s : (Sg × Int32)) => [(0, .ref (X.ad 171)), (1, .int x1), (2, .int s.2)]) (fun s o h1 h2 => t_M_canal_l308 ok h1 h2) _ _ _ hr ?_)
  show ZAt X Q 0 0 340 r.1 [(0, .ref (X.ad 171)), (1, .int x1)] []
  exact z_sub [0, 1] rfl (t_M_canal_j340 ok hf hk)
def M_canal_j233 (σ : Sg) (x1 : Int32) : Option (Int32 × Sg) :=
  zlt 0 fun v234 =>
  (zit (fun (s : (Sg × Int32)) => M_canal_l235 s.1 x1 s.2) zFU (σ, v234)).bind fun r =>
  M_canal_j306 r.1 x1
set_option maxRecDepth 20000 in
theorem t_M_canal_j233 {X : Zx} {Q : State → Prop} {σ : Sg} {x1 : Int32} (ok : Zok X cX12_canal RX12 rm_M_canal 198 3)  {out : (Int32 × Sg)} (hf : M_canal_j233 σ x1 = some out) (hk : ZrI cX12_canal X Q out.1 out.2) : ZAt X Q 0 0 233 σ [(0, .ref (X.ad 171)), (1, .int x1)] [] := by
  unfold M_canal_j233 at hf
  refine z_iconst (v := 0) ok dX12_canal_233 (by decide) ?_
  refine z_nm hf (fun v234 hf => ?_)
  refine z_istore_n (lv' := [(2, .int v234), (0, .ref (X.ad 171)), (1, .int x1)]) ok dX12_canal_234 (by decide) rfl ?_
  refine z_call hf (fun r hr hf => ?_)
  refine z_sub [1, 2, 0] rfl (z_iter (fun (s : (Sg × Int32)) => s.1) (fun (s : (Sg × Int32)) => [(0, .ref (X.ad 171)), (1, .int x1), (2, .int s.2)]) (fun s o h1 h2 => t_M_canal_l235 ok h1 h2) _ _ _ hr ?_)
  show ZAt X Q 0 0 306 r.1 [(0, .ref (X.ad 171)), (1, .int x1)] []
  exact z_sub [0, 1] rfl (t_M_canal_j306 ok hf hk)
def M_canal_j211 (σ : Sg) (x1 : Int32) : Option (Int32 × Sg) :=
  zlt 0 fun v212 =>
  (zit (fun (s : (Sg × Int32)) => M_canal_l213 s.1 x1 s.2) zFU (σ, v212)).bind fun r =>
  M_canal_j233 r.1 x1
set_option maxRecDepth 20000 in
theorem t_M_canal_j211 {X : Zx} {Q : State → Prop} {σ : Sg} {x1 : Int32} (ok : Zok X cX12_canal RX12 rm_M_canal 198 3)  {out : (Int32 × Sg)} (hf : M_canal_j211 σ x1 = some out) (hk : ZrI cX12_canal X Q out.1 out.2) : ZAt X Q 0 0 211 σ [(0, .ref (X.ad 171)), (1, .int x1)] [] := by
  unfold M_canal_j211 at hf
  refine z_iconst (v := 0) ok dX12_canal_211 (by decide) ?_
  refine z_nm hf (fun v212 hf => ?_)
  refine z_istore_n (lv' := [(2, .int v212), (0, .ref (X.ad 171)), (1, .int x1)]) ok dX12_canal_212 (by decide) rfl ?_
  refine z_call hf (fun r hr hf => ?_)
  refine z_sub [1, 2, 0] rfl (z_iter (fun (s : (Sg × Int32)) => s.1) (fun (s : (Sg × Int32)) => [(0, .ref (X.ad 171)), (1, .int x1), (2, .int s.2)]) (fun s o h1 h2 => t_M_canal_l213 ok h1 h2) _ _ _ hr ?_)
  show ZAt X Q 0 0 233 r.1 [(0, .ref (X.ad 171)), (1, .int x1)] []
  exact z_sub [0, 1] rfl (t_M_canal_j233 ok hf hk)
def M_canal_j185 (σ : Sg) (x1 : Int32) : Option (Int32 × Sg) :=
  zlt 0 fun v186 =>
  (zit (fun (s : (Sg × Int32)) => M_canal_l187 s.1 x1 s.2) zFU (σ, v186)).bind fun r =>
  M_canal_j211 r.1 x1
set_option maxRecDepth 20000 in
theorem t_M_canal_j185 {X : Zx} {Q : State → Prop} {σ : Sg} {x1 : Int32} (ok : Zok X cX12_canal RX12 rm_M_canal 198 3)  {out : (Int32 × Sg)} (hf : M_canal_j185 σ x1 = some out) (hk : ZrI cX12_canal X Q out.1 out.2) : ZAt X Q 0 0 185 σ [(0, .ref (X.ad 171)), (1, .int x1)] [] := by
  unfold M_canal_j185 at hf
  refine z_iconst (v := 0) ok dX12_canal_185 (by decide) ?_
  refine z_nm hf (fun v186 hf => ?_)
  refine z_istore_n (lv' := [(2, .int v186), (0, .ref (X.ad 171)), (1, .int x1)]) ok dX12_canal_186 (by decide) rfl ?_
  refine z_call hf (fun r hr hf => ?_)
  refine z_sub [1, 2, 0] rfl (z_iter (fun (s : (Sg × Int32)) => s.1) (fun (s : (Sg × Int32)) => [(0, .ref (X.ad 171)), (1, .int x1), (2, .int s.2)]) (fun s o h1 h2 => t_M_canal_l187 ok h1 h2) _ _ _ hr ?_)
  show ZAt X Q 0 0 211 r.1 [(0, .ref (X.ad 171)), (1, .int x1)] []
  exact z_sub [0, 1] rfl (t_M_canal_j211 ok hf hk)
def M_canal_j159 (σ : Sg) (x1 : Int32) : Option (Int32 × Sg) :=
  zlt 0 fun v160 =>
  (zit (fun (s : (Sg × Int32)) => M_canal_l161 s.1 x1 s.2) zFU (σ, v160)).bind fun r =>
  M_canal_j185 r.1 x1
set_option maxRecDepth 20000 in
theorem t_M_canal_j159 {X : Zx} {Q : State → Prop} {σ : Sg} {x1 : Int32} (ok : Zok X cX12_canal RX12 rm_M_canal 198 3)  {out : (Int32 × Sg)} (hf : M_canal_j159 σ x1 = some out) (hk : ZrI cX12_canal X Q out.1 out.2) : ZAt X Q 0 0 159 σ [(0, .ref (X.ad 171)), (1, .int x1)] [] := by
  unfold M_canal_j159 at hf
  refine z_iconst (v := 0) ok dX12_canal_159 (by decide) ?_
  refine z_nm hf (fun v160 hf => ?_)
  refine z_istore_n (lv' := [(2, .int v160), (0, .ref (X.ad 171)), (1, .int x1)]) ok dX12_canal_160 (by decide) rfl ?_
  refine z_call hf (fun r hr hf => ?_)
  refine z_sub [1, 2, 0] rfl (z_iter (fun (s : (Sg × Int32)) => s.1) (fun (s : (Sg × Int32)) => [(0, .ref (X.ad 171)), (1, .int x1), (2, .int s.2)]) (fun s o h1 h2 => t_M_canal_l161 ok h1 h2) _ _ _ hr ?_)
  show ZAt X Q 0 0 185 r.1 [(0, .ref (X.ad 171)), (1, .int x1)] []
  exact z_sub [0, 1] rfl (t_M_canal_j185 ok hf hk)
def M_canal_j133 (σ : Sg) (x1 : Int32) : Option (Int32 × Sg) :=
  zlt 0 fun v134 =>
  (zit (fun (s : (Sg × Int32)) => M_canal_l135 s.1 x1 s.2) zFU (σ, v134)).bind fun r =>
  M_canal_j159 r.1 x1
set_option maxRecDepth 20000 in
theorem t_M_canal_j133 {X : Zx} {Q : State → Prop} {σ : Sg} {x1 : Int32} (ok : Zok X cX12_canal RX12 rm_M_canal 198 3)  {out : (Int32 × Sg)} (hf : M_canal_j133 σ x1 = some out) (hk : ZrI cX12_canal X Q out.1 out.2) : ZAt X Q 0 0 133 σ [(0, .ref (X.ad 171)), (1, .int x1)] [] := by
  unfold M_canal_j133 at hf
  refine z_iconst (v := 0) ok dX12_canal_133 (by decide) ?_
  refine z_nm hf (fun v134 hf => ?_)
  refine z_istore_n (lv' := [(2, .int v134), (0, .ref (X.ad 171)), (1, .int x1)]) ok dX12_canal_134 (by decide) rfl ?_
  refine z_call hf (fun r hr hf => ?_)
  refine z_sub [1, 2, 0] rfl (z_iter (fun (s : (Sg × Int32)) => s.1) (fun (s : (Sg × Int32)) => [(0, .ref (X.ad 171)), (1, .int x1), (2, .int s.2)]) (fun s o h1 h2 => t_M_canal_l135 ok h1 h2) _ _ _ hr ?_)
  show ZAt X Q 0 0 159 r.1 [(0, .ref (X.ad 171)), (1, .int x1)] []
  exact z_sub [0, 1] rfl (t_M_canal_j159 ok hf hk)
def M_canal_j107 (σ : Sg) (x1 : Int32) : Option (Int32 × Sg) :=
  zlt 0 fun v108 =>
  (zit (fun (s : (Sg × Int32)) => M_canal_l109 s.1 x1 s.2) zFU (σ, v108)).bind fun r =>
  M_canal_j133 r.1 x1
set_option maxRecDepth 20000 in
theorem t_M_canal_j107 {X : Zx} {Q : State → Prop} {σ : Sg} {x1 : Int32} (ok : Zok X cX12_canal RX12 rm_M_canal 198 3)  {out : (Int32 × Sg)} (hf : M_canal_j107 σ x1 = some out) (hk : ZrI cX12_canal X Q out.1 out.2) : ZAt X Q 0 0 107 σ [(0, .ref (X.ad 171)), (1, .int x1)] [] := by
  unfold M_canal_j107 at hf
  refine z_iconst (v := 0) ok dX12_canal_107 (by decide) ?_
  refine z_nm hf (fun v108 hf => ?_)
  refine z_istore_n (lv' := [(2, .int v108), (0, .ref (X.ad 171)), (1, .int x1)]) ok dX12_canal_108 (by decide) rfl ?_
  refine z_call hf (fun r hr hf => ?_)
  refine z_sub [1, 2, 0] rfl (z_iter (fun (s : (Sg × Int32)) => s.1) (fun (s : (Sg × Int32)) => [(0, .ref (X.ad 171)), (1, .int x1), (2, .int s.2)]) (fun s o h1 h2 => t_M_canal_l109 ok h1 h2) _ _ _ hr ?_)
  show ZAt X Q 0 0 133 r.1 [(0, .ref (X.ad 171)), (1, .int x1)] []
  exact z_sub [0, 1] rfl (t_M_canal_j133 ok hf hk)
def M_canal (σ : Sg)  : Option (Int32 × Sg) :=
  (M_taken σ).bind fun r2 =>
  zpt r2.2 171 32 r2.1 fun σ5 =>
  zpt σ5 171 33 0 fun σ10 =>
  zpt σ10 171 35 0 fun σ15 =>
  zpt σ15 171 36 (-1) fun σ20 =>
  (M_readsAll σ20).bind fun r24 =>
  zlt r24.1 fun v27 =>
  zgt r24.2 171 35 fun v30 =>
  zpt r24.2 171 30 v30 fun σ33 =>
  zgt σ33 171 36 fun v38 =>
  zpt σ33 171 31 v38 fun σ41 =>
  zgt σ41 171 35 fun v45 =>
  if v45 = 0 then (
    zgt σ41 171 8 fun v59 =>
    zpt σ41 171 0 v59 fun σ62 =>
    zgt σ62 171 9 fun v67 =>
    zpt σ62 171 1 v67 fun σ70 =>
    zgt σ70 171 10 fun v75 =>
    zpt σ70 171 2 v75 fun σ78 =>
    zlt 0 fun v82 =>
    (zit (fun (s : (Sg × Int32)) => M_canal_l83 s.1 v27 s.2) zFU (σ78, v82)).bind fun r =>
    M_canal_j107 r.1 v27
  ) else (
    (M_refuses σ41 1).bind fun r53 =>
    some (r53.1, r53.2)
  )
set_option maxRecDepth 20000 in
theorem t_M_canal {X : Zx} {Q : State → Prop} {σ : Sg}  (ok : Zok X cX12_canal RX12 rm_M_canal 198 3)  {out : (Int32 × Sg)} (hf : M_canal σ = some out) (hk : ZrI cX12_canal X Q out.1 out.2) : ZAt X Q 0 0 0 σ [(0, .ref (X.ad 171))] [] := by
  unfold M_canal at hf
  refine z_aload_n ok dX12_canal_0 0 rfl ?_
  refine z_aload_n ok dX12_canal_1 0 rfl ?_
  refine z_call hf (fun r2 h2 hf => ?_)
  refine z_cV (As := []) (rest := [.ref (X.ad 171)]) (w := 171) ok kc_171 zc_12 (c_M_taken h2) rfl ⟨ml_12_245, w_M_taken⟩ hy_M_taken ⟨rfl, rfl⟩ ⟨Nat.le_of_ble_eq_true rfl, Nat.le_of_ble_eq_true rfl⟩ ⟨Nat.zero_le _, Nat.zero_le _⟩ rfl (Nat.le_of_ble_eq_true rfl) dX12_canal_2 ?_
  refine z_puti ok kc_171 zc_12 hin_12 tyX12 tyX12_ok nmX12 32 (by decide) fl_12_108 rfl rfl (tyX12_ok 32 (by decide)) dX12_canal_5 hf (fun σ5 hf => ?_)
  refine z_aload_n ok dX12_canal_8 0 rfl ?_
  refine z_iconst (v := 0) ok dX12_canal_9 (by decide) ?_
  refine z_puti ok kc_171 zc_12 hin_12 tyX12 tyX12_ok nmX12 33 (by decide) fl_12_111 rfl rfl (tyX12_ok 33 (by decide)) dX12_canal_10 hf (fun σ10 hf => ?_)
  refine z_aload_n ok dX12_canal_13 0 rfl ?_
  refine z_iconst (v := 0) ok dX12_canal_14 (by decide) ?_
  refine z_puti ok kc_171 zc_12 hin_12 tyX12 tyX12_ok nmX12 35 (by decide) fl_12_117 rfl rfl (tyX12_ok 35 (by decide)) dX12_canal_15 hf (fun σ15 hf => ?_)
  refine z_aload_n ok dX12_canal_18 0 rfl ?_
  refine z_iconst (v := (-1)) ok dX12_canal_19 (by decide) ?_
  refine z_puti ok kc_171 zc_12 hin_12 tyX12 tyX12_ok nmX12 36 (by decide) fl_12_120 rfl rfl (tyX12_ok 36 (by decide)) dX12_canal_20 hf (fun σ20 hf => ?_)
  refine z_aload_n ok dX12_canal_23 0 rfl ?_
  refine z_call hf (fun r24 h24 hf => ?_)
  refine z_cV (As := []) (rest := []) (w := 171) ok kc_171 zc_12 (c_M_readsAll h24) rfl ⟨ml_12_248, w_M_readsAll⟩ hy_M_readsAll ⟨rfl, rfl⟩ ⟨Nat.le_of_ble_eq_true rfl, Nat.le_of_ble_eq_true rfl⟩ ⟨Nat.zero_le _, Nat.zero_le _⟩ rfl (Nat.le_of_ble_eq_true rfl) dX12_canal_24 ?_
  refine z_nm hf (fun v27 hf => ?_)
  refine z_istore_n (lv' := [(1, .int v27), (0, .ref (X.ad 171))]) ok dX12_canal_27 (by decide) rfl ?_
  refine z_aload_n ok dX12_canal_28 1 rfl ?_
  refine z_aload_n ok dX12_canal_29 1 rfl ?_
  refine z_geti ok kc_171 zc_12 hin_12 35 (by decide) fl_12_117 rfl dX12_canal_30 hf (fun v30 hf => ?_)
  refine z_puti ok kc_171 zc_12 hin_12 tyX12 tyX12_ok nmX12 30 (by decide) fl_12_102 rfl rfl (tyX12_ok 30 (by decide)) dX12_canal_33 hf (fun σ33 hf => ?_)
  refine z_aload_n ok dX12_canal_36 1 rfl ?_
  refine z_aload_n ok dX12_canal_37 1 rfl ?_
  refine z_geti ok kc_171 zc_12 hin_12 36 (by decide) fl_12_120 rfl dX12_canal_38 hf (fun v38 hf => ?_)
  refine z_puti ok kc_171 zc_12 hin_12 tyX12 tyX12_ok nmX12 31 (by decide) fl_12_105 rfl rfl (tyX12_ok 31 (by decide)) dX12_canal_41 hf (fun σ41 hf => ?_)
  refine z_aload_n ok dX12_canal_44 1 rfl ?_
  refine z_geti ok kc_171 zc_12 hin_12 35 (by decide) fl_12_117 rfl dX12_canal_45 hf (fun v45 hf => ?_)
  refine z_if_eq (tgt := 57) ok dX12_canal_48 (by decide) hf (fun _ hf => ?_) (fun _ hf => ?_)
  · refine z_aload_n ok dX12_canal_57 1 rfl ?_
    refine z_aload_n ok dX12_canal_58 1 rfl ?_
    refine z_geti ok kc_171 zc_12 hin_12 8 (by decide) fl_12_35 rfl dX12_canal_59 hf (fun v59 hf => ?_)
    refine z_puti ok kc_171 zc_12 hin_12 tyX12 tyX12_ok nmX12 0 (by decide) fl_12_7 rfl rfl (tyX12_ok 0 (by decide)) dX12_canal_62 hf (fun σ62 hf => ?_)
    refine z_aload_n ok dX12_canal_65 1 rfl ?_
    refine z_aload_n ok dX12_canal_66 1 rfl ?_
    refine z_geti ok kc_171 zc_12 hin_12 9 (by decide) fl_12_38 rfl dX12_canal_67 hf (fun v67 hf => ?_)
    refine z_puti ok kc_171 zc_12 hin_12 tyX12 tyX12_ok nmX12 1 (by decide) fl_12_13 rfl rfl (tyX12_ok 1 (by decide)) dX12_canal_70 hf (fun σ70 hf => ?_)
    refine z_aload_n ok dX12_canal_73 1 rfl ?_
    refine z_aload_n ok dX12_canal_74 1 rfl ?_
    refine z_geti ok kc_171 zc_12 hin_12 10 (by decide) fl_12_41 rfl dX12_canal_75 hf (fun v75 hf => ?_)
    refine z_puti ok kc_171 zc_12 hin_12 tyX12 tyX12_ok nmX12 2 (by decide) fl_12_16 rfl rfl (tyX12_ok 2 (by decide)) dX12_canal_78 hf (fun σ78 hf => ?_)
    refine z_iconst (v := 0) ok dX12_canal_81 (by decide) ?_
    refine z_nm hf (fun v82 hf => ?_)
    refine z_istore_n (lv' := [(2, .int v82), (1, .int v27), (0, .ref (X.ad 171))]) ok dX12_canal_82 (by decide) rfl ?_
    refine z_call hf (fun r hr hf => ?_)
    refine z_sub [2, 1, 0] rfl (z_iter (fun (s : (Sg × Int32)) => s.1) (fun (s : (Sg × Int32)) => [(0, .ref (X.ad 171)), (1, .int v27), (2, .int s.2)]) (fun s o h1 h2 => t_M_canal_l83 ok h1 h2) _ _ _ hr ?_)
    show ZAt X Q 0 0 107 r.1 [(0, .ref (X.ad 171)), (1, .int v27)] []
    exact z_sub [0, 1] rfl (t_M_canal_j107 ok hf hk)
  · refine z_aload_n ok dX12_canal_51 1 rfl ?_
    refine z_iconst (v := 1) ok dX12_canal_52 (by decide) ?_
    refine z_call hf (fun r53 h53 hf => ?_)
    refine z_cV (As := [.int 1]) (rest := []) (w := 171) ok kc_171 zc_12 (c_M_refuses h53) rfl ⟨ml_12_159, w_M_refuses⟩ hy_M_refuses ⟨rfl, rfl⟩ ⟨Nat.le_of_ble_eq_true rfl, Nat.le_of_ble_eq_true rfl⟩ ⟨Nat.zero_le _, Nat.zero_le _⟩ rfl (Nat.le_of_ble_eq_true rfl) dX12_canal_53 ?_
    obtain rfl := Option.some.inj hf
    exact hk _ _ dX12_canal_56
theorem c_M_canal {σ : Sg} {r : (Int32 × Sg)} (h : M_canal σ = some r) : ZcI yX12_canal cX12_canal 3 .int rm_M_canal 198 (fun ad => [.ref (ad 171)]) σ r.1 r.2 :=
  zmetI pn_12 rfl (fun _ => rfl) (fun _ => Nat.le_of_ble_eq_true rfl) rfl (fun X Q ok hk => t_M_canal ok h hk)
theorem dX12_fault_0 : decode cX12_fault 0 = .ok (.iload_n 1, 1) := by decide +kernel
theorem dX12_fault_1 : decode cX12_fault 1 = .ok (.ifCond .ne 10, 3) := by decide +kernel
theorem dX12_fault_4 : decode cX12_fault 4 = .ok (.aload_n 0, 1) := by decide +kernel
theorem dX12_fault_5 : decode cX12_fault 5 = .ok (.getfield 102, 3) := by decide +kernel
theorem dX12_fault_8 : decode cX12_fault 8 = .ok (.goto 16, 3) := by decide +kernel
theorem dX12_fault_11 : decode cX12_fault 11 = .ok (.iload_n 1, 1) := by decide +kernel
theorem dX12_fault_12 : decode cX12_fault 12 = .ok (.iconst 1, 1) := by decide +kernel
theorem dX12_fault_13 : decode cX12_fault 13 = .ok (.if_icmp .ne 10, 3) := by decide +kernel
theorem dX12_fault_16 : decode cX12_fault 16 = .ok (.aload_n 0, 1) := by decide +kernel
theorem dX12_fault_17 : decode cX12_fault 17 = .ok (.getfield 105, 3) := by decide +kernel
theorem dX12_fault_20 : decode cX12_fault 20 = .ok (.goto 4, 3) := by decide +kernel
theorem dX12_fault_23 : decode cX12_fault 23 = .ok (.iconst (-1), 1) := by decide +kernel
theorem dX12_fault_24 : decode cX12_fault 24 = .ok (.ireturn, 1) := by decide +kernel
abbrev rm_M_fault : Room := { frames := 0, cells := 0, slots := 0, locals := 0 }
def M_fault (σ : Sg) (x1 : Int32) : Option Int32 :=
  if x1 = 0 then (
    zgt σ 171 30 fun v5 =>
    some v5
  ) else (
    if x1 = 1 then (
      zgt σ 171 31 fun v17 =>
      some v17
    ) else (
      some (-1)
    )
  )
set_option maxRecDepth 20000 in
theorem t_M_fault {X : Zx} {Q : State → Prop} {σ : Sg} {x1 : Int32} (ok : Zok X cX12_fault RX12 rm_M_fault 198 2)  {out : Int32} (hf : M_fault σ x1 = some out) (hk : ZrI cX12_fault X Q out σ) : ZAt X Q 0 0 0 σ [(0, .ref (X.ad 171)), (1, .int x1)] [] := by
  unfold M_fault at hf
  refine z_iload_n ok dX12_fault_0 1 rfl ?_
  refine z_if_ne (tgt := 11) ok dX12_fault_1 (by decide) hf (fun _ hf => ?_) (fun _ hf => ?_)
  · refine z_aload_n ok dX12_fault_4 0 rfl ?_
    refine z_geti ok kc_171 zc_12 hin_12 30 (by decide) fl_12_102 rfl dX12_fault_5 hf (fun v5 hf => ?_)
    refine z_goto (tgt := 24) ok dX12_fault_8 (by decide) ?_
    obtain rfl := Option.some.inj hf
    exact hk _ _ dX12_fault_24
  · refine z_iload_n ok dX12_fault_11 1 rfl ?_
    refine z_iconst (v := 1) ok dX12_fault_12 (by decide) ?_
    refine z_icmp_ne (tgt := 23) ok dX12_fault_13 (by decide) hf (fun _ hf => ?_) (fun _ hf => ?_)
    · refine z_aload_n ok dX12_fault_16 0 rfl ?_
      refine z_geti ok kc_171 zc_12 hin_12 31 (by decide) fl_12_105 rfl dX12_fault_17 hf (fun v17 hf => ?_)
      refine z_goto (tgt := 24) ok dX12_fault_20 (by decide) ?_
      obtain rfl := Option.some.inj hf
      exact hk _ _ dX12_fault_24
    · refine z_iconst (v := (-1)) ok dX12_fault_23 (by decide) ?_
      obtain rfl := Option.some.inj hf
      exact hk _ _ dX12_fault_24
theorem c_M_fault {σ : Sg} {x1 : Int32} {r : Int32} (h : M_fault σ x1 = some r) : ZcI yX12_fault cX12_fault 2 .int rm_M_fault 198 (fun ad => [.ref (ad 171), .int x1]) σ r σ :=
  zmetI pn_12 rfl (fun _ => rfl) (fun _ => Nat.le_of_ble_eq_true rfl) rfl (fun X Q ok hk => t_M_fault ok h hk)
theorem dX12_standOf_0 : decode cX12_standOf 0 = .ok (.aload_n 0, 1) := by decide +kernel
theorem dX12_standOf_1 : decode cX12_standOf 1 = .ok (.getfield 71, 3) := by decide +kernel
theorem dX12_standOf_4 : decode cX12_standOf 4 = .ok (.iconst 0, 1) := by decide +kernel
theorem dX12_standOf_5 : decode cX12_standOf 5 = .ok (.iload_n 1, 1) := by decide +kernel
theorem dX12_standOf_6 : decode cX12_standOf 6 = .ok (.iadd, 1) := by decide +kernel
theorem dX12_standOf_7 : decode cX12_standOf 7 = .ok (.iaload, 1) := by decide +kernel
theorem dX12_standOf_8 : decode cX12_standOf 8 = .ok (.aload_n 0, 1) := by decide +kernel
theorem dX12_standOf_9 : decode cX12_standOf 9 = .ok (.iload_n 1, 1) := by decide +kernel
theorem dX12_standOf_10 : decode cX12_standOf 10 = .ok (.iconst 0, 1) := by decide +kernel
theorem dX12_standOf_11 : decode cX12_standOf 11 = .ok (.invokevirtual 251, 3) := by decide +kernel
theorem dX12_standOf_14 : decode cX12_standOf 14 = .ok (.if_icmp .ge 7, 3) := by decide +kernel
theorem dX12_standOf_17 : decode cX12_standOf 17 = .ok (.iconst 1, 1) := by decide +kernel
theorem dX12_standOf_18 : decode cX12_standOf 18 = .ok (.goto 25, 3) := by decide +kernel
theorem dX12_standOf_21 : decode cX12_standOf 21 = .ok (.aload_n 0, 1) := by decide +kernel
theorem dX12_standOf_22 : decode cX12_standOf 22 = .ok (.getfield 71, 3) := by decide +kernel
theorem dX12_standOf_25 : decode cX12_standOf 25 = .ok (.iconst 0, 1) := by decide +kernel
theorem dX12_standOf_26 : decode cX12_standOf 26 = .ok (.iload_n 1, 1) := by decide +kernel
theorem dX12_standOf_27 : decode cX12_standOf 27 = .ok (.iadd, 1) := by decide +kernel
theorem dX12_standOf_28 : decode cX12_standOf 28 = .ok (.iaload, 1) := by decide +kernel
theorem dX12_standOf_29 : decode cX12_standOf 29 = .ok (.aload_n 0, 1) := by decide +kernel
theorem dX12_standOf_30 : decode cX12_standOf 30 = .ok (.iload_n 1, 1) := by decide +kernel
theorem dX12_standOf_31 : decode cX12_standOf 31 = .ok (.iconst 1, 1) := by decide +kernel
theorem dX12_standOf_32 : decode cX12_standOf 32 = .ok (.invokevirtual 251, 3) := by decide +kernel
theorem dX12_standOf_35 : decode cX12_standOf 35 = .ok (.if_icmp .le 7, 3) := by decide +kernel
theorem dX12_standOf_38 : decode cX12_standOf 38 = .ok (.iconst 2, 1) := by decide +kernel
theorem dX12_standOf_39 : decode cX12_standOf 39 = .ok (.goto 4, 3) := by decide +kernel
theorem dX12_standOf_42 : decode cX12_standOf 42 = .ok (.iconst 0, 1) := by decide +kernel
theorem dX12_standOf_43 : decode cX12_standOf 43 = .ok (.ireturn, 1) := by decide +kernel
abbrev rm_M_standOf : Room := { frames := 1, cells := 0, slots := 0, locals := 22 }
def M_standOf (σ : Sg) (x1 : Int32) : Option Int32 :=
  zrd σ 183 1607 (0 + x1) fun v7 =>
  (M_toldOf σ x1 0).bind fun r11 =>
  if r11 ≤ v7 then (
    zrd σ 183 1607 (0 + x1) fun v28 =>
    (M_toldOf σ x1 1).bind fun r32 =>
    if v28 ≤ r32 then (
      some 0
    ) else (
      some 2
    )
  ) else (
    some 1
  )
set_option maxRecDepth 20000 in
theorem t_M_standOf {X : Zx} {Q : State → Prop} {σ : Sg} {x1 : Int32} (ok : Zok X cX12_standOf RX12 rm_M_standOf 198 2)  {out : Int32} (hf : M_standOf σ x1 = some out) (hk : ZrI cX12_standOf X Q out σ) : ZAt X Q 0 0 0 σ [(0, .ref (X.ad 171)), (1, .int x1)] [] := by
  unfold M_standOf at hf
  refine z_aload_n ok dX12_standOf_0 0 rfl ?_
  refine z_getr (q := 183) ok kc_171 zc_12 hin_12 20 (by decide) fl_12_71 rfl dX12_standOf_1 ?_
  refine z_iconst (v := 0) ok dX12_standOf_4 (by decide) ?_
  refine z_iload_n ok dX12_standOf_5 1 rfl ?_
  refine z_iadd ok dX12_standOf_6 ?_
  refine z_iald ok kc_183 dX12_standOf_7 hf (fun v7 hf => ?_)
  refine z_aload_n ok dX12_standOf_8 0 rfl ?_
  refine z_iload_n ok dX12_standOf_9 1 rfl ?_
  refine z_iconst (v := 0) ok dX12_standOf_10 (by decide) ?_
  refine z_call hf (fun r11 h11 hf => ?_)
  refine z_cV (As := [.int x1, .int 0]) (rest := [.int v7]) (w := 171) ok kc_171 zc_12 (c_M_toldOf h11) rfl ⟨ml_12_251, w_M_toldOf⟩ hy_M_toldOf ⟨rfl, rfl⟩ ⟨Nat.le_of_ble_eq_true rfl, Nat.le_of_ble_eq_true rfl⟩ ⟨Nat.zero_le _, Nat.zero_le _⟩ rfl (Nat.le_of_ble_eq_true rfl) dX12_standOf_11 ?_
  refine z_icmp_ge (tgt := 21) ok dX12_standOf_14 (by decide) hf (fun _ hf => ?_) (fun _ hf => ?_)
  · refine z_aload_n ok dX12_standOf_21 0 rfl ?_
    refine z_getr (q := 183) ok kc_171 zc_12 hin_12 20 (by decide) fl_12_71 rfl dX12_standOf_22 ?_
    refine z_iconst (v := 0) ok dX12_standOf_25 (by decide) ?_
    refine z_iload_n ok dX12_standOf_26 1 rfl ?_
    refine z_iadd ok dX12_standOf_27 ?_
    refine z_iald ok kc_183 dX12_standOf_28 hf (fun v28 hf => ?_)
    refine z_aload_n ok dX12_standOf_29 0 rfl ?_
    refine z_iload_n ok dX12_standOf_30 1 rfl ?_
    refine z_iconst (v := 1) ok dX12_standOf_31 (by decide) ?_
    refine z_call hf (fun r32 h32 hf => ?_)
    refine z_cV (As := [.int x1, .int 1]) (rest := [.int v28]) (w := 171) ok kc_171 zc_12 (c_M_toldOf h32) rfl ⟨ml_12_251, w_M_toldOf⟩ hy_M_toldOf ⟨rfl, rfl⟩ ⟨Nat.le_of_ble_eq_true rfl, Nat.le_of_ble_eq_true rfl⟩ ⟨Nat.zero_le _, Nat.zero_le _⟩ rfl (Nat.le_of_ble_eq_true rfl) dX12_standOf_32 ?_
    refine z_icmp_le (tgt := 42) ok dX12_standOf_35 (by decide) hf (fun _ hf => ?_) (fun _ hf => ?_)
    · refine z_iconst (v := 0) ok dX12_standOf_42 (by decide) ?_
      obtain rfl := Option.some.inj hf
      exact hk _ _ dX12_standOf_43
    · refine z_iconst (v := 2) ok dX12_standOf_38 (by decide) ?_
      refine z_goto (tgt := 43) ok dX12_standOf_39 (by decide) ?_
      obtain rfl := Option.some.inj hf
      exact hk _ _ dX12_standOf_43
  · refine z_iconst (v := 1) ok dX12_standOf_17 (by decide) ?_
    refine z_goto (tgt := 43) ok dX12_standOf_18 (by decide) ?_
    obtain rfl := Option.some.inj hf
    exact hk _ _ dX12_standOf_43
theorem c_M_standOf {σ : Sg} {x1 : Int32} {r : Int32} (h : M_standOf σ x1 = some r) : ZcI yX12_standOf cX12_standOf 2 .int rm_M_standOf 198 (fun ad => [.ref (ad 171), .int x1]) σ r σ :=
  zmetI pn_12 rfl (fun _ => rfl) (fun _ => Nat.le_of_ble_eq_true rfl) rfl (fun X Q ok hk => t_M_standOf ok h hk)
theorem dX12_outOfBand_0 : decode cX12_outOfBand 0 = .ok (.iconst 0, 1) := by decide +kernel
theorem dX12_outOfBand_1 : decode cX12_outOfBand 1 = .ok (.istore_n 1, 1) := by decide +kernel
theorem dX12_outOfBand_2 : decode cX12_outOfBand 2 = .ok (.iconst 0, 1) := by decide +kernel
theorem dX12_outOfBand_3 : decode cX12_outOfBand 3 = .ok (.istore_n 2, 1) := by decide +kernel
theorem dX12_outOfBand_4 : decode cX12_outOfBand 4 = .ok (.iload_n 2, 1) := by decide +kernel
theorem dX12_outOfBand_5 : decode cX12_outOfBand 5 = .ok (.aload_n 0, 1) := by decide +kernel
theorem dX12_outOfBand_6 : decode cX12_outOfBand 6 = .ok (.getfield 7, 3) := by decide +kernel
theorem dX12_outOfBand_9 : decode cX12_outOfBand 9 = .ok (.if_icmp .ge 27, 3) := by decide +kernel
theorem dX12_outOfBand_12 : decode cX12_outOfBand 12 = .ok (.iload_n 1, 1) := by decide +kernel
theorem dX12_outOfBand_13 : decode cX12_outOfBand 13 = .ok (.aload_n 0, 1) := by decide +kernel
theorem dX12_outOfBand_14 : decode cX12_outOfBand 14 = .ok (.iload_n 2, 1) := by decide +kernel
theorem dX12_outOfBand_15 : decode cX12_outOfBand 15 = .ok (.invokevirtual 282, 3) := by decide +kernel
theorem dX12_outOfBand_18 : decode cX12_outOfBand 18 = .ok (.ifCond .le 9, 3) := by decide +kernel
theorem dX12_outOfBand_21 : decode cX12_outOfBand 21 = .ok (.iconst 1, 1) := by decide +kernel
theorem dX12_outOfBand_22 : decode cX12_outOfBand 22 = .ok (.iload_n 2, 1) := by decide +kernel
theorem dX12_outOfBand_23 : decode cX12_outOfBand 23 = .ok (.ishl, 1) := by decide +kernel
theorem dX12_outOfBand_24 : decode cX12_outOfBand 24 = .ok (.goto 4, 3) := by decide +kernel
theorem dX12_outOfBand_27 : decode cX12_outOfBand 27 = .ok (.iconst 0, 1) := by decide +kernel
theorem dX12_outOfBand_28 : decode cX12_outOfBand 28 = .ok (.ior, 1) := by decide +kernel
theorem dX12_outOfBand_29 : decode cX12_outOfBand 29 = .ok (.istore_n 1, 1) := by decide +kernel
theorem dX12_outOfBand_30 : decode cX12_outOfBand 30 = .ok (.iinc 2 1, 3) := by decide +kernel
theorem dX12_outOfBand_33 : decode cX12_outOfBand 33 = .ok (.goto (-29), 3) := by decide +kernel
theorem dX12_outOfBand_36 : decode cX12_outOfBand 36 = .ok (.iload_n 1, 1) := by decide +kernel
theorem dX12_outOfBand_37 : decode cX12_outOfBand 37 = .ok (.ireturn, 1) := by decide +kernel
abbrev rm_M_outOfBand : Room := { frames := 2, cells := 0, slots := 0, locals := 43 }
def M_outOfBand_l4 (σ : Sg) (x1 : Int32) (x2 : Int32) : Option ((Int32 × Int32) ⊕ (Int32 × Int32)) :=
  zgt σ 171 0 fun v6 =>
  if v6 ≤ x2 then (
    some (.inr (x1, x2))
  ) else (
    (M_standOf σ x2).bind fun r15 =>
    if r15 ≤ 0 then (
      zlt (x1 ||| 0) fun v29 =>
      zlt (x2 + 1) fun v30 =>
      some (.inl (v29, v30))
    ) else (
      zlt (x1 ||| (1 <<< (x2 &&& 31))) fun v29 =>
      zlt (x2 + 1) fun v30 =>
      some (.inl (v29, v30))
    )
  )
set_option maxRecDepth 20000 in
theorem t_M_outOfBand_l4 {X : Zx} {Q : State → Prop} {σ : Sg} {x1 : Int32} {x2 : Int32} (ok : Zok X cX12_outOfBand RX12 rm_M_outOfBand 198 3)  {out : ((Int32 × Int32) ⊕ (Int32 × Int32))} (hf : M_outOfBand_l4 σ x1 x2 = some out) (hk : zout (fun (s : (Int32 × Int32)) => ZAt X Q 0 0 4 σ [(0, .ref (X.ad 171)), (1, .int s.1), (2, .int s.2)] []) (fun (s : (Int32 × Int32)) => ZAt X Q 0 0 36 σ [(1, .int s.1)] []) out) : ZAt X Q 0 0 4 σ [(0, .ref (X.ad 171)), (1, .int x1), (2, .int x2)] [] := by
  unfold M_outOfBand_l4 at hf
  refine z_iload_n ok dX12_outOfBand_4 2 rfl ?_
  refine z_aload_n ok dX12_outOfBand_5 0 rfl ?_
  refine z_geti ok kc_171 zc_12 hin_12 0 (by decide) fl_12_7 rfl dX12_outOfBand_6 hf (fun v6 hf => ?_)
  refine z_icmp_ge (tgt := 36) ok dX12_outOfBand_9 (by decide) hf (fun _ hf => ?_) (fun _ hf => ?_)
  · obtain rfl := Option.some.inj hf
    exact z_sub [1] rfl hk
  · refine z_iload_n ok dX12_outOfBand_12 1 rfl ?_
    refine z_aload_n ok dX12_outOfBand_13 0 rfl ?_
    refine z_iload_n ok dX12_outOfBand_14 2 rfl ?_
    refine z_call hf (fun r15 h15 hf => ?_)
    refine z_cV (As := [.int x2]) (rest := [.int x1]) (w := 171) ok kc_171 zc_12 (c_M_standOf h15) rfl ⟨ml_12_282, w_M_standOf⟩ hy_M_standOf ⟨rfl, rfl⟩ ⟨Nat.le_of_ble_eq_true rfl, Nat.le_of_ble_eq_true rfl⟩ ⟨Nat.zero_le _, Nat.zero_le _⟩ rfl (Nat.le_of_ble_eq_true rfl) dX12_outOfBand_15 ?_
    refine z_if_le (tgt := 27) ok dX12_outOfBand_18 (by decide) hf (fun _ hf => ?_) (fun _ hf => ?_)
    · refine z_iconst (v := 0) ok dX12_outOfBand_27 (by decide) ?_
      refine z_ior ok dX12_outOfBand_28 ?_
      refine z_nm hf (fun v29 hf => ?_)
      refine z_istore_n (lv' := [(1, .int v29), (0, .ref (X.ad 171)), (2, .int x2)]) ok dX12_outOfBand_29 (by decide) rfl ?_
      refine z_iinc (w := 1) (lv' := fun v30 => [(2, .int v30), (1, .int v29), (0, .ref (X.ad 171))]) ok dX12_outOfBand_30 2 rfl (by decide) (by decide) (fun _ => rfl) hf (fun v30 hf => ?_)
      refine z_goto (tgt := 4) ok dX12_outOfBand_33 (by decide) ?_
      obtain rfl := Option.some.inj hf
      exact z_sub [2, 1, 0] rfl hk
    · refine z_iconst (v := 1) ok dX12_outOfBand_21 (by decide) ?_
      refine z_iload_n ok dX12_outOfBand_22 2 rfl ?_
      refine z_ishl ok dX12_outOfBand_23 ?_
      refine z_goto (tgt := 28) ok dX12_outOfBand_24 (by decide) ?_
      refine z_ior ok dX12_outOfBand_28 ?_
      refine z_nm hf (fun v29 hf => ?_)
      refine z_istore_n (lv' := [(1, .int v29), (0, .ref (X.ad 171)), (2, .int x2)]) ok dX12_outOfBand_29 (by decide) rfl ?_
      refine z_iinc (w := 1) (lv' := fun v30 => [(2, .int v30), (1, .int v29), (0, .ref (X.ad 171))]) ok dX12_outOfBand_30 2 rfl (by decide) (by decide) (fun _ => rfl) hf (fun v30 hf => ?_)
      refine z_goto (tgt := 4) ok dX12_outOfBand_33 (by decide) ?_
      obtain rfl := Option.some.inj hf
      exact z_sub [2, 1, 0] rfl hk
def M_outOfBand (σ : Sg)  : Option Int32 :=
  zlt 0 fun v1 =>
  zlt 0 fun v3 =>
  (zit (fun (s : (Int32 × Int32)) => M_outOfBand_l4 σ s.1 s.2) zFU (v1, v3)).bind fun r =>
  some r.1
set_option maxRecDepth 20000 in
theorem t_M_outOfBand {X : Zx} {Q : State → Prop} {σ : Sg}  (ok : Zok X cX12_outOfBand RX12 rm_M_outOfBand 198 3)  {out : Int32} (hf : M_outOfBand σ = some out) (hk : ZrI cX12_outOfBand X Q out σ) : ZAt X Q 0 0 0 σ [(0, .ref (X.ad 171))] [] := by
  unfold M_outOfBand at hf
  refine z_iconst (v := 0) ok dX12_outOfBand_0 (by decide) ?_
  refine z_nm hf (fun v1 hf => ?_)
  refine z_istore_n (lv' := [(1, .int v1), (0, .ref (X.ad 171))]) ok dX12_outOfBand_1 (by decide) rfl ?_
  refine z_iconst (v := 0) ok dX12_outOfBand_2 (by decide) ?_
  refine z_nm hf (fun v3 hf => ?_)
  refine z_istore_n (lv' := [(2, .int v3), (1, .int v1), (0, .ref (X.ad 171))]) ok dX12_outOfBand_3 (by decide) rfl ?_
  refine z_call hf (fun r hr hf => ?_)
  refine z_sub [2, 1, 0] rfl (z_iter (fun (s : (Int32 × Int32)) => σ) (fun (s : (Int32 × Int32)) => [(0, .ref (X.ad 171)), (1, .int s.1), (2, .int s.2)]) (fun s o h1 h2 => t_M_outOfBand_l4 ok h1 h2) _ _ _ hr ?_)
  show ZAt X Q 0 0 36 σ [(1, .int r.1)] []
  refine z_iload_n ok dX12_outOfBand_36 0 rfl ?_
  obtain rfl := Option.some.inj hf
  exact hk _ _ dX12_outOfBand_37
theorem c_M_outOfBand {σ : Sg} {r : Int32} (h : M_outOfBand σ = some r) : ZcI yX12_outOfBand cX12_outOfBand 3 .int rm_M_outOfBand 198 (fun ad => [.ref (ad 171)]) σ r σ :=
  zmetI pn_12 rfl (fun _ => rfl) (fun _ => Nat.le_of_ble_eq_true rfl) rfl (fun X Q ok hk => t_M_outOfBand ok h hk)
