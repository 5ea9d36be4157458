theorem fl_12_83 : Cond.fieldLink RX12 83 (TX12 24).1 (TX12 24).2.1 (TX12 24).2.2.1 ∈ zT := zT_of (i := 1423) (by decide +kernel) rfl
theorem ml_12_254 : Cond.methodLink RX12 254 yX12_poolOf ∈ zT := zT_of (i := 1730) (by decide +kernel) rfl
theorem ml_12_257 : Cond.methodLink RX12 257 yX12_isOpen ∈ zT := zT_of (i := 1734) (by decide +kernel) rfl
theorem ml_12_261 : Cond.methodLink RX12 261 yX12_takesOf ∈ zT := zT_of (i := 1738) (by decide +kernel) rfl
theorem ml_12_264 : Cond.methodLink RX12 264 yX12_loadOf ∈ zT := zT_of (i := 1726) (by decide +kernel) rfl
theorem ml_12_267 : Cond.methodLink RX12 267 yX12_middleOf ∈ zT := zT_of (i := 1710) (by decide +kernel) rfl
theorem ml_12_270 : Cond.methodLink RX12 270 yX12_wished ∈ zT := zT_of (i := 1722) (by decide +kernel) rfl
theorem ml_12_273 : Cond.methodLink RX12 273 yX12_lesser ∈ zT := zT_of (i := 1742) (by decide +kernel) rfl
theorem ml_12_276 : Cond.methodLink RX12 276 yX12_greater ∈ zT := zT_of (i := 1745) (by decide +kernel) rfl
theorem ml_12_279 : Cond.methodLink RX12 279 yX12_wanted ∈ zT := zT_of (i := 1718) (by decide +kernel) rfl
theorem ml_12_318 : Cond.methodLink RX12 318 yX12_outOfBand ∈ zT := zT_of (i := 1678) (by decide +kernel) rfl
theorem ml_12_321 : Cond.methodLink RX12 321 yX12_isPool ∈ zT := zT_of (i := 1690) (by decide +kernel) rfl
theorem ml_12_324 : Cond.methodLink RX12 324 yX12_isOutlet ∈ zT := zT_of (i := 1694) (by decide +kernel) rfl
theorem ml_12_327 : Cond.methodLink RX12 327 yX12_onWay ∈ zT := zT_of (i := 1706) (by decide +kernel) rfl
theorem w_M_gate : Cond.instanceMethod yX12_gate ∈ zT ∧ Cond.selects yX12_gate.cls yX12_gate yX12_gate ∈ zT ∧ Cond.initialized yX12_gate.cls ∈ zT ∧ Cond.code yX12_gate cX12_gate 3 (some .int) ∈ zT := ⟨zT_of (i := 1715) (by decide +kernel) rfl, zT_of (i := 1716) (by decide +kernel) rfl, zT_of (i := 135) (by decide +kernel) rfl, zT_of (i := 1717) (by decide +kernel) rfl⟩
theorem hy_M_gate : yX12_gate.cls ≠ "java/lang/invoke/MethodHandle" ∧ yX12_gate.cls ≠ "java/lang/invoke/VarHandle" ∧ (parseMethodDescriptor yX12_gate.desc).map (fun d => d.parameters.length) = some 2 := by decide +kernel
theorem w_M_greater : Cond.static yX12_greater ∈ zT ∧ Cond.initialized yX12_greater.cls ∈ zT ∧ Cond.code yX12_greater cX12_greater 2 (some .int) ∈ zT := ⟨zT_of (i := 1746) (by decide +kernel) rfl, zT_of (i := 135) (by decide +kernel) rfl, zT_of (i := 1747) (by decide +kernel) rfl⟩
theorem hy_M_greater : yX12_greater.cls ≠ "java/lang/invoke/MethodHandle" ∧ yX12_greater.cls ≠ "java/lang/invoke/VarHandle" ∧ (parseMethodDescriptor yX12_greater.desc).map (fun d => d.parameters.length) = some 2 := by decide +kernel
theorem w_M_has : Cond.instanceMethod yX12_has ∈ zT ∧ Cond.selects yX12_has.cls yX12_has yX12_has ∈ zT ∧ Cond.initialized yX12_has.cls ∈ zT ∧ Cond.code yX12_has cX12_has 2 (some .int) ∈ zT := ⟨zT_of (i := 1675) (by decide +kernel) rfl, zT_of (i := 1676) (by decide +kernel) rfl, zT_of (i := 135) (by decide +kernel) rfl, zT_of (i := 1677) (by decide +kernel) rfl⟩
theorem hy_M_has : yX12_has.cls ≠ "java/lang/invoke/MethodHandle" ∧ yX12_has.cls ≠ "java/lang/invoke/VarHandle" ∧ (parseMethodDescriptor yX12_has.desc).map (fun d => d.parameters.length) = some 1 := by decide +kernel
theorem w_M_isOpen : Cond.instanceMethod yX12_isOpen ∈ zT ∧ Cond.selects yX12_isOpen.cls yX12_isOpen yX12_isOpen ∈ zT ∧ Cond.initialized yX12_isOpen.cls ∈ zT ∧ Cond.code yX12_isOpen cX12_isOpen 5 (some .boolean) ∈ zT := ⟨zT_of (i := 1736) (by decide +kernel) rfl, zT_of (i := 92) (by decide +kernel) rfl, zT_of (i := 135) (by decide +kernel) rfl, zT_of (i := 1737) (by decide +kernel) rfl⟩
theorem hy_M_isOpen : yX12_isOpen.cls ≠ "java/lang/invoke/MethodHandle" ∧ yX12_isOpen.cls ≠ "java/lang/invoke/VarHandle" ∧ (parseMethodDescriptor yX12_isOpen.desc).map (fun d => d.parameters.length) = some 2 := by decide +kernel
theorem w_M_isOutlet : Cond.instanceMethod yX12_isOutlet ∈ zT ∧ Cond.selects yX12_isOutlet.cls yX12_isOutlet yX12_isOutlet ∈ zT ∧ Cond.initialized yX12_isOutlet.cls ∈ zT ∧ Cond.code yX12_isOutlet cX12_isOutlet 2 (some .boolean) ∈ zT := ⟨zT_of (i := 1696) (by decide +kernel) rfl, zT_of (i := 85) (by decide +kernel) rfl, zT_of (i := 135) (by decide +kernel) rfl, zT_of (i := 1697) (by decide +kernel) rfl⟩
theorem hy_M_isOutlet : yX12_isOutlet.cls ≠ "java/lang/invoke/MethodHandle" ∧ yX12_isOutlet.cls ≠ "java/lang/invoke/VarHandle" ∧ (parseMethodDescriptor yX12_isOutlet.desc).map (fun d => d.parameters.length) = some 1 := by decide +kernel
theorem w_M_isPool : Cond.instanceMethod yX12_isPool ∈ zT ∧ Cond.selects yX12_isPool.cls yX12_isPool yX12_isPool ∈ zT ∧ Cond.initialized yX12_isPool.cls ∈ zT ∧ Cond.code yX12_isPool cX12_isPool 2 (some .boolean) ∈ zT := ⟨zT_of (i := 1692) (by decide +kernel) rfl, zT_of (i := 84) (by decide +kernel) rfl, zT_of (i := 135) (by decide +kernel) rfl, zT_of (i := 1693) (by decide +kernel) rfl⟩
theorem hy_M_isPool : yX12_isPool.cls ≠ "java/lang/invoke/MethodHandle" ∧ yX12_isPool.cls ≠ "java/lang/invoke/VarHandle" ∧ (parseMethodDescriptor yX12_isPool.desc).map (fun d => d.parameters.length) = some 1 := by decide +kernel
theorem w_M_lesser : Cond.static yX12_lesser ∈ zT ∧ Cond.initialized yX12_lesser.cls ∈ zT ∧ Cond.code yX12_lesser cX12_lesser 2 (some .int) ∈ zT := ⟨zT_of (i := 1743) (by decide +kernel) rfl, zT_of (i := 135) (by decide +kernel) rfl, zT_of (i := 1744) (by decide +kernel) rfl⟩
theorem hy_M_lesser : yX12_lesser.cls ≠ "java/lang/invoke/MethodHandle" ∧ yX12_lesser.cls ≠ "java/lang/invoke/VarHandle" ∧ (parseMethodDescriptor yX12_lesser.desc).map (fun d => d.parameters.length) = some 2 := by decide +kernel
theorem w_M_letter : Cond.instanceMethod yX12_letter ∈ zT ∧ Cond.selects yX12_letter.cls yX12_letter yX12_letter ∈ zT ∧ Cond.initialized yX12_letter.cls ∈ zT ∧ Cond.code yX12_letter cX12_letter 4 (some .int) ∈ zT := ⟨zT_of (i := 1687) (by decide +kernel) rfl, zT_of (i := 1688) (by decide +kernel) rfl, zT_of (i := 135) (by decide +kernel) rfl, zT_of (i := 1689) (by decide +kernel) rfl⟩
theorem hy_M_letter : yX12_letter.cls ≠ "java/lang/invoke/MethodHandle" ∧ yX12_letter.cls ≠ "java/lang/invoke/VarHandle" ∧ (parseMethodDescriptor yX12_letter.desc).map (fun d => d.parameters.length) = some 3 := by decide +kernel
theorem w_M_loadOf : Cond.instanceMethod yX12_loadOf ∈ zT ∧ Cond.selects yX12_loadOf.cls yX12_loadOf yX12_loadOf ∈ zT ∧ Cond.initialized yX12_loadOf.cls ∈ zT ∧ Cond.code yX12_loadOf cX12_loadOf 7 (some .int) ∈ zT := ⟨zT_of (i := 1728) (by decide +kernel) rfl, zT_of (i := 90) (by decide +kernel) rfl, zT_of (i := 135) (by decide +kernel) rfl, zT_of (i := 1729) (by decide +kernel) rfl⟩
theorem hy_M_loadOf : yX12_loadOf.cls ≠ "java/lang/invoke/MethodHandle" ∧ yX12_loadOf.cls ≠ "java/lang/invoke/VarHandle" ∧ (parseMethodDescriptor yX12_loadOf.desc).map (fun d => d.parameters.length) = some 2 := by decide +kernel
theorem w_M_middleOf : Cond.instanceMethod yX12_middleOf ∈ zT ∧ Cond.selects yX12_middleOf.cls yX12_middleOf yX12_middleOf ∈ zT ∧ Cond.initialized yX12_middleOf.cls ∈ zT ∧ Cond.code yX12_middleOf cX12_middleOf 2 (some .int) ∈ zT := ⟨zT_of (i := 1712) (by decide +kernel) rfl, zT_of (i := 87) (by decide +kernel) rfl, zT_of (i := 135) (by decide +kernel) rfl, zT_of (i := 1713) (by decide +kernel) rfl⟩
theorem hy_M_middleOf : yX12_middleOf.cls ≠ "java/lang/invoke/MethodHandle" ∧ yX12_middleOf.cls ≠ "java/lang/invoke/VarHandle" ∧ (parseMethodDescriptor yX12_middleOf.desc).map (fun d => d.parameters.length) = some 1 := by decide +kernel
theorem w_M_named : Cond.instanceMethod yX12_named ∈ zT ∧ Cond.selects yX12_named.cls yX12_named yX12_named ∈ zT ∧ Cond.initialized yX12_named.cls ∈ zT ∧ Cond.code yX12_named cX12_named 7 (some .int) ∈ zT := ⟨zT_of (i := 1699) (by decide +kernel) rfl, zT_of (i := 1700) (by decide +kernel) rfl, zT_of (i := 135) (by decide +kernel) rfl, zT_of (i := 1701) (by decide +kernel) rfl⟩
theorem hy_M_named : yX12_named.cls ≠ "java/lang/invoke/MethodHandle" ∧ yX12_named.cls ≠ "java/lang/invoke/VarHandle" ∧ (parseMethodDescriptor yX12_named.desc).map (fun d => d.parameters.length) = some 1 := by decide +kernel
theorem w_M_onWay : Cond.instanceMethod yX12_onWay ∈ zT ∧ Cond.selects yX12_onWay.cls yX12_onWay yX12_onWay ∈ zT ∧ Cond.initialized yX12_onWay.cls ∈ zT ∧ Cond.code yX12_onWay cX12_onWay 4 (some .int) ∈ zT := ⟨zT_of (i := 1708) (by decide +kernel) rfl, zT_of (i := 86) (by decide +kernel) rfl, zT_of (i := 135) (by decide +kernel) rfl, zT_of (i := 1709) (by decide +kernel) rfl⟩
theorem hy_M_onWay : yX12_onWay.cls ≠ "java/lang/invoke/MethodHandle" ∧ yX12_onWay.cls ≠ "java/lang/invoke/VarHandle" ∧ (parseMethodDescriptor yX12_onWay.desc).map (fun d => d.parameters.length) = some 1 := by decide +kernel
theorem w_M_order : Cond.instanceMethod yX12_order ∈ zT ∧ Cond.selects yX12_order.cls yX12_order yX12_order ∈ zT ∧ Cond.initialized yX12_order.cls ∈ zT ∧ Cond.code yX12_order cX12_order 4 (some .int) ∈ zT := ⟨zT_of (i := 1757) (by decide +kernel) rfl, zT_of (i := 1758) (by decide +kernel) rfl, zT_of (i := 135) (by decide +kernel) rfl, zT_of (i := 1759) (by decide +kernel) rfl⟩
theorem hy_M_order : yX12_order.cls ≠ "java/lang/invoke/MethodHandle" ∧ yX12_order.cls ≠ "java/lang/invoke/VarHandle" ∧ (parseMethodDescriptor yX12_order.desc).map (fun d => d.parameters.length) = some 2 := by decide +kernel
theorem w_M_outlet : Cond.instanceMethod yX12_outlet ∈ zT ∧ Cond.selects yX12_outlet.cls yX12_outlet yX12_outlet ∈ zT ∧ Cond.initialized yX12_outlet.cls ∈ zT ∧ Cond.code yX12_outlet cX12_outlet 5 (some .int) ∈ zT := ⟨zT_of (i := 1753) (by decide +kernel) rfl, zT_of (i := 1754) (by decide +kernel) rfl, zT_of (i := 135) (by decide +kernel) rfl, zT_of (i := 1755) (by decide +kernel) rfl⟩
theorem hy_M_outlet : yX12_outlet.cls ≠ "java/lang/invoke/MethodHandle" ∧ yX12_outlet.cls ≠ "java/lang/invoke/VarHandle" ∧ (parseMethodDescriptor yX12_outlet.desc).map (fun d => d.parameters.length) = some 2 := by decide +kernel
theorem w_M_pool : Cond.instanceMethod yX12_pool ∈ zT ∧ Cond.selects yX12_pool.cls yX12_pool yX12_pool ∈ zT ∧ Cond.initialized yX12_pool.cls ∈ zT ∧ Cond.code yX12_pool cX12_pool 3 (some .int) ∈ zT := ⟨zT_of (i := 1703) (by decide +kernel) rfl, zT_of (i := 1704) (by decide +kernel) rfl, zT_of (i := 135) (by decide +kernel) rfl, zT_of (i := 1705) (by decide +kernel) rfl⟩
theorem hy_M_pool : yX12_pool.cls ≠ "java/lang/invoke/MethodHandle" ∧ yX12_pool.cls ≠ "java/lang/invoke/VarHandle" ∧ (parseMethodDescriptor yX12_pool.desc).map (fun d => d.parameters.length) = some 2 := by decide +kernel
theorem w_M_poolOf : Cond.instanceMethod yX12_poolOf ∈ zT ∧ Cond.selects yX12_poolOf.cls yX12_poolOf yX12_poolOf ∈ zT ∧ Cond.initialized yX12_poolOf.cls ∈ zT ∧ Cond.code yX12_poolOf cX12_poolOf 2 (some .int) ∈ zT := ⟨zT_of (i := 1732) (by decide +kernel) rfl, zT_of (i := 91) (by decide +kernel) rfl, zT_of (i := 135) (by decide +kernel) rfl, zT_of (i := 1733) (by decide +kernel) rfl⟩
theorem hy_M_poolOf : yX12_poolOf.cls ≠ "java/lang/invoke/MethodHandle" ∧ yX12_poolOf.cls ≠ "java/lang/invoke/VarHandle" ∧ (parseMethodDescriptor yX12_poolOf.desc).map (fun d => d.parameters.length) = some 1 := by decide +kernel
theorem w_M_row : Cond.instanceMethod yX12_row ∈ zT ∧ Cond.selects yX12_row.cls yX12_row yX12_row ∈ zT ∧ Cond.initialized yX12_row.cls ∈ zT ∧ Cond.code yX12_row cX12_row 3 (some .int) ∈ zT := ⟨zT_of (i := 1749) (by decide +kernel) rfl, zT_of (i := 1750) (by decide +kernel) rfl, zT_of (i := 135) (by decide +kernel) rfl, zT_of (i := 1751) (by decide +kernel) rfl⟩
theorem hy_M_row : yX12_row.cls ≠ "java/lang/invoke/MethodHandle" ∧ yX12_row.cls ≠ "java/lang/invoke/VarHandle" ∧ (parseMethodDescriptor yX12_row.desc).map (fun d => d.parameters.length) = some 2 := by decide +kernel
theorem w_M_takesOf : Cond.instanceMethod yX12_takesOf ∈ zT ∧ Cond.selects yX12_takesOf.cls yX12_takesOf yX12_takesOf ∈ zT ∧ Cond.initialized yX12_takesOf.cls ∈ zT ∧ Cond.code yX12_takesOf cX12_takesOf 2 (some .int) ∈ zT := ⟨zT_of (i := 1740) (by decide +kernel) rfl, zT_of (i := 93) (by decide +kernel) rfl, zT_of (i := 135) (by decide +kernel) rfl, zT_of (i := 1741) (by decide +kernel) rfl⟩
theorem hy_M_takesOf : yX12_takesOf.cls ≠ "java/lang/invoke/MethodHandle" ∧ yX12_takesOf.cls ≠ "java/lang/invoke/VarHandle" ∧ (parseMethodDescriptor yX12_takesOf.desc).map (fun d => d.parameters.length) = some 1 := by decide +kernel
theorem w_M_wanted : Cond.instanceMethod yX12_wanted ∈ zT ∧ Cond.selects yX12_wanted.cls yX12_wanted yX12_wanted ∈ zT ∧ Cond.initialized yX12_wanted.cls ∈ zT ∧ Cond.code yX12_wanted cX12_wanted 3 (some .int) ∈ zT := ⟨zT_of (i := 1720) (by decide +kernel) rfl, zT_of (i := 88) (by decide +kernel) rfl, zT_of (i := 135) (by decide +kernel) rfl, zT_of (i := 1721) (by decide +kernel) rfl⟩
theorem hy_M_wanted : yX12_wanted.cls ≠ "java/lang/invoke/MethodHandle" ∧ yX12_wanted.cls ≠ "java/lang/invoke/VarHandle" ∧ (parseMethodDescriptor yX12_wanted.desc).map (fun d => d.parameters.length) = some 2 := by decide +kernel
theorem w_M_wished : Cond.instanceMethod yX12_wished ∈ zT ∧ Cond.selects yX12_wished.cls yX12_wished yX12_wished ∈ zT ∧ Cond.initialized yX12_wished.cls ∈ zT ∧ Cond.code yX12_wished cX12_wished 3 (some .int) ∈ zT := ⟨zT_of (i := 1724) (by decide +kernel) rfl, zT_of (i := 89) (by decide +kernel) rfl, zT_of (i := 135) (by decide +kernel) rfl, zT_of (i := 1725) (by decide +kernel) rfl⟩
theorem hy_M_wished : yX12_wished.cls ≠ "java/lang/invoke/MethodHandle" ∧ yX12_wished.cls ≠ "java/lang/invoke/VarHandle" ∧ (parseMethodDescriptor yX12_wished.desc).map (fun d => d.parameters.length) = some 2 := by decide +kernel
theorem dX12_has_0 : decode cX12_has 0 = .ok (.iload_n 1, 1) := by decide +kernel
theorem dX12_has_1 : decode cX12_has 1 = .ok (.bipush 9, 2) := by decide +kernel
theorem dX12_has_3 : decode cX12_has 3 = .ok (.if_icmp .ne 8, 3) := by decide +kernel
theorem dX12_has_6 : decode cX12_has 6 = .ok (.aload_n 0, 1) := by decide +kernel
theorem dX12_has_7 : decode cX12_has 7 = .ok (.getfield 83, 3) := by decide +kernel
theorem dX12_has_10 : decode cX12_has 10 = .ok (.ireturn, 1) := by decide +kernel
theorem dX12_has_11 : decode cX12_has 11 = .ok (.aload_n 0, 1) := by decide +kernel
theorem dX12_has_12 : decode cX12_has 12 = .ok (.getfield 86, 3) := by decide +kernel
theorem dX12_has_15 : decode cX12_has 15 = .ok (.ifCond .ne 19, 3) := by decide +kernel
theorem dX12_has_18 : decode cX12_has 18 = .ok (.iload_n 1, 1) := by decide +kernel
theorem dX12_has_19 : decode cX12_has 19 = .ok (.iconst 0, 1) := by decide +kernel
theorem dX12_has_20 : decode cX12_has 20 = .ok (.bipush 10, 2) := by decide +kernel
theorem dX12_has_22 : decode cX12_has 22 = .ok (.invokestatic 198, 3) := by decide +kernel
theorem dX12_has_25 : decode cX12_has 25 = .ok (.ifCond .eq 7, 3) := by decide +kernel
theorem dX12_has_28 : decode cX12_has 28 = .ok (.iconst 0, 1) := by decide +kernel
theorem dX12_has_29 : decode cX12_has 29 = .ok (.goto 4, 3) := by decide +kernel
theorem dX12_has_32 : decode cX12_has 32 = .ok (.iconst (-1), 1) := by decide +kernel
theorem dX12_has_33 : decode cX12_has 33 = .ok (.ireturn, 1) := by decide +kernel
theorem dX12_has_34 : decode cX12_has 34 = .ok (.iload_n 1, 1) := by decide +kernel
theorem dX12_has_35 : decode cX12_has 35 = .ok (.tableswitch 127 0 10 #[57, 62, 67, 76, 85, 94, 103, 112, 117, 127, 122], 57) := by decide +kernel
theorem dX12_has_92 : decode cX12_has 92 = .ok (.aload_n 0, 1) := by decide +kernel
theorem dX12_has_93 : decode cX12_has 93 = .ok (.getfield 7, 3) := by decide +kernel
theorem dX12_has_96 : decode cX12_has 96 = .ok (.ireturn, 1) := by decide +kernel
theorem dX12_has_97 : decode cX12_has 97 = .ok (.aload_n 0, 1) := by decide +kernel
theorem dX12_has_98 : decode cX12_has 98 = .ok (.getfield 13, 3) := by decide +kernel
theorem dX12_has_101 : decode cX12_has 101 = .ok (.ireturn, 1) := by decide +kernel
theorem dX12_has_102 : decode cX12_has 102 = .ok (.aload_n 0, 1) := by decide +kernel
theorem dX12_has_103 : decode cX12_has 103 = .ok (.getfield 71, 3) := by decide +kernel
theorem dX12_has_106 : decode cX12_has 106 = .ok (.sipush 199, 3) := by decide +kernel
theorem dX12_has_109 : decode cX12_has 109 = .ok (.iaload, 1) := by decide +kernel
theorem dX12_has_110 : decode cX12_has 110 = .ok (.ireturn, 1) := by decide +kernel
theorem dX12_has_111 : decode cX12_has 111 = .ok (.aload_n 0, 1) := by decide +kernel
theorem dX12_has_112 : decode cX12_has 112 = .ok (.getfield 71, 3) := by decide +kernel
theorem dX12_has_115 : decode cX12_has 115 = .ok (.sipush 196, 3) := by decide +kernel
theorem dX12_has_118 : decode cX12_has 118 = .ok (.iaload, 1) := by decide +kernel
theorem dX12_has_119 : decode cX12_has 119 = .ok (.ireturn, 1) := by decide +kernel
theorem dX12_has_120 : decode cX12_has 120 = .ok (.aload_n 0, 1) := by decide +kernel
theorem dX12_has_121 : decode cX12_has 121 = .ok (.getfield 71, 3) := by decide +kernel
theorem dX12_has_124 : decode cX12_has 124 = .ok (.sipush 197, 3) := by decide +kernel
theorem dX12_has_127 : decode cX12_has 127 = .ok (.iaload, 1) := by decide +kernel
theorem dX12_has_128 : decode cX12_has 128 = .ok (.ireturn, 1) := by decide +kernel
theorem dX12_has_129 : decode cX12_has 129 = .ok (.aload_n 0, 1) := by decide +kernel
theorem dX12_has_130 : decode cX12_has 130 = .ok (.getfield 71, 3) := by decide +kernel
theorem dX12_has_133 : decode cX12_has 133 = .ok (.sipush 198, 3) := by decide +kernel
theorem dX12_has_136 : decode cX12_has 136 = .ok (.iaload, 1) := by decide +kernel
theorem dX12_has_137 : decode cX12_has 137 = .ok (.ireturn, 1) := by decide +kernel
theorem dX12_has_138 : decode cX12_has 138 = .ok (.aload_n 0, 1) := by decide +kernel
theorem dX12_has_139 : decode cX12_has 139 = .ok (.getfield 71, 3) := by decide +kernel
theorem dX12_has_142 : decode cX12_has 142 = .ok (.sipush 205, 3) := by decide +kernel
theorem dX12_has_145 : decode cX12_has 145 = .ok (.iaload, 1) := by decide +kernel
theorem dX12_has_146 : decode cX12_has 146 = .ok (.ireturn, 1) := by decide +kernel
theorem dX12_has_147 : decode cX12_has 147 = .ok (.aload_n 0, 1) := by decide +kernel
theorem dX12_has_148 : decode cX12_has 148 = .ok (.getfield 141, 3) := by decide +kernel
theorem dX12_has_151 : decode cX12_has 151 = .ok (.ireturn, 1) := by decide +kernel
theorem dX12_has_152 : decode cX12_has 152 = .ok (.aload_n 0, 1) := by decide +kernel
theorem dX12_has_153 : decode cX12_has 153 = .ok (.getfield 80, 3) := by decide +kernel
theorem dX12_has_156 : decode cX12_has 156 = .ok (.ireturn, 1) := by decide +kernel
theorem dX12_has_157 : decode cX12_has 157 = .ok (.aload_n 0, 1) := by decide +kernel
theorem dX12_has_158 : decode cX12_has 158 = .ok (.invokevirtual 318, 3) := by decide +kernel
theorem dX12_has_161 : decode cX12_has 161 = .ok (.ireturn, 1) := by decide +kernel
theorem dX12_has_162 : decode cX12_has 162 = .ok (.iconst (-1), 1) := by decide +kernel
theorem dX12_has_163 : decode cX12_has 163 = .ok (.ireturn, 1) := by decide +kernel
abbrev rm_M_has : Room := { frames := 3, cells := 0, slots := 0, locals := 65 }
def M_has (σ : Sg) (x1 : Int32) : Option Int32 :=
  if x1 = 9 then (
    zgt σ 171 24 fun v7 =>
    some v7
  ) else (
    zgt σ 171 25 fun v12 =>
    if v12 = 0 then (
      (M_isIn x1 0 10).bind fun r22 =>
      if (zb r22) = 0 then (
        some (-1)
      ) else (
        some 0
      )
    ) else (
      if x1 = 0 then (
        zgt σ 171 0 fun v93 =>
        some v93
      ) else (
      if x1 = 1 then (
        zgt σ 171 1 fun v98 =>
        some v98
      ) else (
      if x1 = 2 then (
        zrd σ 183 1607 199 fun v109 =>
        some v109
      ) else (
      if x1 = 3 then (
        zrd σ 183 1607 196 fun v118 =>
        some v118
      ) else (
      if x1 = 4 then (
        zrd σ 183 1607 197 fun v127 =>
        some v127
      ) else (
      if x1 = 5 then (
        zrd σ 183 1607 198 fun v136 =>
        some v136
      ) else (
      if x1 = 6 then (
        zrd σ 183 1607 205 fun v145 =>
        some v145
      ) else (
      if x1 = 7 then (
        zgt σ 171 43 fun v148 =>
        some v148
      ) else (
      if x1 = 8 then (
        zgt σ 171 23 fun v153 =>
        some v153
      ) else (
      if x1 = 9 then (
        some (-1)
      ) else (
      if x1 = 10 then (
        (M_outOfBand σ).bind fun r158 =>
        some r158
      ) else (
        some (-1)
      )))))))))))
    )
  )
set_option maxRecDepth 20000 in
theorem t_M_has {X : Zx} {Q : State → Prop} {σ : Sg} {x1 : Int32} (ok : Zok X cX12_has RX12 rm_M_has 198 2)  {out : Int32} (hf : M_has σ x1 = some out) (hk : ZrI cX12_has X Q out σ) : ZAt X Q 0 0 0 σ [(0, .ref (X.ad 171)), (1, .int x1)] [] := by
  unfold M_has at hf
  refine z_iload_n ok dX12_has_0 1 rfl ?_
  refine z_bipush (v := 9) ok dX12_has_1 (by decide) ?_
  refine z_icmp_ne (tgt := 11) ok dX12_has_3 (by decide) hf (fun _ hf => ?_) (fun _ hf => ?_)
  · refine z_aload_n ok dX12_has_6 0 rfl ?_
    refine z_geti ok kc_171 zc_12 hin_12 24 (by decide) fl_12_83 rfl dX12_has_7 hf (fun v7 hf => ?_)
    obtain rfl := Option.some.inj hf
    exact hk _ _ dX12_has_10
  · refine z_aload_n ok dX12_has_11 0 rfl ?_
    refine z_geti ok kc_171 zc_12 hin_12 25 (by decide) fl_12_86 rfl dX12_has_12 hf (fun v12 hf => ?_)
    refine z_if_ne (tgt := 34) ok dX12_has_15 (by decide) hf (fun _ hf => ?_) (fun _ hf => ?_)
    · refine z_iload_n ok dX12_has_18 1 rfl ?_
      refine z_iconst (v := 0) ok dX12_has_19 (by decide) ?_
      refine z_bipush (v := 10) ok dX12_has_20 (by decide) ?_
      refine z_call hf (fun r22 h22 hf => ?_)
      refine z_cS (As := [.int x1, .int 0, .int 10]) (rest := []) ok (c_M_isIn h22) rfl ⟨ml_12_198, w_M_isIn⟩ hy_M_isIn ⟨rfl, rfl⟩ ⟨Nat.le_of_ble_eq_true rfl, Nat.le_of_ble_eq_true rfl⟩ ⟨Nat.zero_le _, Nat.zero_le _⟩ rfl (Nat.le_of_ble_eq_true rfl) dX12_has_22 ?_
      refine z_if_eq (tgt := 32) ok dX12_has_25 (by decide) hf (fun _ hf => ?_) (fun _ hf => ?_)
      · refine z_iconst (v := (-1)) ok dX12_has_32 (by decide) ?_
        obtain rfl := Option.some.inj hf
        exact hk _ _ dX12_has_33
      · refine z_iconst (v := 0) ok dX12_has_28 (by decide) ?_
        refine z_goto (tgt := 33) ok dX12_has_29 (by decide) ?_
        obtain rfl := Option.some.inj hf
        exact hk _ _ dX12_has_33
    · refine z_iload_n ok dX12_has_34 1 rfl ?_
      refine z_swc (v := 0) hf (fun hf => ?_) (fun n35_0 hf => ?_)
      · refine z_tableIn (tgt := 92) ok dX12_has_35 (by decide) (by decide) rfl (by decide) ?_
        refine z_aload_n ok dX12_has_92 0 rfl ?_
        refine z_geti ok kc_171 zc_12 hin_12 0 (by decide) fl_12_7 rfl dX12_has_93 hf (fun v93 hf => ?_)
        obtain rfl := Option.some.inj hf
        exact hk _ _ dX12_has_96
      refine z_swc (v := 1) hf (fun hf => ?_) (fun n35_1 hf => ?_)
      · refine z_tableIn (tgt := 97) ok dX12_has_35 (by decide) (by decide) rfl (by decide) ?_
        refine z_aload_n ok dX12_has_97 0 rfl ?_
        refine z_geti ok kc_171 zc_12 hin_12 1 (by decide) fl_12_13 rfl dX12_has_98 hf (fun v98 hf => ?_)
        obtain rfl := Option.some.inj hf
        exact hk _ _ dX12_has_101
      refine z_swc (v := 2) hf (fun hf => ?_) (fun n35_2 hf => ?_)
      · refine z_tableIn (tgt := 102) ok dX12_has_35 (by decide) (by decide) rfl (by decide) ?_
        refine z_aload_n ok dX12_has_102 0 rfl ?_
        refine z_getr (q := 183) ok kc_171 zc_12 hin_12 20 (by decide) fl_12_71 rfl dX12_has_103 ?_
        refine z_sipush (v := 199) ok dX12_has_106 (by decide) ?_
        refine z_iald ok kc_183 dX12_has_109 hf (fun v109 hf => ?_)
        obtain rfl := Option.some.inj hf
        exact hk _ _ dX12_has_110
      refine z_swc (v := 3) hf (fun hf => ?_) (fun n35_3 hf => ?_)
      · refine z_tableIn (tgt := 111) ok dX12_has_35 (by decide) (by decide) rfl (by decide) ?_
        refine z_aload_n ok dX12_has_111 0 rfl ?_
        refine z_getr (q := 183) ok kc_171 zc_12 hin_12 20 (by decide) fl_12_71 rfl dX12_has_112 ?_
        refine z_sipush (v := 196) ok dX12_has_115 (by decide) ?_
        refine z_iald ok kc_183 dX12_has_118 hf (fun v118 hf => ?_)
        obtain rfl := Option.some.inj hf
        exact hk _ _ dX12_has_119
      refine z_swc (v := 4) hf (fun hf => ?_) (fun n35_4 hf => ?_)
      · refine z_tableIn (tgt := 120) ok dX12_has_35 (by decide) (by decide) rfl (by decide) ?_
        refine z_aload_n ok dX12_has_120 0 rfl ?_
        refine z_getr (q := 183) ok kc_171 zc_12 hin_12 20 (by decide) fl_12_71 rfl dX12_has_121 ?_
        refine z_sipush (v := 197) ok dX12_has_124 (by decide) ?_
        refine z_iald ok kc_183 dX12_has_127 hf (fun v127 hf => ?_)
        obtain rfl := Option.some.inj hf
        exact hk _ _ dX12_has_128
      refine z_swc (v := 5) hf (fun hf => ?_) (fun n35_5 hf => ?_)
      · refine z_tableIn (tgt := 129) ok dX12_has_35 (by decide) (by decide) rfl (by decide) ?_
        refine z_aload_n ok dX12_has_129 0 rfl ?_
        refine z_getr (q := 183) ok kc_171 zc_12 hin_12 20 (by decide) fl_12_71 rfl dX12_has_130 ?_
        refine z_sipush (v := 198) ok dX12_has_133 (by decide) ?_
        refine z_iald ok kc_183 dX12_has_136 hf (fun v136 hf => ?_)
        obtain rfl := Option.some.inj hf
        exact hk _ _ dX12_has_137
      refine z_swc (v := 6) hf (fun hf => ?_) (fun n35_6 hf => ?_)
      · refine z_tableIn (tgt := 138) ok dX12_has_35 (by decide) (by decide) rfl (by decide) ?_
        refine z_aload_n ok dX12_has_138 0 rfl ?_
        refine z_getr (q := 183) ok kc_171 zc_12 hin_12 20 (by decide) fl_12_71 rfl dX12_has_139 ?_
        refine z_sipush (v := 205) ok dX12_has_142 (by decide) ?_
        refine z_iald ok kc_183 dX12_has_145 hf (fun v145 hf => ?_)
        obtain rfl := Option.some.inj hf
        exact hk _ _ dX12_has_146
      refine z_swc (v := 7) hf (fun hf => ?_) (fun n35_7 hf => ?_)
      · refine z_tableIn (tgt := 147) ok dX12_has_35 (by decide) (by decide) rfl (by decide) ?_
        refine z_aload_n ok dX12_has_147 0 rfl ?_
        refine z_geti ok kc_171 zc_12 hin_12 43 (by decide) fl_12_141 rfl dX12_has_148 hf (fun v148 hf => ?_)
        obtain rfl := Option.some.inj hf
        exact hk _ _ dX12_has_151
      refine z_swc (v := 8) hf (fun hf => ?_) (fun n35_8 hf => ?_)
      · refine z_tableIn (tgt := 152) ok dX12_has_35 (by decide) (by decide) rfl (by decide) ?_
        refine z_aload_n ok dX12_has_152 0 rfl ?_
        refine z_geti ok kc_171 zc_12 hin_12 23 (by decide) fl_12_80 rfl dX12_has_153 hf (fun v153 hf => ?_)
        obtain rfl := Option.some.inj hf
        exact hk _ _ dX12_has_156
      refine z_swc (v := 9) hf (fun hf => ?_) (fun n35_9 hf => ?_)
      · refine z_tableIn (tgt := 162) ok dX12_has_35 (by decide) (by decide) rfl (by decide) ?_
        refine z_iconst (v := (-1)) ok dX12_has_162 (by decide) ?_
        obtain rfl := Option.some.inj hf
        exact hk _ _ dX12_has_163
      refine z_swc (v := 10) hf (fun hf => ?_) (fun n35_10 hf => ?_)
      · refine z_tableIn (tgt := 157) ok dX12_has_35 (by decide) (by decide) rfl (by decide) ?_
        refine z_aload_n ok dX12_has_157 0 rfl ?_
        refine z_call hf (fun r158 h158 hf => ?_)
        refine z_cV (As := []) (rest := []) (w := 171) ok kc_171 zc_12 (c_M_outOfBand h158) rfl ⟨ml_12_318, w_M_outOfBand⟩ hy_M_outOfBand ⟨rfl, rfl⟩ ⟨Nat.le_of_ble_eq_true rfl, Nat.le_of_ble_eq_true rfl⟩ ⟨Nat.zero_le _, Nat.zero_le _⟩ rfl (Nat.le_of_ble_eq_true rfl) dX12_has_158 ?_
        obtain rfl := Option.some.inj hf
        exact hk _ _ dX12_has_161
      refine z_tableOut (tgt := 162) ok dX12_has_35 (zsw_out 0 10 [0, 1, 2, 3, 4, 5, 6, 7, 8, 9, 10] (by decide) (List.forall_mem_cons.mpr ⟨n35_0, (List.forall_mem_cons.mpr ⟨n35_1, (List.forall_mem_cons.mpr ⟨n35_2, (List.forall_mem_cons.mpr ⟨n35_3, (List.forall_mem_cons.mpr ⟨n35_4, (List.forall_mem_cons.mpr ⟨n35_5, (List.forall_mem_cons.mpr ⟨n35_6, (List.forall_mem_cons.mpr ⟨n35_7, (List.forall_mem_cons.mpr ⟨n35_8, (List.forall_mem_cons.mpr ⟨n35_9, (List.forall_mem_cons.mpr ⟨n35_10, (fun _ h => absurd h List.not_mem_nil)⟩)⟩)⟩)⟩)⟩)⟩)⟩)⟩)⟩)⟩)⟩)) (by decide) ?_
      refine z_iconst (v := (-1)) ok dX12_has_162 (by decide) ?_
      obtain rfl := Option.some.inj hf
      exact hk _ _ dX12_has_163
theorem c_M_has {σ : Sg} {x1 : Int32} {r : Int32} (h : M_has σ x1 = some r) : ZcI yX12_has cX12_has 2 .int rm_M_has 198 (fun ad => [.ref (ad 171), .int x1]) σ r σ :=
  zmetI pn_12 rfl (fun _ => rfl) (fun _ => Nat.le_of_ble_eq_true rfl) rfl (fun X Q ok hk => t_M_has ok h hk)
theorem dX12_isPool_0 : decode cX12_isPool 0 = .ok (.iload_n 1, 1) := by decide +kernel
theorem dX12_isPool_1 : decode cX12_isPool 1 = .ok (.iconst 0, 1) := by decide +kernel
theorem dX12_isPool_2 : decode cX12_isPool 2 = .ok (.aload_n 0, 1) := by decide +kernel
theorem dX12_isPool_3 : decode cX12_isPool 3 = .ok (.getfield 7, 3) := by decide +kernel
theorem dX12_isPool_6 : decode cX12_isPool 6 = .ok (.iconst 1, 1) := by decide +kernel
theorem dX12_isPool_7 : decode cX12_isPool 7 = .ok (.isub, 1) := by decide +kernel
theorem dX12_isPool_8 : decode cX12_isPool 8 = .ok (.invokestatic 198, 3) := by decide +kernel
theorem dX12_isPool_11 : decode cX12_isPool 11 = .ok (.ireturn, 1) := by decide +kernel
abbrev rm_M_isPool : Room := { frames := 1, cells := 0, slots := 0, locals := 22 }
def M_isPool (σ : Sg) (x1 : Int32) : Option Bool :=
  zgt σ 171 0 fun v3 =>
  (M_isIn x1 0 (v3 - 1)).bind fun r8 =>
  some r8
set_option maxRecDepth 20000 in
theorem t_M_isPool {X : Zx} {Q : State → Prop} {σ : Sg} {x1 : Int32} (ok : Zok X cX12_isPool RX12 rm_M_isPool 198 2)  {out : Bool} (hf : M_isPool σ x1 = some out) (hk : ZrI cX12_isPool X Q (zb out) σ) : ZAt X Q 0 0 0 σ [(0, .ref (X.ad 171)), (1, .int x1)] [] := by
  unfold M_isPool at hf
  refine z_iload_n ok dX12_isPool_0 1 rfl ?_
  refine z_iconst (v := 0) ok dX12_isPool_1 (by decide) ?_
  refine z_aload_n ok dX12_isPool_2 0 rfl ?_
  refine z_geti ok kc_171 zc_12 hin_12 0 (by decide) fl_12_7 rfl dX12_isPool_3 hf (fun v3 hf => ?_)
  refine z_iconst (v := 1) ok dX12_isPool_6 (by decide) ?_
  refine z_isub ok dX12_isPool_7 ?_
  refine z_call hf (fun r8 h8 hf => ?_)
  refine z_cS (As := [.int x1, .int 0, .int (v3 - 1)]) (rest := []) ok (c_M_isIn h8) rfl ⟨ml_12_198, w_M_isIn⟩ hy_M_isIn ⟨rfl, rfl⟩ ⟨Nat.le_of_ble_eq_true rfl, Nat.le_of_ble_eq_true rfl⟩ ⟨Nat.zero_le _, Nat.zero_le _⟩ rfl (Nat.le_of_ble_eq_true rfl) dX12_isPool_8 ?_
  obtain rfl := Option.some.inj hf
  exact hk _ _ dX12_isPool_11
theorem c_M_isPool {σ : Sg} {x1 : Int32} {r : Bool} (h : M_isPool σ x1 = some r) : ZcI yX12_isPool cX12_isPool 2 .boolean rm_M_isPool 198 (fun ad => [.ref (ad 171), .int x1]) σ (zb r) σ :=
  zmetI pn_12 rfl (fun _ => rfl) (fun _ => Nat.le_of_ble_eq_true rfl) (zb_nar _) (fun X Q ok hk => t_M_isPool ok h hk)
theorem dX12_isOutlet_0 : decode cX12_isOutlet 0 = .ok (.iload_n 1, 1) := by decide +kernel
theorem dX12_isOutlet_1 : decode cX12_isOutlet 1 = .ok (.iconst 0, 1) := by decide +kernel
theorem dX12_isOutlet_2 : decode cX12_isOutlet 2 = .ok (.aload_n 0, 1) := by decide +kernel
theorem dX12_isOutlet_3 : decode cX12_isOutlet 3 = .ok (.getfield 13, 3) := by decide +kernel
theorem dX12_isOutlet_6 : decode cX12_isOutlet 6 = .ok (.iconst 1, 1) := by decide +kernel
theorem dX12_isOutlet_7 : decode cX12_isOutlet 7 = .ok (.isub, 1) := by decide +kernel
theorem dX12_isOutlet_8 : decode cX12_isOutlet 8 = .ok (.invokestatic 198, 3) := by decide +kernel
theorem dX12_isOutlet_11 : decode cX12_isOutlet 11 = .ok (.ireturn, 1) := by decide +kernel
abbrev rm_M_isOutlet : Room := { frames := 1, cells := 0, slots := 0, locals := 22 }
def M_isOutlet (σ : Sg) (x1 : Int32) : Option Bool :=
  zgt σ 171 1 fun v3 =>
  (M_isIn x1 0 (v3 - 1)).bind fun r8 =>
  some r8
set_option maxRecDepth 20000 in
theorem t_M_isOutlet {X : Zx} {Q : State → Prop} {σ : Sg} {x1 : Int32} (ok : Zok X cX12_isOutlet RX12 rm_M_isOutlet 198 2)  {out : Bool} (hf : M_isOutlet σ x1 = some out) (hk : ZrI cX12_isOutlet X Q (zb out) σ) : ZAt X Q 0 0 0 σ [(0, .ref (X.ad 171)), (1, .int x1)] [] := by
  unfold M_isOutlet at hf
  refine z_iload_n ok dX12_isOutlet_0 1 rfl ?_
  refine z_iconst (v := 0) ok dX12_isOutlet_1 (by decide) ?_
  refine z_aload_n ok dX12_isOutlet_2 0 rfl ?_
  refine z_geti ok kc_171 zc_12 hin_12 1 (by decide) fl_12_13 rfl dX12_isOutlet_3 hf (fun v3 hf => ?_)
  refine z_iconst (v := 1) ok dX12_isOutlet_6 (by decide) ?_
  refine z_isub ok dX12_isOutlet_7 ?_
  refine z_call hf (fun r8 h8 hf => ?_)
  refine z_cS (As := [.int x1, .int 0, .int (v3 - 1)]) (rest := []) ok (c_M_isIn h8) rfl ⟨ml_12_198, w_M_isIn⟩ hy_M_isIn ⟨rfl, rfl⟩ ⟨Nat.le_of_ble_eq_true rfl, Nat.le_of_ble_eq_true rfl⟩ ⟨Nat.zero_le _, Nat.zero_le _⟩ rfl (Nat.le_of_ble_eq_true rfl) dX12_isOutlet_8 ?_
  obtain rfl := Option.some.inj hf
  exact hk _ _ dX12_isOutlet_11
theorem c_M_isOutlet {σ : Sg} {x1 : Int32} {r : Bool} (h : M_isOutlet σ x1 = some r) : ZcI yX12_isOutlet cX12_isOutlet 2 .boolean rm_M_isOutlet 198 (fun ad => [.ref (ad 171), .int x1]) σ (zb r) σ :=
  zmetI pn_12 rfl (fun _ => rfl) (fun _ => Nat.le_of_ble_eq_true rfl) (zb_nar _) (fun X Q ok hk => t_M_isOutlet ok h hk)
theorem dX12_letter_0 : decode cX12_letter 0 = .ok (.iload_n 3, 1) := by decide +kernel
theorem dX12_letter_1 : decode cX12_letter 1 = .ok (.iconst 0, 1) := by decide +kernel
theorem dX12_letter_2 : decode cX12_letter 2 = .ok (.iconst 5, 1) := by decide +kernel
theorem dX12_letter_3 : decode cX12_letter 3 = .ok (.invokestatic 198, 3) := by decide +kernel
theorem dX12_letter_6 : decode cX12_letter 6 = .ok (.ifCond .eq 12, 3) := by decide +kernel
theorem dX12_letter_9 : decode cX12_letter 9 = .ok (.iload_n 1, 1) := by decide +kernel
theorem dX12_letter_10 : decode cX12_letter 10 = .ok (.iconst 0, 1) := by decide +kernel
theorem dX12_letter_11 : decode cX12_letter 11 = .ok (.iconst 1, 1) := by decide +kernel
theorem dX12_letter_12 : decode cX12_letter 12 = .ok (.invokestatic 198, 3) := by decide +kernel
theorem dX12_letter_15 : decode cX12_letter 15 = .ok (.ifCond .ne 5, 3) := by decide +kernel
theorem dX12_letter_18 : decode cX12_letter 18 = .ok (.iconst (-1), 1) := by decide +kernel
theorem dX12_letter_19 : decode cX12_letter 19 = .ok (.ireturn, 1) := by decide +kernel
theorem dX12_letter_20 : decode cX12_letter 20 = .ok (.iload_n 1, 1) := by decide +kernel
theorem dX12_letter_21 : decode cX12_letter 21 = .ok (.ifCond .ne 27, 3) := by decide +kernel
theorem dX12_letter_24 : decode cX12_letter 24 = .ok (.aload_n 0, 1) := by decide +kernel
theorem dX12_letter_25 : decode cX12_letter 25 = .ok (.iload_n 2, 1) := by decide +kernel
theorem dX12_letter_26 : decode cX12_letter 26 = .ok (.invokevirtual 321, 3) := by decide +kernel
theorem dX12_letter_29 : decode cX12_letter 29 = .ok (.ifCond .eq 17, 3) := by decide +kernel
theorem dX12_letter_32 : decode cX12_letter 32 = .ok (.aload_n 0, 1) := by decide +kernel
theorem dX12_letter_33 : decode cX12_letter 33 = .ok (.getfield 29, 3) := by decide +kernel
theorem dX12_letter_36 : decode cX12_letter 36 = .ok (.bipush 6, 2) := by decide +kernel
theorem dX12_letter_38 : decode cX12_letter 38 = .ok (.iload_n 2, 1) := by decide +kernel
theorem dX12_letter_39 : decode cX12_letter 39 = .ok (.imul, 1) := by decide +kernel
theorem dX12_letter_40 : decode cX12_letter 40 = .ok (.iload_n 3, 1) := by decide +kernel
theorem dX12_letter_41 : decode cX12_letter 41 = .ok (.iadd, 1) := by decide +kernel
theorem dX12_letter_42 : decode cX12_letter 42 = .ok (.iaload, 1) := by decide +kernel
theorem dX12_letter_43 : decode cX12_letter 43 = .ok (.goto 4, 3) := by decide +kernel
theorem dX12_letter_46 : decode cX12_letter 46 = .ok (.iconst (-1), 1) := by decide +kernel
theorem dX12_letter_47 : decode cX12_letter 47 = .ok (.ireturn, 1) := by decide +kernel
theorem dX12_letter_48 : decode cX12_letter 48 = .ok (.aload_n 0, 1) := by decide +kernel
theorem dX12_letter_49 : decode cX12_letter 49 = .ok (.iload_n 2, 1) := by decide +kernel
theorem dX12_letter_50 : decode cX12_letter 50 = .ok (.invokevirtual 324, 3) := by decide +kernel
theorem dX12_letter_53 : decode cX12_letter 53 = .ok (.ifCond .eq 17, 3) := by decide +kernel
theorem dX12_letter_56 : decode cX12_letter 56 = .ok (.aload_n 0, 1) := by decide +kernel
theorem dX12_letter_57 : decode cX12_letter 57 = .ok (.getfield 32, 3) := by decide +kernel
theorem dX12_letter_60 : decode cX12_letter 60 = .ok (.bipush 6, 2) := by decide +kernel
theorem dX12_letter_62 : decode cX12_letter 62 = .ok (.iload_n 2, 1) := by decide +kernel
theorem dX12_letter_63 : decode cX12_letter 63 = .ok (.imul, 1) := by decide +kernel
theorem dX12_letter_64 : decode cX12_letter 64 = .ok (.iload_n 3, 1) := by decide +kernel
theorem dX12_letter_65 : decode cX12_letter 65 = .ok (.iadd, 1) := by decide +kernel
theorem dX12_letter_66 : decode cX12_letter 66 = .ok (.iaload, 1) := by decide +kernel
theorem dX12_letter_67 : decode cX12_letter 67 = .ok (.goto 4, 3) := by decide +kernel
theorem dX12_letter_70 : decode cX12_letter 70 = .ok (.iconst (-1), 1) := by decide +kernel
theorem dX12_letter_71 : decode cX12_letter 71 = .ok (.ireturn, 1) := by decide +kernel
abbrev rm_M_letter : Room := { frames := 2, cells := 0, slots := 0, locals := 43 }
def M_letter (σ : Sg) (x1 : Int32) (x2 : Int32) (x3 : Int32) : Option Int32 :=
  (M_isIn x3 0 5).bind fun r3 =>
  if (zb r3) = 0 then (
    some (-1)
  ) else (
    (M_isIn x1 0 1).bind fun r12 =>
    if (zb r12) = 0 then (
      some (-1)
    ) else (
      if x1 = 0 then (
        (M_isPool σ x2).bind fun r26 =>
        if (zb r26) = 0 then (
          some (-1)
        ) else (
          zrd σ 175 48 ((6 * x2) + x3) fun v42 =>
          some v42
        )
      ) else (
        (M_isOutlet σ x2).bind fun r50 =>
        if (zb r50) = 0 then (
          some (-1)
        ) else (
          zrd σ 176 60 ((6 * x2) + x3) fun v66 =>
          some v66
        )
      )
    )
  )
set_option maxRecDepth 20000 in
theorem t_M_letter {X : Zx} {Q : State → Prop} {σ : Sg} {x1 : Int32} {x2 : Int32} {x3 : Int32} (ok : Zok X cX12_letter RX12 rm_M_letter 198 4)  {out : Int32} (hf : M_letter σ x1 x2 x3 = some out) (hk : ZrI cX12_letter X Q out σ) : ZAt X Q 0 0 0 σ [(0, .ref (X.ad 171)), (1, .int x1), (2, .int x2), (3, .int x3)] [] := by
  unfold M_letter at hf
  refine z_iload_n ok dX12_letter_0 3 rfl ?_
  refine z_iconst (v := 0) ok dX12_letter_1 (by decide) ?_
  refine z_iconst (v := 5) ok dX12_letter_2 (by decide) ?_
  refine z_call hf (fun r3 h3 hf => ?_)
  refine z_cS (As := [.int x3, .int 0, .int 5]) (rest := []) ok (c_M_isIn h3) rfl ⟨ml_12_198, w_M_isIn⟩ hy_M_isIn ⟨rfl, rfl⟩ ⟨Nat.le_of_ble_eq_true rfl, Nat.le_of_ble_eq_true rfl⟩ ⟨Nat.zero_le _, Nat.zero_le _⟩ rfl (Nat.le_of_ble_eq_true rfl) dX12_letter_3 ?_
  refine z_if_eq (tgt := 18) ok dX12_letter_6 (by decide) hf (fun _ hf => ?_) (fun _ hf => ?_)
  · refine z_iconst (v := (-1)) ok dX12_letter_18 (by decide) ?_
    obtain rfl := Option.some.inj hf
    exact hk _ _ dX12_letter_19
  · refine z_iload_n ok dX12_letter_9 1 rfl ?_
    refine z_iconst (v := 0) ok dX12_letter_10 (by decide) ?_
    refine z_iconst (v := 1) ok dX12_letter_11 (by decide) ?_
    refine z_call hf (fun r12 h12 hf => ?_)
    refine z_cS (As := [.int x1, .int 0, .int 1]) (rest := []) ok (c_M_isIn h12) rfl ⟨ml_12_198, w_M_isIn⟩ hy_M_isIn ⟨rfl, rfl⟩ ⟨Nat.le_of_ble_eq_true rfl, Nat.le_of_ble_eq_true rfl⟩ ⟨Nat.zero_le _, Nat.zero_le _⟩ rfl (Nat.le_of_ble_eq_true rfl) dX12_letter_12 ?_
    refine z_if_ne (tgt := 20) ok dX12_letter_15 (by decide) hf (fun _ hf => ?_) (fun _ hf => ?_)
    · refine z_iconst (v := (-1)) ok dX12_letter_18 (by decide) ?_
      obtain rfl := Option.some.inj hf
      exact hk _ _ dX12_letter_19
    · refine z_iload_n ok dX12_letter_20 1 rfl ?_
      refine z_if_ne (tgt := 48) ok dX12_letter_21 (by decide) hf (fun _ hf => ?_) (fun _ hf => ?_)
      · refine z_aload_n ok dX12_letter_24 0 rfl ?_
        refine z_iload_n ok dX12_letter_25 2 rfl ?_
        refine z_call hf (fun r26 h26 hf => ?_)
        refine z_cV (As := [.int x2]) (rest := []) (w := 171) ok kc_171 zc_12 (c_M_isPool h26) rfl ⟨ml_12_321, w_M_isPool⟩ hy_M_isPool ⟨rfl, rfl⟩ ⟨Nat.le_of_ble_eq_true rfl, Nat.le_of_ble_eq_true rfl⟩ ⟨Nat.zero_le _, Nat.zero_le _⟩ rfl (Nat.le_of_ble_eq_true rfl) dX12_letter_26 ?_
        refine z_if_eq (tgt := 46) ok dX12_letter_29 (by decide) hf (fun _ hf => ?_) (fun _ hf => ?_)
        · refine z_iconst (v := (-1)) ok dX12_letter_46 (by decide) ?_
          obtain rfl := Option.some.inj hf
          exact hk _ _ dX12_letter_47
        · refine z_aload_n ok dX12_letter_32 0 rfl ?_
          refine z_getr (q := 175) ok kc_171 zc_12 hin_12 6 (by decide) fl_12_29 rfl dX12_letter_33 ?_
          refine z_bipush (v := 6) ok dX12_letter_36 (by decide) ?_
          refine z_iload_n ok dX12_letter_38 2 rfl ?_
          refine z_imul ok dX12_letter_39 ?_
          refine z_iload_n ok dX12_letter_40 3 rfl ?_
          refine z_iadd ok dX12_letter_41 ?_
          refine z_iald ok kc_175 dX12_letter_42 hf (fun v42 hf => ?_)
          refine z_goto (tgt := 47) ok dX12_letter_43 (by decide) ?_
          obtain rfl := Option.some.inj hf
          exact hk _ _ dX12_letter_47
      · refine z_aload_n ok dX12_letter_48 0 rfl ?_
        refine z_iload_n ok dX12_letter_49 2 rfl ?_
        refine z_call hf (fun r50 h50 hf => ?_)
        refine z_cV (As := [.int x2]) (rest := []) (w := 171) ok kc_171 zc_12 (c_M_isOutlet h50) rfl ⟨ml_12_324, w_M_isOutlet⟩ hy_M_isOutlet ⟨rfl, rfl⟩ ⟨Nat.le_of_ble_eq_true rfl, Nat.le_of_ble_eq_true rfl⟩ ⟨Nat.zero_le _, Nat.zero_le _⟩ rfl (Nat.le_of_ble_eq_true rfl) dX12_letter_50 ?_
        refine z_if_eq (tgt := 70) ok dX12_letter_53 (by decide) hf (fun _ hf => ?_) (fun _ hf => ?_)
        · refine z_iconst (v := (-1)) ok dX12_letter_70 (by decide) ?_
          obtain rfl := Option.some.inj hf
          exact hk _ _ dX12_letter_71
        · refine z_aload_n ok dX12_letter_56 0 rfl ?_
          refine z_getr (q := 176) ok kc_171 zc_12 hin_12 7 (by decide) fl_12_32 rfl dX12_letter_57 ?_
          refine z_bipush (v := 6) ok dX12_letter_60 (by decide) ?_
          refine z_iload_n ok dX12_letter_62 2 rfl ?_
          refine z_imul ok dX12_letter_63 ?_
          refine z_iload_n ok dX12_letter_64 3 rfl ?_
          refine z_iadd ok dX12_letter_65 ?_
          refine z_iald ok kc_176 dX12_letter_66 hf (fun v66 hf => ?_)
          refine z_goto (tgt := 71) ok dX12_letter_67 (by decide) ?_
          obtain rfl := Option.some.inj hf
          exact hk _ _ dX12_letter_71
theorem c_M_letter {σ : Sg} {x1 : Int32} {x2 : Int32} {x3 : Int32} {r : Int32} (h : M_letter σ x1 x2 x3 = some r) : ZcI yX12_letter cX12_letter 4 .int rm_M_letter 198 (fun ad => [.ref (ad 171), .int x1, .int x2, .int x3]) σ r σ :=
  zmetI pn_12 rfl (fun _ => rfl) (fun _ => Nat.le_of_ble_eq_true rfl) rfl (fun X Q ok hk => t_M_letter ok h hk)
theorem dX12_named_0 : decode cX12_named 0 = .ok (.aload_n 0, 1) := by decide +kernel
theorem dX12_named_1 : decode cX12_named 1 = .ok (.invokevirtual 245, 3) := by decide +kernel
theorem dX12_named_4 : decode cX12_named 4 = .ok (.istore_n 2, 1) := by decide +kernel
theorem dX12_named_5 : decode cX12_named 5 = .ok (.iload_n 2, 1) := by decide +kernel
theorem dX12_named_6 : decode cX12_named 6 = .ok (.iconst 1, 1) := by decide +kernel
theorem dX12_named_7 : decode cX12_named 7 = .ok (.bipush 6, 2) := by decide +kernel
theorem dX12_named_9 : decode cX12_named 9 = .ok (.invokestatic 198, 3) := by decide +kernel
theorem dX12_named_12 : decode cX12_named 12 = .ok (.ifCond .eq 12, 3) := by decide +kernel
theorem dX12_named_15 : decode cX12_named 15 = .ok (.iload_n 1, 1) := by decide +kernel
theorem dX12_named_16 : decode cX12_named 16 = .ok (.iconst 0, 1) := by decide +kernel
theorem dX12_named_17 : decode cX12_named 17 = .ok (.iconst 1, 1) := by decide +kernel
theorem dX12_named_18 : decode cX12_named 18 = .ok (.invokestatic 198, 3) := by decide +kernel
theorem dX12_named_21 : decode cX12_named 21 = .ok (.ifCond .ne 5, 3) := by decide +kernel
theorem dX12_named_24 : decode cX12_named 24 = .ok (.iconst (-1), 1) := by decide +kernel
theorem dX12_named_25 : decode cX12_named 25 = .ok (.ireturn, 1) := by decide +kernel
theorem dX12_named_26 : decode cX12_named 26 = .ok (.iload_n 1, 1) := by decide +kernel
theorem dX12_named_27 : decode cX12_named 27 = .ok (.ifCond .ne 10, 3) := by decide +kernel
theorem dX12_named_30 : decode cX12_named 30 = .ok (.aload_n 0, 1) := by decide +kernel
theorem dX12_named_31 : decode cX12_named 31 = .ok (.getfield 7, 3) := by decide +kernel
theorem dX12_named_34 : decode cX12_named 34 = .ok (.goto 7, 3) := by decide +kernel
theorem dX12_named_37 : decode cX12_named 37 = .ok (.aload_n 0, 1) := by decide +kernel
theorem dX12_named_38 : decode cX12_named 38 = .ok (.getfield 13, 3) := by decide +kernel
theorem dX12_named_41 : decode cX12_named 41 = .ok (.istore_n 3, 1) := by decide +kernel
theorem dX12_named_42 : decode cX12_named 42 = .ok (.iconst 0, 1) := by decide +kernel
theorem dX12_named_43 : decode cX12_named 43 = .ok (.istore 4, 2) := by decide +kernel
theorem dX12_named_45 : decode cX12_named 45 = .ok (.iload 4, 2) := by decide +kernel
theorem dX12_named_47 : decode cX12_named 47 = .ok (.iload_n 3, 1) := by decide +kernel
theorem dX12_named_48 : decode cX12_named 48 = .ok (.if_icmp .ge 148, 3) := by decide +kernel
theorem dX12_named_51 : decode cX12_named 51 = .ok (.iconst 1, 1) := by decide +kernel
theorem dX12_named_52 : decode cX12_named 52 = .ok (.istore 5, 2) := by decide +kernel
theorem dX12_named_54 : decode cX12_named 54 = .ok (.iconst 0, 1) := by decide +kernel
theorem dX12_named_55 : decode cX12_named 55 = .ok (.istore 6, 2) := by decide +kernel
theorem dX12_named_57 : decode cX12_named 57 = .ok (.iload 6, 2) := by decide +kernel
theorem dX12_named_59 : decode cX12_named 59 = .ok (.bipush 6, 2) := by decide +kernel
theorem dX12_named_61 : decode cX12_named 61 = .ok (.if_icmp .ge 77, 3) := by decide +kernel
theorem dX12_named_64 : decode cX12_named 64 = .ok (.iload 5, 2) := by decide +kernel
theorem dX12_named_66 : decode cX12_named 66 = .ok (.ifCond .eq 63, 3) := by decide +kernel
theorem dX12_named_69 : decode cX12_named 69 = .ok (.iload_n 1, 1) := by decide +kernel
theorem dX12_named_70 : decode cX12_named 70 = .ok (.ifCond .ne 19, 3) := by decide +kernel
theorem dX12_named_73 : decode cX12_named 73 = .ok (.aload_n 0, 1) := by decide +kernel
theorem dX12_named_74 : decode cX12_named 74 = .ok (.getfield 29, 3) := by decide +kernel
theorem dX12_named_77 : decode cX12_named 77 = .ok (.bipush 6, 2) := by decide +kernel
theorem dX12_named_79 : decode cX12_named 79 = .ok (.iload 4, 2) := by decide +kernel
theorem dX12_named_81 : decode cX12_named 81 = .ok (.imul, 1) := by decide +kernel
theorem dX12_named_82 : decode cX12_named 82 = .ok (.iload 6, 2) := by decide +kernel
theorem dX12_named_84 : decode cX12_named 84 = .ok (.iadd, 1) := by decide +kernel
theorem dX12_named_85 : decode cX12_named 85 = .ok (.iaload, 1) := by decide +kernel
theorem dX12_named_86 : decode cX12_named 86 = .ok (.goto 16, 3) := by decide +kernel
theorem dX12_named_89 : decode cX12_named 89 = .ok (.aload_n 0, 1) := by decide +kernel
theorem dX12_named_90 : decode cX12_named 90 = .ok (.getfield 32, 3) := by decide +kernel
theorem dX12_named_93 : decode cX12_named 93 = .ok (.bipush 6, 2) := by decide +kernel
theorem dX12_named_95 : decode cX12_named 95 = .ok (.iload 4, 2) := by decide +kernel
theorem dX12_named_97 : decode cX12_named 97 = .ok (.imul, 1) := by decide +kernel
theorem dX12_named_98 : decode cX12_named 98 = .ok (.iload 6, 2) := by decide +kernel
theorem dX12_named_100 : decode cX12_named 100 = .ok (.iadd, 1) := by decide +kernel
theorem dX12_named_101 : decode cX12_named 101 = .ok (.iaload, 1) := by decide +kernel
theorem dX12_named_102 : decode cX12_named 102 = .ok (.iload 6, 2) := by decide +kernel
theorem dX12_named_104 : decode cX12_named 104 = .ok (.iload_n 2, 1) := by decide +kernel
theorem dX12_named_105 : decode cX12_named 105 = .ok (.if_icmp .ge 16, 3) := by decide +kernel
theorem dX12_named_108 : decode cX12_named 108 = .ok (.aload_n 0, 1) := by decide +kernel
theorem dX12_named_109 : decode cX12_named 109 = .ok (.getfield 93, 3) := by decide +kernel
theorem dX12_named_112 : decode cX12_named 112 = .ok (.iload 6, 2) := by decide +kernel
theorem dX12_named_114 : decode cX12_named 114 = .ok (.iaload, 1) := by decide +kernel
theorem dX12_named_115 : decode cX12_named 115 = .ok (.bipush 96, 2) := by decide +kernel
theorem dX12_named_117 : decode cX12_named 117 = .ok (.isub, 1) := by decide +kernel
theorem dX12_named_118 : decode cX12_named 118 = .ok (.goto 4, 3) := by decide +kernel
theorem dX12_named_121 : decode cX12_named 121 = .ok (.iconst 0, 1) := by decide +kernel
theorem dX12_named_122 : decode cX12_named 122 = .ok (.if_icmp .ne 7, 3) := by decide +kernel
theorem dX12_named_125 : decode cX12_named 125 = .ok (.iconst 1, 1) := by decide +kernel
theorem dX12_named_126 : decode cX12_named 126 = .ok (.goto 4, 3) := by decide +kernel
theorem dX12_named_129 : decode cX12_named 129 = .ok (.iconst 0, 1) := by decide +kernel
theorem dX12_named_130 : decode cX12_named 130 = .ok (.istore 5, 2) := by decide +kernel
theorem dX12_named_132 : decode cX12_named 132 = .ok (.iinc 6 1, 3) := by decide +kernel
theorem dX12_named_135 : decode cX12_named 135 = .ok (.goto (-78), 3) := by decide +kernel
theorem dX12_named_138 : decode cX12_named 138 = .ok (.iconst 0, 1) := by decide +kernel
theorem dX12_named_139 : decode cX12_named 139 = .ok (.istore 6, 2) := by decide +kernel
theorem dX12_named_141 : decode cX12_named 141 = .ok (.iload 6, 2) := by decide +kernel
theorem dX12_named_143 : decode cX12_named 143 = .ok (.iload_n 2, 1) := by decide +kernel
theorem dX12_named_144 : decode cX12_named 144 = .ok (.if_icmp .ge 38, 3) := by decide +kernel
theorem dX12_named_147 : decode cX12_named 147 = .ok (.iload 5, 2) := by decide +kernel
theorem dX12_named_149 : decode cX12_named 149 = .ok (.ifCond .eq 24, 3) := by decide +kernel
theorem dX12_named_152 : decode cX12_named 152 = .ok (.aload_n 0, 1) := by decide +kernel
theorem dX12_named_153 : decode cX12_named 153 = .ok (.getfield 93, 3) := by decide +kernel
theorem dX12_named_156 : decode cX12_named 156 = .ok (.iload 6, 2) := by decide +kernel
theorem dX12_named_158 : decode cX12_named 158 = .ok (.iaload, 1) := by decide +kernel
theorem dX12_named_159 : decode cX12_named 159 = .ok (.bipush 97, 2) := by decide +kernel
theorem dX12_named_161 : decode cX12_named 161 = .ok (.bipush 122, 2) := by decide +kernel
theorem dX12_named_163 : decode cX12_named 163 = .ok (.invokestatic 198, 3) := by decide +kernel
theorem dX12_named_166 : decode cX12_named 166 = .ok (.ifCond .eq 7, 3) := by decide +kernel
theorem dX12_named_169 : decode cX12_named 169 = .ok (.iconst 1, 1) := by decide +kernel
theorem dX12_named_170 : decode cX12_named 170 = .ok (.goto 4, 3) := by decide +kernel
theorem dX12_named_173 : decode cX12_named 173 = .ok (.iconst 0, 1) := by decide +kernel
theorem dX12_named_174 : decode cX12_named 174 = .ok (.istore 5, 2) := by decide +kernel
theorem dX12_named_176 : decode cX12_named 176 = .ok (.iinc 6 1, 3) := by decide +kernel
theorem dX12_named_179 : decode cX12_named 179 = .ok (.goto (-38), 3) := by decide +kernel
theorem dX12_named_182 : decode cX12_named 182 = .ok (.iload 5, 2) := by decide +kernel
theorem dX12_named_184 : decode cX12_named 184 = .ok (.ifCond .eq 6, 3) := by decide +kernel
theorem dX12_named_187 : decode cX12_named 187 = .ok (.iload 4, 2) := by decide +kernel
theorem dX12_named_189 : decode cX12_named 189 = .ok (.ireturn, 1) := by decide +kernel
theorem dX12_named_190 : decode cX12_named 190 = .ok (.iinc 4 1, 3) := by decide +kernel
theorem dX12_named_193 : decode cX12_named 193 = .ok (.goto (-148), 3) := by decide +kernel
theorem dX12_named_196 : decode cX12_named 196 = .ok (.iconst (-1), 1) := by decide +kernel
theorem dX12_named_197 : decode cX12_named 197 = .ok (.ireturn, 1) := by decide +kernel
abbrev rm_M_named : Room := { frames := 1, cells := 0, slots := 0, locals := 22 }
def M_named_j57_122 (σ : Sg) (x1 : Int32) (x2 : Int32) (x3 : Int32) (x4 : Int32) (x6 : Int32) (s0 : Int32) (s1 : Int32) : Option ((Int32 × Int32) ⊕ (Int32 × Int32)) :=
  if s0 = s1 then (
    zlt 1 fun v130 =>
    zlt (x6 + 1) fun v132 =>
    some (.inl (v130, v132))
  ) else (
    zlt 0 fun v130 =>
    zlt (x6 + 1) fun v132 =>
    some (.inl (v130, v132))
  )
set_option maxRecDepth 20000 in
theorem t_M_named_j57_122 {X : Zx} {Q : State → Prop} {σ : Sg} {x1 : Int32} {x2 : Int32} {x3 : Int32} {x4 : Int32} {x6 : Int32} {s0 : Int32} {s1 : Int32} (ok : Zok X cX12_named RX12 rm_M_named 198 7)  {out : ((Int32 × Int32) ⊕ (Int32 × Int32))} (hf : M_named_j57_122 σ x1 x2 x3 x4 x6 s0 s1 = some out) (hk : zout (fun (s : (Int32 × Int32)) => ZAt X Q 0 0 57 σ [(0, .ref (X.ad 171)), (1, .int x1), (2, .int x2), (3, .int x3), (4, .int x4), (5, .int s.1), (6, .int s.2)] []) (fun (s : (Int32 × Int32)) => ZAt X Q 0 0 138 σ [(0, .ref (X.ad 171)), (1, .int x1), (2, .int x2), (3, .int x3), (4, .int x4), (5, .int s.1)] []) out) : ZAt X Q 0 0 122 σ [(0, .ref (X.ad 171)), (1, .int x1), (2, .int x2), (3, .int x3), (4, .int x4), (6, .int x6)] [.int s1, .int s0] := by
  unfold M_named_j57_122 at hf
  refine z_icmp_ne (tgt := 129) ok dX12_named_122 (by decide) hf (fun _ hf => ?_) (fun _ hf => ?_)
  · refine z_iconst (v := 1) ok dX12_named_125 (by decide) ?_
    refine z_goto (tgt := 130) ok dX12_named_126 (by decide) ?_
    refine z_nm hf (fun v130 hf => ?_)
    refine z_istore (lv' := [(5, .int v130), (0, .ref (X.ad 171)), (1, .int x1), (2, .int x2), (3, .int x3), (4, .int x4), (6, .int x6)]) ok dX12_named_130 (by decide) rfl ?_
    refine z_iinc (w := 1) (lv' := fun v132 => [(6, .int v132), (5, .int v130), (0, .ref (X.ad 171)), (1, .int x1), (2, .int x2), (3, .int x3), (4, .int x4)]) ok dX12_named_132 6 rfl (by decide) (by decide) (fun _ => rfl) hf (fun v132 hf => ?_)
    refine z_goto (tgt := 57) ok dX12_named_135 (by decide) ?_
    obtain rfl := Option.some.inj hf
    exact z_sub [2, 3, 4, 5, 6, 1, 0] rfl hk
  · refine z_iconst (v := 0) ok dX12_named_129 (by decide) ?_
    refine z_nm hf (fun v130 hf => ?_)
    refine z_istore (lv' := [(5, .int v130), (0, .ref (X.ad 171)), (1, .int x1), (2, .int x2), (3, .int x3), (4, .int x4), (6, .int x6)]) ok dX12_named_130 (by decide) rfl ?_
    refine z_iinc (w := 1) (lv' := fun v132 => [(6, .int v132), (5, .int v130), (0, .ref (X.ad 171)), (1, .int x1), (2, .int x2), (3, .int x3), (4, .int x4)]) ok dX12_named_132 6 rfl (by decide) (by decide) (fun _ => rfl) hf (fun v132 hf => ?_)
    refine z_goto (tgt := 57) ok dX12_named_135 (by decide) ?_
    obtain rfl := Option.some.inj hf
    exact z_sub [2, 3, 4, 5, 6, 1, 0] rfl hk
def M_named_j57_102 (σ : Sg) (x1 : Int32) (x2 : Int32) (x3 : Int32) (x4 : Int32) (x6 : Int32) (s0 : Int32) : Option ((Int32 × Int32) ⊕ (Int32 × Int32)) :=
  if x2 ≤ x6 then (
    M_named_j57_122 σ x1 x2 x3 x4 x6 s0 0
  ) else (
    zrd σ 186 1600 x6 fun v114 =>
    M_named_j57_122 σ x1 x2 x3 x4 x6 s0 (v114 - 96)
  )
set_option maxRecDepth 20000 in
theorem t_M_named_j57_102 {X : Zx} {Q : State → Prop} {σ : Sg} {x1 : Int32} {x2 : Int32} {x3 : Int32} {x4 : Int32} {x6 : Int32} {s0 : Int32} (ok : Zok X cX12_named RX12 rm_M_named 198 7)  {out : ((Int32 × Int32) ⊕ (Int32 × Int32))} (hf : M_named_j57_102 σ x1 x2 x3 x4 x6 s0 = some out) (hk : zout (fun (s : (Int32 × Int32)) => ZAt X Q 0 0 57 σ [(0, .ref (X.ad 171)), (1, .int x1), (2, .int x2), (3, .int x3), (4, .int x4), (5, .int s.1), (6, .int s.2)] []) (fun (s : (Int32 × Int32)) => ZAt X Q 0 0 138 σ [(0, .ref (X.ad 171)), (1, .int x1), (2, .int x2), (3, .int x3), (4, .int x4), (5, .int s.1)] []) out) : ZAt X Q 0 0 102 σ [(0, .ref (X.ad 171)), (1, .int x1), (2, .int x2), (3, .int x3), (4, .int x4), (6, .int x6)] [.int s0] := by
  unfold M_named_j57_102 at hf
  refine z_iload ok dX12_named_102 5 rfl ?_
  refine z_iload_n ok dX12_named_104 2 rfl ?_
  refine z_icmp_ge (tgt := 121) ok dX12_named_105 (by decide) hf (fun _ hf => ?_) (fun _ hf => ?_)
  · refine z_iconst (v := 0) ok dX12_named_121 (by decide) ?_
    exact z_sub [0, 1, 2, 3, 4, 5] rfl (t_M_named_j57_122 ok hf hk)
  · refine z_aload_n ok dX12_named_108 0 rfl ?_
    refine z_getr (q := 186) ok kc_171 zc_12 hin_12 27 (by decide) fl_12_93 rfl dX12_named_109 ?_
    refine z_iload ok dX12_named_112 5 rfl ?_
    refine z_iald ok kc_186 dX12_named_114 hf (fun v114 hf => ?_)
    refine z_bipush (v := 96) ok dX12_named_115 (by decide) ?_
    refine z_isub ok dX12_named_117 ?_
    refine z_goto (tgt := 122) ok dX12_named_118 (by decide) ?_
    exact z_sub [0, 1, 2, 3, 4, 5] rfl (t_M_named_j57_122 ok hf hk)
def M_named_l57 (σ : Sg) (x1 : Int32) (x2 : Int32) (x3 : Int32) (x4 : Int32) (x5 : Int32) (x6 : Int32) : Option ((Int32 × Int32) ⊕ (Int32 × Int32)) :=
  if 6 ≤ x6 then (
    some (.inr (x5, x6))
  ) else (
    if x5 = 0 then (
      zlt 0 fun v130 =>
      zlt (x6 + 1) fun v132 =>
      some (.inl (v130, v132))
    ) else (
      if x1 = 0 then (
        zrd σ 175 48 ((6 * x4) + x6) fun v85 =>
        M_named_j57_102 σ x1 x2 x3 x4 x6 v85
      ) else (
        zrd σ 176 60 ((6 * x4) + x6) fun v101 =>
        M_named_j57_102 σ x1 x2 x3 x4 x6 v101
      )
    )
  )
set_option maxRecDepth 20000 in
theorem t_M_named_l57 {X : Zx} {Q : State → Prop} {σ : Sg} {x1 : Int32} {x2 : Int32} {x3 : Int32} {x4 : Int32} {x5 : Int32} {x6 : Int32} (ok : Zok X cX12_named RX12 rm_M_named 198 7)  {out : ((Int32 × Int32) ⊕ (Int32 × Int32))} (hf : M_named_l57 σ x1 x2 x3 x4 x5 x6 = some out) (hk : zout (fun (s : (Int32 × Int32)) => ZAt X Q 0 0 57 σ [(0, .ref (X.ad 171)), (1, .int x1), (2, .int x2), (3, .int x3), (4, .int x4), (5, .int s.1), (6, .int s.2)] []) (fun (s : (Int32 × Int32)) => ZAt X Q 0 0 138 σ [(0, .ref (X.ad 171)), (1, .int x1), (2, .int x2), (3, .int x3), (4, .int x4), (5, .int s.1)] []) out) : ZAt X Q 0 0 57 σ [(0, .ref (X.ad 171)), (1, .int x1), (2, .int x2), (3, .int x3), (4, .int x4), (5, .int x5), (6, .int x6)] [] := by
  unfold M_named_l57 at hf
  refine z_iload ok dX12_named_57 6 rfl ?_
  refine z_bipush (v := 6) ok dX12_named_59 (by decide) ?_
  refine z_icmp_ge (tgt := 138) ok dX12_named_61 (by decide) hf (fun _ hf => ?_) (fun _ hf => ?_)
  · obtain rfl := Option.some.inj hf
    exact z_sub [0, 1, 2, 3, 4, 5] rfl hk
  · refine z_iload ok dX12_named_64 5 rfl ?_
    refine z_if_eq (tgt := 129) ok dX12_named_66 (by decide) hf (fun _ hf => ?_) (fun _ hf => ?_)
    · refine z_iconst (v := 0) ok dX12_named_129 (by decide) ?_
      refine z_nm hf (fun v130 hf => ?_)
      refine z_istore (lv' := [(5, .int v130), (0, .ref (X.ad 171)), (1, .int x1), (2, .int x2), (3, .int x3), (4, .int x4), (6, .int x6)]) ok dX12_named_130 (by decide) rfl ?_
      refine z_iinc (w := 1) (lv' := fun v132 => [(6, .int v132), (5, .int v130), (0, .ref (X.ad 171)), (1, .int x1), (2, .int x2), (3, .int x3), (4, .int x4)]) ok dX12_named_132 6 rfl (by decide) (by decide) (fun _ => rfl) hf (fun v132 hf => ?_)
      refine z_goto (tgt := 57) ok dX12_named_135 (by decide) ?_
      obtain rfl := Option.some.inj hf
      exact z_sub [2, 3, 4, 5, 6, 1, 0] rfl hk
    · refine z_iload_n ok dX12_named_69 1 rfl ?_
      refine z_if_ne (tgt := 89) ok dX12_named_70 (by decide) hf (fun _ hf => ?_) (fun _ hf => ?_)
      · refine z_aload_n ok dX12_named_73 0 rfl ?_
        refine z_getr (q := 175) ok kc_171 zc_12 hin_12 6 (by decide) fl_12_29 rfl dX12_named_74 ?_
        refine z_bipush (v := 6) ok dX12_named_77 (by decide) ?_
        refine z_iload ok dX12_named_79 4 rfl ?_
        refine z_imul ok dX12_named_81 ?_
        refine z_iload ok dX12_named_82 6 rfl ?_
        refine z_iadd ok dX12_named_84 ?_
        refine z_iald ok kc_175 dX12_named_85 hf (fun v85 hf => ?_)
        refine z_goto (tgt := 102) ok dX12_named_86 (by decide) ?_
        exact z_sub [0, 1, 2, 3, 4, 6] rfl (t_M_named_j57_102 ok hf hk)
      · refine z_aload_n ok dX12_named_89 0 rfl ?_
        refine z_getr (q := 176) ok kc_171 zc_12 hin_12 7 (by decide) fl_12_32 rfl dX12_named_90 ?_
        refine z_bipush (v := 6) ok dX12_named_93 (by decide) ?_
        refine z_iload ok dX12_named_95 4 rfl ?_
        refine z_imul ok dX12_named_97 ?_
        refine z_iload ok dX12_named_98 6 rfl ?_
        refine z_iadd ok dX12_named_100 ?_
        refine z_iald ok kc_176 dX12_named_101 hf (fun v101 hf => ?_)
        exact z_sub [0, 1, 2, 3, 4, 6] rfl (t_M_named_j57_102 ok hf hk)
def M_named_l141 (σ : Sg) (x1 : Int32) (x2 : Int32) (x3 : Int32) (x4 : Int32) (x5 : Int32) (x6 : Int32) : Option ((Int32 × Int32) ⊕ (Int32 × Int32)) :=
  if x2 ≤ x6 then (
    some (.inr (x5, x6))
  ) else (
    if x5 = 0 then (
      zlt 0 fun v174 =>
      zlt (x6 + 1) fun v176 =>
      some (.inl (v174, v176))
    ) else (
      zrd σ 186 1600 x6 fun v158 =>
      (M_isIn v158 97 122).bind fun r163 =>
      if (zb r163) = 0 then (
        zlt 0 fun v174 =>
        zlt (x6 + 1) fun v176 =>
        some (.inl (v174, v176))
      ) else (
        zlt 1 fun v174 =>
        zlt (x6 + 1) fun v176 =>
        some (.inl (v174, v176))
      )
    )
  )
set_option maxRecDepth 20000 in
theorem t_M_named_l141 {X : Zx} {Q : State → Prop} {σ : Sg} {x1 : Int32} {x2 : Int32} {x3 : Int32} {x4 : Int32} {x5 : Int32} {x6 : Int32} (ok : Zok X cX12_named RX12 rm_M_named 198 7)  {out : ((Int32 × Int32) ⊕ (Int32 × Int32))} (hf : M_named_l141 σ x1 x2 x3 x4 x5 x6 = some out) (hk : zout (fun (s : (Int32 × Int32)) => ZAt X Q 0 0 141 σ [(0, .ref (X.ad 171)), (1, .int x1), (2, .int x2), (3, .int x3), (4, .int x4), (5, .int s.1), (6, .int s.2)] []) (fun (s : (Int32 × Int32)) => ZAt X Q 0 0 182 σ [(0, .ref (X.ad 171)), (1, .int x1), (2, .int x2), (3, .int x3), (4, .int x4), (5, .int s.1)] []) out) : ZAt X Q 0 0 141 σ [(0, .ref (X.ad 171)), (1, .int x1), (2, .int x2), (3, .int x3), (4, .int x4), (5, .int x5), (6, .int x6)] [] := by
  unfold M_named_l141 at hf
  refine z_iload ok dX12_named_141 6 rfl ?_
  refine z_iload_n ok dX12_named_143 2 rfl ?_
  refine z_icmp_ge (tgt := 182) ok dX12_named_144 (by decide) hf (fun _ hf => ?_) (fun _ hf => ?_)
  · obtain rfl := Option.some.inj hf
    exact z_sub [0, 1, 2, 3, 4, 5] rfl hk
  · refine z_iload ok dX12_named_147 5 rfl ?_
    refine z_if_eq (tgt := 173) ok dX12_named_149 (by decide) hf (fun _ hf => ?_) (fun _ hf => ?_)
    · refine z_iconst (v := 0) ok dX12_named_173 (by decide) ?_
      refine z_nm hf (fun v174 hf => ?_)
      refine z_istore (lv' := [(5, .int v174), (0, .ref (X.ad 171)), (1, .int x1), (2, .int x2), (3, .int x3), (4, .int x4), (6, .int x6)]) ok dX12_named_174 (by decide) rfl ?_
      refine z_iinc (w := 1) (lv' := fun v176 => [(6, .int v176), (5, .int v174), (0, .ref (X.ad 171)), (1, .int x1), (2, .int x2), (3, .int x3), (4, .int x4)]) ok dX12_named_176 6 rfl (by decide) (by decide) (fun _ => rfl) hf (fun v176 hf => ?_)
      refine z_goto (tgt := 141) ok dX12_named_179 (by decide) ?_
      obtain rfl := Option.some.inj hf
      exact z_sub [2, 3, 4, 5, 6, 1, 0] rfl hk
    · refine z_aload_n ok dX12_named_152 0 rfl ?_
      refine z_getr (q := 186) ok kc_171 zc_12 hin_12 27 (by decide) fl_12_93 rfl dX12_named_153 ?_
      refine z_iload ok dX12_named_156 6 rfl ?_
      refine z_iald ok kc_186 dX12_named_158 hf (fun v158 hf => ?_)
      refine z_bipush (v := 97) ok dX12_named_159 (by decide) ?_
      refine z_bipush (v := 122) ok dX12_named_161 (by decide) ?_
      refine z_call hf (fun r163 h163 hf => ?_)
      refine z_cS (As := [.int v158, .int 97, .int 122]) (rest := []) ok (c_M_isIn h163) rfl ⟨ml_12_198, w_M_isIn⟩ hy_M_isIn ⟨rfl, rfl⟩ ⟨Nat.le_of_ble_eq_true rfl, Nat.le_of_ble_eq_true rfl⟩ ⟨Nat.zero_le _, Nat.zero_le _⟩ rfl (Nat.le_of_ble_eq_true rfl) dX12_named_163 ?_
      refine z_if_eq (tgt := 173) ok dX12_named_166 (by decide) hf (fun _ hf => ?_) (fun _ hf => ?_)
      · refine z_iconst (v := 0) ok dX12_named_173 (by decide) ?_
        refine z_nm hf (fun v174 hf => ?_)
        refine z_istore (lv' := [(5, .int v174), (0, .ref (X.ad 171)), (1, .int x1), (2, .int x2), (3, .int x3), (4, .int x4), (6, .int x6)]) ok dX12_named_174 (by decide) rfl ?_
        refine z_iinc (w := 1) (lv' := fun v176 => [(6, .int v176), (5, .int v174), (0, .ref (X.ad 171)), (1, .int x1), (2, .int x2), (3, .int x3), (4, .int x4)]) ok dX12_named_176 6 rfl (by decide) (by decide) (fun _ => rfl) hf (fun v176 hf => ?_)
        refine z_goto (tgt := 141) ok dX12_named_179 (by decide) ?_
        obtain rfl := Option.some.inj hf
        exact z_sub [2, 3, 4, 5, 6, 1, 0] rfl hk
      · refine z_iconst (v := 1) ok dX12_named_169 (by decide) ?_
        refine z_goto (tgt := 174) ok dX12_named_170 (by decide) ?_
        refine z_nm hf (fun v174 hf => ?_)
        refine z_istore (lv' := [(5, .int v174), (0, .ref (X.ad 171)), (1, .int x1), (2, .int x2), (3, .int x3), (4, .int x4), (6, .int x6)]) ok dX12_named_174 (by decide) rfl ?_
        refine z_iinc (w := 1) (lv' := fun v176 => [(6, .int v176), (5, .int v174), (0, .ref (X.ad 171)), (1, .int x1), (2, .int x2), (3, .int x3), (4, .int x4)]) ok dX12_named_176 6 rfl (by decide) (by decide) (fun _ => rfl) hf (fun v176 hf => ?_)
        refine z_goto (tgt := 141) ok dX12_named_179 (by decide) ?_
        obtain rfl := Option.some.inj hf
        exact z_sub [2, 3, 4, 5, 6, 1, 0] rfl hk
def M_named_j45_182 (σ : Sg) (x1 : Int32) (x2 : Int32) (x3 : Int32) (x4 : Int32) (x5 : Int32) : Option (Int32 ⊕ ((Int32 × Sg) ⊕ Int32)) :=
  if x5 = 0 then (
    zlt (x4 + 1) fun v190 =>
    some (.inl v190)
  ) else (
    some (.inr (.inl (x4, σ)))
  )
set_option maxRecDepth 20000 in
theorem t_M_named_j45_182 {X : Zx} {Q : State → Prop} {σ : Sg} {x1 : Int32} {x2 : Int32} {x3 : Int32} {x4 : Int32} {x5 : Int32} (ok : Zok X cX12_named RX12 rm_M_named 198 7)  {out : (Int32 ⊕ ((Int32 × Sg) ⊕ Int32))} (hf : M_named_j45_182 σ x1 x2 x3 x4 x5 = some out) (hk : zout (fun (s : Int32) => ZAt X Q 0 0 45 σ [(0, .ref (X.ad 171)), (1, .int x1), (2, .int x2), (3, .int x3), (4, .int s)] []) (zout (fun (r : (Int32 × Sg)) => ZrI cX12_named X Q r.1 r.2) (fun (s : Int32) => ZAt X Q 0 0 196 σ [] [])) out) : ZAt X Q 0 0 182 σ [(0, .ref (X.ad 171)), (1, .int x1), (2, .int x2), (3, .int x3), (4, .int x4), (5, .int x5)] [] := by
  unfold M_named_j45_182 at hf
  refine z_iload ok dX12_named_182 5 rfl ?_
  refine z_if_eq (tgt := 190) ok dX12_named_184 (by decide) hf (fun _ hf => ?_) (fun _ hf => ?_)
  · refine z_iinc (w := 1) (lv' := fun v190 => [(4, .int v190), (0, .ref (X.ad 171)), (1, .int x1), (2, .int x2), (3, .int x3), (5, .int x5)]) ok dX12_named_190 4 rfl (by decide) (by decide) (fun _ => rfl) hf (fun v190 hf => ?_)
    refine z_goto (tgt := 45) ok dX12_named_193 (by decide) ?_
    obtain rfl := Option.some.inj hf
    exact z_sub [1, 2, 3, 4, 0] rfl hk
  · refine z_iload ok dX12_named_187 4 rfl ?_
    obtain rfl := Option.some.inj hf
    exact hk _ _ dX12_named_189
def M_named_j45_138 (σ : Sg) (x1 : Int32) (x2 : Int32) (x3 : Int32) (x4 : Int32) (x5 : Int32) : Option (Int32 ⊕ ((Int32 × Sg) ⊕ Int32)) :=
  zlt 0 fun v139 =>
  (zit (fun (s : (Int32 × Int32)) => M_named_l141 σ x1 x2 x3 x4 s.1 s.2) zFU (x5, v139)).bind fun r =>
  M_named_j45_182 σ x1 x2 x3 x4 r.1
set_option maxRecDepth 20000 in
theorem t_M_named_j45_138 {X : Zx} {Q : State → Prop} {σ : Sg} {x1 : Int32} {x2 : Int32} {x3 : Int32} {x4 : Int32} {x5 : Int32} (ok : Zok X cX12_named RX12 rm_M_named 198 7)  {out : (Int32 ⊕ ((Int32 × Sg) ⊕ Int32))} (hf : M_named_j45_138 σ x1 x2 x3 x4 x5 = some out) (hk : zout (fun (s : Int32) => ZAt X Q 0 0 45 σ [(0, .ref (X.ad 171)), (1, .int x1), (2, .int x2), (3, .int x3), (4, .int s)] []) (zout (fun (r : (Int32 × Sg)) => ZrI cX12_named X Q r.1 r.2) (fun (s : Int32) => ZAt X Q 0 0 196 σ [] [])) out) : ZAt X Q 0 0 138 σ [(0, .ref (X.ad 171)), (1, .int x1), (2, .int x2), (3, .int x3), (4, .int x4), (5, .int x5)] [] := by
  unfold M_named_j45_138 at hf
  refine z_iconst (v := 0) ok dX12_named_138 (by decide) ?_
  refine z_nm hf (fun v139 hf => ?_)
  refine z_istore (lv' := [(6, .int v139), (0, .ref (X.ad 171)), (1, .int x1), (2, .int x2), (3, .int x3), (4, .int x4), (5, .int x5)]) ok dX12_named_139 (by decide) rfl ?_
  refine z_call hf (fun r hr hf => ?_)
  refine z_sub [1, 2, 3, 4, 5, 6, 0] rfl (z_iter (fun (s : (Int32 × Int32)) => σ) (fun (s : (Int32 × Int32)) => [(0, .ref (X.ad 171)), (1, .int x1), (2, .int x2), (3, .int x3), (4, .int x4), (5, .int s.1), (6, .int s.2)]) (fun s o h1 h2 => t_M_named_l141 ok h1 h2) _ _ _ hr ?_)
  show ZAt X Q 0 0 182 σ [(0, .ref (X.ad 171)), (1, .int x1), (2, .int x2), (3, .int x3), (4, .int x4), (5, .int r.1)] []
  exact z_sub [0, 1, 2, 3, 4, 5] rfl (t_M_named_j45_182 ok hf hk)
def M_named_l45 (σ : Sg) (x1 : Int32) (x2 : Int32) (x3 : Int32) (x4 : Int32) : Option (Int32 ⊕ ((Int32 × Sg) ⊕ Int32)) :=
  if x3 ≤ x4 then (
    some (.inr (.inr x4))
  ) else (
    zlt 1 fun v52 =>
    zlt 0 fun v55 =>
    (zit (fun (s : (Int32 × Int32)) => M_named_l57 σ x1 x2 x3 x4 s.1 s.2) zFU (v52, v55)).bind fun r =>
    M_named_j45_138 σ x1 x2 x3 x4 r.1
  )
set_option maxRecDepth 20000 in
theorem t_M_named_l45 {X : Zx} {Q : State → Prop} {σ : Sg} {x1 : Int32} {x2 : Int32} {x3 : Int32} {x4 : Int32} (ok : Zok X cX12_named RX12 rm_M_named 198 7)  {out : (Int32 ⊕ ((Int32 × Sg) ⊕ Int32))} (hf : M_named_l45 σ x1 x2 x3 x4 = some out) (hk : zout (fun (s : Int32) => ZAt X Q 0 0 45 σ [(0, .ref (X.ad 171)), (1, .int x1), (2, .int x2), (3, .int x3), (4, .int s)] []) (zout (fun (r : (Int32 × Sg)) => ZrI cX12_named X Q r.1 r.2) (fun (s : Int32) => ZAt X Q 0 0 196 σ [] [])) out) : ZAt X Q 0 0 45 σ [(0, .ref (X.ad 171)), (1, .int x1), (2, .int x2), (3, .int x3), (4, .int x4)] [] := by
  unfold M_named_l45 at hf
  refine z_iload ok dX12_named_45 4 rfl ?_
  refine z_iload_n ok dX12_named_47 3 rfl ?_
  refine z_icmp_ge (tgt := 196) ok dX12_named_48 (by decide) hf (fun _ hf => ?_) (fun _ hf => ?_)
  · obtain rfl := Option.some.inj hf
    exact z_sub [] rfl hk
  · refine z_iconst (v := 1) ok dX12_named_51 (by decide) ?_
    refine z_nm hf (fun v52 hf => ?_)
    refine z_istore (lv' := [(5, .int v52), (0, .ref (X.ad 171)), (1, .int x1), (2, .int x2), (3, .int x3), (4, .int x4)]) ok dX12_named_52 (by decide) rfl ?_
    refine z_iconst (v := 0) ok dX12_named_54 (by decide) ?_
    refine z_nm hf (fun v55 hf => ?_)
    refine z_istore (lv' := [(6, .int v55), (5, .int v52), (0, .ref (X.ad 171)), (1, .int x1), (2, .int x2), (3, .int x3), (4, .int x4)]) ok dX12_named_55 (by decide) rfl ?_
    refine z_call hf (fun r hr hf => ?_)
    refine z_sub [2, 3, 4, 5, 6, 1, 0] rfl (z_iter (fun (s : (Int32 × Int32)) => σ) (fun (s : (Int32 × Int32)) => [(0, .ref (X.ad 171)), (1, .int x1), (2, .int x2), (3, .int x3), (4, .int x4), (5, .int s.1), (6, .int s.2)]) (fun s o h1 h2 => t_M_named_l57 ok h1 h2) _ _ _ hr ?_)
    show ZAt X Q 0 0 138 σ [(0, .ref (X.ad 171)), (1, .int x1), (2, .int x2), (3, .int x3), (4, .int x4), (5, .int r.1)] []
    exact z_sub [0, 1, 2, 3, 4, 5] rfl (t_M_named_j45_138 ok hf hk)
def M_named_j41 (σ : Sg) (x1 : Int32) (x2 : Int32) (s0 : Int32) : Option (Int32 × Sg) :=
  zlt 0 fun v43 =>
  (zit (fun (s : Int32) => M_named_l45 σ x1 x2 s0 s) zFU v43).bind fun r => r.elim (fun r =>
  some r
  ) (fun r =>
  some ((-1), σ)
  )
set_option maxRecDepth 20000 in
theorem t_M_named_j41 {X : Zx} {Q : State → Prop} {σ : Sg} {x1 : Int32} {x2 : Int32} {s0 : Int32} (ok : Zok X cX12_named RX12 rm_M_named 198 7)  {out : (Int32 × Sg)} (hf : M_named_j41 σ x1 x2 s0 = some out) (hk : ZrI cX12_named X Q out.1 out.2) : ZAt X Q 0 0 41 σ [(0, .ref (X.ad 171)), (1, .int x1), (2, .int x2)] [.int s0] := by
  unfold M_named_j41 at hf
  refine z_istore_n (lv' := [(3, .int s0), (0, .ref (X.ad 171)), (1, .int x1), (2, .int x2)]) ok dX12_named_41 (by decide) rfl ?_
  refine z_iconst (v := 0) ok dX12_named_42 (by decide) ?_
  refine z_nm hf (fun v43 hf => ?_)
  refine z_istore (lv' := [(4, .int v43), (3, .int s0), (0, .ref (X.ad 171)), (1, .int x1), (2, .int x2)]) ok dX12_named_43 (by decide) rfl ?_
  refine z_call hf (fun r hr hf => ?_)
  refine z_sub [2, 3, 4, 1, 0] rfl (z_iter (fun (s : Int32) => σ) (fun (s : Int32) => [(0, .ref (X.ad 171)), (1, .int x1), (2, .int x2), (3, .int s0), (4, .int s)]) (fun s o h1 h2 => t_M_named_l45 ok h1 h2) _ _ _ hr ?_)
  cases r with
  | inl r =>
    obtain rfl := Option.some.inj hf
    exact hk
  | inr r =>
    simp only [Sum.elim_inr] at hf
    show ZAt X Q 0 0 196 σ [] []
    refine z_iconst (v := (-1)) ok dX12_named_196 (by decide) ?_
    obtain rfl := Option.some.inj hf
    exact hk _ _ dX12_named_197
def M_named (σ : Sg) (x1 : Int32) : Option (Int32 × Sg) :=
  (M_taken σ).bind fun r1 =>
  zlt r1.1 fun v4 =>
  (M_isIn v4 1 6).bind fun r9 =>
  if (zb r9) = 0 then (
    some ((-1), r1.2)
  ) else (
    (M_isIn x1 0 1).bind fun r18 =>
    if (zb r18) = 0 then (
      some ((-1), r1.2)
    ) else (
      if x1 = 0 then (
        zgt r1.2 171 0 fun v31 =>
        M_named_j41 r1.2 x1 v4 v31
      ) else (
        zgt r1.2 171 1 fun v38 =>
        M_named_j41 r1.2 x1 v4 v38
      )
    )
  )
set_option maxRecDepth 20000 in
theorem t_M_named {X : Zx} {Q : State → Prop} {σ : Sg} {x1 : Int32} (ok : Zok X cX12_named RX12 rm_M_named 198 7)  {out : (Int32 × Sg)} (hf : M_named σ x1 = some out) (hk : ZrI cX12_named X Q out.1 out.2) : ZAt X Q 0 0 0 σ [(0, .ref (X.ad 171)), (1, .int x1)] [] := by
  unfold M_named at hf
  refine z_aload_n ok dX12_named_0 0 rfl ?_
  refine z_call hf (fun r1 h1 hf => ?_)
  refine z_cV (As := []) (rest := []) (w := 171) ok kc_171 zc_12 (c_M_taken h1) rfl ⟨ml_12_245, w_M_taken⟩ hy_M_taken ⟨rfl, rfl⟩ ⟨Nat.le_of_ble_eq_true rfl, Nat.le_of_ble_eq_true rfl⟩ ⟨Nat.zero_le _, Nat.zero_le _⟩ rfl (Nat.le_of_ble_eq_true rfl) dX12_named_1 ?_
  refine z_nm hf (fun v4 hf => ?_)
  refine z_istore_n (lv' := [(2, .int v4), (0, .ref (X.ad 171)), (1, .int x1)]) ok dX12_named_4 (by decide) rfl ?_
  refine z_iload_n ok dX12_named_5 0 rfl ?_
  refine z_iconst (v := 1) ok dX12_named_6 (by decide) ?_
  refine z_bipush (v := 6) ok dX12_named_7 (by decide) ?_
  refine z_call hf (fun r9 h9 hf => ?_)
  refine z_cS (As := [.int v4, .int 1, .int 6]) (rest := []) ok (c_M_isIn h9) rfl ⟨ml_12_198, w_M_isIn⟩ hy_M_isIn ⟨rfl, rfl⟩ ⟨Nat.le_of_ble_eq_true rfl, Nat.le_of_ble_eq_true rfl⟩ ⟨Nat.zero_le _, Nat.zero_le _⟩ rfl (Nat.le_of_ble_eq_true rfl) dX12_named_9 ?_
  refine z_if_eq (tgt := 24) ok dX12_named_12 (by decide) hf (fun _ hf => ?_) (fun _ hf => ?_)
  · refine z_iconst (v := (-1)) ok dX12_named_24 (by decide) ?_
    obtain rfl := Option.some.inj hf
    exact hk _ _ dX12_named_25
  · refine z_iload_n ok dX12_named_15 2 rfl ?_
    refine z_iconst (v := 0) ok dX12_named_16 (by decide) ?_
    refine z_iconst (v := 1) ok dX12_named_17 (by decide) ?_
    refine z_call hf (fun r18 h18 hf => ?_)
    refine z_cS (As := [.int x1, .int 0, .int 1]) (rest := []) ok (c_M_isIn h18) rfl ⟨ml_12_198, w_M_isIn⟩ hy_M_isIn ⟨rfl, rfl⟩ ⟨Nat.le_of_ble_eq_true rfl, Nat.le_of_ble_eq_true rfl⟩ ⟨Nat.zero_le _, Nat.zero_le _⟩ rfl (Nat.le_of_ble_eq_true rfl) dX12_named_18 ?_
    refine z_if_ne (tgt := 26) ok dX12_named_21 (by decide) hf (fun _ hf => ?_) (fun _ hf => ?_)
    · refine z_iconst (v := (-1)) ok dX12_named_24 (by decide) ?_
      obtain rfl := Option.some.inj hf
      exact hk _ _ dX12_named_25
    · refine z_iload_n ok dX12_named_26 2 rfl ?_
      refine z_if_ne (tgt := 37) ok dX12_named_27 (by decide) hf (fun _ hf => ?_) (fun _ hf => ?_)
      · refine z_aload_n ok dX12_named_30 1 rfl ?_
        refine z_geti ok kc_171 zc_12 hin_12 0 (by decide) fl_12_7 rfl dX12_named_31 hf (fun v31 hf => ?_)
        refine z_goto (tgt := 41) ok dX12_named_34 (by decide) ?_
        exact z_sub [1, 2, 0] rfl (t_M_named_j41 ok hf hk)
      · refine z_aload_n ok dX12_named_37 1 rfl ?_
        refine z_geti ok kc_171 zc_12 hin_12 1 (by decide) fl_12_13 rfl dX12_named_38 hf (fun v38 hf => ?_)
        exact z_sub [1, 2, 0] rfl (t_M_named_j41 ok hf hk)
theorem c_M_named {σ : Sg} {x1 : Int32} {r : (Int32 × Sg)} (h : M_named σ x1 = some r) : ZcI yX12_named cX12_named 7 .int rm_M_named 198 (fun ad => [.ref (ad 171), .int x1]) σ r.1 r.2 :=
  zmetI pn_12 rfl (fun _ => rfl) (fun _ => Nat.le_of_ble_eq_true rfl) rfl (fun X Q ok hk => t_M_named ok h hk)
theorem dX12_onWay_0 : decode cX12_onWay 0 = .ok (.iconst 0, 1) := by decide +kernel
theorem dX12_onWay_1 : decode cX12_onWay 1 = .ok (.istore_n 2, 1) := by decide +kernel
theorem dX12_onWay_2 : decode cX12_onWay 2 = .ok (.iconst 0, 1) := by decide +kernel
theorem dX12_onWay_3 : decode cX12_onWay 3 = .ok (.istore_n 3, 1) := by decide +kernel
theorem dX12_onWay_4 : decode cX12_onWay 4 = .ok (.iload_n 3, 1) := by decide +kernel
theorem dX12_onWay_5 : decode cX12_onWay 5 = .ok (.bipush 10, 2) := by decide +kernel
theorem dX12_onWay_7 : decode cX12_onWay 7 = .ok (.if_icmp .ge 26, 3) := by decide +kernel
theorem dX12_onWay_10 : decode cX12_onWay 10 = .ok (.iload_n 2, 1) := by decide +kernel
theorem dX12_onWay_11 : decode cX12_onWay 11 = .ok (.aload_n 0, 1) := by decide +kernel
theorem dX12_onWay_12 : decode cX12_onWay 12 = .ok (.getfield 71, 3) := by decide +kernel
theorem dX12_onWay_15 : decode cX12_onWay 15 = .ok (.bipush 40, 2) := by decide +kernel
theorem dX12_onWay_17 : decode cX12_onWay 17 = .ok (.bipush 10, 2) := by decide +kernel
theorem dX12_onWay_19 : decode cX12_onWay 19 = .ok (.iload_n 1, 1) := by decide +kernel
theorem dX12_onWay_20 : decode cX12_onWay 20 = .ok (.imul, 1) := by decide +kernel
theorem dX12_onWay_21 : decode cX12_onWay 21 = .ok (.iadd, 1) := by decide +kernel
theorem dX12_onWay_22 : decode cX12_onWay 22 = .ok (.iload_n 3, 1) := by decide +kernel
theorem dX12_onWay_23 : decode cX12_onWay 23 = .ok (.iadd, 1) := by decide +kernel
theorem dX12_onWay_24 : decode cX12_onWay 24 = .ok (.iaload, 1) := by decide +kernel
theorem dX12_onWay_25 : decode cX12_onWay 25 = .ok (.iadd, 1) := by decide +kernel
theorem dX12_onWay_26 : decode cX12_onWay 26 = .ok (.istore_n 2, 1) := by decide +kernel
theorem dX12_onWay_27 : decode cX12_onWay 27 = .ok (.iinc 3 1, 3) := by decide +kernel
theorem dX12_onWay_30 : decode cX12_onWay 30 = .ok (.goto (-26), 3) := by decide +kernel
theorem dX12_onWay_33 : decode cX12_onWay 33 = .ok (.iload_n 2, 1) := by decide +kernel
theorem dX12_onWay_34 : decode cX12_onWay 34 = .ok (.ireturn, 1) := by decide +kernel
abbrev rm_M_onWay : Room := { frames := 0, cells := 0, slots := 0, locals := 0 }
def M_onWay_l4 (σ : Sg) (x1 : Int32) (x2 : Int32) (x3 : Int32) : Option ((Int32 × Int32) ⊕ (Int32 × Int32)) :=
  if 10 ≤ x3 then (
    some (.inr (x2, x3))
  ) else (
    zrd σ 183 1607 ((40 + (10 * x1)) + x3) fun v24 =>
    zlt (x2 + v24) fun v26 =>
    zlt (x3 + 1) fun v27 =>
    some (.inl (v26, v27))
  )
set_option maxRecDepth 20000 in
theorem t_M_onWay_l4 {X : Zx} {Q : State → Prop} {σ : Sg} {x1 : Int32} {x2 : Int32} {x3 : Int32} (ok : Zok X cX12_onWay RX12 rm_M_onWay 198 4)  {out : ((Int32 × Int32) ⊕ (Int32 × Int32))} (hf : M_onWay_l4 σ x1 x2 x3 = some out) (hk : zout (fun (s : (Int32 × Int32)) => ZAt X Q 0 0 4 σ [(0, .ref (X.ad 171)), (1, .int x1), (2, .int s.1), (3, .int s.2)] []) (fun (s : (Int32 × Int32)) => ZAt X Q 0 0 33 σ [(2, .int s.1)] []) out) : ZAt X Q 0 0 4 σ [(0, .ref (X.ad 171)), (1, .int x1), (2, .int x2), (3, .int x3)] [] := by
  unfold M_onWay_l4 at hf
  refine z_iload_n ok dX12_onWay_4 3 rfl ?_
  refine z_bipush (v := 10) ok dX12_onWay_5 (by decide) ?_
  refine z_icmp_ge (tgt := 33) ok dX12_onWay_7 (by decide) hf (fun _ hf => ?_) (fun _ hf => ?_)
  · obtain rfl := Option.some.inj hf
    exact z_sub [2] rfl hk
  · refine z_iload_n ok dX12_onWay_10 2 rfl ?_
    refine z_aload_n ok dX12_onWay_11 0 rfl ?_
    refine z_getr (q := 183) ok kc_171 zc_12 hin_12 20 (by decide) fl_12_71 rfl dX12_onWay_12 ?_
    refine z_bipush (v := 40) ok dX12_onWay_15 (by decide) ?_
    refine z_bipush (v := 10) ok dX12_onWay_17 (by decide) ?_
    refine z_iload_n ok dX12_onWay_19 1 rfl ?_
    refine z_imul ok dX12_onWay_20 ?_
    refine z_iadd ok dX12_onWay_21 ?_
    refine z_iload_n ok dX12_onWay_22 3 rfl ?_
    refine z_iadd ok dX12_onWay_23 ?_
    refine z_iald ok kc_183 dX12_onWay_24 hf (fun v24 hf => ?_)
    refine z_iadd ok dX12_onWay_25 ?_
    refine z_nm hf (fun v26 hf => ?_)
    refine z_istore_n (lv' := [(2, .int v26), (0, .ref (X.ad 171)), (1, .int x1), (3, .int x3)]) ok dX12_onWay_26 (by decide) rfl ?_
    refine z_iinc (w := 1) (lv' := fun v27 => [(3, .int v27), (2, .int v26), (0, .ref (X.ad 171)), (1, .int x1)]) ok dX12_onWay_27 3 rfl (by decide) (by decide) (fun _ => rfl) hf (fun v27 hf => ?_)
    refine z_goto (tgt := 4) ok dX12_onWay_30 (by decide) ?_
    obtain rfl := Option.some.inj hf
    exact z_sub [2, 3, 1, 0] rfl hk
def M_onWay (σ : Sg) (x1 : Int32) : Option Int32 :=
  zlt 0 fun v1 =>
  zlt 0 fun v3 =>
  (zit (fun (s : (Int32 × Int32)) => M_onWay_l4 σ x1 s.1 s.2) zFU (v1, v3)).bind fun r =>
  some r.1
set_option maxRecDepth 20000 in
theorem t_M_onWay {X : Zx} {Q : State → Prop} {σ : Sg} {x1 : Int32} (ok : Zok X cX12_onWay RX12 rm_M_onWay 198 4)  {out : Int32} (hf : M_onWay σ x1 = some out) (hk : ZrI cX12_onWay X Q out σ) : ZAt X Q 0 0 0 σ [(0, .ref (X.ad 171)), (1, .int x1)] [] := by
  unfold M_onWay at hf
  refine z_iconst (v := 0) ok dX12_onWay_0 (by decide) ?_
  refine z_nm hf (fun v1 hf => ?_)
  refine z_istore_n (lv' := [(2, .int v1), (0, .ref (X.ad 171)), (1, .int x1)]) ok dX12_onWay_1 (by decide) rfl ?_
  refine z_iconst (v := 0) ok dX12_onWay_2 (by decide) ?_
  refine z_nm hf (fun v3 hf => ?_)
  refine z_istore_n (lv' := [(3, .int v3), (2, .int v1), (0, .ref (X.ad 171)), (1, .int x1)]) ok dX12_onWay_3 (by decide) rfl ?_
  refine z_call hf (fun r hr hf => ?_)
  refine z_sub [2, 3, 1, 0] rfl (z_iter (fun (s : (Int32 × Int32)) => σ) (fun (s : (Int32 × Int32)) => [(0, .ref (X.ad 171)), (1, .int x1), (2, .int s.1), (3, .int s.2)]) (fun s o h1 h2 => t_M_onWay_l4 ok h1 h2) _ _ _ hr ?_)
  show ZAt X Q 0 0 33 σ [(2, .int r.1)] []
  refine z_iload_n ok dX12_onWay_33 0 rfl ?_
  obtain rfl := Option.some.inj hf
  exact hk _ _ dX12_onWay_34
theorem c_M_onWay {σ : Sg} {x1 : Int32} {r : Int32} (h : M_onWay σ x1 = some r) : ZcI yX12_onWay cX12_onWay 4 .int rm_M_onWay 198 (fun ad => [.ref (ad 171), .int x1]) σ r σ :=
  zmetI pn_12 rfl (fun _ => rfl) (fun _ => Nat.le_of_ble_eq_true rfl) rfl (fun X Q ok hk => t_M_onWay ok h hk)
theorem dX12_middleOf_0 : decode cX12_middleOf 0 = .ok (.aload_n 0, 1) := by decide +kernel
theorem dX12_middleOf_1 : decode cX12_middleOf 1 = .ok (.iload_n 1, 1) := by decide +kernel
theorem dX12_middleOf_2 : decode cX12_middleOf 2 = .ok (.iconst 0, 1) := by decide +kernel
theorem dX12_middleOf_3 : decode cX12_middleOf 3 = .ok (.invokevirtual 251, 3) := by decide +kernel
theorem dX12_middleOf_6 : decode cX12_middleOf 6 = .ok (.aload_n 0, 1) := by decide +kernel
theorem dX12_middleOf_7 : decode cX12_middleOf 7 = .ok (.iload_n 1, 1) := by decide +kernel
theorem dX12_middleOf_8 : decode cX12_middleOf 8 = .ok (.iconst 1, 1) := by decide +kernel
theorem dX12_middleOf_9 : decode cX12_middleOf 9 = .ok (.invokevirtual 251, 3) := by decide +kernel
theorem dX12_middleOf_12 : decode cX12_middleOf 12 = .ok (.iadd, 1) := by decide +kernel
theorem dX12_middleOf_13 : decode cX12_middleOf 13 = .ok (.iconst 2, 1) := by decide +kernel
theorem dX12_middleOf_14 : decode cX12_middleOf 14 = .ok (.idiv, 1) := by decide +kernel
theorem dX12_middleOf_15 : decode cX12_middleOf 15 = .ok (.ireturn, 1) := by decide +kernel
abbrev rm_M_middleOf : Room := { frames := 1, cells := 0, slots := 0, locals := 22 }
def M_middleOf (σ : Sg) (x1 : Int32) : Option Int32 :=
  (M_toldOf σ x1 0).bind fun r3 =>
  (M_toldOf σ x1 1).bind fun r9 =>
  some ((r3 + r9) / 2)
set_option maxRecDepth 20000 in
theorem t_M_middleOf {X : Zx} {Q : State → Prop} {σ : Sg} {x1 : Int32} (ok : Zok X cX12_middleOf RX12 rm_M_middleOf 198 2)  {out : Int32} (hf : M_middleOf σ x1 = some out) (hk : ZrI cX12_middleOf X Q out σ) : ZAt X Q 0 0 0 σ [(0, .ref (X.ad 171)), (1, .int x1)] [] := by
  unfold M_middleOf at hf
  refine z_aload_n ok dX12_middleOf_0 0 rfl ?_
  refine z_iload_n ok dX12_middleOf_1 1 rfl ?_
  refine z_iconst (v := 0) ok dX12_middleOf_2 (by decide) ?_
  refine z_call hf (fun r3 h3 hf => ?_)
  refine z_cV (As := [.int x1, .int 0]) (rest := []) (w := 171) ok kc_171 zc_12 (c_M_toldOf h3) rfl ⟨ml_12_251, w_M_toldOf⟩ hy_M_toldOf ⟨rfl, rfl⟩ ⟨Nat.le_of_ble_eq_true rfl, Nat.le_of_ble_eq_true rfl⟩ ⟨Nat.zero_le _, Nat.zero_le _⟩ rfl (Nat.le_of_ble_eq_true rfl) dX12_middleOf_3 ?_
  refine z_aload_n ok dX12_middleOf_6 0 rfl ?_
  refine z_iload_n ok dX12_middleOf_7 1 rfl ?_
  refine z_iconst (v := 1) ok dX12_middleOf_8 (by decide) ?_
  refine z_call hf (fun r9 h9 hf => ?_)
  refine z_cV (As := [.int x1, .int 1]) (rest := [.int r3]) (w := 171) ok kc_171 zc_12 (c_M_toldOf h9) rfl ⟨ml_12_251, w_M_toldOf⟩ hy_M_toldOf ⟨rfl, rfl⟩ ⟨Nat.le_of_ble_eq_true rfl, Nat.le_of_ble_eq_true rfl⟩ ⟨Nat.zero_le _, Nat.zero_le _⟩ rfl (Nat.le_of_ble_eq_true rfl) dX12_middleOf_9 ?_
  refine z_iadd ok dX12_middleOf_12 ?_
  refine z_iconst (v := 2) ok dX12_middleOf_13 (by decide) ?_
  refine z_idivc ok dX12_middleOf_14 (by decide) ?_
  obtain rfl := Option.some.inj hf
  exact hk _ _ dX12_middleOf_15
theorem c_M_middleOf {σ : Sg} {x1 : Int32} {r : Int32} (h : M_middleOf σ x1 = some r) : ZcI yX12_middleOf cX12_middleOf 2 .int rm_M_middleOf 198 (fun ad => [.ref (ad 171), .int x1]) σ r σ :=
  zmetI pn_12 rfl (fun _ => rfl) (fun _ => Nat.le_of_ble_eq_true rfl) rfl (fun X Q ok hk => t_M_middleOf ok h hk)
theorem dX12_pool_0 : decode cX12_pool 0 = .ok (.aload_n 0, 1) := by decide +kernel
theorem dX12_pool_1 : decode cX12_pool 1 = .ok (.iload_n 1, 1) := by decide +kernel
theorem dX12_pool_2 : decode cX12_pool 2 = .ok (.invokevirtual 321, 3) := by decide +kernel
theorem dX12_pool_5 : decode cX12_pool 5 = .ok (.ifCond .ne 5, 3) := by decide +kernel
theorem dX12_pool_8 : decode cX12_pool 8 = .ok (.iconst (-1), 1) := by decide +kernel
theorem dX12_pool_9 : decode cX12_pool 9 = .ok (.ireturn, 1) := by decide +kernel
theorem dX12_pool_10 : decode cX12_pool 10 = .ok (.iload_n 2, 1) := by decide +kernel
theorem dX12_pool_11 : decode cX12_pool 11 = .ok (.tableswitch 114 0 8 #[49, 58, 65, 72, 79, 86, 96, 102, 108], 49) := by decide +kernel
theorem dX12_pool_60 : decode cX12_pool 60 = .ok (.aload_n 0, 1) := by decide +kernel
theorem dX12_pool_61 : decode cX12_pool 61 = .ok (.getfield 71, 3) := by decide +kernel
theorem dX12_pool_64 : decode cX12_pool 64 = .ok (.iconst 0, 1) := by decide +kernel
theorem dX12_pool_65 : decode cX12_pool 65 = .ok (.iload_n 1, 1) := by decide +kernel
theorem dX12_pool_66 : decode cX12_pool 66 = .ok (.iadd, 1) := by decide +kernel
theorem dX12_pool_67 : decode cX12_pool 67 = .ok (.iaload, 1) := by decide +kernel
theorem dX12_pool_68 : decode cX12_pool 68 = .ok (.ireturn, 1) := by decide +kernel
theorem dX12_pool_69 : decode cX12_pool 69 = .ok (.aload_n 0, 1) := by decide +kernel
theorem dX12_pool_70 : decode cX12_pool 70 = .ok (.iload_n 1, 1) := by decide +kernel
theorem dX12_pool_71 : decode cX12_pool 71 = .ok (.iconst 0, 1) := by decide +kernel
theorem dX12_pool_72 : decode cX12_pool 72 = .ok (.invokevirtual 251, 3) := by decide +kernel
theorem dX12_pool_75 : decode cX12_pool 75 = .ok (.ireturn, 1) := by decide +kernel
theorem dX12_pool_76 : decode cX12_pool 76 = .ok (.aload_n 0, 1) := by decide +kernel
theorem dX12_pool_77 : decode cX12_pool 77 = .ok (.iload_n 1, 1) := by decide +kernel
theorem dX12_pool_78 : decode cX12_pool 78 = .ok (.iconst 1, 1) := by decide +kernel
theorem dX12_pool_79 : decode cX12_pool 79 = .ok (.invokevirtual 251, 3) := by decide +kernel
theorem dX12_pool_82 : decode cX12_pool 82 = .ok (.ireturn, 1) := by decide +kernel
theorem dX12_pool_83 : decode cX12_pool 83 = .ok (.aload_n 0, 1) := by decide +kernel
theorem dX12_pool_84 : decode cX12_pool 84 = .ok (.iload_n 1, 1) := by decide +kernel
theorem dX12_pool_85 : decode cX12_pool 85 = .ok (.iconst 2, 1) := by decide +kernel
theorem dX12_pool_86 : decode cX12_pool 86 = .ok (.invokevirtual 251, 3) := by decide +kernel
theorem dX12_pool_89 : decode cX12_pool 89 = .ok (.ireturn, 1) := by decide +kernel
theorem dX12_pool_90 : decode cX12_pool 90 = .ok (.aload_n 0, 1) := by decide +kernel
theorem dX12_pool_91 : decode cX12_pool 91 = .ok (.iload_n 1, 1) := by decide +kernel
theorem dX12_pool_92 : decode cX12_pool 92 = .ok (.iconst 3, 1) := by decide +kernel
theorem dX12_pool_93 : decode cX12_pool 93 = .ok (.invokevirtual 251, 3) := by decide +kernel
theorem dX12_pool_96 : decode cX12_pool 96 = .ok (.ireturn, 1) := by decide +kernel
theorem dX12_pool_97 : decode cX12_pool 97 = .ok (.aload_n 0, 1) := by decide +kernel
theorem dX12_pool_98 : decode cX12_pool 98 = .ok (.getfield 71, 3) := by decide +kernel
theorem dX12_pool_101 : decode cX12_pool 101 = .ok (.bipush 24, 2) := by decide +kernel
theorem dX12_pool_103 : decode cX12_pool 103 = .ok (.iload_n 1, 1) := by decide +kernel
theorem dX12_pool_104 : decode cX12_pool 104 = .ok (.iadd, 1) := by decide +kernel
theorem dX12_pool_105 : decode cX12_pool 105 = .ok (.iaload, 1) := by decide +kernel
theorem dX12_pool_106 : decode cX12_pool 106 = .ok (.ireturn, 1) := by decide +kernel
theorem dX12_pool_107 : decode cX12_pool 107 = .ok (.aload_n 0, 1) := by decide +kernel
theorem dX12_pool_108 : decode cX12_pool 108 = .ok (.iload_n 1, 1) := by decide +kernel
theorem dX12_pool_109 : decode cX12_pool 109 = .ok (.invokevirtual 327, 3) := by decide +kernel
theorem dX12_pool_112 : decode cX12_pool 112 = .ok (.ireturn, 1) := by decide +kernel
theorem dX12_pool_113 : decode cX12_pool 113 = .ok (.aload_n 0, 1) := by decide +kernel
theorem dX12_pool_114 : decode cX12_pool 114 = .ok (.iload_n 1, 1) := by decide +kernel
theorem dX12_pool_115 : decode cX12_pool 115 = .ok (.invokevirtual 267, 3) := by decide +kernel
theorem dX12_pool_118 : decode cX12_pool 118 = .ok (.ireturn, 1) := by decide +kernel
theorem dX12_pool_119 : decode cX12_pool 119 = .ok (.aload_n 0, 1) := by decide +kernel
theorem dX12_pool_120 : decode cX12_pool 120 = .ok (.iload_n 1, 1) := by decide +kernel
theorem dX12_pool_121 : decode cX12_pool 121 = .ok (.invokevirtual 282, 3) := by decide +kernel
theorem dX12_pool_124 : decode cX12_pool 124 = .ok (.ireturn, 1) := by decide +kernel
theorem dX12_pool_125 : decode cX12_pool 125 = .ok (.iconst (-1), 1) := by decide +kernel
theorem dX12_pool_126 : decode cX12_pool 126 = .ok (.ireturn, 1) := by decide +kernel
abbrev rm_M_pool : Room := { frames := 2, cells := 0, slots := 0, locals := 43 }
def M_pool (σ : Sg) (x1 : Int32) (x2 : Int32) : Option Int32 :=
  (M_isPool σ x1).bind fun r2 =>
  if (zb r2) = 0 then (
    some (-1)
  ) else (
    if x2 = 0 then (
      zrd σ 183 1607 (0 + x1) fun v67 =>
      some v67
    ) else (
    if x2 = 1 then (
      (M_toldOf σ x1 0).bind fun r72 =>
      some r72
    ) else (
    if x2 = 2 then (
      (M_toldOf σ x1 1).bind fun r79 =>
      some r79
    ) else (
    if x2 = 3 then (
      (M_toldOf σ x1 2).bind fun r86 =>
      some r86
    ) else (
    if x2 = 4 then (
      (M_toldOf σ x1 3).bind fun r93 =>
      some r93
    ) else (
    if x2 = 5 then (
      zrd σ 183 1607 (24 + x1) fun v105 =>
      some v105
    ) else (
    if x2 = 6 then (
      (M_onWay σ x1).bind fun r109 =>
      some r109
    ) else (
    if x2 = 7 then (
      (M_middleOf σ x1).bind fun r115 =>
      some r115
    ) else (
    if x2 = 8 then (
      (M_standOf σ x1).bind fun r121 =>
      some r121
    ) else (
      some (-1)
    )))))))))
  )
set_option maxRecDepth 20000 in
theorem t_M_pool {X : Zx} {Q : State → Prop} {σ : Sg} {x1 : Int32} {x2 : Int32} (ok : Zok X cX12_pool RX12 rm_M_pool 198 3)  {out : Int32} (hf : M_pool σ x1 x2 = some out) (hk : ZrI cX12_pool X Q out σ) : ZAt X Q 0 0 0 σ [(0, .ref (X.ad 171)), (1, .int x1), (2, .int x2)] [] := by
  unfold M_pool at hf
  refine z_aload_n ok dX12_pool_0 0 rfl ?_
  refine z_iload_n ok dX12_pool_1 1 rfl ?_
  refine z_call hf (fun r2 h2 hf => ?_)
  refine z_cV (As := [.int x1]) (rest := []) (w := 171) ok kc_171 zc_12 (c_M_isPool h2) rfl ⟨ml_12_321, w_M_isPool⟩ hy_M_isPool ⟨rfl, rfl⟩ ⟨Nat.le_of_ble_eq_true rfl, Nat.le_of_ble_eq_true rfl⟩ ⟨Nat.zero_le _, Nat.zero_le _⟩ rfl (Nat.le_of_ble_eq_true rfl) dX12_pool_2 ?_
  refine z_if_ne (tgt := 10) ok dX12_pool_5 (by decide) hf (fun _ hf => ?_) (fun _ hf => ?_)
  · refine z_iconst (v := (-1)) ok dX12_pool_8 (by decide) ?_
    obtain rfl := Option.some.inj hf
    exact hk _ _ dX12_pool_9
  · refine z_iload_n ok dX12_pool_10 2 rfl ?_
    refine z_swc (v := 0) hf (fun hf => ?_) (fun n11_0 hf => ?_)
    · refine z_tableIn (tgt := 60) ok dX12_pool_11 (by decide) (by decide) rfl (by decide) ?_
      refine z_aload_n ok dX12_pool_60 0 rfl ?_
      refine z_getr (q := 183) ok kc_171 zc_12 hin_12 20 (by decide) fl_12_71 rfl dX12_pool_61 ?_
      refine z_iconst (v := 0) ok dX12_pool_64 (by decide) ?_
      refine z_iload_n ok dX12_pool_65 1 rfl ?_
      refine z_iadd ok dX12_pool_66 ?_
      refine z_iald ok kc_183 dX12_pool_67 hf (fun v67 hf => ?_)
      obtain rfl := Option.some.inj hf
      exact hk _ _ dX12_pool_68
    refine z_swc (v := 1) hf (fun hf => ?_) (fun n11_1 hf => ?_)
    · refine z_tableIn (tgt := 69) ok dX12_pool_11 (by decide) (by decide) rfl (by decide) ?_
      refine z_aload_n ok dX12_pool_69 0 rfl ?_
      refine z_iload_n ok dX12_pool_70 1 rfl ?_
      refine z_iconst (v := 0) ok dX12_pool_71 (by decide) ?_
      refine z_call hf (fun r72 h72 hf => ?_)
      refine z_cV (As := [.int x1, .int 0]) (rest := []) (w := 171) ok kc_171 zc_12 (c_M_toldOf h72) rfl ⟨ml_12_251, w_M_toldOf⟩ hy_M_toldOf ⟨rfl, rfl⟩ ⟨Nat.le_of_ble_eq_true rfl, Nat.le_of_ble_eq_true rfl⟩ ⟨Nat.zero_le _, Nat.zero_le _⟩ rfl (Nat.le_of_ble_eq_true rfl) dX12_pool_72 ?_
      obtain rfl := Option.some.inj hf
      exact hk _ _ dX12_pool_75
    refine z_swc (v := 2) hf (fun hf => ?_) (fun n11_2 hf => ?_)
    · refine z_tableIn (tgt := 76) ok dX12_pool_11 (by decide) (by decide) rfl (by decide) ?_
      refine z_aload_n ok dX12_pool_76 0 rfl ?_
      refine z_iload_n ok dX12_pool_77 1 rfl ?_
      refine z_iconst (v := 1) ok dX12_pool_78 (by decide) ?_
      refine z_call hf (fun r79 h79 hf => ?_)
      refine z_cV (As := [.int x1, .int 1]) (rest := []) (w := 171) ok kc_171 zc_12 (c_M_toldOf h79) rfl ⟨ml_12_251, w_M_toldOf⟩ hy_M_toldOf ⟨rfl, rfl⟩ ⟨Nat.le_of_ble_eq_true rfl, Nat.le_of_ble_eq_true rfl⟩ ⟨Nat.zero_le _, Nat.zero_le _⟩ rfl (Nat.le_of_ble_eq_true rfl) dX12_pool_79 ?_
      obtain rfl := Option.some.inj hf
      exact hk _ _ dX12_pool_82
    refine z_swc (v := 3) hf (fun hf => ?_) (fun n11_3 hf => ?_)
    · refine z_tableIn (tgt := 83) ok dX12_pool_11 (by decide) (by decide) rfl (by decide) ?_
      refine z_aload_n ok dX12_pool_83 0 rfl ?_
      refine z_iload_n ok dX12_pool_84 1 rfl ?_
      refine z_iconst (v := 2) ok dX12_pool_85 (by decide) ?_
      refine z_call hf (fun r86 h86 hf => ?_)
      refine z_cV (As := [.int x1, .int 2]) (rest := []) (w := 171) ok kc_171 zc_12 (c_M_toldOf h86) rfl ⟨ml_12_251, w_M_toldOf⟩ hy_M_toldOf ⟨rfl, rfl⟩ ⟨Nat.le_of_ble_eq_true rfl, Nat.le_of_ble_eq_true rfl⟩ ⟨Nat.zero_le _, Nat.zero_le _⟩ rfl (Nat.le_of_ble_eq_true rfl) dX12_pool_86 ?_
      obtain rfl := Option.some.inj hf
      exact hk _ _ dX12_pool_89
    refine z_swc (v := 4) hf (fun hf => ?_) (fun n11_4 hf => ?_)
    · refine z_tableIn (tgt := 90) ok dX12_pool_11 (by decide) (by decide) rfl (by decide) ?_
      refine z_aload_n ok dX12_pool_90 0 rfl ?_
      refine z_iload_n ok dX12_pool_91 1 rfl ?_
      refine z_iconst (v := 3) ok dX12_pool_92 (by decide) ?_
      refine z_call hf (fun r93 h93 hf => ?_)
      refine z_cV (As := [.int x1, .int 3]) (rest := []) (w := 171) ok kc_171 zc_12 (c_M_toldOf h93) rfl ⟨ml_12_251, w_M_toldOf⟩ hy_M_toldOf ⟨rfl, rfl⟩ ⟨Nat.le_of_ble_eq_true rfl, Nat.le_of_ble_eq_true rfl⟩ ⟨Nat.zero_le _, Nat.zero_le _⟩ rfl (Nat.le_of_ble_eq_true rfl) dX12_pool_93 ?_
      obtain rfl := Option.some.inj hf
      exact hk _ _ dX12_pool_96
    refine z_swc (v := 5) hf (fun hf => ?_) (fun n11_5 hf => ?_)
    · refine z_tableIn (tgt := 97) ok dX12_pool_11 (by decide) (by decide) rfl (by decide) ?_
      refine z_aload_n ok dX12_pool_97 0 rfl ?_
      refine z_getr (q := 183) ok kc_171 zc_12 hin_12 20 (by decide) fl_12_71 rfl dX12_pool_98 ?_
      refine z_bipush (v := 24) ok dX12_pool_101 (by decide) ?_
      refine z_iload_n ok dX12_pool_103 1 rfl ?_
      refine z_iadd ok dX12_pool_104 ?_
      refine z_iald ok kc_183 dX12_pool_105 hf (fun v105 hf => ?_)
      obtain rfl := Option.some.inj hf
      exact hk _ _ dX12_pool_106
    refine z_swc (v := 6) hf (fun hf => ?_) (fun n11_6 hf => ?_)
    · refine z_tableIn (tgt := 107) ok dX12_pool_11 (by decide) (by decide) rfl (by decide) ?_
      refine z_aload_n ok dX12_pool_107 0 rfl ?_
      refine z_iload_n ok dX12_pool_108 1 rfl ?_
      refine z_call hf (fun r109 h109 hf => ?_)
      refine z_cV (As := [.int x1]) (rest := []) (w := 171) ok kc_171 zc_12 (c_M_onWay h109) rfl ⟨ml_12_327, w_M_onWay⟩ hy_M_onWay ⟨rfl, rfl⟩ ⟨Nat.le_of_ble_eq_true rfl, Nat.le_of_ble_eq_true rfl⟩ ⟨Nat.zero_le _, Nat.zero_le _⟩ rfl (Nat.le_of_ble_eq_true rfl) dX12_pool_109 ?_
      obtain rfl := Option.some.inj hf
      exact hk _ _ dX12_pool_112
    refine z_swc (v := 7) hf (fun hf => ?_) (fun n11_7 hf => ?_)
    · refine z_tableIn (tgt := 113) ok dX12_pool_11 (by decide) (by decide) rfl (by decide) ?_
      refine z_aload_n ok dX12_pool_113 0 rfl ?_
      refine z_iload_n ok dX12_pool_114 1 rfl ?_
      refine z_call hf (fun r115 h115 hf => ?_)
      refine z_cV (As := [.int x1]) (rest := []) (w := 171) ok kc_171 zc_12 (c_M_middleOf h115) rfl ⟨ml_12_267, w_M_middleOf⟩ hy_M_middleOf ⟨rfl, rfl⟩ ⟨Nat.le_of_ble_eq_true rfl, Nat.le_of_ble_eq_true rfl⟩ ⟨Nat.zero_le _, Nat.zero_le _⟩ rfl (Nat.le_of_ble_eq_true rfl) dX12_pool_115 ?_
      obtain rfl := Option.some.inj hf
      exact hk _ _ dX12_pool_118
    refine z_swc (v := 8) hf (fun hf => ?_) (fun n11_8 hf => ?_)
    · refine z_tableIn (tgt := 119) ok dX12_pool_11 (by decide) (by decide) rfl (by decide) ?_
      refine z_aload_n ok dX12_pool_119 0 rfl ?_
      refine z_iload_n ok dX12_pool_120 1 rfl ?_
      refine z_call hf (fun r121 h121 hf => ?_)
      refine z_cV (As := [.int x1]) (rest := []) (w := 171) ok kc_171 zc_12 (c_M_standOf h121) rfl ⟨ml_12_282, w_M_standOf⟩ hy_M_standOf ⟨rfl, rfl⟩ ⟨Nat.le_of_ble_eq_true rfl, Nat.le_of_ble_eq_true rfl⟩ ⟨Nat.zero_le _, Nat.zero_le _⟩ rfl (Nat.le_of_ble_eq_true rfl) dX12_pool_121 ?_
      obtain rfl := Option.some.inj hf
      exact hk _ _ dX12_pool_124
    refine z_tableOut (tgt := 125) ok dX12_pool_11 (zsw_out 0 8 [0, 1, 2, 3, 4, 5, 6, 7, 8] (by decide) (List.forall_mem_cons.mpr ⟨n11_0, (List.forall_mem_cons.mpr ⟨n11_1, (List.forall_mem_cons.mpr ⟨n11_2, (List.forall_mem_cons.mpr ⟨n11_3, (List.forall_mem_cons.mpr ⟨n11_4, (List.forall_mem_cons.mpr ⟨n11_5, (List.forall_mem_cons.mpr ⟨n11_6, (List.forall_mem_cons.mpr ⟨n11_7, (List.forall_mem_cons.mpr ⟨n11_8, (fun _ h => absurd h List.not_mem_nil)⟩)⟩)⟩)⟩)⟩)⟩)⟩)⟩)⟩)) (by decide) ?_
    refine z_iconst (v := (-1)) ok dX12_pool_125 (by decide) ?_
    obtain rfl := Option.some.inj hf
    exact hk _ _ dX12_pool_126
theorem c_M_pool {σ : Sg} {x1 : Int32} {x2 : Int32} {r : Int32} (h : M_pool σ x1 x2 = some r) : ZcI yX12_pool cX12_pool 3 .int rm_M_pool 198 (fun ad => [.ref (ad 171), .int x1, .int x2]) σ r σ :=
  zmetI pn_12 rfl (fun _ => rfl) (fun _ => Nat.le_of_ble_eq_true rfl) rfl (fun X Q ok hk => t_M_pool ok h hk)
theorem dX12_poolOf_0 : decode cX12_poolOf 0 = .ok (.aload_n 0, 1) := by decide +kernel
theorem dX12_poolOf_1 : decode cX12_poolOf 1 = .ok (.getfield 23, 3) := by decide +kernel
theorem dX12_poolOf_4 : decode cX12_poolOf 4 = .ok (.iconst 2, 1) := by decide +kernel
theorem dX12_poolOf_5 : decode cX12_poolOf 5 = .ok (.iload_n 1, 1) := by decide +kernel
theorem dX12_poolOf_6 : decode cX12_poolOf 6 = .ok (.imul, 1) := by decide +kernel
theorem dX12_poolOf_7 : decode cX12_poolOf 7 = .ok (.iaload, 1) := by decide +kernel
theorem dX12_poolOf_8 : decode cX12_poolOf 8 = .ok (.ireturn, 1) := by decide +kernel
abbrev rm_M_poolOf : Room := { frames := 0, cells := 0, slots := 0, locals := 0 }
def M_poolOf (σ : Sg) (x1 : Int32) : Option Int32 :=
  zrd σ 173 20 (2 * x1) fun v7 =>
  some v7
set_option maxRecDepth 20000 in
theorem t_M_poolOf {X : Zx} {Q : State → Prop} {σ : Sg} {x1 : Int32} (ok : Zok X cX12_poolOf RX12 rm_M_poolOf 198 2)  {out : Int32} (hf : M_poolOf σ x1 = some out) (hk : ZrI cX12_poolOf X Q out σ) : ZAt X Q 0 0 0 σ [(0, .ref (X.ad 171)), (1, .int x1)] [] := by
  unfold M_poolOf at hf
  refine z_aload_n ok dX12_poolOf_0 0 rfl ?_
  refine z_getr (q := 173) ok kc_171 zc_12 hin_12 4 (by decide) fl_12_23 rfl dX12_poolOf_1 ?_
  refine z_iconst (v := 2) ok dX12_poolOf_4 (by decide) ?_
  refine z_iload_n ok dX12_poolOf_5 1 rfl ?_
  refine z_imul ok dX12_poolOf_6 ?_
  refine z_iald ok kc_173 dX12_poolOf_7 hf (fun v7 hf => ?_)
  obtain rfl := Option.some.inj hf
  exact hk _ _ dX12_poolOf_8
theorem c_M_poolOf {σ : Sg} {x1 : Int32} {r : Int32} (h : M_poolOf σ x1 = some r) : ZcI yX12_poolOf cX12_poolOf 2 .int rm_M_poolOf 198 (fun ad => [.ref (ad 171), .int x1]) σ r σ :=
  zmetI pn_12 rfl (fun _ => rfl) (fun _ => Nat.le_of_ble_eq_true rfl) rfl (fun X Q ok hk => t_M_poolOf ok h hk)
theorem dX12_isOpen_0 : decode cX12_isOpen 0 = .ok (.iconst 0, 1) := by decide +kernel
theorem dX12_isOpen_1 : decode cX12_isOpen 1 = .ok (.istore_n 3, 1) := by decide +kernel
theorem dX12_isOpen_2 : decode cX12_isOpen 2 = .ok (.iload_n 3, 1) := by decide +kernel
theorem dX12_isOpen_3 : decode cX12_isOpen 3 = .ok (.aload_n 0, 1) := by decide +kernel
theorem dX12_isOpen_4 : decode cX12_isOpen 4 = .ok (.getfield 71, 3) := by decide +kernel
theorem dX12_isOpen_7 : decode cX12_isOpen 7 = .ok (.sipush 199, 3) := by decide +kernel
theorem dX12_isOpen_10 : decode cX12_isOpen 10 = .ok (.iaload, 1) := by decide +kernel
theorem dX12_isOpen_11 : decode cX12_isOpen 11 = .ok (.if_icmp .ge 71, 3) := by decide +kernel
theorem dX12_isOpen_14 : decode cX12_isOpen 14 = .ok (.aload_n 0, 1) := by decide +kernel
theorem dX12_isOpen_15 : decode cX12_isOpen 15 = .ok (.getfield 71, 3) := by decide +kernel
theorem dX12_isOpen_18 : decode cX12_isOpen 18 = .ok (.sipush 148, 3) := by decide +kernel
theorem dX12_isOpen_21 : decode cX12_isOpen 21 = .ok (.iconst 3, 1) := by decide +kernel
theorem dX12_isOpen_22 : decode cX12_isOpen 22 = .ok (.iload_n 3, 1) := by decide +kernel
theorem dX12_isOpen_23 : decode cX12_isOpen 23 = .ok (.imul, 1) := by decide +kernel
theorem dX12_isOpen_24 : decode cX12_isOpen 24 = .ok (.iadd, 1) := by decide +kernel
theorem dX12_isOpen_25 : decode cX12_isOpen 25 = .ok (.iconst 1, 1) := by decide +kernel
theorem dX12_isOpen_26 : decode cX12_isOpen 26 = .ok (.iadd, 1) := by decide +kernel
theorem dX12_isOpen_27 : decode cX12_isOpen 27 = .ok (.iaload, 1) := by decide +kernel
theorem dX12_isOpen_28 : decode cX12_isOpen 28 = .ok (.istore 4, 2) := by decide +kernel
theorem dX12_isOpen_30 : decode cX12_isOpen 30 = .ok (.aload_n 0, 1) := by decide +kernel
theorem dX12_isOpen_31 : decode cX12_isOpen 31 = .ok (.getfield 71, 3) := by decide +kernel
theorem dX12_isOpen_34 : decode cX12_isOpen 34 = .ok (.sipush 148, 3) := by decide +kernel
theorem dX12_isOpen_37 : decode cX12_isOpen 37 = .ok (.iconst 3, 1) := by decide +kernel
theorem dX12_isOpen_38 : decode cX12_isOpen 38 = .ok (.iload_n 3, 1) := by decide +kernel
theorem dX12_isOpen_39 : decode cX12_isOpen 39 = .ok (.imul, 1) := by decide +kernel
theorem dX12_isOpen_40 : decode cX12_isOpen 40 = .ok (.iadd, 1) := by decide +kernel
theorem dX12_isOpen_41 : decode cX12_isOpen 41 = .ok (.iaload, 1) := by decide +kernel
theorem dX12_isOpen_42 : decode cX12_isOpen 42 = .ok (.iload_n 1, 1) := by decide +kernel
theorem dX12_isOpen_43 : decode cX12_isOpen 43 = .ok (.if_icmp .ne 33, 3) := by decide +kernel
theorem dX12_isOpen_46 : decode cX12_isOpen 46 = .ok (.iload_n 2, 1) := by decide +kernel
theorem dX12_isOpen_47 : decode cX12_isOpen 47 = .ok (.iload 4, 2) := by decide +kernel
theorem dX12_isOpen_49 : decode cX12_isOpen 49 = .ok (.iload 4, 2) := by decide +kernel
theorem dX12_isOpen_51 : decode cX12_isOpen 51 = .ok (.aload_n 0, 1) := by decide +kernel
theorem dX12_isOpen_52 : decode cX12_isOpen 52 = .ok (.getfield 71, 3) := by decide +kernel
theorem dX12_isOpen_55 : decode cX12_isOpen 55 = .ok (.sipush 148, 3) := by decide +kernel
theorem dX12_isOpen_58 : decode cX12_isOpen 58 = .ok (.iconst 3, 1) := by decide +kernel
theorem dX12_isOpen_59 : decode cX12_isOpen 59 = .ok (.iload_n 3, 1) := by decide +kernel
theorem dX12_isOpen_60 : decode cX12_isOpen 60 = .ok (.imul, 1) := by decide +kernel
theorem dX12_isOpen_61 : decode cX12_isOpen 61 = .ok (.iadd, 1) := by decide +kernel
theorem dX12_isOpen_62 : decode cX12_isOpen 62 = .ok (.iconst 2, 1) := by decide +kernel
theorem dX12_isOpen_63 : decode cX12_isOpen 63 = .ok (.iadd, 1) := by decide +kernel
theorem dX12_isOpen_64 : decode cX12_isOpen 64 = .ok (.iaload, 1) := by decide +kernel
theorem dX12_isOpen_65 : decode cX12_isOpen 65 = .ok (.iadd, 1) := by decide +kernel
theorem dX12_isOpen_66 : decode cX12_isOpen 66 = .ok (.iconst 1, 1) := by decide +kernel
theorem dX12_isOpen_67 : decode cX12_isOpen 67 = .ok (.isub, 1) := by decide +kernel
theorem dX12_isOpen_68 : decode cX12_isOpen 68 = .ok (.invokestatic 198, 3) := by decide +kernel
theorem dX12_isOpen_71 : decode cX12_isOpen 71 = .ok (.ifCond .eq 5, 3) := by decide +kernel
theorem dX12_isOpen_74 : decode cX12_isOpen 74 = .ok (.iconst 1, 1) := by decide +kernel
theorem dX12_isOpen_75 : decode cX12_isOpen 75 = .ok (.ireturn, 1) := by decide +kernel
theorem dX12_isOpen_76 : decode cX12_isOpen 76 = .ok (.iinc 3 1, 3) := by decide +kernel
theorem dX12_isOpen_79 : decode cX12_isOpen 79 = .ok (.goto (-77), 3) := by decide +kernel
theorem dX12_isOpen_82 : decode cX12_isOpen 82 = .ok (.iconst 0, 1) := by decide +kernel
theorem dX12_isOpen_83 : decode cX12_isOpen 83 = .ok (.istore_n 3, 1) := by decide +kernel
theorem dX12_isOpen_84 : decode cX12_isOpen 84 = .ok (.iload_n 3, 1) := by decide +kernel
theorem dX12_isOpen_85 : decode cX12_isOpen 85 = .ok (.aload_n 0, 1) := by decide +kernel
theorem dX12_isOpen_86 : decode cX12_isOpen 86 = .ok (.getfield 16, 3) := by decide +kernel
theorem dX12_isOpen_89 : decode cX12_isOpen 89 = .ok (.if_icmp .ge 50, 3) := by decide +kernel
theorem dX12_isOpen_92 : decode cX12_isOpen 92 = .ok (.aload_n 0, 1) := by decide +kernel
theorem dX12_isOpen_93 : decode cX12_isOpen 93 = .ok (.getfield 26, 3) := by decide +kernel
theorem dX12_isOpen_96 : decode cX12_isOpen 96 = .ok (.bipush 8, 2) := by decide +kernel
theorem dX12_isOpen_98 : decode cX12_isOpen 98 = .ok (.iload_n 3, 1) := by decide +kernel
theorem dX12_isOpen_99 : decode cX12_isOpen 99 = .ok (.imul, 1) := by decide +kernel
theorem dX12_isOpen_100 : decode cX12_isOpen 100 = .ok (.iconst 2, 1) := by decide +kernel
theorem dX12_isOpen_101 : decode cX12_isOpen 101 = .ok (.iadd, 1) := by decide +kernel
theorem dX12_isOpen_102 : decode cX12_isOpen 102 = .ok (.iload_n 2, 1) := by decide +kernel
theorem dX12_isOpen_103 : decode cX12_isOpen 103 = .ok (.aload_n 0, 1) := by decide +kernel
theorem dX12_isOpen_104 : decode cX12_isOpen 104 = .ok (.getfield 26, 3) := by decide +kernel
theorem dX12_isOpen_107 : decode cX12_isOpen 107 = .ok (.bipush 8, 2) := by decide +kernel
theorem dX12_isOpen_109 : decode cX12_isOpen 109 = .ok (.iload_n 3, 1) := by decide +kernel
theorem dX12_isOpen_110 : decode cX12_isOpen 110 = .ok (.imul, 1) := by decide +kernel
theorem dX12_isOpen_111 : decode cX12_isOpen 111 = .ok (.iaload, 1) := by decide +kernel
theorem dX12_isOpen_112 : decode cX12_isOpen 112 = .ok (.idiv, 1) := by decide +kernel
theorem dX12_isOpen_113 : decode cX12_isOpen 113 = .ok (.aload_n 0, 1) := by decide +kernel
theorem dX12_isOpen_114 : decode cX12_isOpen 114 = .ok (.getfield 26, 3) := by decide +kernel
theorem dX12_isOpen_117 : decode cX12_isOpen 117 = .ok (.bipush 8, 2) := by decide +kernel
theorem dX12_isOpen_119 : decode cX12_isOpen 119 = .ok (.iload_n 3, 1) := by decide +kernel
theorem dX12_isOpen_120 : decode cX12_isOpen 120 = .ok (.imul, 1) := by decide +kernel
theorem dX12_isOpen_121 : decode cX12_isOpen 121 = .ok (.iconst 1, 1) := by decide +kernel
theorem dX12_isOpen_122 : decode cX12_isOpen 122 = .ok (.iadd, 1) := by decide +kernel
theorem dX12_isOpen_123 : decode cX12_isOpen 123 = .ok (.iaload, 1) := by decide +kernel
theorem dX12_isOpen_124 : decode cX12_isOpen 124 = .ok (.irem, 1) := by decide +kernel
theorem dX12_isOpen_125 : decode cX12_isOpen 125 = .ok (.iadd, 1) := by decide +kernel
theorem dX12_isOpen_126 : decode cX12_isOpen 126 = .ok (.iaload, 1) := by decide +kernel
theorem dX12_isOpen_127 : decode cX12_isOpen 127 = .ok (.iload_n 1, 1) := by decide +kernel
theorem dX12_isOpen_128 : decode cX12_isOpen 128 = .ok (.if_icmp .ne 5, 3) := by decide +kernel
theorem dX12_isOpen_131 : decode cX12_isOpen 131 = .ok (.iconst 1, 1) := by decide +kernel
theorem dX12_isOpen_132 : decode cX12_isOpen 132 = .ok (.ireturn, 1) := by decide +kernel
theorem dX12_isOpen_133 : decode cX12_isOpen 133 = .ok (.iinc 3 1, 3) := by decide +kernel
theorem dX12_isOpen_136 : decode cX12_isOpen 136 = .ok (.goto (-52), 3) := by decide +kernel
theorem dX12_isOpen_139 : decode cX12_isOpen 139 = .ok (.iconst 0, 1) := by decide +kernel
theorem dX12_isOpen_140 : decode cX12_isOpen 140 = .ok (.ireturn, 1) := by decide +kernel
abbrev rm_M_isOpen : Room := { frames := 1, cells := 0, slots := 0, locals := 22 }
def M_isOpen_l2 (σ : Sg) (x1 : Int32) (x2 : Int32) (x3 : Int32) : Option (Int32 ⊕ (Bool ⊕ Int32)) :=
  zrd σ 183 1607 199 fun v10 =>
  if v10 ≤ x3 then (
    some (.inr (.inr x3))
  ) else (
    zrd σ 183 1607 ((148 + (3 * x3)) + 1) fun v27 =>
    zrd σ 183 1607 (148 + (3 * x3)) fun v41 =>
    if v41 = x1 then (
      zrd σ 183 1607 ((148 + (3 * x3)) + 2) fun v64 =>
      (M_isIn x2 v27 ((v27 + v64) - 1)).bind fun r68 =>
      if (zb r68) = 0 then (
        zlt (x3 + 1) fun v76 =>
        some (.inl v76)
      ) else (
        some (.inr (.inl true))
      )
    ) else (
      zlt (x3 + 1) fun v76 =>
      some (.inl v76)
    )
  )
set_option maxRecDepth 20000 in
theorem t_M_isOpen_l2 {X : Zx} {Q : State → Prop} {σ : Sg} {x1 : Int32} {x2 : Int32} {x3 : Int32} (ok : Zok X cX12_isOpen RX12 rm_M_isOpen 198 5)  {out : (Int32 ⊕ (Bool ⊕ Int32))} (hf : M_isOpen_l2 σ x1 x2 x3 = some out) (hk : zout (fun (s : Int32) => ZAt X Q 0 0 2 σ [(0, .ref (X.ad 171)), (1, .int x1), (2, .int x2), (3, .int s)] []) (zout (fun (r : Bool) => ZrI cX12_isOpen X Q (zb r) σ) (fun (s : Int32) => ZAt X Q 0 0 82 σ [(0, .ref (X.ad 171)), (1, .int x1), (2, .int x2)] [])) out) : ZAt X Q 0 0 2 σ [(0, .ref (X.ad 171)), (1, .int x1), (2, .int x2), (3, .int x3)] [] := by
  unfold M_isOpen_l2 at hf
  refine z_iload_n ok dX12_isOpen_2 3 rfl ?_
  refine z_aload_n ok dX12_isOpen_3 0 rfl ?_
  refine z_getr (q := 183) ok kc_171 zc_12 hin_12 20 (by decide) fl_12_71 rfl dX12_isOpen_4 ?_
  refine z_sipush (v := 199) ok dX12_isOpen_7 (by decide) ?_
  refine z_iald ok kc_183 dX12_isOpen_10 hf (fun v10 hf => ?_)
  refine z_icmp_ge (tgt := 82) ok dX12_isOpen_11 (by decide) hf (fun _ hf => ?_) (fun _ hf => ?_)
  · obtain rfl := Option.some.inj hf
    exact z_sub [0, 1, 2] rfl hk
  · refine z_aload_n ok dX12_isOpen_14 0 rfl ?_
    refine z_getr (q := 183) ok kc_171 zc_12 hin_12 20 (by decide) fl_12_71 rfl dX12_isOpen_15 ?_
    refine z_sipush (v := 148) ok dX12_isOpen_18 (by decide) ?_
    refine z_iconst (v := 3) ok dX12_isOpen_21 (by decide) ?_
    refine z_iload_n ok dX12_isOpen_22 3 rfl ?_
    refine z_imul ok dX12_isOpen_23 ?_
    refine z_iadd ok dX12_isOpen_24 ?_
    refine z_iconst (v := 1) ok dX12_isOpen_25 (by decide) ?_
    refine z_iadd ok dX12_isOpen_26 ?_
    refine z_iald ok kc_183 dX12_isOpen_27 hf (fun v27 hf => ?_)
    refine z_istore (lv' := [(4, .int v27), (0, .ref (X.ad 171)), (1, .int x1), (2, .int x2), (3, .int x3)]) ok dX12_isOpen_28 (by decide) rfl ?_
    refine z_aload_n ok dX12_isOpen_30 1 rfl ?_
    refine z_getr (q := 183) ok kc_171 zc_12 hin_12 20 (by decide) fl_12_71 rfl dX12_isOpen_31 ?_
    refine z_sipush (v := 148) ok dX12_isOpen_34 (by decide) ?_
    refine z_iconst (v := 3) ok dX12_isOpen_37 (by decide) ?_
    refine z_iload_n ok dX12_isOpen_38 4 rfl ?_
    refine z_imul ok dX12_isOpen_39 ?_
    refine z_iadd ok dX12_isOpen_40 ?_
    refine z_iald ok kc_183 dX12_isOpen_41 hf (fun v41 hf => ?_)
    refine z_iload_n ok dX12_isOpen_42 2 rfl ?_
    refine z_icmp_ne (tgt := 76) ok dX12_isOpen_43 (by decide) hf (fun _ hf => ?_) (fun _ hf => ?_)
    · refine z_iload_n ok dX12_isOpen_46 3 rfl ?_
      refine z_iload ok dX12_isOpen_47 0 rfl ?_
      refine z_iload ok dX12_isOpen_49 0 rfl ?_
      refine z_aload_n ok dX12_isOpen_51 1 rfl ?_
      refine z_getr (q := 183) ok kc_171 zc_12 hin_12 20 (by decide) fl_12_71 rfl dX12_isOpen_52 ?_
      refine z_sipush (v := 148) ok dX12_isOpen_55 (by decide) ?_
      refine z_iconst (v := 3) ok dX12_isOpen_58 (by decide) ?_
      refine z_iload_n ok dX12_isOpen_59 4 rfl ?_
      refine z_imul ok dX12_isOpen_60 ?_
      refine z_iadd ok dX12_isOpen_61 ?_
      refine z_iconst (v := 2) ok dX12_isOpen_62 (by decide) ?_
      refine z_iadd ok dX12_isOpen_63 ?_
      refine z_iald ok kc_183 dX12_isOpen_64 hf (fun v64 hf => ?_)
      refine z_iadd ok dX12_isOpen_65 ?_
      refine z_iconst (v := 1) ok dX12_isOpen_66 (by decide) ?_
      refine z_isub ok dX12_isOpen_67 ?_
      refine z_call hf (fun r68 h68 hf => ?_)
      refine z_cS (As := [.int x2, .int v27, .int ((v27 + v64) - 1)]) (rest := []) ok (c_M_isIn h68) rfl ⟨ml_12_198, w_M_isIn⟩ hy_M_isIn ⟨rfl, rfl⟩ ⟨Nat.le_of_ble_eq_true rfl, Nat.le_of_ble_eq_true rfl⟩ ⟨Nat.zero_le _, Nat.zero_le _⟩ rfl (Nat.le_of_ble_eq_true rfl) dX12_isOpen_68 ?_
      refine z_if_eq (tgt := 76) ok dX12_isOpen_71 (by decide) hf (fun _ hf => ?_) (fun _ hf => ?_)
      · refine z_iinc (w := 1) (lv' := fun v76 => [(3, .int v76), (4, .int v27), (0, .ref (X.ad 171)), (1, .int x1), (2, .int x2)]) ok dX12_isOpen_76 4 rfl (by decide) (by decide) (fun _ => rfl) hf (fun v76 hf => ?_)
        refine z_goto (tgt := 2) ok dX12_isOpen_79 (by decide) ?_
        obtain rfl := Option.some.inj hf
        exact z_sub [2, 3, 4, 0] rfl hk
      · refine z_iconst (v := 1) ok dX12_isOpen_74 (by decide) ?_
        obtain rfl := Option.some.inj hf
        exact hk _ _ dX12_isOpen_75
    · refine z_iinc (w := 1) (lv' := fun v76 => [(3, .int v76), (4, .int v27), (0, .ref (X.ad 171)), (1, .int x1), (2, .int x2)]) ok dX12_isOpen_76 4 rfl (by decide) (by decide) (fun _ => rfl) hf (fun v76 hf => ?_)
      refine z_goto (tgt := 2) ok dX12_isOpen_79 (by decide) ?_
      obtain rfl := Option.some.inj hf
      exact z_sub [2, 3, 4, 0] rfl hk
def M_isOpen_l84 (σ : Sg) (x1 : Int32) (x2 : Int32) (x3 : Int32) : Option (Int32 ⊕ (Bool ⊕ Int32)) :=
  zgt σ 171 2 fun v86 =>
  if v86 ≤ x3 then (
    some (.inr (.inr x3))
  ) else (
    zrd σ 174 16 (8 * x3) fun v111 =>
    znz v111 <|
    zrd σ 174 16 ((8 * x3) + 1) fun v123 =>
    znz v123 <|
    zrd σ 174 16 (((8 * x3) + 2) + ((x2 / v111) - (x2 / v111) / v123 * v123)) fun v126 =>
    if v126 = x1 then (
      some (.inr (.inl true))
    ) else (
      zlt (x3 + 1) fun v133 =>
      some (.inl v133)
    )
  )
set_option maxRecDepth 20000 in
theorem t_M_isOpen_l84 {X : Zx} {Q : State → Prop} {σ : Sg} {x1 : Int32} {x2 : Int32} {x3 : Int32} (ok : Zok X cX12_isOpen RX12 rm_M_isOpen 198 5)  {out : (Int32 ⊕ (Bool ⊕ Int32))} (hf : M_isOpen_l84 σ x1 x2 x3 = some out) (hk : zout (fun (s : Int32) => ZAt X Q 0 0 84 σ [(0, .ref (X.ad 171)), (1, .int x1), (2, .int x2), (3, .int s)] []) (zout (fun (r : Bool) => ZrI cX12_isOpen X Q (zb r) σ) (fun (s : Int32) => ZAt X Q 0 0 139 σ [] [])) out) : ZAt X Q 0 0 84 σ [(0, .ref (X.ad 171)), (1, .int x1), (2, .int x2), (3, .int x3)] [] := by
  unfold M_isOpen_l84 at hf
  refine z_iload_n ok dX12_isOpen_84 3 rfl ?_
  refine z_aload_n ok dX12_isOpen_85 0 rfl ?_
  refine z_geti ok kc_171 zc_12 hin_12 2 (by decide) fl_12_16 rfl dX12_isOpen_86 hf (fun v86 hf => ?_)
  refine z_icmp_ge (tgt := 139) ok dX12_isOpen_89 (by decide) hf (fun _ hf => ?_) (fun _ hf => ?_)
  · obtain rfl := Option.some.inj hf
    exact z_sub [] rfl hk
  · refine z_aload_n ok dX12_isOpen_92 0 rfl ?_
    refine z_getr (q := 174) ok kc_171 zc_12 hin_12 5 (by decide) fl_12_26 rfl dX12_isOpen_93 ?_
    refine z_bipush (v := 8) ok dX12_isOpen_96 (by decide) ?_
    refine z_iload_n ok dX12_isOpen_98 3 rfl ?_
    refine z_imul ok dX12_isOpen_99 ?_
    refine z_iconst (v := 2) ok dX12_isOpen_100 (by decide) ?_
    refine z_iadd ok dX12_isOpen_101 ?_
    refine z_iload_n ok dX12_isOpen_102 2 rfl ?_
    refine z_aload_n ok dX12_isOpen_103 0 rfl ?_
    refine z_getr (q := 174) ok kc_171 zc_12 hin_12 5 (by decide) fl_12_26 rfl dX12_isOpen_104 ?_
    refine z_bipush (v := 8) ok dX12_isOpen_107 (by decide) ?_
    refine z_iload_n ok dX12_isOpen_109 3 rfl ?_
    refine z_imul ok dX12_isOpen_110 ?_
    refine z_iald ok kc_174 dX12_isOpen_111 hf (fun v111 hf => ?_)
    refine z_idiv ok dX12_isOpen_112 hf (fun hf => ?_)
    refine z_aload_n ok dX12_isOpen_113 0 rfl ?_
    refine z_getr (q := 174) ok kc_171 zc_12 hin_12 5 (by decide) fl_12_26 rfl dX12_isOpen_114 ?_
    refine z_bipush (v := 8) ok dX12_isOpen_117 (by decide) ?_
    refine z_iload_n ok dX12_isOpen_119 3 rfl ?_
    refine z_imul ok dX12_isOpen_120 ?_
    refine z_iconst (v := 1) ok dX12_isOpen_121 (by decide) ?_
    refine z_iadd ok dX12_isOpen_122 ?_
    refine z_iald ok kc_174 dX12_isOpen_123 hf (fun v123 hf => ?_)
    refine z_irem ok dX12_isOpen_124 hf (fun hf => ?_)
    refine z_iadd ok dX12_isOpen_125 ?_
    refine z_iald ok kc_174 dX12_isOpen_126 hf (fun v126 hf => ?_)
    refine z_iload_n ok dX12_isOpen_127 1 rfl ?_
    refine z_icmp_ne (tgt := 133) ok dX12_isOpen_128 (by decide) hf (fun _ hf => ?_) (fun _ hf => ?_)
    · refine z_iconst (v := 1) ok dX12_isOpen_131 (by decide) ?_
      obtain rfl := Option.some.inj hf
      exact hk _ _ dX12_isOpen_132
    · refine z_iinc (w := 1) (lv' := fun v133 => [(3, .int v133), (0, .ref (X.ad 171)), (1, .int x1), (2, .int x2)]) ok dX12_isOpen_133 3 rfl (by decide) (by decide) (fun _ => rfl) hf (fun v133 hf => ?_)
      refine z_goto (tgt := 84) ok dX12_isOpen_136 (by decide) ?_
      obtain rfl := Option.some.inj hf
      exact z_sub [1, 2, 3, 0] rfl hk
def M_isOpen_j82 (σ : Sg) (x1 : Int32) (x2 : Int32) : Option Bool :=
  zlt 0 fun v83 =>
  (zit (fun (s : Int32) => M_isOpen_l84 σ x1 x2 s) zFU v83).bind fun r => r.elim (fun r =>
  some r
  ) (fun r =>
  some false
  )
set_option maxRecDepth 20000 in
theorem t_M_isOpen_j82 {X : Zx} {Q : State → Prop} {σ : Sg} {x1 : Int32} {x2 : Int32} (ok : Zok X cX12_isOpen RX12 rm_M_isOpen 198 5)  {out : Bool} (hf : M_isOpen_j82 σ x1 x2 = some out) (hk : ZrI cX12_isOpen X Q (zb out) σ) : ZAt X Q 0 0 82 σ [(0, .ref (X.ad 171)), (1, .int x1), (2, .int x2)] [] := by
  unfold M_isOpen_j82 at hf
  refine z_iconst (v := 0) ok dX12_isOpen_82 (by decide) ?_
  refine z_nm hf (fun v83 hf => ?_)
  refine z_istore_n (lv' := [(3, .int v83), (0, .ref (X.ad 171)), (1, .int x1), (2, .int x2)]) ok dX12_isOpen_83 (by decide) rfl ?_
  refine z_call hf (fun r hr hf => ?_)
  refine z_sub [1, 2, 3, 0] rfl (z_iter (fun (s : Int32) => σ) (fun (s : Int32) => [(0, .ref (X.ad 171)), (1, .int x1), (2, .int x2), (3, .int s)]) (fun s o h1 h2 => t_M_isOpen_l84 ok h1 h2) _ _ _ hr ?_)
  cases r with
  | inl r =>
    obtain rfl := Option.some.inj hf
    exact hk
  | inr r =>
    simp only [Sum.elim_inr] at hf
    show ZAt X Q 0 0 139 σ [] []
    refine z_iconst (v := 0) ok dX12_isOpen_139 (by decide) ?_
    obtain rfl := Option.some.inj hf
    exact hk _ _ dX12_isOpen_140
def M_isOpen (σ : Sg) (x1 : Int32) (x2 : Int32) : Option Bool :=
  zlt 0 fun v1 =>
  (zit (fun (s : Int32) => M_isOpen_l2 σ x1 x2 s) zFU v1).bind fun r => r.elim (fun r =>
  some r
  ) (fun r =>
  M_isOpen_j82 σ x1 x2
  )
set_option maxRecDepth 20000 in
theorem t_M_isOpen {X : Zx} {Q : State → Prop} {σ : Sg} {x1 : Int32} {x2 : Int32} (ok : Zok X cX12_isOpen RX12 rm_M_isOpen 198 5)  {out : Bool} (hf : M_isOpen σ x1 x2 = some out) (hk : ZrI cX12_isOpen X Q (zb out) σ) : ZAt X Q 0 0 0 σ [(0, .ref (X.ad 171)), (1, .int x1), (2, .int x2)] [] := by
  unfold M_isOpen at hf
  refine z_iconst (v := 0) ok dX12_isOpen_0 (by decide) ?_
  refine z_nm hf (fun v1 hf => ?_)
  refine z_istore_n (lv' := [(3, .int v1), (0, .ref (X.ad 171)), (1, .int x1), (2, .int x2)]) ok dX12_isOpen_1 (by decide) rfl ?_
  refine z_call hf (fun r hr hf => ?_)
  refine z_sub [1, 2, 3, 0] rfl (z_iter (fun (s : Int32) => σ) (fun (s : Int32) => [(0, .ref (X.ad 171)), (1, .int x1), (2, .int x2), (3, .int s)]) (fun s o h1 h2 => t_M_isOpen_l2 ok h1 h2) _ _ _ hr ?_)
  cases r with
  | inl r =>
    obtain rfl := Option.some.inj hf
    exact hk
  | inr r =>
    simp only [Sum.elim_inr] at hf
    show ZAt X Q 0 0 82 σ [(0, .ref (X.ad 171)), (1, .int x1), (2, .int x2)] []
    exact z_sub [0, 1, 2] rfl (t_M_isOpen_j82 ok hf hk)
theorem c_M_isOpen {σ : Sg} {x1 : Int32} {x2 : Int32} {r : Bool} (h : M_isOpen σ x1 x2 = some r) : ZcI yX12_isOpen cX12_isOpen 5 .boolean rm_M_isOpen 198 (fun ad => [.ref (ad 171), .int x1, .int x2]) σ (zb r) σ :=
  zmetI pn_12 rfl (fun _ => rfl) (fun _ => Nat.le_of_ble_eq_true rfl) (zb_nar _) (fun X Q ok hk => t_M_isOpen ok h hk)
theorem dX12_takesOf_0 : decode cX12_takesOf 0 = .ok (.aload_n 0, 1) := by decide +kernel
theorem dX12_takesOf_1 : decode cX12_takesOf 1 = .ok (.getfield 23, 3) := by decide +kernel
theorem dX12_takesOf_4 : decode cX12_takesOf 4 = .ok (.iconst 2, 1) := by decide +kernel
theorem dX12_takesOf_5 : decode cX12_takesOf 5 = .ok (.iload_n 1, 1) := by decide +kernel
theorem dX12_takesOf_6 : decode cX12_takesOf 6 = .ok (.imul, 1) := by decide +kernel
theorem dX12_takesOf_7 : decode cX12_takesOf 7 = .ok (.iconst 1, 1) := by decide +kernel
theorem dX12_takesOf_8 : decode cX12_takesOf 8 = .ok (.iadd, 1) := by decide +kernel
theorem dX12_takesOf_9 : decode cX12_takesOf 9 = .ok (.iaload, 1) := by decide +kernel
theorem dX12_takesOf_10 : decode cX12_takesOf 10 = .ok (.ireturn, 1) := by decide +kernel
abbrev rm_M_takesOf : Room := { frames := 0, cells := 0, slots := 0, locals := 0 }
def M_takesOf (σ : Sg) (x1 : Int32) : Option Int32 :=
  zrd σ 173 20 ((2 * x1) + 1) fun v9 =>
  some v9
set_option maxRecDepth 20000 in
theorem t_M_takesOf {X : Zx} {Q : State → Prop} {σ : Sg} {x1 : Int32} (ok : Zok X cX12_takesOf RX12 rm_M_takesOf 198 2)  {out : Int32} (hf : M_takesOf σ x1 = some out) (hk : ZrI cX12_takesOf X Q out σ) : ZAt X Q 0 0 0 σ [(0, .ref (X.ad 171)), (1, .int x1)] [] := by
  unfold M_takesOf at hf
  refine z_aload_n ok dX12_takesOf_0 0 rfl ?_
  refine z_getr (q := 173) ok kc_171 zc_12 hin_12 4 (by decide) fl_12_23 rfl dX12_takesOf_1 ?_
  refine z_iconst (v := 2) ok dX12_takesOf_4 (by decide) ?_
  refine z_iload_n ok dX12_takesOf_5 1 rfl ?_
  refine z_imul ok dX12_takesOf_6 ?_
  refine z_iconst (v := 1) ok dX12_takesOf_7 (by decide) ?_
  refine z_iadd ok dX12_takesOf_8 ?_
  refine z_iald ok kc_173 dX12_takesOf_9 hf (fun v9 hf => ?_)
  obtain rfl := Option.some.inj hf
  exact hk _ _ dX12_takesOf_10
theorem c_M_takesOf {σ : Sg} {x1 : Int32} {r : Int32} (h : M_takesOf σ x1 = some r) : ZcI yX12_takesOf cX12_takesOf 2 .int rm_M_takesOf 198 (fun ad => [.ref (ad 171), .int x1]) σ r σ :=
  zmetI pn_12 rfl (fun _ => rfl) (fun _ => Nat.le_of_ble_eq_true rfl) rfl (fun X Q ok hk => t_M_takesOf ok h hk)
theorem dX12_loadOf_0 : decode cX12_loadOf 0 = .ok (.iconst 0, 1) := by decide +kernel
theorem dX12_loadOf_1 : decode cX12_loadOf 1 = .ok (.istore_n 3, 1) := by decide +kernel
theorem dX12_loadOf_2 : decode cX12_loadOf 2 = .ok (.iconst 0, 1) := by decide +kernel
theorem dX12_loadOf_3 : decode cX12_loadOf 3 = .ok (.istore 4, 2) := by decide +kernel
theorem dX12_loadOf_5 : decode cX12_loadOf 5 = .ok (.iload_n 1, 1) := by decide +kernel
theorem dX12_loadOf_6 : decode cX12_loadOf 6 = .ok (.istore 5, 2) := by decide +kernel
theorem dX12_loadOf_8 : decode cX12_loadOf 8 = .ok (.iload 5, 2) := by decide +kernel
theorem dX12_loadOf_10 : decode cX12_loadOf 10 = .ok (.aload_n 0, 1) := by decide +kernel
theorem dX12_loadOf_11 : decode cX12_loadOf 11 = .ok (.getfield 7, 3) := by decide +kernel
theorem dX12_loadOf_14 : decode cX12_loadOf 14 = .ok (.if_icmp .ge 89, 3) := by decide +kernel
theorem dX12_loadOf_17 : decode cX12_loadOf 17 = .ok (.iload 4, 2) := by decide +kernel
theorem dX12_loadOf_19 : decode cX12_loadOf 19 = .ok (.aload_n 0, 1) := by decide +kernel
theorem dX12_loadOf_20 : decode cX12_loadOf 20 = .ok (.iload 5, 2) := by decide +kernel
theorem dX12_loadOf_22 : decode cX12_loadOf 22 = .ok (.iconst 3, 1) := by decide +kernel
theorem dX12_loadOf_23 : decode cX12_loadOf 23 = .ok (.invokevirtual 251, 3) := by decide +kernel
theorem dX12_loadOf_26 : decode cX12_loadOf 26 = .ok (.iadd, 1) := by decide +kernel
theorem dX12_loadOf_27 : decode cX12_loadOf 27 = .ok (.istore 4, 2) := by decide +kernel
theorem dX12_loadOf_29 : decode cX12_loadOf 29 = .ok (.iload_n 3, 1) := by decide +kernel
theorem dX12_loadOf_30 : decode cX12_loadOf 30 = .ok (.aload_n 0, 1) := by decide +kernel
theorem dX12_loadOf_31 : decode cX12_loadOf 31 = .ok (.getfield 71, 3) := by decide +kernel
theorem dX12_loadOf_34 : decode cX12_loadOf 34 = .ok (.bipush 24, 2) := by decide +kernel
theorem dX12_loadOf_36 : decode cX12_loadOf 36 = .ok (.iload 5, 2) := by decide +kernel
theorem dX12_loadOf_38 : decode cX12_loadOf 38 = .ok (.iadd, 1) := by decide +kernel
theorem dX12_loadOf_39 : decode cX12_loadOf 39 = .ok (.iaload, 1) := by decide +kernel
theorem dX12_loadOf_40 : decode cX12_loadOf 40 = .ok (.iadd, 1) := by decide +kernel
theorem dX12_loadOf_41 : decode cX12_loadOf 41 = .ok (.istore_n 3, 1) := by decide +kernel
theorem dX12_loadOf_42 : decode cX12_loadOf 42 = .ok (.iconst 0, 1) := by decide +kernel
theorem dX12_loadOf_43 : decode cX12_loadOf 43 = .ok (.istore 6, 2) := by decide +kernel
theorem dX12_loadOf_45 : decode cX12_loadOf 45 = .ok (.iload 6, 2) := by decide +kernel
theorem dX12_loadOf_47 : decode cX12_loadOf 47 = .ok (.aload_n 0, 1) := by decide +kernel
theorem dX12_loadOf_48 : decode cX12_loadOf 48 = .ok (.getfield 13, 3) := by decide +kernel
theorem dX12_loadOf_51 : decode cX12_loadOf 51 = .ok (.if_icmp .ge 46, 3) := by decide +kernel
theorem dX12_loadOf_54 : decode cX12_loadOf 54 = .ok (.iload_n 3, 1) := by decide +kernel
theorem dX12_loadOf_55 : decode cX12_loadOf 55 = .ok (.aload_n 0, 1) := by decide +kernel
theorem dX12_loadOf_56 : decode cX12_loadOf 56 = .ok (.iload 6, 2) := by decide +kernel
theorem dX12_loadOf_58 : decode cX12_loadOf 58 = .ok (.invokevirtual 254, 3) := by decide +kernel
theorem dX12_loadOf_61 : decode cX12_loadOf 61 = .ok (.iload 5, 2) := by decide +kernel
theorem dX12_loadOf_63 : decode cX12_loadOf 63 = .ok (.if_icmp .ne 25, 3) := by decide +kernel
theorem dX12_loadOf_66 : decode cX12_loadOf 66 = .ok (.aload_n 0, 1) := by decide +kernel
theorem dX12_loadOf_67 : decode cX12_loadOf 67 = .ok (.iload 6, 2) := by decide +kernel
theorem dX12_loadOf_69 : decode cX12_loadOf 69 = .ok (.iload_n 2, 1) := by decide +kernel
theorem dX12_loadOf_70 : decode cX12_loadOf 70 = .ok (.iload 4, 2) := by decide +kernel
theorem dX12_loadOf_72 : decode cX12_loadOf 72 = .ok (.iadd, 1) := by decide +kernel
theorem dX12_loadOf_73 : decode cX12_loadOf 73 = .ok (.invokevirtual 257, 3) := by decide +kernel
theorem dX12_loadOf_76 : decode cX12_loadOf 76 = .ok (.ifCond .eq 12, 3) := by decide +kernel
theorem dX12_loadOf_79 : decode cX12_loadOf 79 = .ok (.aload_n 0, 1) := by decide +kernel
theorem dX12_loadOf_80 : decode cX12_loadOf 80 = .ok (.iload 6, 2) := by decide +kernel
theorem dX12_loadOf_82 : decode cX12_loadOf 82 = .ok (.invokevirtual 261, 3) := by decide +kernel
theorem dX12_loadOf_85 : decode cX12_loadOf 85 = .ok (.goto 4, 3) := by decide +kernel
theorem dX12_loadOf_88 : decode cX12_loadOf 88 = .ok (.iconst 0, 1) := by decide +kernel
theorem dX12_loadOf_89 : decode cX12_loadOf 89 = .ok (.iadd, 1) := by decide +kernel
theorem dX12_loadOf_90 : decode cX12_loadOf 90 = .ok (.istore_n 3, 1) := by decide +kernel
theorem dX12_loadOf_91 : decode cX12_loadOf 91 = .ok (.iinc 6 1, 3) := by decide +kernel
theorem dX12_loadOf_94 : decode cX12_loadOf 94 = .ok (.goto (-49), 3) := by decide +kernel
theorem dX12_loadOf_97 : decode cX12_loadOf 97 = .ok (.iinc 5 1, 3) := by decide +kernel
theorem dX12_loadOf_100 : decode cX12_loadOf 100 = .ok (.goto (-92), 3) := by decide +kernel
theorem dX12_loadOf_103 : decode cX12_loadOf 103 = .ok (.iload_n 3, 1) := by decide +kernel
theorem dX12_loadOf_104 : decode cX12_loadOf 104 = .ok (.ireturn, 1) := by decide +kernel
abbrev rm_M_loadOf : Room := { frames := 2, cells := 0, slots := 0, locals := 46 }
def M_loadOf_l45 (σ : Sg) (x2 : Int32) (x3 : Int32) (x4 : Int32) (x5 : Int32) (x6 : Int32) : Option ((Int32 × Int32) ⊕ (Int32 × Int32)) :=
  zgt σ 171 1 fun v48 =>
  if v48 ≤ x6 then (
    some (.inr (x3, x6))
  ) else (
    (M_poolOf σ x6).bind fun r58 =>
    if r58 = x5 then (
      (M_isOpen σ x6 (x2 + x4)).bind fun r73 =>
      if (zb r73) = 0 then (
        zlt (x3 + 0) fun v90 =>
        zlt (x6 + 1) fun v91 =>
        some (.inl (v90, v91))
      ) else (
        (M_takesOf σ x6).bind fun r82 =>
        zlt (x3 + r82) fun v90 =>
        zlt (x6 + 1) fun v91 =>
        some (.inl (v90, v91))
      )
    ) else (
      zlt (x3 + 0) fun v90 =>
      zlt (x6 + 1) fun v91 =>
      some (.inl (v90, v91))
    )
  )
set_option maxRecDepth 20000 in
theorem t_M_loadOf_l45 {X : Zx} {Q : State → Prop} {σ : Sg} {x2 : Int32} {x3 : Int32} {x4 : Int32} {x5 : Int32} {x6 : Int32} (ok : Zok X cX12_loadOf RX12 rm_M_loadOf 198 7)  {out : ((Int32 × Int32) ⊕ (Int32 × Int32))} (hf : M_loadOf_l45 σ x2 x3 x4 x5 x6 = some out) (hk : zout (fun (s : (Int32 × Int32)) => ZAt X Q 0 0 45 σ [(0, .ref (X.ad 171)), (2, .int x2), (3, .int s.1), (4, .int x4), (5, .int x5), (6, .int s.2)] []) (fun (s : (Int32 × Int32)) => ZAt X Q 0 0 97 σ [(0, .ref (X.ad 171)), (2, .int x2), (3, .int s.1), (4, .int x4), (5, .int x5)] []) out) : ZAt X Q 0 0 45 σ [(0, .ref (X.ad 171)), (2, .int x2), (3, .int x3), (4, .int x4), (5, .int x5), (6, .int x6)] [] := by
  unfold M_loadOf_l45 at hf
  refine z_iload ok dX12_loadOf_45 5 rfl ?_
  refine z_aload_n ok dX12_loadOf_47 0 rfl ?_
  refine z_geti ok kc_171 zc_12 hin_12 1 (by decide) fl_12_13 rfl dX12_loadOf_48 hf (fun v48 hf => ?_)
  refine z_icmp_ge (tgt := 97) ok dX12_loadOf_51 (by decide) hf (fun _ hf => ?_) (fun _ hf => ?_)
  · obtain rfl := Option.some.inj hf
    exact z_sub [0, 1, 2, 3, 4] rfl hk
  · refine z_iload_n ok dX12_loadOf_54 2 rfl ?_
    refine z_aload_n ok dX12_loadOf_55 0 rfl ?_
    refine z_iload ok dX12_loadOf_56 5 rfl ?_
    refine z_call hf (fun r58 h58 hf => ?_)
    refine z_cV (As := [.int x6]) (rest := [.int x3]) (w := 171) ok kc_171 zc_12 (c_M_poolOf h58) rfl ⟨ml_12_254, w_M_poolOf⟩ hy_M_poolOf ⟨rfl, rfl⟩ ⟨Nat.le_of_ble_eq_true rfl, Nat.le_of_ble_eq_true rfl⟩ ⟨Nat.zero_le _, Nat.zero_le _⟩ rfl (Nat.le_of_ble_eq_true rfl) dX12_loadOf_58 ?_
    refine z_iload ok dX12_loadOf_61 4 rfl ?_
    refine z_icmp_ne (tgt := 88) ok dX12_loadOf_63 (by decide) hf (fun _ hf => ?_) (fun _ hf => ?_)
    · refine z_aload_n ok dX12_loadOf_66 0 rfl ?_
      refine z_iload ok dX12_loadOf_67 5 rfl ?_
      refine z_iload_n ok dX12_loadOf_69 1 rfl ?_
      refine z_iload ok dX12_loadOf_70 3 rfl ?_
      refine z_iadd ok dX12_loadOf_72 ?_
      refine z_call hf (fun r73 h73 hf => ?_)
      refine z_cV (As := [.int x6, .int (x2 + x4)]) (rest := [.int x3]) (w := 171) ok kc_171 zc_12 (c_M_isOpen h73) rfl ⟨ml_12_257, w_M_isOpen⟩ hy_M_isOpen ⟨rfl, rfl⟩ ⟨Nat.le_of_ble_eq_true rfl, Nat.le_of_ble_eq_true rfl⟩ ⟨Nat.zero_le _, Nat.zero_le _⟩ rfl (Nat.le_of_ble_eq_true rfl) dX12_loadOf_73 ?_
      refine z_if_eq (tgt := 88) ok dX12_loadOf_76 (by decide) hf (fun _ hf => ?_) (fun _ hf => ?_)
      · refine z_iconst (v := 0) ok dX12_loadOf_88 (by decide) ?_
        refine z_iadd ok dX12_loadOf_89 ?_
        refine z_nm hf (fun v90 hf => ?_)
        refine z_istore_n (lv' := [(3, .int v90), (0, .ref (X.ad 171)), (2, .int x2), (4, .int x4), (5, .int x5), (6, .int x6)]) ok dX12_loadOf_90 (by decide) rfl ?_
        refine z_iinc (w := 1) (lv' := fun v91 => [(6, .int v91), (3, .int v90), (0, .ref (X.ad 171)), (2, .int x2), (4, .int x4), (5, .int x5)]) ok dX12_loadOf_91 5 rfl (by decide) (by decide) (fun _ => rfl) hf (fun v91 hf => ?_)
        refine z_goto (tgt := 45) ok dX12_loadOf_94 (by decide) ?_
        obtain rfl := Option.some.inj hf
        exact z_sub [2, 3, 1, 4, 5, 0] rfl hk
      · refine z_aload_n ok dX12_loadOf_79 0 rfl ?_
        refine z_iload ok dX12_loadOf_80 5 rfl ?_
        refine z_call hf (fun r82 h82 hf => ?_)
        refine z_cV (As := [.int x6]) (rest := [.int x3]) (w := 171) ok kc_171 zc_12 (c_M_takesOf h82) rfl ⟨ml_12_261, w_M_takesOf⟩ hy_M_takesOf ⟨rfl, rfl⟩ ⟨Nat.le_of_ble_eq_true rfl, Nat.le_of_ble_eq_true rfl⟩ ⟨Nat.zero_le _, Nat.zero_le _⟩ rfl (Nat.le_of_ble_eq_true rfl) dX12_loadOf_82 ?_
        refine z_goto (tgt := 89) ok dX12_loadOf_85 (by decide) ?_
        refine z_iadd ok dX12_loadOf_89 ?_
        refine z_nm hf (fun v90 hf => ?_)
        refine z_istore_n (lv' := [(3, .int v90), (0, .ref (X.ad 171)), (2, .int x2), (4, .int x4), (5, .int x5), (6, .int x6)]) ok dX12_loadOf_90 (by decide) rfl ?_
        refine z_iinc (w := 1) (lv' := fun v91 => [(6, .int v91), (3, .int v90), (0, .ref (X.ad 171)), (2, .int x2), (4, .int x4), (5, .int x5)]) ok dX12_loadOf_91 5 rfl (by decide) (by decide) (fun _ => rfl) hf (fun v91 hf => ?_)
        refine z_goto (tgt := 45) ok dX12_loadOf_94 (by decide) ?_
        obtain rfl := Option.some.inj hf
        exact z_sub [2, 3, 1, 4, 5, 0] rfl hk
    · refine z_iconst (v := 0) ok dX12_loadOf_88 (by decide) ?_
      refine z_iadd ok dX12_loadOf_89 ?_
      refine z_nm hf (fun v90 hf => ?_)
      refine z_istore_n (lv' := [(3, .int v90), (0, .ref (X.ad 171)), (2, .int x2), (4, .int x4), (5, .int x5), (6, .int x6)]) ok dX12_loadOf_90 (by decide) rfl ?_
      refine z_iinc (w := 1) (lv' := fun v91 => [(6, .int v91), (3, .int v90), (0, .ref (X.ad 171)), (2, .int x2), (4, .int x4), (5, .int x5)]) ok dX12_loadOf_91 5 rfl (by decide) (by decide) (fun _ => rfl) hf (fun v91 hf => ?_)
      refine z_goto (tgt := 45) ok dX12_loadOf_94 (by decide) ?_
      obtain rfl := Option.some.inj hf
      exact z_sub [2, 3, 1, 4, 5, 0] rfl hk
def M_loadOf_l8 (σ : Sg) (x2 : Int32) (x3 : Int32) (x4 : Int32) (x5 : Int32) : Option ((Int32 × Int32 × Int32) ⊕ (Int32 × Int32 × Int32)) :=
  zgt σ 171 0 fun v11 =>
  if v11 ≤ x5 then (
    some (.inr (x3, x4, x5))
  ) else (
    (M_toldOf σ x5 3).bind fun r23 =>
    zlt (x4 + r23) fun v27 =>
    zrd σ 183 1607 (24 + x5) fun v39 =>
    zlt (x3 + v39) fun v41 =>
    zlt 0 fun v43 =>
    (zit (fun (s : (Int32 × Int32)) => M_loadOf_l45 σ x2 s.1 v27 x5 s.2) zFU (v41, v43)).bind fun r =>
    zlt (x5 + 1) fun v97 =>
    some (.inl (r.1, v27, v97))
  )
set_option maxRecDepth 20000 in
theorem t_M_loadOf_l8 {X : Zx} {Q : State → Prop} {σ : Sg} {x2 : Int32} {x3 : Int32} {x4 : Int32} {x5 : Int32} (ok : Zok X cX12_loadOf RX12 rm_M_loadOf 198 7)  {out : ((Int32 × Int32 × Int32) ⊕ (Int32 × Int32 × Int32))} (hf : M_loadOf_l8 σ x2 x3 x4 x5 = some out) (hk : zout (fun (s : (Int32 × Int32 × Int32)) => ZAt X Q 0 0 8 σ [(0, .ref (X.ad 171)), (2, .int x2), (3, .int s.1), (4, .int s.2.1), (5, .int s.2.2)] []) (fun (s : (Int32 × Int32 × Int32)) => ZAt X Q 0 0 103 σ [(3, .int s.1)] []) out) : ZAt X Q 0 0 8 σ [(0, .ref (X.ad 171)), (2, .int x2), (3, .int x3), (4, .int x4), (5, .int x5)] [] := by
  unfold M_loadOf_l8 at hf
  refine z_iload ok dX12_loadOf_8 4 rfl ?_
  refine z_aload_n ok dX12_loadOf_10 0 rfl ?_
  refine z_geti ok kc_171 zc_12 hin_12 0 (by decide) fl_12_7 rfl dX12_loadOf_11 hf (fun v11 hf => ?_)
  refine z_icmp_ge (tgt := 103) ok dX12_loadOf_14 (by decide) hf (fun _ hf => ?_) (fun _ hf => ?_)
  · obtain rfl := Option.some.inj hf
    exact z_sub [2] rfl hk
  · refine z_iload ok dX12_loadOf_17 3 rfl ?_
    refine z_aload_n ok dX12_loadOf_19 0 rfl ?_
    refine z_iload ok dX12_loadOf_20 4 rfl ?_
    refine z_iconst (v := 3) ok dX12_loadOf_22 (by decide) ?_
    refine z_call hf (fun r23 h23 hf => ?_)
    refine z_cV (As := [.int x5, .int 3]) (rest := [.int x4]) (w := 171) ok kc_171 zc_12 (c_M_toldOf h23) rfl ⟨ml_12_251, w_M_toldOf⟩ hy_M_toldOf ⟨rfl, rfl⟩ ⟨Nat.le_of_ble_eq_true rfl, Nat.le_of_ble_eq_true rfl⟩ ⟨Nat.zero_le _, Nat.zero_le _⟩ rfl (Nat.le_of_ble_eq_true rfl) dX12_loadOf_23 ?_
    refine z_iadd ok dX12_loadOf_26 ?_
    refine z_nm hf (fun v27 hf => ?_)
    refine z_istore (lv' := [(4, .int v27), (0, .ref (X.ad 171)), (2, .int x2), (3, .int x3), (5, .int x5)]) ok dX12_loadOf_27 (by decide) rfl ?_
    refine z_iload_n ok dX12_loadOf_29 3 rfl ?_
    refine z_aload_n ok dX12_loadOf_30 1 rfl ?_
    refine z_getr (q := 183) ok kc_171 zc_12 hin_12 20 (by decide) fl_12_71 rfl dX12_loadOf_31 ?_
    refine z_bipush (v := 24) ok dX12_loadOf_34 (by decide) ?_
    refine z_iload ok dX12_loadOf_36 4 rfl ?_
    refine z_iadd ok dX12_loadOf_38 ?_
    refine z_iald ok kc_183 dX12_loadOf_39 hf (fun v39 hf => ?_)
    refine z_iadd ok dX12_loadOf_40 ?_
    refine z_nm hf (fun v41 hf => ?_)
    refine z_istore_n (lv' := [(3, .int v41), (4, .int v27), (0, .ref (X.ad 171)), (2, .int x2), (5, .int x5)]) ok dX12_loadOf_41 (by decide) rfl ?_
    refine z_iconst (v := 0) ok dX12_loadOf_42 (by decide) ?_
    refine z_nm hf (fun v43 hf => ?_)
    refine z_istore (lv' := [(6, .int v43), (3, .int v41), (4, .int v27), (0, .ref (X.ad 171)), (2, .int x2), (5, .int x5)]) ok dX12_loadOf_43 (by decide) rfl ?_
    refine z_call hf (fun r hr hf => ?_)
    refine z_sub [3, 4, 1, 2, 5, 0] rfl (z_iter (fun (s : (Int32 × Int32)) => σ) (fun (s : (Int32 × Int32)) => [(0, .ref (X.ad 171)), (2, .int x2), (3, .int s.1), (4, .int v27), (5, .int x5), (6, .int s.2)]) (fun s o h1 h2 => t_M_loadOf_l45 ok h1 h2) _ _ _ hr ?_)
    show ZAt X Q 0 0 97 σ [(0, .ref (X.ad 171)), (2, .int x2), (3, .int r.1), (4, .int v27), (5, .int x5)] []
    refine z_iinc (w := 1) (lv' := fun v97 => [(5, .int v97), (0, .ref (X.ad 171)), (2, .int x2), (3, .int r.1), (4, .int v27)]) ok dX12_loadOf_97 4 rfl (by decide) (by decide) (fun _ => rfl) hf (fun v97 hf => ?_)
    refine z_goto (tgt := 8) ok dX12_loadOf_100 (by decide) ?_
    obtain rfl := Option.some.inj hf
    exact z_sub [1, 2, 3, 4, 0] rfl hk
def M_loadOf (σ : Sg) (x1 : Int32) (x2 : Int32) : Option Int32 :=
  zlt 0 fun v1 =>
  zlt 0 fun v3 =>
  (zit (fun (s : (Int32 × Int32 × Int32)) => M_loadOf_l8 σ x2 s.1 s.2.1 s.2.2) zFU (v1, v3, x1)).bind fun r =>
  some r.1
set_option maxRecDepth 20000 in
theorem t_M_loadOf {X : Zx} {Q : State → Prop} {σ : Sg} {x1 : Int32} {x2 : Int32} (ok : Zok X cX12_loadOf RX12 rm_M_loadOf 198 7)  {out : Int32} (hf : M_loadOf σ x1 x2 = some out) (hk : ZrI cX12_loadOf X Q out σ) : ZAt X Q 0 0 0 σ [(0, .ref (X.ad 171)), (1, .int x1), (2, .int x2)] [] := by
  unfold M_loadOf at hf
  refine z_iconst (v := 0) ok dX12_loadOf_0 (by decide) ?_
  refine z_nm hf (fun v1 hf => ?_)
  refine z_istore_n (lv' := [(3, .int v1), (0, .ref (X.ad 171)), (1, .int x1), (2, .int x2)]) ok dX12_loadOf_1 (by decide) rfl ?_
  refine z_iconst (v := 0) ok dX12_loadOf_2 (by decide) ?_
  refine z_nm hf (fun v3 hf => ?_)
  refine z_istore (lv' := [(4, .int v3), (3, .int v1), (0, .ref (X.ad 171)), (1, .int x1), (2, .int x2)]) ok dX12_loadOf_3 (by decide) rfl ?_
  refine z_iload_n ok dX12_loadOf_5 3 rfl ?_
  refine z_istore (lv' := [(5, .int x1), (4, .int v3), (3, .int v1), (0, .ref (X.ad 171)), (1, .int x1), (2, .int x2)]) ok dX12_loadOf_6 (by decide) rfl ?_
  refine z_call hf (fun r hr hf => ?_)
  refine z_sub [3, 5, 2, 1, 0] rfl (z_iter (fun (s : (Int32 × Int32 × Int32)) => σ) (fun (s : (Int32 × Int32 × Int32)) => [(0, .ref (X.ad 171)), (2, .int x2), (3, .int s.1), (4, .int s.2.1), (5, .int s.2.2)]) (fun s o h1 h2 => t_M_loadOf_l8 ok h1 h2) _ _ _ hr ?_)
  show ZAt X Q 0 0 103 σ [(3, .int r.1)] []
  refine z_iload_n ok dX12_loadOf_103 0 rfl ?_
  obtain rfl := Option.some.inj hf
  exact hk _ _ dX12_loadOf_104
theorem c_M_loadOf {σ : Sg} {x1 : Int32} {x2 : Int32} {r : Int32} (h : M_loadOf σ x1 x2 = some r) : ZcI yX12_loadOf cX12_loadOf 7 .int rm_M_loadOf 198 (fun ad => [.ref (ad 171), .int x1, .int x2]) σ r σ :=
  zmetI pn_12 rfl (fun _ => rfl) (fun _ => Nat.le_of_ble_eq_true rfl) rfl (fun X Q ok hk => t_M_loadOf ok h hk)
theorem dX12_wished_0 : decode cX12_wished 0 = .ok (.aload_n 0, 1) := by decide +kernel
theorem dX12_wished_1 : decode cX12_wished 1 = .ok (.getfield 71, 3) := by decide +kernel
theorem dX12_wished_4 : decode cX12_wished 4 = .ok (.bipush 16, 2) := by decide +kernel
theorem dX12_wished_6 : decode cX12_wished 6 = .ok (.iload_n 1, 1) := by decide +kernel
theorem dX12_wished_7 : decode cX12_wished 7 = .ok (.iadd, 1) := by decide +kernel
theorem dX12_wished_8 : decode cX12_wished 8 = .ok (.iaload, 1) := by decide +kernel
theorem dX12_wished_9 : decode cX12_wished 9 = .ok (.iconst (-1), 1) := by decide +kernel
theorem dX12_wished_10 : decode cX12_wished 10 = .ok (.if_icmp .eq 15, 3) := by decide +kernel
theorem dX12_wished_13 : decode cX12_wished 13 = .ok (.aload_n 0, 1) := by decide +kernel
theorem dX12_wished_14 : decode cX12_wished 14 = .ok (.getfield 71, 3) := by decide +kernel
theorem dX12_wished_17 : decode cX12_wished 17 = .ok (.bipush 16, 2) := by decide +kernel
theorem dX12_wished_19 : decode cX12_wished 19 = .ok (.iload_n 1, 1) := by decide +kernel
theorem dX12_wished_20 : decode cX12_wished 20 = .ok (.iadd, 1) := by decide +kernel
theorem dX12_wished_21 : decode cX12_wished 21 = .ok (.iaload, 1) := by decide +kernel
theorem dX12_wished_22 : decode cX12_wished 22 = .ok (.goto 33, 3) := by decide +kernel
theorem dX12_wished_25 : decode cX12_wished 25 = .ok (.aload_n 0, 1) := by decide +kernel
theorem dX12_wished_26 : decode cX12_wished 26 = .ok (.iload_n 1, 1) := by decide +kernel
theorem dX12_wished_27 : decode cX12_wished 27 = .ok (.iload_n 2, 1) := by decide +kernel
theorem dX12_wished_28 : decode cX12_wished 28 = .ok (.invokevirtual 264, 3) := by decide +kernel
theorem dX12_wished_31 : decode cX12_wished 31 = .ok (.aload_n 0, 1) := by decide +kernel
theorem dX12_wished_32 : decode cX12_wished 32 = .ok (.iload_n 1, 1) := by decide +kernel
theorem dX12_wished_33 : decode cX12_wished 33 = .ok (.invokevirtual 267, 3) := by decide +kernel
theorem dX12_wished_36 : decode cX12_wished 36 = .ok (.aload_n 0, 1) := by decide +kernel
theorem dX12_wished_37 : decode cX12_wished 37 = .ok (.getfield 71, 3) := by decide +kernel
theorem dX12_wished_40 : decode cX12_wished 40 = .ok (.iconst 0, 1) := by decide +kernel
theorem dX12_wished_41 : decode cX12_wished 41 = .ok (.iload_n 1, 1) := by decide +kernel
theorem dX12_wished_42 : decode cX12_wished 42 = .ok (.iadd, 1) := by decide +kernel
theorem dX12_wished_43 : decode cX12_wished 43 = .ok (.iaload, 1) := by decide +kernel
theorem dX12_wished_44 : decode cX12_wished 44 = .ok (.isub, 1) := by decide +kernel
theorem dX12_wished_45 : decode cX12_wished 45 = .ok (.aload_n 0, 1) := by decide +kernel
theorem dX12_wished_46 : decode cX12_wished 46 = .ok (.getfield 71, 3) := by decide +kernel
theorem dX12_wished_49 : decode cX12_wished 49 = .ok (.sipush 198, 3) := by decide +kernel
theorem dX12_wished_52 : decode cX12_wished 52 = .ok (.iaload, 1) := by decide +kernel
theorem dX12_wished_53 : decode cX12_wished 53 = .ok (.idiv, 1) := by decide +kernel
theorem dX12_wished_54 : decode cX12_wished 54 = .ok (.iadd, 1) := by decide +kernel
theorem dX12_wished_55 : decode cX12_wished 55 = .ok (.ireturn, 1) := by decide +kernel
abbrev rm_M_wished : Room := { frames := 3, cells := 0, slots := 0, locals := 72 }
def M_wished (σ : Sg) (x1 : Int32) (x2 : Int32) : Option Int32 :=
  zrd σ 183 1607 (16 + x1) fun v8 =>
  if v8 = (-1) then (
    (M_loadOf σ x1 x2).bind fun r28 =>
    (M_middleOf σ x1).bind fun r33 =>
    zrd σ 183 1607 (0 + x1) fun v43 =>
    zrd σ 183 1607 198 fun v52 =>
    znz v52 <|
    some (r28 + ((r33 - v43) / v52))
  ) else (
    zrd σ 183 1607 (16 + x1) fun v21 =>
    some v21
  )
set_option maxRecDepth 20000 in
theorem t_M_wished {X : Zx} {Q : State → Prop} {σ : Sg} {x1 : Int32} {x2 : Int32} (ok : Zok X cX12_wished RX12 rm_M_wished 198 3)  {out : Int32} (hf : M_wished σ x1 x2 = some out) (hk : ZrI cX12_wished X Q out σ) : ZAt X Q 0 0 0 σ [(0, .ref (X.ad 171)), (1, .int x1), (2, .int x2)] [] := by
  unfold M_wished at hf
  refine z_aload_n ok dX12_wished_0 0 rfl ?_
  refine z_getr (q := 183) ok kc_171 zc_12 hin_12 20 (by decide) fl_12_71 rfl dX12_wished_1 ?_
  refine z_bipush (v := 16) ok dX12_wished_4 (by decide) ?_
  refine z_iload_n ok dX12_wished_6 1 rfl ?_
  refine z_iadd ok dX12_wished_7 ?_
  refine z_iald ok kc_183 dX12_wished_8 hf (fun v8 hf => ?_)
  refine z_iconst (v := (-1)) ok dX12_wished_9 (by decide) ?_
  refine z_icmp_eq (tgt := 25) ok dX12_wished_10 (by decide) hf (fun _ hf => ?_) (fun _ hf => ?_)
  · refine z_aload_n ok dX12_wished_25 0 rfl ?_
    refine z_iload_n ok dX12_wished_26 1 rfl ?_
    refine z_iload_n ok dX12_wished_27 2 rfl ?_
    refine z_call hf (fun r28 h28 hf => ?_)
    refine z_cV (As := [.int x1, .int x2]) (rest := []) (w := 171) ok kc_171 zc_12 (c_M_loadOf h28) rfl ⟨ml_12_264, w_M_loadOf⟩ hy_M_loadOf ⟨rfl, rfl⟩ ⟨Nat.le_of_ble_eq_true rfl, Nat.le_of_ble_eq_true rfl⟩ ⟨Nat.zero_le _, Nat.zero_le _⟩ rfl (Nat.le_of_ble_eq_true rfl) dX12_wished_28 ?_
    refine z_aload_n ok dX12_wished_31 0 rfl ?_
    refine z_iload_n ok dX12_wished_32 1 rfl ?_
    refine z_call hf (fun r33 h33 hf => ?_)
    refine z_cV (As := [.int x1]) (rest := [.int r28]) (w := 171) ok kc_171 zc_12 (c_M_middleOf h33) rfl ⟨ml_12_267, w_M_middleOf⟩ hy_M_middleOf ⟨rfl, rfl⟩ ⟨Nat.le_of_ble_eq_true rfl, Nat.le_of_ble_eq_true rfl⟩ ⟨Nat.zero_le _, Nat.zero_le _⟩ rfl (Nat.le_of_ble_eq_true rfl) dX12_wished_33 ?_
    refine z_aload_n ok dX12_wished_36 0 rfl ?_
    refine z_getr (q := 183) ok kc_171 zc_12 hin_12 20 (by decide) fl_12_71 rfl dX12_wished_37 ?_
    refine z_iconst (v := 0) ok dX12_wished_40 (by decide) ?_
    refine z_iload_n ok dX12_wished_41 1 rfl ?_
    refine z_iadd ok dX12_wished_42 ?_
    refine z_iald ok kc_183 dX12_wished_43 hf (fun v43 hf => ?_)
    refine z_isub ok dX12_wished_44 ?_
    refine z_aload_n ok dX12_wished_45 0 rfl ?_
    refine z_getr (q := 183) ok kc_171 zc_12 hin_12 20 (by decide) fl_12_71 rfl dX12_wished_46 ?_
    refine z_sipush (v := 198) ok dX12_wished_49 (by decide) ?_
    refine z_iald ok kc_183 dX12_wished_52 hf (fun v52 hf => ?_)
    refine z_idiv ok dX12_wished_53 hf (fun hf => ?_)
    refine z_iadd ok dX12_wished_54 ?_
    obtain rfl := Option.some.inj hf
    exact hk _ _ dX12_wished_55
  · refine z_aload_n ok dX12_wished_13 0 rfl ?_
    refine z_getr (q := 183) ok kc_171 zc_12 hin_12 20 (by decide) fl_12_71 rfl dX12_wished_14 ?_
    refine z_bipush (v := 16) ok dX12_wished_17 (by decide) ?_
    refine z_iload_n ok dX12_wished_19 1 rfl ?_
    refine z_iadd ok dX12_wished_20 ?_
    refine z_iald ok kc_183 dX12_wished_21 hf (fun v21 hf => ?_)
    refine z_goto (tgt := 55) ok dX12_wished_22 (by decide) ?_
    obtain rfl := Option.some.inj hf
    exact hk _ _ dX12_wished_55
theorem c_M_wished {σ : Sg} {x1 : Int32} {x2 : Int32} {r : Int32} (h : M_wished σ x1 x2 = some r) : ZcI yX12_wished cX12_wished 3 .int rm_M_wished 198 (fun ad => [.ref (ad 171), .int x1, .int x2]) σ r σ :=
  zmetI pn_12 rfl (fun _ => rfl) (fun _ => Nat.le_of_ble_eq_true rfl) rfl (fun X Q ok hk => t_M_wished ok h hk)
theorem dX12_lesser_0 : decode cX12_lesser 0 = .ok (.iload_n 0, 1) := by decide +kernel
theorem dX12_lesser_1 : decode cX12_lesser 1 = .ok (.iload_n 1, 1) := by decide +kernel
theorem dX12_lesser_2 : decode cX12_lesser 2 = .ok (.if_icmp .ge 7, 3) := by decide +kernel
theorem dX12_lesser_5 : decode cX12_lesser 5 = .ok (.iload_n 0, 1) := by decide +kernel
theorem dX12_lesser_6 : decode cX12_lesser 6 = .ok (.goto 4, 3) := by decide +kernel
theorem dX12_lesser_9 : decode cX12_lesser 9 = .ok (.iload_n 1, 1) := by decide +kernel
theorem dX12_lesser_10 : decode cX12_lesser 10 = .ok (.ireturn, 1) := by decide +kernel
abbrev rm_M_lesser : Room := { frames := 0, cells := 0, slots := 0, locals := 0 }
def M_lesser (x0 : Int32) (x1 : Int32) : Option Int32 :=
  if x1 ≤ x0 then (
    some x1
  ) else (
    some x0
  )
set_option maxRecDepth 20000 in
theorem t_M_lesser {X : Zx} {Q : State → Prop} {σ : Sg} {x0 : Int32} {x1 : Int32} (ok : Zok X cX12_lesser RX12 rm_M_lesser 198 2)  {out : Int32} (hf : M_lesser x0 x1 = some out) (hk : ZrI cX12_lesser X Q out σ) : ZAt X Q 0 0 0 σ [(0, .int x0), (1, .int x1)] [] := by
  unfold M_lesser at hf
  refine z_iload_n ok dX12_lesser_0 0 rfl ?_
  refine z_iload_n ok dX12_lesser_1 1 rfl ?_
  refine z_icmp_ge (tgt := 9) ok dX12_lesser_2 (by decide) hf (fun _ hf => ?_) (fun _ hf => ?_)
  · refine z_iload_n ok dX12_lesser_9 1 rfl ?_
    obtain rfl := Option.some.inj hf
    exact hk _ _ dX12_lesser_10
  · refine z_iload_n ok dX12_lesser_5 0 rfl ?_
    refine z_goto (tgt := 10) ok dX12_lesser_6 (by decide) ?_
    obtain rfl := Option.some.inj hf
    exact hk _ _ dX12_lesser_10
theorem c_M_lesser {σ : Sg} {x0 : Int32} {x1 : Int32} {r : Int32} (h : M_lesser x0 x1 = some r) : ZcI yX12_lesser cX12_lesser 2 .int rm_M_lesser 198 (fun ad => [.int x0, .int x1]) σ r σ :=
  zmetI pn_12 rfl (fun _ => rfl) (fun _ => Nat.le_of_ble_eq_true rfl) rfl (fun X Q ok hk => t_M_lesser ok h hk)
theorem dX12_greater_0 : decode cX12_greater 0 = .ok (.iload_n 0, 1) := by decide +kernel
theorem dX12_greater_1 : decode cX12_greater 1 = .ok (.iload_n 1, 1) := by decide +kernel
theorem dX12_greater_2 : decode cX12_greater 2 = .ok (.if_icmp .le 7, 3) := by decide +kernel
theorem dX12_greater_5 : decode cX12_greater 5 = .ok (.iload_n 0, 1) := by decide +kernel
theorem dX12_greater_6 : decode cX12_greater 6 = .ok (.goto 4, 3) := by decide +kernel
theorem dX12_greater_9 : decode cX12_greater 9 = .ok (.iload_n 1, 1) := by decide +kernel
theorem dX12_greater_10 : decode cX12_greater 10 = .ok (.ireturn, 1) := by decide +kernel
abbrev rm_M_greater : Room := { frames := 0, cells := 0, slots := 0, locals := 0 }
def M_greater (x0 : Int32) (x1 : Int32) : Option Int32 :=
  if x0 ≤ x1 then (
    some x1
  ) else (
    some x0
  )
set_option maxRecDepth 20000 in
theorem t_M_greater {X : Zx} {Q : State → Prop} {σ : Sg} {x0 : Int32} {x1 : Int32} (ok : Zok X cX12_greater RX12 rm_M_greater 198 2)  {out : Int32} (hf : M_greater x0 x1 = some out) (hk : ZrI cX12_greater X Q out σ) : ZAt X Q 0 0 0 σ [(0, .int x0), (1, .int x1)] [] := by
  unfold M_greater at hf
  refine z_iload_n ok dX12_greater_0 0 rfl ?_
  refine z_iload_n ok dX12_greater_1 1 rfl ?_
  refine z_icmp_le (tgt := 9) ok dX12_greater_2 (by decide) hf (fun _ hf => ?_) (fun _ hf => ?_)
  · refine z_iload_n ok dX12_greater_9 1 rfl ?_
    obtain rfl := Option.some.inj hf
    exact hk _ _ dX12_greater_10
  · refine z_iload_n ok dX12_greater_5 0 rfl ?_
    refine z_goto (tgt := 10) ok dX12_greater_6 (by decide) ?_
    obtain rfl := Option.some.inj hf
    exact hk _ _ dX12_greater_10
theorem c_M_greater {σ : Sg} {x0 : Int32} {x1 : Int32} {r : Int32} (h : M_greater x0 x1 = some r) : ZcI yX12_greater cX12_greater 2 .int rm_M_greater 198 (fun ad => [.int x0, .int x1]) σ r σ :=
  zmetI pn_12 rfl (fun _ => rfl) (fun _ => Nat.le_of_ble_eq_true rfl) rfl (fun X Q ok hk => t_M_greater ok h hk)
theorem dX12_wanted_0 : decode cX12_wanted 0 = .ok (.iconst 0, 1) := by decide +kernel
theorem dX12_wanted_1 : decode cX12_wanted 1 = .ok (.aload_n 0, 1) := by decide +kernel
theorem dX12_wanted_2 : decode cX12_wanted 2 = .ok (.iload_n 1, 1) := by decide +kernel
theorem dX12_wanted_3 : decode cX12_wanted 3 = .ok (.iconst 4, 1) := by decide +kernel
theorem dX12_wanted_4 : decode cX12_wanted 4 = .ok (.invokevirtual 251, 3) := by decide +kernel
theorem dX12_wanted_7 : decode cX12_wanted 7 = .ok (.aload_n 0, 1) := by decide +kernel
theorem dX12_wanted_8 : decode cX12_wanted 8 = .ok (.iload_n 1, 1) := by decide +kernel
theorem dX12_wanted_9 : decode cX12_wanted 9 = .ok (.iload_n 2, 1) := by decide +kernel
theorem dX12_wanted_10 : decode cX12_wanted 10 = .ok (.invokevirtual 270, 3) := by decide +kernel
theorem dX12_wanted_13 : decode cX12_wanted 13 = .ok (.invokestatic 273, 3) := by decide +kernel
theorem dX12_wanted_16 : decode cX12_wanted 16 = .ok (.invokestatic 276, 3) := by decide +kernel
theorem dX12_wanted_19 : decode cX12_wanted 19 = .ok (.ireturn, 1) := by decide +kernel
abbrev rm_M_wanted : Room := { frames := 4, cells := 0, slots := 0, locals := 94 }
def M_wanted (σ : Sg) (x1 : Int32) (x2 : Int32) : Option Int32 :=
  (M_toldOf σ x1 4).bind fun r4 =>
  (M_wished σ x1 x2).bind fun r10 =>
  (M_lesser r4 r10).bind fun r13 =>
  (M_greater 0 r13).bind fun r16 =>
  some r16
set_option maxRecDepth 20000 in
theorem t_M_wanted {X : Zx} {Q : State → Prop} {σ : Sg} {x1 : Int32} {x2 : Int32} (ok : Zok X cX12_wanted RX12 rm_M_wanted 198 3)  {out : Int32} (hf : M_wanted σ x1 x2 = some out) (hk : ZrI cX12_wanted X Q out σ) : ZAt X Q 0 0 0 σ [(0, .ref (X.ad 171)), (1, .int x1), (2, .int x2)] [] := by
  unfold M_wanted at hf
  refine z_iconst (v := 0) ok dX12_wanted_0 (by decide) ?_
  refine z_aload_n ok dX12_wanted_1 0 rfl ?_
  refine z_iload_n ok dX12_wanted_2 1 rfl ?_
  refine z_iconst (v := 4) ok dX12_wanted_3 (by decide) ?_
  refine z_call hf (fun r4 h4 hf => ?_)
  refine z_cV (As := [.int x1, .int 4]) (rest := [.int 0]) (w := 171) ok kc_171 zc_12 (c_M_toldOf h4) rfl ⟨ml_12_251, w_M_toldOf⟩ hy_M_toldOf ⟨rfl, rfl⟩ ⟨Nat.le_of_ble_eq_true rfl, Nat.le_of_ble_eq_true rfl⟩ ⟨Nat.zero_le _, Nat.zero_le _⟩ rfl (Nat.le_of_ble_eq_true rfl) dX12_wanted_4 ?_
  refine z_aload_n ok dX12_wanted_7 0 rfl ?_
  refine z_iload_n ok dX12_wanted_8 1 rfl ?_
  refine z_iload_n ok dX12_wanted_9 2 rfl ?_
  refine z_call hf (fun r10 h10 hf => ?_)
  refine z_cV (As := [.int x1, .int x2]) (rest := [.int r4, .int 0]) (w := 171) ok kc_171 zc_12 (c_M_wished h10) rfl ⟨ml_12_270, w_M_wished⟩ hy_M_wished ⟨rfl, rfl⟩ ⟨Nat.le_of_ble_eq_true rfl, Nat.le_of_ble_eq_true rfl⟩ ⟨Nat.zero_le _, Nat.zero_le _⟩ rfl (Nat.le_of_ble_eq_true rfl) dX12_wanted_10 ?_
  refine z_call hf (fun r13 h13 hf => ?_)
  refine z_cS (As := [.int r4, .int r10]) (rest := [.int 0]) ok (c_M_lesser h13) rfl ⟨ml_12_273, w_M_lesser⟩ hy_M_lesser ⟨rfl, rfl⟩ ⟨Nat.le_of_ble_eq_true rfl, Nat.le_of_ble_eq_true rfl⟩ ⟨Nat.zero_le _, Nat.zero_le _⟩ rfl (Nat.le_of_ble_eq_true rfl) dX12_wanted_13 ?_
  refine z_call hf (fun r16 h16 hf => ?_)
  refine z_cS (As := [.int 0, .int r13]) (rest := []) ok (c_M_greater h16) rfl ⟨ml_12_276, w_M_greater⟩ hy_M_greater ⟨rfl, rfl⟩ ⟨Nat.le_of_ble_eq_true rfl, Nat.le_of_ble_eq_true rfl⟩ ⟨Nat.zero_le _, Nat.zero_le _⟩ rfl (Nat.le_of_ble_eq_true rfl) dX12_wanted_16 ?_
  obtain rfl := Option.some.inj hf
  exact hk _ _ dX12_wanted_19
theorem c_M_wanted {σ : Sg} {x1 : Int32} {x2 : Int32} {r : Int32} (h : M_wanted σ x1 x2 = some r) : ZcI yX12_wanted cX12_wanted 3 .int rm_M_wanted 198 (fun ad => [.ref (ad 171), .int x1, .int x2]) σ r σ :=
  zmetI pn_12 rfl (fun _ => rfl) (fun _ => Nat.le_of_ble_eq_true rfl) rfl (fun X Q ok hk => t_M_wanted ok h hk)
theorem dX12_gate_0 : decode cX12_gate 0 = .ok (.aload_n 0, 1) := by decide +kernel
theorem dX12_gate_1 : decode cX12_gate 1 = .ok (.iload_n 1, 1) := by decide +kernel
theorem dX12_gate_2 : decode cX12_gate 2 = .ok (.invokevirtual 321, 3) := by decide +kernel
theorem dX12_gate_5 : decode cX12_gate 5 = .ok (.ifCond .ne 5, 3) := by decide +kernel
theorem dX12_gate_8 : decode cX12_gate 8 = .ok (.iconst (-1), 1) := by decide +kernel
theorem dX12_gate_9 : decode cX12_gate 9 = .ok (.ireturn, 1) := by decide +kernel
theorem dX12_gate_10 : decode cX12_gate 10 = .ok (.iload_n 2, 1) := by decide +kernel
theorem dX12_gate_11 : decode cX12_gate 11 = .ok (.tableswitch 95 0 5 #[37, 47, 54, 61, 75, 85], 37) := by decide +kernel
theorem dX12_gate_48 : decode cX12_gate 48 = .ok (.aload_n 0, 1) := by decide +kernel
theorem dX12_gate_49 : decode cX12_gate 49 = .ok (.getfield 71, 3) := by decide +kernel
theorem dX12_gate_52 : decode cX12_gate 52 = .ok (.bipush 8, 2) := by decide +kernel
theorem dX12_gate_54 : decode cX12_gate 54 = .ok (.iload_n 1, 1) := by decide +kernel
theorem dX12_gate_55 : decode cX12_gate 55 = .ok (.iadd, 1) := by decide +kernel
theorem dX12_gate_56 : decode cX12_gate 56 = .ok (.iaload, 1) := by decide +kernel
theorem dX12_gate_57 : decode cX12_gate 57 = .ok (.ireturn, 1) := by decide +kernel
theorem dX12_gate_58 : decode cX12_gate 58 = .ok (.aload_n 0, 1) := by decide +kernel
theorem dX12_gate_59 : decode cX12_gate 59 = .ok (.iload_n 1, 1) := by decide +kernel
theorem dX12_gate_60 : decode cX12_gate 60 = .ok (.iconst 4, 1) := by decide +kernel
theorem dX12_gate_61 : decode cX12_gate 61 = .ok (.invokevirtual 251, 3) := by decide +kernel
theorem dX12_gate_64 : decode cX12_gate 64 = .ok (.ireturn, 1) := by decide +kernel
theorem dX12_gate_65 : decode cX12_gate 65 = .ok (.aload_n 0, 1) := by decide +kernel
theorem dX12_gate_66 : decode cX12_gate 66 = .ok (.iload_n 1, 1) := by decide +kernel
theorem dX12_gate_67 : decode cX12_gate 67 = .ok (.iconst 5, 1) := by decide +kernel
theorem dX12_gate_68 : decode cX12_gate 68 = .ok (.invokevirtual 251, 3) := by decide +kernel
theorem dX12_gate_71 : decode cX12_gate 71 = .ok (.ireturn, 1) := by decide +kernel
theorem dX12_gate_72 : decode cX12_gate 72 = .ok (.aload_n 0, 1) := by decide +kernel
theorem dX12_gate_73 : decode cX12_gate 73 = .ok (.iload_n 1, 1) := by decide +kernel
theorem dX12_gate_74 : decode cX12_gate 74 = .ok (.aload_n 0, 1) := by decide +kernel
theorem dX12_gate_75 : decode cX12_gate 75 = .ok (.getfield 71, 3) := by decide +kernel
theorem dX12_gate_78 : decode cX12_gate 78 = .ok (.sipush 196, 3) := by decide +kernel
theorem dX12_gate_81 : decode cX12_gate 81 = .ok (.iaload, 1) := by decide +kernel
theorem dX12_gate_82 : decode cX12_gate 82 = .ok (.invokevirtual 279, 3) := by decide +kernel
theorem dX12_gate_85 : decode cX12_gate 85 = .ok (.ireturn, 1) := by decide +kernel
theorem dX12_gate_86 : decode cX12_gate 86 = .ok (.aload_n 0, 1) := by decide +kernel
theorem dX12_gate_87 : decode cX12_gate 87 = .ok (.getfield 71, 3) := by decide +kernel
theorem dX12_gate_90 : decode cX12_gate 90 = .ok (.bipush 16, 2) := by decide +kernel
theorem dX12_gate_92 : decode cX12_gate 92 = .ok (.iload_n 1, 1) := by decide +kernel
theorem dX12_gate_93 : decode cX12_gate 93 = .ok (.iadd, 1) := by decide +kernel
theorem dX12_gate_94 : decode cX12_gate 94 = .ok (.iaload, 1) := by decide +kernel
theorem dX12_gate_95 : decode cX12_gate 95 = .ok (.ireturn, 1) := by decide +kernel
theorem dX12_gate_96 : decode cX12_gate 96 = .ok (.aload_n 0, 1) := by decide +kernel
theorem dX12_gate_97 : decode cX12_gate 97 = .ok (.getfield 71, 3) := by decide +kernel
theorem dX12_gate_100 : decode cX12_gate 100 = .ok (.bipush 120, 2) := by decide +kernel
theorem dX12_gate_102 : decode cX12_gate 102 = .ok (.iload_n 1, 1) := by decide +kernel
theorem dX12_gate_103 : decode cX12_gate 103 = .ok (.iadd, 1) := by decide +kernel
theorem dX12_gate_104 : decode cX12_gate 104 = .ok (.iaload, 1) := by decide +kernel
theorem dX12_gate_105 : decode cX12_gate 105 = .ok (.ireturn, 1) := by decide +kernel
theorem dX12_gate_106 : decode cX12_gate 106 = .ok (.iconst (-1), 1) := by decide +kernel
theorem dX12_gate_107 : decode cX12_gate 107 = .ok (.ireturn, 1) := by decide +kernel
abbrev rm_M_gate : Room := { frames := 5, cells := 0, slots := 0, locals := 116 }
def M_gate (σ : Sg) (x1 : Int32) (x2 : Int32) : Option Int32 :=
  (M_isPool σ x1).bind fun r2 =>
  if (zb r2) = 0 then (
    some (-1)
  ) else (
    if x2 = 0 then (
      zrd σ 183 1607 (8 + x1) fun v56 =>
      some v56
    ) else (
    if x2 = 1 then (
      (M_toldOf σ x1 4).bind fun r61 =>
      some r61
    ) else (
    if x2 = 2 then (
      (M_toldOf σ x1 5).bind fun r68 =>
      some r68
    ) else (
    if x2 = 3 then (
      zrd σ 183 1607 196 fun v81 =>
      (M_wanted σ x1 v81).bind fun r82 =>
      some r82
    ) else (
    if x2 = 4 then (
      zrd σ 183 1607 (16 + x1) fun v94 =>
      some v94
    ) else (
    if x2 = 5 then (
      zrd σ 183 1607 (120 + x1) fun v104 =>
      some v104
    ) else (
      some (-1)
    ))))))
  )
set_option maxRecDepth 20000 in
theorem t_M_gate {X : Zx} {Q : State → Prop} {σ : Sg} {x1 : Int32} {x2 : Int32} (ok : Zok X cX12_gate RX12 rm_M_gate 198 3)  {out : Int32} (hf : M_gate σ x1 x2 = some out) (hk : ZrI cX12_gate X Q out σ) : ZAt X Q 0 0 0 σ [(0, .ref (X.ad 171)), (1, .int x1), (2, .int x2)] [] := by
  unfold M_gate at hf
  refine z_aload_n ok dX12_gate_0 0 rfl ?_
  refine z_iload_n ok dX12_gate_1 1 rfl ?_
  refine z_call hf (fun r2 h2 hf => ?_)
  refine z_cV (As := [.int x1]) (rest := []) (w := 171) ok kc_171 zc_12 (c_M_isPool h2) rfl ⟨ml_12_321, w_M_isPool⟩ hy_M_isPool ⟨rfl, rfl⟩ ⟨Nat.le_of_ble_eq_true rfl, Nat.le_of_ble_eq_true rfl⟩ ⟨Nat.zero_le _, Nat.zero_le _⟩ rfl (Nat.le_of_ble_eq_true rfl) dX12_gate_2 ?_
  refine z_if_ne (tgt := 10) ok dX12_gate_5 (by decide) hf (fun _ hf => ?_) (fun _ hf => ?_)
  · refine z_iconst (v := (-1)) ok dX12_gate_8 (by decide) ?_
    obtain rfl := Option.some.inj hf
    exact hk _ _ dX12_gate_9
  · refine z_iload_n ok dX12_gate_10 2 rfl ?_
    refine z_swc (v := 0) hf (fun hf => ?_) (fun n11_0 hf => ?_)
    · refine z_tableIn (tgt := 48) ok dX12_gate_11 (by decide) (by decide) rfl (by decide) ?_
      refine z_aload_n ok dX12_gate_48 0 rfl ?_
      refine z_getr (q := 183) ok kc_171 zc_12 hin_12 20 (by decide) fl_12_71 rfl dX12_gate_49 ?_
      refine z_bipush (v := 8) ok dX12_gate_52 (by decide) ?_
      refine z_iload_n ok dX12_gate_54 1 rfl ?_
      refine z_iadd ok dX12_gate_55 ?_
      refine z_iald ok kc_183 dX12_gate_56 hf (fun v56 hf => ?_)
      obtain rfl := Option.some.inj hf
      exact hk _ _ dX12_gate_57
    refine z_swc (v := 1) hf (fun hf => ?_) (fun n11_1 hf => ?_)
    · refine z_tableIn (tgt := 58) ok dX12_gate_11 (by decide) (by decide) rfl (by decide) ?_
      refine z_aload_n ok dX12_gate_58 0 rfl ?_
      refine z_iload_n ok dX12_gate_59 1 rfl ?_
      refine z_iconst (v := 4) ok dX12_gate_60 (by decide) ?_
      refine z_call hf (fun r61 h61 hf => ?_)
      refine z_cV (As := [.int x1, .int 4]) (rest := []) (w := 171) ok kc_171 zc_12 (c_M_toldOf h61) rfl ⟨ml_12_251, w_M_toldOf⟩ hy_M_toldOf ⟨rfl, rfl⟩ ⟨Nat.le_of_ble_eq_true rfl, Nat.le_of_ble_eq_true rfl⟩ ⟨Nat.zero_le _, Nat.zero_le _⟩ rfl (Nat.le_of_ble_eq_true rfl) dX12_gate_61 ?_
      obtain rfl := Option.some.inj hf
      exact hk _ _ dX12_gate_64
    refine z_swc (v := 2) hf (fun hf => ?_) (fun n11_2 hf => ?_)
    · refine z_tableIn (tgt := 65) ok dX12_gate_11 (by decide) (by decide) rfl (by decide) ?_
      refine z_aload_n ok dX12_gate_65 0 rfl ?_
      refine z_iload_n ok dX12_gate_66 1 rfl ?_
      refine z_iconst (v := 5) ok dX12_gate_67 (by decide) ?_
      refine z_call hf (fun r68 h68 hf => ?_)
      refine z_cV (As := [.int x1, .int 5]) (rest := []) (w := 171) ok kc_171 zc_12 (c_M_toldOf h68) rfl ⟨ml_12_251, w_M_toldOf⟩ hy_M_toldOf ⟨rfl, rfl⟩ ⟨Nat.le_of_ble_eq_true rfl, Nat.le_of_ble_eq_true rfl⟩ ⟨Nat.zero_le _, Nat.zero_le _⟩ rfl (Nat.le_of_ble_eq_true rfl) dX12_gate_68 ?_
      obtain rfl := Option.some.inj hf
      exact hk _ _ dX12_gate_71
    refine z_swc (v := 3) hf (fun hf => ?_) (fun n11_3 hf => ?_)
    · refine z_tableIn (tgt := 72) ok dX12_gate_11 (by decide) (by decide) rfl (by decide) ?_
      refine z_aload_n ok dX12_gate_72 0 rfl ?_
      refine z_iload_n ok dX12_gate_73 1 rfl ?_
      refine z_aload_n ok dX12_gate_74 0 rfl ?_
      refine z_getr (q := 183) ok kc_171 zc_12 hin_12 20 (by decide) fl_12_71 rfl dX12_gate_75 ?_
      refine z_sipush (v := 196) ok dX12_gate_78 (by decide) ?_
      refine z_iald ok kc_183 dX12_gate_81 hf (fun v81 hf => ?_)
      refine z_call hf (fun r82 h82 hf => ?_)
      refine z_cV (As := [.int x1, .int v81]) (rest := []) (w := 171) ok kc_171 zc_12 (c_M_wanted h82) rfl ⟨ml_12_279, w_M_wanted⟩ hy_M_wanted ⟨rfl, rfl⟩ ⟨Nat.le_of_ble_eq_true rfl, Nat.le_of_ble_eq_true rfl⟩ ⟨Nat.zero_le _, Nat.zero_le _⟩ rfl (Nat.le_of_ble_eq_true rfl) dX12_gate_82 ?_
      obtain rfl := Option.some.inj hf
      exact hk _ _ dX12_gate_85
    refine z_swc (v := 4) hf (fun hf => ?_) (fun n11_4 hf => ?_)
    · refine z_tableIn (tgt := 86) ok dX12_gate_11 (by decide) (by decide) rfl (by decide) ?_
      refine z_aload_n ok dX12_gate_86 0 rfl ?_
      refine z_getr (q := 183) ok kc_171 zc_12 hin_12 20 (by decide) fl_12_71 rfl dX12_gate_87 ?_
      refine z_bipush (v := 16) ok dX12_gate_90 (by decide) ?_
      refine z_iload_n ok dX12_gate_92 1 rfl ?_
      refine z_iadd ok dX12_gate_93 ?_
      refine z_iald ok kc_183 dX12_gate_94 hf (fun v94 hf => ?_)
      obtain rfl := Option.some.inj hf
      exact hk _ _ dX12_gate_95
    refine z_swc (v := 5) hf (fun hf => ?_) (fun n11_5 hf => ?_)
    · refine z_tableIn (tgt := 96) ok dX12_gate_11 (by decide) (by decide) rfl (by decide) ?_
      refine z_aload_n ok dX12_gate_96 0 rfl ?_
      refine z_getr (q := 183) ok kc_171 zc_12 hin_12 20 (by decide) fl_12_71 rfl dX12_gate_97 ?_
      refine z_bipush (v := 120) ok dX12_gate_100 (by decide) ?_
      refine z_iload_n ok dX12_gate_102 1 rfl ?_
      refine z_iadd ok dX12_gate_103 ?_
      refine z_iald ok kc_183 dX12_gate_104 hf (fun v104 hf => ?_)
      obtain rfl := Option.some.inj hf
      exact hk _ _ dX12_gate_105
    refine z_tableOut (tgt := 106) ok dX12_gate_11 (zsw_out 0 5 [0, 1, 2, 3, 4, 5] (by decide) (List.forall_mem_cons.mpr ⟨n11_0, (List.forall_mem_cons.mpr ⟨n11_1, (List.forall_mem_cons.mpr ⟨n11_2, (List.forall_mem_cons.mpr ⟨n11_3, (List.forall_mem_cons.mpr ⟨n11_4, (List.forall_mem_cons.mpr ⟨n11_5, (fun _ h => absurd h List.not_mem_nil)⟩)⟩)⟩)⟩)⟩)⟩)) (by decide) ?_
    refine z_iconst (v := (-1)) ok dX12_gate_106 (by decide) ?_
    obtain rfl := Option.some.inj hf
    exact hk _ _ dX12_gate_107
theorem c_M_gate {σ : Sg} {x1 : Int32} {x2 : Int32} {r : Int32} (h : M_gate σ x1 x2 = some r) : ZcI yX12_gate cX12_gate 3 .int rm_M_gate 198 (fun ad => [.ref (ad 171), .int x1, .int x2]) σ r σ :=
  zmetI pn_12 rfl (fun _ => rfl) (fun _ => Nat.le_of_ble_eq_true rfl) rfl (fun X Q ok hk => t_M_gate ok h hk)
theorem dX12_row_0 : decode cX12_row 0 = .ok (.aload_n 0, 1) := by decide +kernel
theorem dX12_row_1 : decode cX12_row 1 = .ok (.iload_n 1, 1) := by decide +kernel
theorem dX12_row_2 : decode cX12_row 2 = .ok (.invokevirtual 321, 3) := by decide +kernel
theorem dX12_row_5 : decode cX12_row 5 = .ok (.ifCond .eq 36, 3) := by decide +kernel
theorem dX12_row_8 : decode cX12_row 8 = .ok (.iload_n 2, 1) := by decide +kernel
theorem dX12_row_9 : decode cX12_row 9 = .ok (.iconst 0, 1) := by decide +kernel
theorem dX12_row_10 : decode cX12_row 10 = .ok (.aload_n 0, 1) := by decide +kernel
theorem dX12_row_11 : decode cX12_row 11 = .ok (.iload_n 1, 1) := by decide +kernel
theorem dX12_row_12 : decode cX12_row 12 = .ok (.iconst 3, 1) := by decide +kernel
theorem dX12_row_13 : decode cX12_row 13 = .ok (.invokevirtual 251, 3) := by decide +kernel
theorem dX12_row_16 : decode cX12_row 16 = .ok (.iconst 1, 1) := by decide +kernel
theorem dX12_row_17 : decode cX12_row 17 = .ok (.isub, 1) := by decide +kernel
theorem dX12_row_18 : decode cX12_row 18 = .ok (.invokestatic 198, 3) := by decide +kernel
theorem dX12_row_21 : decode cX12_row 21 = .ok (.ifCond .eq 20, 3) := by decide +kernel
theorem dX12_row_24 : decode cX12_row 24 = .ok (.aload_n 0, 1) := by decide +kernel
theorem dX12_row_25 : decode cX12_row 25 = .ok (.getfield 71, 3) := by decide +kernel
theorem dX12_row_28 : decode cX12_row 28 = .ok (.bipush 40, 2) := by decide +kernel
theorem dX12_row_30 : decode cX12_row 30 = .ok (.bipush 10, 2) := by decide +kernel
theorem dX12_row_32 : decode cX12_row 32 = .ok (.iload_n 1, 1) := by decide +kernel
theorem dX12_row_33 : decode cX12_row 33 = .ok (.imul, 1) := by decide +kernel
theorem dX12_row_34 : decode cX12_row 34 = .ok (.iadd, 1) := by decide +kernel
theorem dX12_row_35 : decode cX12_row 35 = .ok (.iload_n 2, 1) := by decide +kernel
theorem dX12_row_36 : decode cX12_row 36 = .ok (.iadd, 1) := by decide +kernel
theorem dX12_row_37 : decode cX12_row 37 = .ok (.iaload, 1) := by decide +kernel
theorem dX12_row_38 : decode cX12_row 38 = .ok (.goto 4, 3) := by decide +kernel
theorem dX12_row_41 : decode cX12_row 41 = .ok (.iconst (-1), 1) := by decide +kernel
theorem dX12_row_42 : decode cX12_row 42 = .ok (.ireturn, 1) := by decide +kernel
abbrev rm_M_row : Room := { frames := 2, cells := 0, slots := 0, locals := 43 }
def M_row (σ : Sg) (x1 : Int32) (x2 : Int32) : Option Int32 :=
  (M_isPool σ x1).bind fun r2 =>
  if (zb r2) = 0 then (
    some (-1)
  ) else (
    (M_toldOf σ x1 3).bind fun r13 =>
    (M_isIn x2 0 (r13 - 1)).bind fun r18 =>
    if (zb r18) = 0 then (
      some (-1)
    ) else (
      zrd σ 183 1607 ((40 + (10 * x1)) + x2) fun v37 =>
      some v37
    )
  )
set_option maxRecDepth 20000 in
theorem t_M_row {X : Zx} {Q : State → Prop} {σ : Sg} {x1 : Int32} {x2 : Int32} (ok : Zok X cX12_row RX12 rm_M_row 198 3)  {out : Int32} (hf : M_row σ x1 x2 = some out) (hk : ZrI cX12_row X Q out σ) : ZAt X Q 0 0 0 σ [(0, .ref (X.ad 171)), (1, .int x1), (2, .int x2)] [] := by
  unfold M_row at hf
  refine z_aload_n ok dX12_row_0 0 rfl ?_
  refine z_iload_n ok dX12_row_1 1 rfl ?_
  refine z_call hf (fun r2 h2 hf => ?_)
  refine z_cV (As := [.int x1]) (rest := []) (w := 171) ok kc_171 zc_12 (c_M_isPool h2) rfl ⟨ml_12_321, w_M_isPool⟩ hy_M_isPool ⟨rfl, rfl⟩ ⟨Nat.le_of_ble_eq_true rfl, Nat.le_of_ble_eq_true rfl⟩ ⟨Nat.zero_le _, Nat.zero_le _⟩ rfl (Nat.le_of_ble_eq_true rfl) dX12_row_2 ?_
  refine z_if_eq (tgt := 41) ok dX12_row_5 (by decide) hf (fun _ hf => ?_) (fun _ hf => ?_)
  · refine z_iconst (v := (-1)) ok dX12_row_41 (by decide) ?_
    obtain rfl := Option.some.inj hf
    exact hk _ _ dX12_row_42
  · refine z_iload_n ok dX12_row_8 2 rfl ?_
    refine z_iconst (v := 0) ok dX12_row_9 (by decide) ?_
    refine z_aload_n ok dX12_row_10 0 rfl ?_
    refine z_iload_n ok dX12_row_11 1 rfl ?_
    refine z_iconst (v := 3) ok dX12_row_12 (by decide) ?_
    refine z_call hf (fun r13 h13 hf => ?_)
    refine z_cV (As := [.int x1, .int 3]) (rest := [.int 0, .int x2]) (w := 171) ok kc_171 zc_12 (c_M_toldOf h13) rfl ⟨ml_12_251, w_M_toldOf⟩ hy_M_toldOf ⟨rfl, rfl⟩ ⟨Nat.le_of_ble_eq_true rfl, Nat.le_of_ble_eq_true rfl⟩ ⟨Nat.zero_le _, Nat.zero_le _⟩ rfl (Nat.le_of_ble_eq_true rfl) dX12_row_13 ?_
    refine z_iconst (v := 1) ok dX12_row_16 (by decide) ?_
    refine z_isub ok dX12_row_17 ?_
    refine z_call hf (fun r18 h18 hf => ?_)
    refine z_cS (As := [.int x2, .int 0, .int (r13 - 1)]) (rest := []) ok (c_M_isIn h18) rfl ⟨ml_12_198, w_M_isIn⟩ hy_M_isIn ⟨rfl, rfl⟩ ⟨Nat.le_of_ble_eq_true rfl, Nat.le_of_ble_eq_true rfl⟩ ⟨Nat.zero_le _, Nat.zero_le _⟩ rfl (Nat.le_of_ble_eq_true rfl) dX12_row_18 ?_
    refine z_if_eq (tgt := 41) ok dX12_row_21 (by decide) hf (fun _ hf => ?_) (fun _ hf => ?_)
    · refine z_iconst (v := (-1)) ok dX12_row_41 (by decide) ?_
      obtain rfl := Option.some.inj hf
      exact hk _ _ dX12_row_42
    · refine z_aload_n ok dX12_row_24 0 rfl ?_
      refine z_getr (q := 183) ok kc_171 zc_12 hin_12 20 (by decide) fl_12_71 rfl dX12_row_25 ?_
      refine z_bipush (v := 40) ok dX12_row_28 (by decide) ?_
      refine z_bipush (v := 10) ok dX12_row_30 (by decide) ?_
      refine z_iload_n ok dX12_row_32 1 rfl ?_
      refine z_imul ok dX12_row_33 ?_
      refine z_iadd ok dX12_row_34 ?_
      refine z_iload_n ok dX12_row_35 2 rfl ?_
      refine z_iadd ok dX12_row_36 ?_
      refine z_iald ok kc_183 dX12_row_37 hf (fun v37 hf => ?_)
      refine z_goto (tgt := 42) ok dX12_row_38 (by decide) ?_
      obtain rfl := Option.some.inj hf
      exact hk _ _ dX12_row_42
theorem c_M_row {σ : Sg} {x1 : Int32} {x2 : Int32} {r : Int32} (h : M_row σ x1 x2 = some r) : ZcI yX12_row cX12_row 3 .int rm_M_row 198 (fun ad => [.ref (ad 171), .int x1, .int x2]) σ r σ :=
  zmetI pn_12 rfl (fun _ => rfl) (fun _ => Nat.le_of_ble_eq_true rfl) rfl (fun X Q ok hk => t_M_row ok h hk)
theorem dX12_outlet_0 : decode cX12_outlet 0 = .ok (.aload_n 0, 1) := by decide +kernel
theorem dX12_outlet_1 : decode cX12_outlet 1 = .ok (.iload_n 1, 1) := by decide +kernel
theorem dX12_outlet_2 : decode cX12_outlet 2 = .ok (.invokevirtual 324, 3) := by decide +kernel
theorem dX12_outlet_5 : decode cX12_outlet 5 = .ok (.ifCond .ne 5, 3) := by decide +kernel
theorem dX12_outlet_8 : decode cX12_outlet 8 = .ok (.iconst (-1), 1) := by decide +kernel
theorem dX12_outlet_9 : decode cX12_outlet 9 = .ok (.ireturn, 1) := by decide +kernel
theorem dX12_outlet_10 : decode cX12_outlet 10 = .ok (.iconst 0, 1) := by decide +kernel
theorem dX12_outlet_11 : decode cX12_outlet 11 = .ok (.istore_n 3, 1) := by decide +kernel
theorem dX12_outlet_12 : decode cX12_outlet 12 = .ok (.iconst 0, 1) := by decide +kernel
theorem dX12_outlet_13 : decode cX12_outlet 13 = .ok (.istore 4, 2) := by decide +kernel
theorem dX12_outlet_15 : decode cX12_outlet 15 = .ok (.iload 4, 2) := by decide +kernel
theorem dX12_outlet_17 : decode cX12_outlet 17 = .ok (.aload_n 0, 1) := by decide +kernel
theorem dX12_outlet_18 : decode cX12_outlet 18 = .ok (.iload_n 1, 1) := by decide +kernel
theorem dX12_outlet_19 : decode cX12_outlet 19 = .ok (.invokevirtual 254, 3) := by decide +kernel
theorem dX12_outlet_22 : decode cX12_outlet 22 = .ok (.if_icmp .gt 19, 3) := by decide +kernel
theorem dX12_outlet_25 : decode cX12_outlet 25 = .ok (.iload_n 3, 1) := by decide +kernel
theorem dX12_outlet_26 : decode cX12_outlet 26 = .ok (.aload_n 0, 1) := by decide +kernel
theorem dX12_outlet_27 : decode cX12_outlet 27 = .ok (.iload 4, 2) := by decide +kernel
theorem dX12_outlet_29 : decode cX12_outlet 29 = .ok (.iconst 3, 1) := by decide +kernel
theorem dX12_outlet_30 : decode cX12_outlet 30 = .ok (.invokevirtual 251, 3) := by decide +kernel
theorem dX12_outlet_33 : decode cX12_outlet 33 = .ok (.iadd, 1) := by decide +kernel
theorem dX12_outlet_34 : decode cX12_outlet 34 = .ok (.istore_n 3, 1) := by decide +kernel
theorem dX12_outlet_35 : decode cX12_outlet 35 = .ok (.iinc 4 1, 3) := by decide +kernel
theorem dX12_outlet_38 : decode cX12_outlet 38 = .ok (.goto (-23), 3) := by decide +kernel
theorem dX12_outlet_41 : decode cX12_outlet 41 = .ok (.iload_n 2, 1) := by decide +kernel
theorem dX12_outlet_42 : decode cX12_outlet 42 = .ok (.tableswitch 96 0 5 #[38, 44, 50, 72, 83, 94], 38) := by decide +kernel
theorem dX12_outlet_80 : decode cX12_outlet 80 = .ok (.aload_n 0, 1) := by decide +kernel
theorem dX12_outlet_81 : decode cX12_outlet 81 = .ok (.iload_n 1, 1) := by decide +kernel
theorem dX12_outlet_82 : decode cX12_outlet 82 = .ok (.invokevirtual 254, 3) := by decide +kernel
theorem dX12_outlet_85 : decode cX12_outlet 85 = .ok (.ireturn, 1) := by decide +kernel
theorem dX12_outlet_86 : decode cX12_outlet 86 = .ok (.aload_n 0, 1) := by decide +kernel
theorem dX12_outlet_87 : decode cX12_outlet 87 = .ok (.iload_n 1, 1) := by decide +kernel
theorem dX12_outlet_88 : decode cX12_outlet 88 = .ok (.invokevirtual 261, 3) := by decide +kernel
theorem dX12_outlet_91 : decode cX12_outlet 91 = .ok (.ireturn, 1) := by decide +kernel
theorem dX12_outlet_92 : decode cX12_outlet 92 = .ok (.aload_n 0, 1) := by decide +kernel
theorem dX12_outlet_93 : decode cX12_outlet 93 = .ok (.iload_n 1, 1) := by decide +kernel
theorem dX12_outlet_94 : decode cX12_outlet 94 = .ok (.aload_n 0, 1) := by decide +kernel
theorem dX12_outlet_95 : decode cX12_outlet 95 = .ok (.getfield 71, 3) := by decide +kernel
theorem dX12_outlet_98 : decode cX12_outlet 98 = .ok (.sipush 196, 3) := by decide +kernel
theorem dX12_outlet_101 : decode cX12_outlet 101 = .ok (.iaload, 1) := by decide +kernel
theorem dX12_outlet_102 : decode cX12_outlet 102 = .ok (.invokevirtual 257, 3) := by decide +kernel
theorem dX12_outlet_105 : decode cX12_outlet 105 = .ok (.ifCond .eq 7, 3) := by decide +kernel
theorem dX12_outlet_108 : decode cX12_outlet 108 = .ok (.iconst 1, 1) := by decide +kernel
theorem dX12_outlet_109 : decode cX12_outlet 109 = .ok (.goto 4, 3) := by decide +kernel
theorem dX12_outlet_112 : decode cX12_outlet 112 = .ok (.iconst 0, 1) := by decide +kernel
theorem dX12_outlet_113 : decode cX12_outlet 113 = .ok (.ireturn, 1) := by decide +kernel
theorem dX12_outlet_114 : decode cX12_outlet 114 = .ok (.aload_n 0, 1) := by decide +kernel
theorem dX12_outlet_115 : decode cX12_outlet 115 = .ok (.getfield 71, 3) := by decide +kernel
theorem dX12_outlet_118 : decode cX12_outlet 118 = .ok (.sipush 128, 3) := by decide +kernel
theorem dX12_outlet_121 : decode cX12_outlet 121 = .ok (.iload_n 1, 1) := by decide +kernel
theorem dX12_outlet_122 : decode cX12_outlet 122 = .ok (.iadd, 1) := by decide +kernel
theorem dX12_outlet_123 : decode cX12_outlet 123 = .ok (.iaload, 1) := by decide +kernel
theorem dX12_outlet_124 : decode cX12_outlet 124 = .ok (.ireturn, 1) := by decide +kernel
theorem dX12_outlet_125 : decode cX12_outlet 125 = .ok (.aload_n 0, 1) := by decide +kernel
theorem dX12_outlet_126 : decode cX12_outlet 126 = .ok (.getfield 71, 3) := by decide +kernel
theorem dX12_outlet_129 : decode cX12_outlet 129 = .ok (.sipush 138, 3) := by decide +kernel
theorem dX12_outlet_132 : decode cX12_outlet 132 = .ok (.iload_n 1, 1) := by decide +kernel
theorem dX12_outlet_133 : decode cX12_outlet 133 = .ok (.iadd, 1) := by decide +kernel
theorem dX12_outlet_134 : decode cX12_outlet 134 = .ok (.iaload, 1) := by decide +kernel
theorem dX12_outlet_135 : decode cX12_outlet 135 = .ok (.ireturn, 1) := by decide +kernel
theorem dX12_outlet_136 : decode cX12_outlet 136 = .ok (.iload_n 3, 1) := by decide +kernel
theorem dX12_outlet_137 : decode cX12_outlet 137 = .ok (.ireturn, 1) := by decide +kernel
theorem dX12_outlet_138 : decode cX12_outlet 138 = .ok (.iconst (-1), 1) := by decide +kernel
theorem dX12_outlet_139 : decode cX12_outlet 139 = .ok (.ireturn, 1) := by decide +kernel
abbrev rm_M_outlet : Room := { frames := 2, cells := 0, slots := 0, locals := 46 }
def M_outlet_l15 (σ : Sg) (x1 : Int32) (x2 : Int32) (x3 : Int32) (x4 : Int32) : Option ((Int32 × Int32) ⊕ (Int32 × Int32)) :=
  (M_poolOf σ x1).bind fun r19 =>
  if r19 < x4 then (
    some (.inr (x3, x4))
  ) else (
    (M_toldOf σ x4 3).bind fun r30 =>
    zlt (x3 + r30) fun v34 =>
    zlt (x4 + 1) fun v35 =>
    some (.inl (v34, v35))
  )
set_option maxRecDepth 20000 in
theorem t_M_outlet_l15 {X : Zx} {Q : State → Prop} {σ : Sg} {x1 : Int32} {x2 : Int32} {x3 : Int32} {x4 : Int32} (ok : Zok X cX12_outlet RX12 rm_M_outlet 198 5)  {out : ((Int32 × Int32) ⊕ (Int32 × Int32))} (hf : M_outlet_l15 σ x1 x2 x3 x4 = some out) (hk : zout (fun (s : (Int32 × Int32)) => ZAt X Q 0 0 15 σ [(0, .ref (X.ad 171)), (1, .int x1), (2, .int x2), (3, .int s.1), (4, .int s.2)] []) (fun (s : (Int32 × Int32)) => ZAt X Q 0 0 41 σ [(0, .ref (X.ad 171)), (1, .int x1), (2, .int x2), (3, .int s.1)] []) out) : ZAt X Q 0 0 15 σ [(0, .ref (X.ad 171)), (1, .int x1), (2, .int x2), (3, .int x3), (4, .int x4)] [] := by
  unfold M_outlet_l15 at hf
  refine z_iload ok dX12_outlet_15 4 rfl ?_
  refine z_aload_n ok dX12_outlet_17 0 rfl ?_
  refine z_iload_n ok dX12_outlet_18 1 rfl ?_
  refine z_call hf (fun r19 h19 hf => ?_)
  refine z_cV (As := [.int x1]) (rest := [.int x4]) (w := 171) ok kc_171 zc_12 (c_M_poolOf h19) rfl ⟨ml_12_254, w_M_poolOf⟩ hy_M_poolOf ⟨rfl, rfl⟩ ⟨Nat.le_of_ble_eq_true rfl, Nat.le_of_ble_eq_true rfl⟩ ⟨Nat.zero_le _, Nat.zero_le _⟩ rfl (Nat.le_of_ble_eq_true rfl) dX12_outlet_19 ?_
  refine z_icmp_gt (tgt := 41) ok dX12_outlet_22 (by decide) hf (fun _ hf => ?_) (fun _ hf => ?_)
  · obtain rfl := Option.some.inj hf
    exact z_sub [0, 1, 2, 3] rfl hk
  · refine z_iload_n ok dX12_outlet_25 3 rfl ?_
    refine z_aload_n ok dX12_outlet_26 0 rfl ?_
    refine z_iload ok dX12_outlet_27 4 rfl ?_
    refine z_iconst (v := 3) ok dX12_outlet_29 (by decide) ?_
    refine z_call hf (fun r30 h30 hf => ?_)
    refine z_cV (As := [.int x4, .int 3]) (rest := [.int x3]) (w := 171) ok kc_171 zc_12 (c_M_toldOf h30) rfl ⟨ml_12_251, w_M_toldOf⟩ hy_M_toldOf ⟨rfl, rfl⟩ ⟨Nat.le_of_ble_eq_true rfl, Nat.le_of_ble_eq_true rfl⟩ ⟨Nat.zero_le _, Nat.zero_le _⟩ rfl (Nat.le_of_ble_eq_true rfl) dX12_outlet_30 ?_
    refine z_iadd ok dX12_outlet_33 ?_
    refine z_nm hf (fun v34 hf => ?_)
    refine z_istore_n (lv' := [(3, .int v34), (0, .ref (X.ad 171)), (1, .int x1), (2, .int x2), (4, .int x4)]) ok dX12_outlet_34 (by decide) rfl ?_
    refine z_iinc (w := 1) (lv' := fun v35 => [(4, .int v35), (3, .int v34), (0, .ref (X.ad 171)), (1, .int x1), (2, .int x2)]) ok dX12_outlet_35 4 rfl (by decide) (by decide) (fun _ => rfl) hf (fun v35 hf => ?_)
    refine z_goto (tgt := 15) ok dX12_outlet_38 (by decide) ?_
    obtain rfl := Option.some.inj hf
    exact z_sub [2, 3, 4, 1, 0] rfl hk
def M_outlet_j41 (σ : Sg) (x1 : Int32) (x2 : Int32) (x3 : Int32) : Option Int32 :=
  if x2 = 0 then (
    (M_poolOf σ x1).bind fun r82 =>
    some r82
  ) else (
  if x2 = 1 then (
    (M_takesOf σ x1).bind fun r88 =>
    some r88
  ) else (
  if x2 = 2 then (
    zrd σ 183 1607 196 fun v101 =>
    (M_isOpen σ x1 v101).bind fun r102 =>
    if (zb r102) = 0 then (
      some 0
    ) else (
      some 1
    )
  ) else (
  if x2 = 3 then (
    zrd σ 183 1607 (128 + x1) fun v123 =>
    some v123
  ) else (
  if x2 = 4 then (
    zrd σ 183 1607 (138 + x1) fun v134 =>
    some v134
  ) else (
  if x2 = 5 then (
    some x3
  ) else (
    some (-1)
  ))))))
set_option maxRecDepth 20000 in
theorem t_M_outlet_j41 {X : Zx} {Q : State → Prop} {σ : Sg} {x1 : Int32} {x2 : Int32} {x3 : Int32} (ok : Zok X cX12_outlet RX12 rm_M_outlet 198 5)  {out : Int32} (hf : M_outlet_j41 σ x1 x2 x3 = some out) (hk : ZrI cX12_outlet X Q out σ) : ZAt X Q 0 0 41 σ [(0, .ref (X.ad 171)), (1, .int x1), (2, .int x2), (3, .int x3)] [] := by
  unfold M_outlet_j41 at hf
  refine z_iload_n ok dX12_outlet_41 2 rfl ?_
  refine z_swc (v := 0) hf (fun hf => ?_) (fun n42_0 hf => ?_)
  · refine z_tableIn (tgt := 80) ok dX12_outlet_42 (by decide) (by decide) rfl (by decide) ?_
    refine z_aload_n ok dX12_outlet_80 0 rfl ?_
    refine z_iload_n ok dX12_outlet_81 1 rfl ?_
    refine z_call hf (fun r82 h82 hf => ?_)
    refine z_cV (As := [.int x1]) (rest := []) (w := 171) ok kc_171 zc_12 (c_M_poolOf h82) rfl ⟨ml_12_254, w_M_poolOf⟩ hy_M_poolOf ⟨rfl, rfl⟩ ⟨Nat.le_of_ble_eq_true rfl, Nat.le_of_ble_eq_true rfl⟩ ⟨Nat.zero_le _, Nat.zero_le _⟩ rfl (Nat.le_of_ble_eq_true rfl) dX12_outlet_82 ?_
    obtain rfl := Option.some.inj hf
    exact hk _ _ dX12_outlet_85
  refine z_swc (v := 1) hf (fun hf => ?_) (fun n42_1 hf => ?_)
  · refine z_tableIn (tgt := 86) ok dX12_outlet_42 (by decide) (by decide) rfl (by decide) ?_
    refine z_aload_n ok dX12_outlet_86 0 rfl ?_
    refine z_iload_n ok dX12_outlet_87 1 rfl ?_
    refine z_call hf (fun r88 h88 hf => ?_)
    refine z_cV (As := [.int x1]) (rest := []) (w := 171) ok kc_171 zc_12 (c_M_takesOf h88) rfl ⟨ml_12_261, w_M_takesOf⟩ hy_M_takesOf ⟨rfl, rfl⟩ ⟨Nat.le_of_ble_eq_true rfl, Nat.le_of_ble_eq_true rfl⟩ ⟨Nat.zero_le _, Nat.zero_le _⟩ rfl (Nat.le_of_ble_eq_true rfl) dX12_outlet_88 ?_
    obtain rfl := Option.some.inj hf
    exact hk _ _ dX12_outlet_91
  refine z_swc (v := 2) hf (fun hf => ?_) (fun n42_2 hf => ?_)
  · refine z_tableIn (tgt := 92) ok dX12_outlet_42 (by decide) (by decide) rfl (by decide) ?_
    refine z_aload_n ok dX12_outlet_92 0 rfl ?_
    refine z_iload_n ok dX12_outlet_93 1 rfl ?_
    refine z_aload_n ok dX12_outlet_94 0 rfl ?_
    refine z_getr (q := 183) ok kc_171 zc_12 hin_12 20 (by decide) fl_12_71 rfl dX12_outlet_95 ?_
    refine z_sipush (v := 196) ok dX12_outlet_98 (by decide) ?_
    refine z_iald ok kc_183 dX12_outlet_101 hf (fun v101 hf => ?_)
    refine z_call hf (fun r102 h102 hf => ?_)
    refine z_cV (As := [.int x1, .int v101]) (rest := []) (w := 171) ok kc_171 zc_12 (c_M_isOpen h102) rfl ⟨ml_12_257, w_M_isOpen⟩ hy_M_isOpen ⟨rfl, rfl⟩ ⟨Nat.le_of_ble_eq_true rfl, Nat.le_of_ble_eq_true rfl⟩ ⟨Nat.zero_le _, Nat.zero_le _⟩ rfl (Nat.le_of_ble_eq_true rfl) dX12_outlet_102 ?_
    refine z_if_eq (tgt := 112) ok dX12_outlet_105 (by decide) hf (fun _ hf => ?_) (fun _ hf => ?_)
    · refine z_iconst (v := 0) ok dX12_outlet_112 (by decide) ?_
      obtain rfl := Option.some.inj hf
      exact hk _ _ dX12_outlet_113
    · refine z_iconst (v := 1) ok dX12_outlet_108 (by decide) ?_
      refine z_goto (tgt := 113) ok dX12_outlet_109 (by decide) ?_
      obtain rfl := Option.some.inj hf
      exact hk _ _ dX12_outlet_113
  refine z_swc (v := 3) hf (fun hf => ?_) (fun n42_3 hf => ?_)
  · refine z_tableIn (tgt := 114) ok dX12_outlet_42 (by decide) (by decide) rfl (by decide) ?_
    refine z_aload_n ok dX12_outlet_114 0 rfl ?_
    refine z_getr (q := 183) ok kc_171 zc_12 hin_12 20 (by decide) fl_12_71 rfl dX12_outlet_115 ?_
    refine z_sipush (v := 128) ok dX12_outlet_118 (by decide) ?_
    refine z_iload_n ok dX12_outlet_121 1 rfl ?_
    refine z_iadd ok dX12_outlet_122 ?_
    refine z_iald ok kc_183 dX12_outlet_123 hf (fun v123 hf => ?_)
    obtain rfl := Option.some.inj hf
    exact hk _ _ dX12_outlet_124
  refine z_swc (v := 4) hf (fun hf => ?_) (fun n42_4 hf => ?_)
  · refine z_tableIn (tgt := 125) ok dX12_outlet_42 (by decide) (by decide) rfl (by decide) ?_
    refine z_aload_n ok dX12_outlet_125 0 rfl ?_
    refine z_getr (q := 183) ok kc_171 zc_12 hin_12 20 (by decide) fl_12_71 rfl dX12_outlet_126 ?_
    refine z_sipush (v := 138) ok dX12_outlet_129 (by decide) ?_
    refine z_iload_n ok dX12_outlet_132 1 rfl ?_
    refine z_iadd ok dX12_outlet_133 ?_
    refine z_iald ok kc_183 dX12_outlet_134 hf (fun v134 hf => ?_)
    obtain rfl := Option.some.inj hf
    exact hk _ _ dX12_outlet_135
  refine z_swc (v := 5) hf (fun hf => ?_) (fun n42_5 hf => ?_)
  · refine z_tableIn (tgt := 136) ok dX12_outlet_42 (by decide) (by decide) rfl (by decide) ?_
    refine z_iload_n ok dX12_outlet_136 3 rfl ?_
    obtain rfl := Option.some.inj hf
    exact hk _ _ dX12_outlet_137
  refine z_tableOut (tgt := 138) ok dX12_outlet_42 (zsw_out 0 5 [0, 1, 2, 3, 4, 5] (by decide) (List.forall_mem_cons.mpr ⟨n42_0, (List.forall_mem_cons.mpr ⟨n42_1, (List.forall_mem_cons.mpr ⟨n42_2, (List.forall_mem_cons.mpr ⟨n42_3, (List.forall_mem_cons.mpr ⟨n42_4, (List.forall_mem_cons.mpr ⟨n42_5, (fun _ h => absurd h List.not_mem_nil)⟩)⟩)⟩)⟩)⟩)⟩)) (by decide) ?_
  refine z_iconst (v := (-1)) ok dX12_outlet_138 (by decide) ?_
  obtain rfl := Option.some.inj hf
  exact hk _ _ dX12_outlet_139
def M_outlet (σ : Sg) (x1 : Int32) (x2 : Int32) : Option Int32 :=
  (M_isOutlet σ x1).bind fun r2 =>
  if (zb r2) = 0 then (
    some (-1)
  ) else (
    zlt 0 fun v11 =>
    zlt 0 fun v13 =>
    (zit (fun (s : (Int32 × Int32)) => M_outlet_l15 σ x1 x2 s.1 s.2) zFU (v11, v13)).bind fun r =>
    M_outlet_j41 σ x1 x2 r.1
  )
set_option maxRecDepth 20000 in
theorem t_M_outlet {X : Zx} {Q : State → Prop} {σ : Sg} {x1 : Int32} {x2 : Int32} (ok : Zok X cX12_outlet RX12 rm_M_outlet 198 5)  {out : Int32} (hf : M_outlet σ x1 x2 = some out) (hk : ZrI cX12_outlet X Q out σ) : ZAt X Q 0 0 0 σ [(0, .ref (X.ad 171)), (1, .int x1), (2, .int x2)] [] := by
  unfold M_outlet at hf
  refine z_aload_n ok dX12_outlet_0 0 rfl ?_
  refine z_iload_n ok dX12_outlet_1 1 rfl ?_
  refine z_call hf (fun r2 h2 hf => ?_)
  refine z_cV (As := [.int x1]) (rest := []) (w := 171) ok kc_171 zc_12 (c_M_isOutlet h2) rfl ⟨ml_12_324, w_M_isOutlet⟩ hy_M_isOutlet ⟨rfl, rfl⟩ ⟨Nat.le_of_ble_eq_true rfl, Nat.le_of_ble_eq_true rfl⟩ ⟨Nat.zero_le _, Nat.zero_le _⟩ rfl (Nat.le_of_ble_eq_true rfl) dX12_outlet_2 ?_
  refine z_if_ne (tgt := 10) ok dX12_outlet_5 (by decide) hf (fun _ hf => ?_) (fun _ hf => ?_)
  · refine z_iconst (v := (-1)) ok dX12_outlet_8 (by decide) ?_
    obtain rfl := Option.some.inj hf
    exact hk _ _ dX12_outlet_9
  · refine z_iconst (v := 0) ok dX12_outlet_10 (by decide) ?_
    refine z_nm hf (fun v11 hf => ?_)
    refine z_istore_n (lv' := [(3, .int v11), (0, .ref (X.ad 171)), (1, .int x1), (2, .int x2)]) ok dX12_outlet_11 (by decide) rfl ?_
    refine z_iconst (v := 0) ok dX12_outlet_12 (by decide) ?_
    refine z_nm hf (fun v13 hf => ?_)
    refine z_istore (lv' := [(4, .int v13), (3, .int v11), (0, .ref (X.ad 171)), (1, .int x1), (2, .int x2)]) ok dX12_outlet_13 (by decide) rfl ?_
    refine z_call hf (fun r hr hf => ?_)
    refine z_sub [2, 3, 4, 1, 0] rfl (z_iter (fun (s : (Int32 × Int32)) => σ) (fun (s : (Int32 × Int32)) => [(0, .ref (X.ad 171)), (1, .int x1), (2, .int x2), (3, .int s.1), (4, .int s.2)]) (fun s o h1 h2 => t_M_outlet_l15 ok h1 h2) _ _ _ hr ?_)
    show ZAt X Q 0 0 41 σ [(0, .ref (X.ad 171)), (1, .int x1), (2, .int x2), (3, .int r.1)] []
    exact z_sub [0, 1, 2, 3] rfl (t_M_outlet_j41 ok hf hk)
theorem c_M_outlet {σ : Sg} {x1 : Int32} {x2 : Int32} {r : Int32} (h : M_outlet σ x1 x2 = some r) : ZcI yX12_outlet cX12_outlet 5 .int rm_M_outlet 198 (fun ad => [.ref (ad 171), .int x1, .int x2]) σ r σ :=
  zmetI pn_12 rfl (fun _ => rfl) (fun _ => Nat.le_of_ble_eq_true rfl) rfl (fun X Q ok hk => t_M_outlet ok h hk)
theorem dX12_order_0 : decode cX12_order 0 = .ok (.iload_n 1, 1) := by decide +kernel
theorem dX12_order_1 : decode cX12_order 1 = .ok (.iconst 0, 1) := by decide +kernel
theorem dX12_order_2 : decode cX12_order 2 = .ok (.aload_n 0, 1) := by decide +kernel
theorem dX12_order_3 : decode cX12_order 3 = .ok (.getfield 71, 3) := by decide +kernel
theorem dX12_order_6 : decode cX12_order 6 = .ok (.sipush 199, 3) := by decide +kernel
theorem dX12_order_9 : decode cX12_order 9 = .ok (.iaload, 1) := by decide +kernel
theorem dX12_order_10 : decode cX12_order 10 = .ok (.iconst 1, 1) := by decide +kernel
theorem dX12_order_11 : decode cX12_order 11 = .ok (.isub, 1) := by decide +kernel
theorem dX12_order_12 : decode cX12_order 12 = .ok (.invokestatic 198, 3) := by decide +kernel
theorem dX12_order_15 : decode cX12_order 15 = .ok (.ifCond .eq 12, 3) := by decide +kernel
theorem dX12_order_18 : decode cX12_order 18 = .ok (.iload_n 2, 1) := by decide +kernel
theorem dX12_order_19 : decode cX12_order 19 = .ok (.iconst 0, 1) := by decide +kernel
theorem dX12_order_20 : decode cX12_order 20 = .ok (.iconst 3, 1) := by decide +kernel
theorem dX12_order_21 : decode cX12_order 21 = .ok (.invokestatic 198, 3) := by decide +kernel
theorem dX12_order_24 : decode cX12_order 24 = .ok (.ifCond .ne 5, 3) := by decide +kernel
theorem dX12_order_27 : decode cX12_order 27 = .ok (.iconst (-1), 1) := by decide +kernel
theorem dX12_order_28 : decode cX12_order 28 = .ok (.ireturn, 1) := by decide +kernel
theorem dX12_order_29 : decode cX12_order 29 = .ok (.iload_n 2, 1) := by decide +kernel
theorem dX12_order_30 : decode cX12_order 30 = .ok (.iconst 3, 1) := by decide +kernel
theorem dX12_order_31 : decode cX12_order 31 = .ok (.if_icmp .ge 18, 3) := by decide +kernel
theorem dX12_order_34 : decode cX12_order 34 = .ok (.aload_n 0, 1) := by decide +kernel
theorem dX12_order_35 : decode cX12_order 35 = .ok (.getfield 71, 3) := by decide +kernel
theorem dX12_order_38 : decode cX12_order 38 = .ok (.sipush 148, 3) := by decide +kernel
theorem dX12_order_41 : decode cX12_order 41 = .ok (.iconst 3, 1) := by decide +kernel
theorem dX12_order_42 : decode cX12_order 42 = .ok (.iload_n 1, 1) := by decide +kernel
theorem dX12_order_43 : decode cX12_order 43 = .ok (.imul, 1) := by decide +kernel
theorem dX12_order_44 : decode cX12_order 44 = .ok (.iadd, 1) := by decide +kernel
theorem dX12_order_45 : decode cX12_order 45 = .ok (.iload_n 2, 1) := by decide +kernel
theorem dX12_order_46 : decode cX12_order 46 = .ok (.iadd, 1) := by decide +kernel
theorem dX12_order_47 : decode cX12_order 47 = .ok (.iaload, 1) := by decide +kernel
theorem dX12_order_48 : decode cX12_order 48 = .ok (.ireturn, 1) := by decide +kernel
theorem dX12_order_49 : decode cX12_order 49 = .ok (.aload_n 0, 1) := by decide +kernel
theorem dX12_order_50 : decode cX12_order 50 = .ok (.getfield 71, 3) := by decide +kernel
theorem dX12_order_53 : decode cX12_order 53 = .ok (.sipush 148, 3) := by decide +kernel
theorem dX12_order_56 : decode cX12_order 56 = .ok (.iconst 3, 1) := by decide +kernel
theorem dX12_order_57 : decode cX12_order 57 = .ok (.iload_n 1, 1) := by decide +kernel
theorem dX12_order_58 : decode cX12_order 58 = .ok (.imul, 1) := by decide +kernel
theorem dX12_order_59 : decode cX12_order 59 = .ok (.iadd, 1) := by decide +kernel
theorem dX12_order_60 : decode cX12_order 60 = .ok (.iconst 1, 1) := by decide +kernel
theorem dX12_order_61 : decode cX12_order 61 = .ok (.iadd, 1) := by decide +kernel
theorem dX12_order_62 : decode cX12_order 62 = .ok (.iaload, 1) := by decide +kernel
theorem dX12_order_63 : decode cX12_order 63 = .ok (.istore_n 3, 1) := by decide +kernel
theorem dX12_order_64 : decode cX12_order 64 = .ok (.aload_n 0, 1) := by decide +kernel
theorem dX12_order_65 : decode cX12_order 65 = .ok (.getfield 71, 3) := by decide +kernel
theorem dX12_order_68 : decode cX12_order 68 = .ok (.sipush 196, 3) := by decide +kernel
theorem dX12_order_71 : decode cX12_order 71 = .ok (.iaload, 1) := by decide +kernel
theorem dX12_order_72 : decode cX12_order 72 = .ok (.iload_n 3, 1) := by decide +kernel
theorem dX12_order_73 : decode cX12_order 73 = .ok (.if_icmp .ge 7, 3) := by decide +kernel
theorem dX12_order_76 : decode cX12_order 76 = .ok (.iconst 0, 1) := by decide +kernel
theorem dX12_order_77 : decode cX12_order 77 = .ok (.goto 35, 3) := by decide +kernel
theorem dX12_order_80 : decode cX12_order 80 = .ok (.aload_n 0, 1) := by decide +kernel
theorem dX12_order_81 : decode cX12_order 81 = .ok (.getfield 71, 3) := by decide +kernel
theorem dX12_order_84 : decode cX12_order 84 = .ok (.sipush 196, 3) := by decide +kernel
theorem dX12_order_87 : decode cX12_order 87 = .ok (.iaload, 1) := by decide +kernel
theorem dX12_order_88 : decode cX12_order 88 = .ok (.iload_n 3, 1) := by decide +kernel
theorem dX12_order_89 : decode cX12_order 89 = .ok (.aload_n 0, 1) := by decide +kernel
theorem dX12_order_90 : decode cX12_order 90 = .ok (.getfield 71, 3) := by decide +kernel
theorem dX12_order_93 : decode cX12_order 93 = .ok (.sipush 148, 3) := by decide +kernel
theorem dX12_order_96 : decode cX12_order 96 = .ok (.iconst 3, 1) := by decide +kernel
theorem dX12_order_97 : decode cX12_order 97 = .ok (.iload_n 1, 1) := by decide +kernel
theorem dX12_order_98 : decode cX12_order 98 = .ok (.imul, 1) := by decide +kernel
theorem dX12_order_99 : decode cX12_order 99 = .ok (.iadd, 1) := by decide +kernel
theorem dX12_order_100 : decode cX12_order 100 = .ok (.iconst 2, 1) := by decide +kernel
theorem dX12_order_101 : decode cX12_order 101 = .ok (.iadd, 1) := by decide +kernel
theorem dX12_order_102 : decode cX12_order 102 = .ok (.iaload, 1) := by decide +kernel
theorem dX12_order_103 : decode cX12_order 103 = .ok (.iadd, 1) := by decide +kernel
theorem dX12_order_104 : decode cX12_order 104 = .ok (.if_icmp .ge 7, 3) := by decide +kernel
theorem dX12_order_107 : decode cX12_order 107 = .ok (.iconst 1, 1) := by decide +kernel
theorem dX12_order_108 : decode cX12_order 108 = .ok (.goto 4, 3) := by decide +kernel
theorem dX12_order_111 : decode cX12_order 111 = .ok (.iconst 2, 1) := by decide +kernel
theorem dX12_order_112 : decode cX12_order 112 = .ok (.ireturn, 1) := by decide +kernel
abbrev rm_M_order : Room := { frames := 1, cells := 0, slots := 0, locals := 22 }
def M_order (σ : Sg) (x1 : Int32) (x2 : Int32) : Option Int32 :=
  zrd σ 183 1607 199 fun v9 =>
  (M_isIn x1 0 (v9 - 1)).bind fun r12 =>
  if (zb r12) = 0 then (
    some (-1)
  ) else (
    (M_isIn x2 0 3).bind fun r21 =>
    if (zb r21) = 0 then (
      some (-1)
    ) else (
      if 3 ≤ x2 then (
        zrd σ 183 1607 ((148 + (3 * x1)) + 1) fun v62 =>
        zrd σ 183 1607 196 fun v71 =>
        if v62 ≤ v71 then (
          zrd σ 183 1607 196 fun v87 =>
          zrd σ 183 1607 ((148 + (3 * x1)) + 2) fun v102 =>
          if (v62 + v102) ≤ v87 then (
            some 2
          ) else (
            some 1
          )
        ) else (
          some 0
        )
      ) else (
        zrd σ 183 1607 ((148 + (3 * x1)) + x2) fun v47 =>
        some v47
      )
    )
  )
set_option maxRecDepth 20000 in
theorem t_M_order {X : Zx} {Q : State → Prop} {σ : Sg} {x1 : Int32} {x2 : Int32} (ok : Zok X cX12_order RX12 rm_M_order 198 4)  {out : Int32} (hf : M_order σ x1 x2 = some out) (hk : ZrI cX12_order X Q out σ) : ZAt X Q 0 0 0 σ [(0, .ref (X.ad 171)), (1, .int x1), (2, .int x2)] [] := by
  unfold M_order at hf
  refine z_iload_n ok dX12_order_0 1 rfl ?_
  refine z_iconst (v := 0) ok dX12_order_1 (by decide) ?_
  refine z_aload_n ok dX12_order_2 0 rfl ?_
  refine z_getr (q := 183) ok kc_171 zc_12 hin_12 20 (by decide) fl_12_71 rfl dX12_order_3 ?_
  refine z_sipush (v := 199) ok dX12_order_6 (by decide) ?_
  refine z_iald ok kc_183 dX12_order_9 hf (fun v9 hf => ?_)
  refine z_iconst (v := 1) ok dX12_order_10 (by decide) ?_
  refine z_isub ok dX12_order_11 ?_
  refine z_call hf (fun r12 h12 hf => ?_)
  refine z_cS (As := [.int x1, .int 0, .int (v9 - 1)]) (rest := []) ok (c_M_isIn h12) rfl ⟨ml_12_198, w_M_isIn⟩ hy_M_isIn ⟨rfl, rfl⟩ ⟨Nat.le_of_ble_eq_true rfl, Nat.le_of_ble_eq_true rfl⟩ ⟨Nat.zero_le _, Nat.zero_le _⟩ rfl (Nat.le_of_ble_eq_true rfl) dX12_order_12 ?_
  refine z_if_eq (tgt := 27) ok dX12_order_15 (by decide) hf (fun _ hf => ?_) (fun _ hf => ?_)
  · refine z_iconst (v := (-1)) ok dX12_order_27 (by decide) ?_
    obtain rfl := Option.some.inj hf
    exact hk _ _ dX12_order_28
  · refine z_iload_n ok dX12_order_18 2 rfl ?_
    refine z_iconst (v := 0) ok dX12_order_19 (by decide) ?_
    refine z_iconst (v := 3) ok dX12_order_20 (by decide) ?_
    refine z_call hf (fun r21 h21 hf => ?_)
    refine z_cS (As := [.int x2, .int 0, .int 3]) (rest := []) ok (c_M_isIn h21) rfl ⟨ml_12_198, w_M_isIn⟩ hy_M_isIn ⟨rfl, rfl⟩ ⟨Nat.le_of_ble_eq_true rfl, Nat.le_of_ble_eq_true rfl⟩ ⟨Nat.zero_le _, Nat.zero_le _⟩ rfl (Nat.le_of_ble_eq_true rfl) dX12_order_21 ?_
    refine z_if_ne (tgt := 29) ok dX12_order_24 (by decide) hf (fun _ hf => ?_) (fun _ hf => ?_)
    · refine z_iconst (v := (-1)) ok dX12_order_27 (by decide) ?_
      obtain rfl := Option.some.inj hf
      exact hk _ _ dX12_order_28
    · refine z_iload_n ok dX12_order_29 2 rfl ?_
      refine z_iconst (v := 3) ok dX12_order_30 (by decide) ?_
      refine z_icmp_ge (tgt := 49) ok dX12_order_31 (by decide) hf (fun _ hf => ?_) (fun _ hf => ?_)
      · refine z_aload_n ok dX12_order_49 0 rfl ?_
        refine z_getr (q := 183) ok kc_171 zc_12 hin_12 20 (by decide) fl_12_71 rfl dX12_order_50 ?_
        refine z_sipush (v := 148) ok dX12_order_53 (by decide) ?_
        refine z_iconst (v := 3) ok dX12_order_56 (by decide) ?_
        refine z_iload_n ok dX12_order_57 1 rfl ?_
        refine z_imul ok dX12_order_58 ?_
        refine z_iadd ok dX12_order_59 ?_
        refine z_iconst (v := 1) ok dX12_order_60 (by decide) ?_
        refine z_iadd ok dX12_order_61 ?_
        refine z_iald ok kc_183 dX12_order_62 hf (fun v62 hf => ?_)
        refine z_istore_n (lv' := [(3, .int v62), (0, .ref (X.ad 171)), (1, .int x1), (2, .int x2)]) ok dX12_order_63 (by decide) rfl ?_
        refine z_aload_n ok dX12_order_64 1 rfl ?_
        refine z_getr (q := 183) ok kc_171 zc_12 hin_12 20 (by decide) fl_12_71 rfl dX12_order_65 ?_
        refine z_sipush (v := 196) ok dX12_order_68 (by decide) ?_
        refine z_iald ok kc_183 dX12_order_71 hf (fun v71 hf => ?_)
        refine z_iload_n ok dX12_order_72 0 rfl ?_
        refine z_icmp_ge (tgt := 80) ok dX12_order_73 (by decide) hf (fun _ hf => ?_) (fun _ hf => ?_)
        · refine z_aload_n ok dX12_order_80 1 rfl ?_
          refine z_getr (q := 183) ok kc_171 zc_12 hin_12 20 (by decide) fl_12_71 rfl dX12_order_81 ?_
          refine z_sipush (v := 196) ok dX12_order_84 (by decide) ?_
          refine z_iald ok kc_183 dX12_order_87 hf (fun v87 hf => ?_)
          refine z_iload_n ok dX12_order_88 0 rfl ?_
          refine z_aload_n ok dX12_order_89 1 rfl ?_
          refine z_getr (q := 183) ok kc_171 zc_12 hin_12 20 (by decide) fl_12_71 rfl dX12_order_90 ?_
          refine z_sipush (v := 148) ok dX12_order_93 (by decide) ?_
          refine z_iconst (v := 3) ok dX12_order_96 (by decide) ?_
          refine z_iload_n ok dX12_order_97 2 rfl ?_
          refine z_imul ok dX12_order_98 ?_
          refine z_iadd ok dX12_order_99 ?_
          refine z_iconst (v := 2) ok dX12_order_100 (by decide) ?_
          refine z_iadd ok dX12_order_101 ?_
          refine z_iald ok kc_183 dX12_order_102 hf (fun v102 hf => ?_)
          refine z_iadd ok dX12_order_103 ?_
          refine z_icmp_ge (tgt := 111) ok dX12_order_104 (by decide) hf (fun _ hf => ?_) (fun _ hf => ?_)
          · refine z_iconst (v := 2) ok dX12_order_111 (by decide) ?_
            obtain rfl := Option.some.inj hf
            exact hk _ _ dX12_order_112
          · refine z_iconst (v := 1) ok dX12_order_107 (by decide) ?_
            refine z_goto (tgt := 112) ok dX12_order_108 (by decide) ?_
            obtain rfl := Option.some.inj hf
            exact hk _ _ dX12_order_112
        · refine z_iconst (v := 0) ok dX12_order_76 (by decide) ?_
          refine z_goto (tgt := 112) ok dX12_order_77 (by decide) ?_
          obtain rfl := Option.some.inj hf
          exact hk _ _ dX12_order_112
      · refine z_aload_n ok dX12_order_34 0 rfl ?_
        refine z_getr (q := 183) ok kc_171 zc_12 hin_12 20 (by decide) fl_12_71 rfl dX12_order_35 ?_
        refine z_sipush (v := 148) ok dX12_order_38 (by decide) ?_
        refine z_iconst (v := 3) ok dX12_order_41 (by decide) ?_
        refine z_iload_n ok dX12_order_42 1 rfl ?_
        refine z_imul ok dX12_order_43 ?_
        refine z_iadd ok dX12_order_44 ?_
        refine z_iload_n ok dX12_order_45 2 rfl ?_
        refine z_iadd ok dX12_order_46 ?_
        refine z_iald ok kc_183 dX12_order_47 hf (fun v47 hf => ?_)
        obtain rfl := Option.some.inj hf
        exact hk _ _ dX12_order_48
theorem c_M_order {σ : Sg} {x1 : Int32} {x2 : Int32} {r : Int32} (h : M_order σ x1 x2 = some r) : ZcI yX12_order cX12_order 4 .int rm_M_order 198 (fun ad => [.ref (ad 171), .int x1, .int x2]) σ r σ :=
  zmetI pn_12 rfl (fun _ => rfl) (fun _ => Nat.le_of_ble_eq_true rfl) rfl (fun X Q ok hk => t_M_order ok h hk)
