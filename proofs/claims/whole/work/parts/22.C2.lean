theorem kI_Log_77 : zI_Log 77 198 := ⟨kc_77, kc_78, kc_79⟩
theorem kI_Orders_73 : zI_Orders 73 198 := ⟨kc_73, kc_74, kc_75, kc_76⟩
theorem kI_Water_56 : zI_Water 56 198 := ⟨kc_56, kc_57, kc_58, kc_59, kc_60, kc_61, kc_62, kc_63, kc_64, kc_65, kc_66, kc_67, kc_68, kc_69, kc_70, kc_71, kc_72⟩
theorem fl_0_15 : Cond.fieldLink RX0 15 (TX0 2).1 (TX0 2).2.1 (TX0 2).2.2.1 ∈ zT := zT_of (i := 453) (by decide +kernel) rfl
theorem fl_0_18 : Cond.fieldLink RX0 18 (TX0 0).1 (TX0 0).2.1 (TX0 0).2.2.1 ∈ zT := zT_of (i := 450) (by decide +kernel) rfl
theorem fl_10_17 : Cond.fieldLink RX10 17 (TX10 5).1 (TX10 5).2.1 (TX10 5).2.2.1 ∈ zT := zT_of (i := 264) (by decide +kernel) rfl
theorem fl_11_111 : Cond.fieldLink RX11 111 (TX10 3).1 (TX10 3).2.1 (TX10 3).2.2.1 ∈ zT := zT_of (i := 258) (by decide +kernel) rfl
theorem fl_11_114 : Cond.fieldLink RX11 114 (TX10 7).1 (TX10 7).2.1 (TX10 7).2.2.1 ∈ zT := zT_of (i := 277) (by decide +kernel) rfl
theorem fl_11_117 : Cond.fieldLink RX11 117 (TX1 1).1 (TX1 1).2.1 (TX1 1).2.2.1 ∈ zT := zT_of (i := 466) (by decide +kernel) rfl
theorem fl_11_121 : Cond.fieldLink RX11 121 (TX3 0).1 (TX3 0).2.1 (TX3 0).2.2.1 ∈ zT := zT_of (i := 202) (by decide +kernel) rfl
theorem fl_11_126 : Cond.fieldLink RX11 126 (TX1 0).1 (TX1 0).2.1 (TX1 0).2.2.1 ∈ zT := zT_of (i := 463) (by decide +kernel) rfl
theorem fl_11_130 : Cond.fieldLink RX11 130 (TX9 0).1 (TX9 0).2.1 (TX9 0).2.2.1 ∈ zT := zT_of (i := 382) (by decide +kernel) rfl
theorem fl_11_135 : Cond.fieldLink RX11 135 (TX9 1).1 (TX9 1).2.1 (TX9 1).2.2.1 ∈ zT := zT_of (i := 385) (by decide +kernel) rfl
theorem fl_11_138 : Cond.fieldLink RX11 138 (TX9 2).1 (TX9 2).2.1 (TX9 2).2.2.1 ∈ zT := zT_of (i := 388) (by decide +kernel) rfl
theorem fl_11_141 : Cond.fieldLink RX11 141 (TX1 2).1 (TX1 2).2.1 (TX1 2).2.2.1 ∈ zT := zT_of (i := 468) (by decide +kernel) rfl
theorem fl_11_157 : Cond.fieldLink RX11 157 (TX10 4).1 (TX10 4).2.1 (TX10 4).2.2.1 ∈ zT := zT_of (i := 263) (by decide +kernel) rfl
theorem fl_11_167 : Cond.fieldLink RX11 167 (TX10 8).1 (TX10 8).2.1 (TX10 8).2.2.1 ∈ zT := zT_of (i := 280) (by decide +kernel) rfl
theorem fl_11_179 : Cond.fieldLink RX11 179 (TX9 3).1 (TX9 3).2.1 (TX9 3).2.2.1 ∈ zT := zT_of (i := 394) (by decide +kernel) rfl
theorem fl_11_182 : Cond.fieldLink RX11 182 (TX10 5).1 (TX10 5).2.1 (TX10 5).2.2.1 ∈ zT := zT_of (i := 267) (by decide +kernel) rfl
theorem fl_11_186 : Cond.fieldLink RX11 186 (TX9 5).1 (TX9 5).2.1 (TX9 5).2.2.1 ∈ zT := zT_of (i := 401) (by decide +kernel) rfl
theorem fl_11_192 : Cond.fieldLink RX11 192 (TX10 6).1 (TX10 6).2.1 (TX10 6).2.2.1 ∈ zT := zT_of (i := 273) (by decide +kernel) rfl
theorem fl_11_198 : Cond.fieldLink RX11 198 (TX9 4).1 (TX9 4).2.1 (TX9 4).2.2.1 ∈ zT := zT_of (i := 398) (by decide +kernel) rfl
theorem fl_11_211 : Cond.fieldLink RX11 211 (TX9 6).1 (TX9 6).2.1 (TX9 6).2.2.1 ∈ zT := zT_of (i := 405) (by decide +kernel) rfl
theorem fl_11_221 : Cond.fieldLink RX11 221 (TX10 9).1 (TX10 9).2.1 (TX10 9).2.2.1 ∈ zT := zT_of (i := 286) (by decide +kernel) rfl
theorem fl_11_224 : Cond.fieldLink RX11 224 (TX10 10).1 (TX10 10).2.1 (TX10 10).2.2.1 ∈ zT := zT_of (i := 291) (by decide +kernel) rfl
theorem fl_11_59 : Cond.fieldLink RX11 59 (TX11 14).1 (TX11 14).2.1 (TX11 14).2.2.1 ∈ zT := zT_of (i := 588) (by decide +kernel) rfl
theorem fl_8_23 : Cond.fieldLink RX8 23 (TX8 0).1 (TX8 0).2.1 (TX8 0).2.2.1 ∈ zT := zT_of (i := 228) (by decide +kernel) rfl
theorem fl_8_9 : Cond.fieldLink RX8 9 (TX8 1).1 (TX8 1).2.1 (TX8 1).2.2.1 ∈ zT := zT_of (i := 230) (by decide +kernel) rfl
theorem fl_9_77 : Cond.fieldLink RX9 77 (TX10 6).1 (TX10 6).2.1 (TX10 6).2.2.1 ∈ zT := zT_of (i := 271) (by decide +kernel) rfl
theorem ml_0_28 : Cond.methodLink RX0 28 Lib.Math.min.name ∈ zT := zT_of (i := 878) (by decide +kernel) rfl
theorem ml_0_41 : Cond.methodLink RX0 41 yX0_flowPlace ∈ zT := zT_of (i := 964) (by decide +kernel) rfl
theorem ml_10_66 : Cond.methodLink RX10 66 Lib.Math.min.name ∈ zT := zT_of (i := 956) (by decide +kernel) rfl
theorem ml_10_72 : Cond.methodLink RX10 72 Lib.Math.max.name ∈ zT := zT_of (i := 957) (by decide +kernel) rfl
theorem ml_10_75 : Cond.methodLink RX10 75 yX3_isOpen ∈ zT := zT_of (i := 940) (by decide +kernel) rfl
theorem ml_10_79 : Cond.methodLink RX10 79 yX8_isOpen ∈ zT := zT_of (i := 944) (by decide +kernel) rfl
theorem ml_11_145 : Cond.methodLink RX11 145 yX0_toldCount ∈ zT := zT_of (i := 874) (by decide +kernel) rfl
theorem ml_11_151 : Cond.methodLink RX11 151 yX11_poolsOutOfBand ∈ zT := zT_of (i := 881) (by decide +kernel) rfl
theorem ml_11_154 : Cond.methodLink RX11 154 yX11_isPool ∈ zT := zT_of (i := 893) (by decide +kernel) rfl
theorem ml_11_160 : Cond.methodLink RX11 160 yX11_letterOf ∈ zT := zT_of (i := 897) (by decide +kernel) rfl
theorem ml_11_164 : Cond.methodLink RX11 164 yX11_isOutlet ∈ zT := zT_of (i := 900) (by decide +kernel) rfl
theorem ml_11_170 : Cond.methodLink RX11 170 yX11_nameOnTape ∈ zT := zT_of (i := 908) (by decide +kernel) rfl
theorem ml_11_173 : Cond.methodLink RX11 173 yX10_poolOf ∈ zT := zT_of (i := 914) (by decide +kernel) rfl
theorem ml_11_176 : Cond.methodLink RX11 176 yX10_outletOf ∈ zT := zT_of (i := 915) (by decide +kernel) rfl
theorem ml_11_189 : Cond.methodLink RX11 189 yX9_onItsWay ∈ zT := zT_of (i := 920) (by decide +kernel) rfl
theorem ml_11_195 : Cond.methodLink RX11 195 yX10_bandOf ∈ zT := zT_of (i := 885) (by decide +kernel) rfl
theorem ml_11_201 : Cond.methodLink RX11 201 yX11_loadAt ∈ zT := zT_of (i := 928) (by decide +kernel) rfl
theorem ml_11_204 : Cond.methodLink RX11 204 yX9_wishOf ∈ zT := zT_of (i := 948) (by decide +kernel) rfl
theorem ml_11_208 : Cond.methodLink RX11 208 yX10_heldIn ∈ zT := zT_of (i := 952) (by decide +kernel) rfl
theorem ml_11_214 : Cond.methodLink RX11 214 yX0_flowOf ∈ zT := zT_of (i := 960) (by decide +kernel) rfl
theorem ml_11_218 : Cond.methodLink RX11 218 yX9_arrivesIn ∈ zT := zT_of (i := 971) (by decide +kernel) rfl
theorem ml_11_227 : Cond.methodLink RX11 227 yX10_isOpen ∈ zT := zT_of (i := 936) (by decide +kernel) rfl
theorem ml_11_237 : Cond.methodLink RX11 237 yX10_needs ∈ zT := zT_of (i := 932) (by decide +kernel) rfl
theorem ml_11_381 : Cond.methodLink RX11 381 yX5_isLetter ∈ zT := zT_of (i := 912) (by decide +kernel) rfl
theorem ml_11_385 : Cond.methodLink RX11 385 yX5_nameIn ∈ zT := zT_of (i := 913) (by decide +kernel) rfl
theorem w_Log_flowOf : Cond.instanceMethod yX0_flowOf ∈ zT ∧ Cond.selects yX0_flowOf.cls yX0_flowOf yX0_flowOf ∈ zT ∧ Cond.initialized yX0_flowOf.cls ∈ zT ∧ Cond.code yX0_flowOf cX0_flowOf 4 (some .int) ∈ zT := ⟨zT_of (i := 961) (by decide +kernel) rfl, zT_of (i := 962) (by decide +kernel) rfl, zT_of (i := 131) (by decide +kernel) rfl, zT_of (i := 963) (by decide +kernel) rfl⟩
theorem hy_Log_flowOf : yX0_flowOf.cls ≠ "java/lang/invoke/MethodHandle" ∧ yX0_flowOf.cls ≠ "java/lang/invoke/VarHandle" ∧ (parseMethodDescriptor yX0_flowOf.desc).map (fun d => d.parameters.length) = some 3 := by decide +kernel
theorem w_Log_flowPlace : Cond.static yX0_flowPlace ∈ zT ∧ Cond.initialized yX0_flowPlace.cls ∈ zT ∧ Cond.code yX0_flowPlace cX0_flowPlace 2 (some .int) ∈ zT := ⟨zT_of (i := 965) (by decide +kernel) rfl, zT_of (i := 131) (by decide +kernel) rfl, zT_of (i := 966) (by decide +kernel) rfl⟩
theorem hy_Log_flowPlace : yX0_flowPlace.cls ≠ "java/lang/invoke/MethodHandle" ∧ yX0_flowPlace.cls ≠ "java/lang/invoke/VarHandle" ∧ (parseMethodDescriptor yX0_flowPlace.desc).map (fun d => d.parameters.length) = some 2 := by decide +kernel
theorem w_Log_toldCount : Cond.instanceMethod yX0_toldCount ∈ zT ∧ Cond.selects yX0_toldCount.cls yX0_toldCount yX0_toldCount ∈ zT ∧ Cond.initialized yX0_toldCount.cls ∈ zT ∧ Cond.code yX0_toldCount cX0_toldCount 1 (some .int) ∈ zT := ⟨zT_of (i := 875) (by decide +kernel) rfl, zT_of (i := 876) (by decide +kernel) rfl, zT_of (i := 131) (by decide +kernel) rfl, zT_of (i := 877) (by decide +kernel) rfl⟩
theorem hy_Log_toldCount : yX0_toldCount.cls ≠ "java/lang/invoke/MethodHandle" ∧ yX0_toldCount.cls ≠ "java/lang/invoke/VarHandle" ∧ (parseMethodDescriptor yX0_toldCount.desc).map (fun d => d.parameters.length) = some 0 := by decide +kernel
theorem w_Orders_isOpen : Cond.instanceMethod yX3_isOpen ∈ zT ∧ Cond.selects yX3_isOpen.cls yX3_isOpen yX3_isOpen ∈ zT ∧ Cond.initialized yX3_isOpen.cls ∈ zT ∧ Cond.code yX3_isOpen cX3_isOpen 4 (some .boolean) ∈ zT := ⟨zT_of (i := 941) (by decide +kernel) rfl, zT_of (i := 942) (by decide +kernel) rfl, zT_of (i := 126) (by decide +kernel) rfl, zT_of (i := 943) (by decide +kernel) rfl⟩
theorem hy_Orders_isOpen : yX3_isOpen.cls ≠ "java/lang/invoke/MethodHandle" ∧ yX3_isOpen.cls ≠ "java/lang/invoke/VarHandle" ∧ (parseMethodDescriptor yX3_isOpen.desc).map (fun d => d.parameters.length) = some 2 := by decide +kernel
theorem w_Turns_isOpen : Cond.instanceMethod yX8_isOpen ∈ zT ∧ Cond.selects yX8_isOpen.cls yX8_isOpen yX8_isOpen ∈ zT ∧ Cond.initialized yX8_isOpen.cls ∈ zT ∧ Cond.code yX8_isOpen cX8_isOpen 4 (some .boolean) ∈ zT := ⟨zT_of (i := 945) (by decide +kernel) rfl, zT_of (i := 946) (by decide +kernel) rfl, zT_of (i := 127) (by decide +kernel) rfl, zT_of (i := 947) (by decide +kernel) rfl⟩
theorem hy_Turns_isOpen : yX8_isOpen.cls ≠ "java/lang/invoke/MethodHandle" ∧ yX8_isOpen.cls ≠ "java/lang/invoke/VarHandle" ∧ (parseMethodDescriptor yX8_isOpen.desc).map (fun d => d.parameters.length) = some 2 := by decide +kernel
theorem w_Water_arrivesIn : Cond.instanceMethod yX9_arrivesIn ∈ zT ∧ Cond.selects yX9_arrivesIn.cls yX9_arrivesIn yX9_arrivesIn ∈ zT ∧ Cond.initialized yX9_arrivesIn.cls ∈ zT ∧ Cond.code yX9_arrivesIn cX9_arrivesIn 5 (some .int) ∈ zT := ⟨zT_of (i := 972) (by decide +kernel) rfl, zT_of (i := 973) (by decide +kernel) rfl, zT_of (i := 129) (by decide +kernel) rfl, zT_of (i := 974) (by decide +kernel) rfl⟩
theorem hy_Water_arrivesIn : yX9_arrivesIn.cls ≠ "java/lang/invoke/MethodHandle" ∧ yX9_arrivesIn.cls ≠ "java/lang/invoke/VarHandle" ∧ (parseMethodDescriptor yX9_arrivesIn.desc).map (fun d => d.parameters.length) = some 3 := by decide +kernel
theorem w_Water_onItsWay : Cond.instanceMethod yX9_onItsWay ∈ zT ∧ Cond.selects yX9_onItsWay.cls yX9_onItsWay yX9_onItsWay ∈ zT ∧ Cond.initialized yX9_onItsWay.cls ∈ zT ∧ Cond.code yX9_onItsWay cX9_onItsWay 4 (some .int) ∈ zT := ⟨zT_of (i := 921) (by decide +kernel) rfl, zT_of (i := 922) (by decide +kernel) rfl, zT_of (i := 129) (by decide +kernel) rfl, zT_of (i := 923) (by decide +kernel) rfl⟩
theorem hy_Water_onItsWay : yX9_onItsWay.cls ≠ "java/lang/invoke/MethodHandle" ∧ yX9_onItsWay.cls ≠ "java/lang/invoke/VarHandle" ∧ (parseMethodDescriptor yX9_onItsWay.desc).map (fun d => d.parameters.length) = some 1 := by decide +kernel
theorem w_Water_wishOf : Cond.instanceMethod yX9_wishOf ∈ zT ∧ Cond.selects yX9_wishOf.cls yX9_wishOf yX9_wishOf ∈ zT ∧ Cond.initialized yX9_wishOf.cls ∈ zT ∧ Cond.code yX9_wishOf cX9_wishOf 5 (some .int) ∈ zT := ⟨zT_of (i := 949) (by decide +kernel) rfl, zT_of (i := 950) (by decide +kernel) rfl, zT_of (i := 129) (by decide +kernel) rfl, zT_of (i := 951) (by decide +kernel) rfl⟩
theorem hy_Water_wishOf : yX9_wishOf.cls ≠ "java/lang/invoke/MethodHandle" ∧ yX9_wishOf.cls ≠ "java/lang/invoke/VarHandle" ∧ (parseMethodDescriptor yX9_wishOf.desc).map (fun d => d.parameters.length) = some 3 := by decide +kernel
theorem w_Works_bandOf : Cond.instanceMethod yX10_bandOf ∈ zT ∧ Cond.selects yX10_bandOf.cls yX10_bandOf yX10_bandOf ∈ zT ∧ Cond.initialized yX10_bandOf.cls ∈ zT ∧ Cond.code yX10_bandOf cX10_bandOf 3 (some .int) ∈ zT := ⟨zT_of (i := 886) (by decide +kernel) rfl, zT_of (i := 887) (by decide +kernel) rfl, zT_of (i := 125) (by decide +kernel) rfl, zT_of (i := 888) (by decide +kernel) rfl⟩
theorem hy_Works_bandOf : yX10_bandOf.cls ≠ "java/lang/invoke/MethodHandle" ∧ yX10_bandOf.cls ≠ "java/lang/invoke/VarHandle" ∧ (parseMethodDescriptor yX10_bandOf.desc).map (fun d => d.parameters.length) = some 2 := by decide +kernel
theorem w_Works_heldIn : Cond.instanceMethod yX10_heldIn ∈ zT ∧ Cond.selects yX10_heldIn.cls yX10_heldIn yX10_heldIn ∈ zT ∧ Cond.initialized yX10_heldIn.cls ∈ zT ∧ Cond.code yX10_heldIn cX10_heldIn 3 (some .int) ∈ zT := ⟨zT_of (i := 953) (by decide +kernel) rfl, zT_of (i := 954) (by decide +kernel) rfl, zT_of (i := 125) (by decide +kernel) rfl, zT_of (i := 955) (by decide +kernel) rfl⟩
theorem hy_Works_heldIn : yX10_heldIn.cls ≠ "java/lang/invoke/MethodHandle" ∧ yX10_heldIn.cls ≠ "java/lang/invoke/VarHandle" ∧ (parseMethodDescriptor yX10_heldIn.desc).map (fun d => d.parameters.length) = some 2 := by decide +kernel
theorem w_Works_isOpen : Cond.instanceMethod yX10_isOpen ∈ zT ∧ Cond.selects yX10_isOpen.cls yX10_isOpen yX10_isOpen ∈ zT ∧ Cond.initialized yX10_isOpen.cls ∈ zT ∧ Cond.code yX10_isOpen cX10_isOpen 4 (some .boolean) ∈ zT := ⟨zT_of (i := 937) (by decide +kernel) rfl, zT_of (i := 938) (by decide +kernel) rfl, zT_of (i := 125) (by decide +kernel) rfl, zT_of (i := 939) (by decide +kernel) rfl⟩
theorem hy_Works_isOpen : yX10_isOpen.cls ≠ "java/lang/invoke/MethodHandle" ∧ yX10_isOpen.cls ≠ "java/lang/invoke/VarHandle" ∧ (parseMethodDescriptor yX10_isOpen.desc).map (fun d => d.parameters.length) = some 3 := by decide +kernel
theorem w_Works_needs : Cond.instanceMethod yX10_needs ∈ zT ∧ Cond.selects yX10_needs.cls yX10_needs yX10_needs ∈ zT ∧ Cond.initialized yX10_needs.cls ∈ zT ∧ Cond.code yX10_needs cX10_needs 5 (some .int) ∈ zT := ⟨zT_of (i := 933) (by decide +kernel) rfl, zT_of (i := 934) (by decide +kernel) rfl, zT_of (i := 125) (by decide +kernel) rfl, zT_of (i := 935) (by decide +kernel) rfl⟩
theorem hy_Works_needs : yX10_needs.cls ≠ "java/lang/invoke/MethodHandle" ∧ yX10_needs.cls ≠ "java/lang/invoke/VarHandle" ∧ (parseMethodDescriptor yX10_needs.desc).map (fun d => d.parameters.length) = some 2 := by decide +kernel
theorem w_CK_fault : Cond.instanceMethod yX11_fault ∈ zT ∧ Cond.selects yX11_fault.cls yX11_fault yX11_fault ∈ zT ∧ Cond.initialized yX11_fault.cls ∈ zT ∧ Cond.code yX11_fault cX11_fault 2 (some .int) ∈ zT := ⟨zT_of (i := 867) (by decide +kernel) rfl, zT_of (i := 868) (by decide +kernel) rfl, zT_of (i := 123) (by decide +kernel) rfl, zT_of (i := 869) (by decide +kernel) rfl⟩
theorem hy_CK_fault : yX11_fault.cls ≠ "java/lang/invoke/MethodHandle" ∧ yX11_fault.cls ≠ "java/lang/invoke/VarHandle" ∧ (parseMethodDescriptor yX11_fault.desc).map (fun d => d.parameters.length) = some 1 := by decide +kernel
theorem w_CK_gate : Cond.instanceMethod yX11_gate ∈ zT ∧ Cond.selects yX11_gate.cls yX11_gate yX11_gate ∈ zT ∧ Cond.initialized yX11_gate.cls ∈ zT ∧ Cond.code yX11_gate cX11_gate 3 (some .int) ∈ zT := ⟨zT_of (i := 925) (by decide +kernel) rfl, zT_of (i := 926) (by decide +kernel) rfl, zT_of (i := 123) (by decide +kernel) rfl, zT_of (i := 927) (by decide +kernel) rfl⟩
theorem hy_CK_gate : yX11_gate.cls ≠ "java/lang/invoke/MethodHandle" ∧ yX11_gate.cls ≠ "java/lang/invoke/VarHandle" ∧ (parseMethodDescriptor yX11_gate.desc).map (fun d => d.parameters.length) = some 2 := by decide +kernel
theorem w_CK_has : Cond.instanceMethod yX11_has ∈ zT ∧ Cond.selects yX11_has.cls yX11_has yX11_has ∈ zT ∧ Cond.initialized yX11_has.cls ∈ zT ∧ Cond.code yX11_has cX11_has 2 (some .int) ∈ zT := ⟨zT_of (i := 871) (by decide +kernel) rfl, zT_of (i := 872) (by decide +kernel) rfl, zT_of (i := 123) (by decide +kernel) rfl, zT_of (i := 873) (by decide +kernel) rfl⟩
theorem hy_CK_has : yX11_has.cls ≠ "java/lang/invoke/MethodHandle" ∧ yX11_has.cls ≠ "java/lang/invoke/VarHandle" ∧ (parseMethodDescriptor yX11_has.desc).map (fun d => d.parameters.length) = some 1 := by decide +kernel
theorem w_CK_isOutlet : Cond.instanceMethod yX11_isOutlet ∈ zT ∧ Cond.selects yX11_isOutlet.cls yX11_isOutlet yX11_isOutlet ∈ zT ∧ Cond.initialized yX11_isOutlet.cls ∈ zT ∧ Cond.code yX11_isOutlet cX11_isOutlet 2 (some .boolean) ∈ zT := ⟨zT_of (i := 902) (by decide +kernel) rfl, zT_of (i := 27) (by decide +kernel) rfl, zT_of (i := 123) (by decide +kernel) rfl, zT_of (i := 903) (by decide +kernel) rfl⟩
theorem hy_CK_isOutlet : yX11_isOutlet.cls ≠ "java/lang/invoke/MethodHandle" ∧ yX11_isOutlet.cls ≠ "java/lang/invoke/VarHandle" ∧ (parseMethodDescriptor yX11_isOutlet.desc).map (fun d => d.parameters.length) = some 1 := by decide +kernel
theorem w_CK_isPool : Cond.instanceMethod yX11_isPool ∈ zT ∧ Cond.selects yX11_isPool.cls yX11_isPool yX11_isPool ∈ zT ∧ Cond.initialized yX11_isPool.cls ∈ zT ∧ Cond.code yX11_isPool cX11_isPool 2 (some .boolean) ∈ zT := ⟨zT_of (i := 895) (by decide +kernel) rfl, zT_of (i := 26) (by decide +kernel) rfl, zT_of (i := 123) (by decide +kernel) rfl, zT_of (i := 896) (by decide +kernel) rfl⟩
theorem hy_CK_isPool : yX11_isPool.cls ≠ "java/lang/invoke/MethodHandle" ∧ yX11_isPool.cls ≠ "java/lang/invoke/VarHandle" ∧ (parseMethodDescriptor yX11_isPool.desc).map (fun d => d.parameters.length) = some 1 := by decide +kernel
theorem w_CK_letter : Cond.instanceMethod yX11_letter ∈ zT ∧ Cond.selects yX11_letter.cls yX11_letter yX11_letter ∈ zT ∧ Cond.initialized yX11_letter.cls ∈ zT ∧ Cond.code yX11_letter cX11_letter 4 (some .int) ∈ zT := ⟨zT_of (i := 890) (by decide +kernel) rfl, zT_of (i := 891) (by decide +kernel) rfl, zT_of (i := 123) (by decide +kernel) rfl, zT_of (i := 892) (by decide +kernel) rfl⟩
theorem hy_CK_letter : yX11_letter.cls ≠ "java/lang/invoke/MethodHandle" ∧ yX11_letter.cls ≠ "java/lang/invoke/VarHandle" ∧ (parseMethodDescriptor yX11_letter.desc).map (fun d => d.parameters.length) = some 3 := by decide +kernel
theorem w_CK_letterOf : Cond.static yX11_letterOf ∈ zT ∧ Cond.initialized yX11_letterOf.cls ∈ zT ∧ Cond.code yX11_letterOf cX11_letterOf 2 (some .int) ∈ zT := ⟨zT_of (i := 898) (by decide +kernel) rfl, zT_of (i := 123) (by decide +kernel) rfl, zT_of (i := 899) (by decide +kernel) rfl⟩
theorem hy_CK_letterOf : yX11_letterOf.cls ≠ "java/lang/invoke/MethodHandle" ∧ yX11_letterOf.cls ≠ "java/lang/invoke/VarHandle" ∧ (parseMethodDescriptor yX11_letterOf.desc).map (fun d => d.parameters.length) = some 2 := by decide +kernel
theorem w_CK_loadAt : Cond.instanceMethod yX11_loadAt ∈ zT ∧ Cond.selects yX11_loadAt.cls yX11_loadAt yX11_loadAt ∈ zT ∧ Cond.initialized yX11_loadAt.cls ∈ zT ∧ Cond.code yX11_loadAt cX11_loadAt 6 (some .int) ∈ zT := ⟨zT_of (i := 930) (by decide +kernel) rfl, zT_of (i := 29) (by decide +kernel) rfl, zT_of (i := 123) (by decide +kernel) rfl, zT_of (i := 931) (by decide +kernel) rfl⟩
theorem hy_CK_loadAt : yX11_loadAt.cls ≠ "java/lang/invoke/MethodHandle" ∧ yX11_loadAt.cls ≠ "java/lang/invoke/VarHandle" ∧ (parseMethodDescriptor yX11_loadAt.desc).map (fun d => d.parameters.length) = some 2 := by decide +kernel
theorem w_CK_nameOnTape : Cond.instanceMethod yX11_nameOnTape ∈ zT ∧ Cond.selects yX11_nameOnTape.cls yX11_nameOnTape yX11_nameOnTape ∈ zT ∧ Cond.initialized yX11_nameOnTape.cls ∈ zT ∧ Cond.code yX11_nameOnTape cX11_nameOnTape 3 (some .int) ∈ zT := ⟨zT_of (i := 910) (by decide +kernel) rfl, zT_of (i := 28) (by decide +kernel) rfl, zT_of (i := 123) (by decide +kernel) rfl, zT_of (i := 911) (by decide +kernel) rfl⟩
theorem hy_CK_nameOnTape : yX11_nameOnTape.cls ≠ "java/lang/invoke/MethodHandle" ∧ yX11_nameOnTape.cls ≠ "java/lang/invoke/VarHandle" ∧ (parseMethodDescriptor yX11_nameOnTape.desc).map (fun d => d.parameters.length) = some 1 := by decide +kernel
theorem w_CK_named : Cond.instanceMethod yX11_named ∈ zT ∧ Cond.selects yX11_named.cls yX11_named yX11_named ∈ zT ∧ Cond.initialized yX11_named.cls ∈ zT ∧ Cond.code yX11_named cX11_named 4 (some .int) ∈ zT := ⟨zT_of (i := 905) (by decide +kernel) rfl, zT_of (i := 906) (by decide +kernel) rfl, zT_of (i := 123) (by decide +kernel) rfl, zT_of (i := 907) (by decide +kernel) rfl⟩
theorem hy_CK_named : yX11_named.cls ≠ "java/lang/invoke/MethodHandle" ∧ yX11_named.cls ≠ "java/lang/invoke/VarHandle" ∧ (parseMethodDescriptor yX11_named.desc).map (fun d => d.parameters.length) = some 1 := by decide +kernel
theorem w_CK_pool : Cond.instanceMethod yX11_pool ∈ zT ∧ Cond.selects yX11_pool.cls yX11_pool yX11_pool ∈ zT ∧ Cond.initialized yX11_pool.cls ∈ zT ∧ Cond.code yX11_pool cX11_pool 4 (some .int) ∈ zT := ⟨zT_of (i := 917) (by decide +kernel) rfl, zT_of (i := 918) (by decide +kernel) rfl, zT_of (i := 123) (by decide +kernel) rfl, zT_of (i := 919) (by decide +kernel) rfl⟩
theorem hy_CK_pool : yX11_pool.cls ≠ "java/lang/invoke/MethodHandle" ∧ yX11_pool.cls ≠ "java/lang/invoke/VarHandle" ∧ (parseMethodDescriptor yX11_pool.desc).map (fun d => d.parameters.length) = some 2 := by decide +kernel
theorem w_CK_poolsOutOfBand : Cond.instanceMethod yX11_poolsOutOfBand ∈ zT ∧ Cond.selects yX11_poolsOutOfBand.cls yX11_poolsOutOfBand yX11_poolsOutOfBand ∈ zT ∧ Cond.initialized yX11_poolsOutOfBand.cls ∈ zT ∧ Cond.code yX11_poolsOutOfBand cX11_poolsOutOfBand 3 (some .int) ∈ zT := ⟨zT_of (i := 883) (by decide +kernel) rfl, zT_of (i := 25) (by decide +kernel) rfl, zT_of (i := 123) (by decide +kernel) rfl, zT_of (i := 884) (by decide +kernel) rfl⟩
theorem hy_CK_poolsOutOfBand : yX11_poolsOutOfBand.cls ≠ "java/lang/invoke/MethodHandle" ∧ yX11_poolsOutOfBand.cls ≠ "java/lang/invoke/VarHandle" ∧ (parseMethodDescriptor yX11_poolsOutOfBand.desc).map (fun d => d.parameters.length) = some 0 := by decide +kernel
theorem w_CK_row : Cond.instanceMethod yX11_row ∈ zT ∧ Cond.selects yX11_row.cls yX11_row yX11_row ∈ zT ∧ Cond.initialized yX11_row.cls ∈ zT ∧ Cond.code yX11_row cX11_row 3 (some .int) ∈ zT := ⟨zT_of (i := 968) (by decide +kernel) rfl, zT_of (i := 969) (by decide +kernel) rfl, zT_of (i := 123) (by decide +kernel) rfl, zT_of (i := 970) (by decide +kernel) rfl⟩
theorem hy_CK_row : yX11_row.cls ≠ "java/lang/invoke/MethodHandle" ∧ yX11_row.cls ≠ "java/lang/invoke/VarHandle" ∧ (parseMethodDescriptor yX11_row.desc).map (fun d => d.parameters.length) = some 2 := by decide +kernel
theorem dX11_fault_0 : decode cX11_fault 0 = .ok (.iload_n 1, 1) := by decide +kernel
theorem dX11_fault_1 : decode cX11_fault 1 = .ok (.lookupswitch 41 #[(0, 27), (1, 34)], 27) := by decide +kernel
theorem dX11_fault_28 : decode cX11_fault 28 = .ok (.aload_n 0, 1) := by decide +kernel
theorem dX11_fault_29 : decode cX11_fault 29 = .ok (.getfield 88, 3) := by decide +kernel
theorem dX11_fault_32 : decode cX11_fault 32 = .ok (.goto 11, 3) := by decide +kernel
theorem dX11_fault_35 : decode cX11_fault 35 = .ok (.aload_n 0, 1) := by decide +kernel
theorem dX11_fault_36 : decode cX11_fault 36 = .ok (.getfield 30, 3) := by decide +kernel
theorem dX11_fault_39 : decode cX11_fault 39 = .ok (.goto 4, 3) := by decide +kernel
theorem dX11_fault_42 : decode cX11_fault 42 = .ok (.iconst (-1), 1) := by decide +kernel
theorem dX11_fault_43 : decode cX11_fault 43 = .ok (.ireturn, 1) := by decide +kernel
abbrev rm_CK_fault : Room := { frames := 0, cells := 0, slots := 0, locals := 0 }
def CK_fault (σ : Sg) (x1 : Int32) : Option Int32 :=
  if x1 = 0 then (
    zgt σ 0 6 fun v29 =>
    some v29
  ) else (
  if x1 = 1 then (
    zgt σ 0 7 fun v36 =>
    some v36
  ) else (
    some (-1)
  ))
set_option maxRecDepth 20000 in
theorem t_CK_fault {X : Zx} {Q : State → Prop} {σ : Sg} {x1 : Int32} (ok : Zok X cX11_fault RX11 rm_CK_fault 198 2)  {out : Int32} (hf : CK_fault σ x1 = some out) (hk : ZrI cX11_fault X Q out σ) : ZAt X Q 0 0 0 σ [(0, .ref (X.ad 0)), (1, .int x1)] [] := by
  unfold CK_fault at hf
  refine z_iload_n ok dX11_fault_0 1 rfl ?_
  refine z_swc (v := 0) hf (fun hf => ?_) (fun n1_0 hf => ?_)
  · refine z_lookup (off := 27) (tgt := 28) ok dX11_fault_1 (by decide) (by decide) (by decide) ?_
    refine z_aload_n ok dX11_fault_28 0 rfl ?_
    refine z_geti ok kc_0 zc_11 hin_11 6 (by decide) fl_11_88 rfl dX11_fault_29 hf (fun v29 hf => ?_)
    refine z_goto (tgt := 43) ok dX11_fault_32 (by decide) ?_
    obtain rfl := Option.some.inj hf
    exact hk _ _ dX11_fault_43
  refine z_swc (v := 1) hf (fun hf => ?_) (fun n1_1 hf => ?_)
  · refine z_lookup (off := 34) (tgt := 35) ok dX11_fault_1 (by decide) (by decide) (by decide) ?_
    refine z_aload_n ok dX11_fault_35 0 rfl ?_
    refine z_geti ok kc_0 zc_11 hin_11 7 (by decide) fl_11_30 rfl dX11_fault_36 hf (fun v36 hf => ?_)
    refine z_goto (tgt := 43) ok dX11_fault_39 (by decide) ?_
    obtain rfl := Option.some.inj hf
    exact hk _ _ dX11_fault_43
  refine z_lookdef (tgt := 42) ok dX11_fault_1 (by decide) (by decide) (List.forall_mem_cons.mpr ⟨n1_0, (List.forall_mem_cons.mpr ⟨n1_1, (fun _ h => absurd h List.not_mem_nil)⟩)⟩) (by decide) ?_
  refine z_iconst (v := (-1)) ok dX11_fault_42 (by decide) ?_
  obtain rfl := Option.some.inj hf
  exact hk _ _ dX11_fault_43
theorem c_CK_fault {σ : Sg} {x1 : Int32} {r : Int32} (h : CK_fault σ x1 = some r) : ZcI yX11_fault cX11_fault 2 .int rm_CK_fault 198 (fun ad => [.ref (ad 0), .int x1]) σ r σ :=
  zmetI pn_11 rfl (fun _ => rfl) (fun _ => Nat.le_of_ble_eq_true rfl) rfl (fun X Q ok hk => t_CK_fault ok h hk)
theorem dX0_toldCount_0 : decode cX0_toldCount 0 = .ok (.aload_n 0, 1) := by decide +kernel
theorem dX0_toldCount_1 : decode cX0_toldCount 1 = .ok (.getfield 18, 3) := by decide +kernel
theorem dX0_toldCount_4 : decode cX0_toldCount 4 = .ok (.bipush 40, 2) := by decide +kernel
theorem dX0_toldCount_6 : decode cX0_toldCount 6 = .ok (.invokestatic 28, 3) := by decide +kernel
theorem dX0_toldCount_9 : decode cX0_toldCount 9 = .ok (.ireturn, 1) := by decide +kernel
abbrev rm_Log_toldCount : Room := { frames := 1, cells := 0, slots := 0, locals := 21 }
def Log_toldCount (σ : Sg) (w : Nat) : Option Int32 :=
  zgt σ w 0 fun v1 =>
  some (if 40 < v1 then 40 else v1)
set_option maxRecDepth 20000 in
theorem t_Log_toldCount {X : Zx} {Q : State → Prop} {σ : Sg} {w : Nat} (ok : Zok X cX0_toldCount RX0 rm_Log_toldCount 198 1) (hw : zI_Log w 198) {out : Int32} (hf : Log_toldCount σ w = some out) (hk : ZrI cX0_toldCount X Q out σ) : ZAt X Q 0 0 0 σ [(0, .ref (X.ad w))] [] := by
  unfold Log_toldCount at hf
  obtain ⟨hw_0, hw_1, hw_2⟩ := id hw
  refine z_aload_n ok dX0_toldCount_0 0 rfl ?_
  refine z_geti ok hw_0 zc_0 hin_0 0 (by decide) fl_0_18 rfl dX0_toldCount_1 hf (fun v1 hf => ?_)
  refine z_bipush (v := 40) ok dX0_toldCount_4 (by decide) ?_
  refine z_mmin ok ml_0_28 (Nat.le_of_ble_eq_true rfl) (Nat.le_of_ble_eq_true rfl) ⟨Nat.zero_le _, Nat.zero_le _⟩ dX0_toldCount_6 ?_
  obtain rfl := Option.some.inj hf
  exact hk _ _ dX0_toldCount_9
theorem c_Log_toldCount {σ : Sg} {w : Nat} (hw : zI_Log w 198) {r : Int32} (h : Log_toldCount σ w = some r) : ZcI yX0_toldCount cX0_toldCount 1 .int rm_Log_toldCount 198 (fun ad => [.ref (ad w)]) σ r σ :=
  zmetI pn_0 rfl (fun _ => rfl) (fun _ => Nat.le_of_ble_eq_true rfl) rfl (fun X Q ok hk => t_Log_toldCount ok hw h hk)
theorem dX10_bandOf_0 : decode cX10_bandOf 0 = .ok (.iload_n 2, 1) := by decide +kernel
theorem dX10_bandOf_1 : decode cX10_bandOf 1 = .ok (.aload_n 0, 1) := by decide +kernel
theorem dX10_bandOf_2 : decode cX10_bandOf 2 = .ok (.getfield 17, 3) := by decide +kernel
theorem dX10_bandOf_5 : decode cX10_bandOf 5 = .ok (.iconst 1, 1) := by decide +kernel
theorem dX10_bandOf_6 : decode cX10_bandOf 6 = .ok (.aaload, 1) := by decide +kernel
theorem dX10_bandOf_7 : decode cX10_bandOf 7 = .ok (.iload_n 1, 1) := by decide +kernel
theorem dX10_bandOf_8 : decode cX10_bandOf 8 = .ok (.iaload, 1) := by decide +kernel
theorem dX10_bandOf_9 : decode cX10_bandOf 9 = .ok (.if_icmp .ge 5, 3) := by decide +kernel
theorem dX10_bandOf_12 : decode cX10_bandOf 12 = .ok (.iconst 1, 1) := by decide +kernel
theorem dX10_bandOf_13 : decode cX10_bandOf 13 = .ok (.ireturn, 1) := by decide +kernel
theorem dX10_bandOf_14 : decode cX10_bandOf 14 = .ok (.iload_n 2, 1) := by decide +kernel
theorem dX10_bandOf_15 : decode cX10_bandOf 15 = .ok (.aload_n 0, 1) := by decide +kernel
theorem dX10_bandOf_16 : decode cX10_bandOf 16 = .ok (.getfield 17, 3) := by decide +kernel
theorem dX10_bandOf_19 : decode cX10_bandOf 19 = .ok (.iconst 2, 1) := by decide +kernel
theorem dX10_bandOf_20 : decode cX10_bandOf 20 = .ok (.aaload, 1) := by decide +kernel
theorem dX10_bandOf_21 : decode cX10_bandOf 21 = .ok (.iload_n 1, 1) := by decide +kernel
theorem dX10_bandOf_22 : decode cX10_bandOf 22 = .ok (.iaload, 1) := by decide +kernel
theorem dX10_bandOf_23 : decode cX10_bandOf 23 = .ok (.if_icmp .le 7, 3) := by decide +kernel
theorem dX10_bandOf_26 : decode cX10_bandOf 26 = .ok (.iconst 2, 1) := by decide +kernel
theorem dX10_bandOf_27 : decode cX10_bandOf 27 = .ok (.goto 4, 3) := by decide +kernel
theorem dX10_bandOf_30 : decode cX10_bandOf 30 = .ok (.iconst 0, 1) := by decide +kernel
theorem dX10_bandOf_31 : decode cX10_bandOf 31 = .ok (.ireturn, 1) := by decide +kernel
abbrev rm_Works_bandOf : Room := { frames := 0, cells := 0, slots := 0, locals := 0 }
def Works_bandOf (σ : Sg) (w : Nat) (x1 : Int32) (x2 : Int32) : Option Int32 :=
  zrd σ (w + 4) 8 x1 fun v8 =>
  if v8 ≤ x2 then (
    zrd σ (w + 5) 8 x1 fun v22 =>
    if x2 ≤ v22 then (
      some 0
    ) else (
      some 2
    )
  ) else (
    some 1
  )
set_option maxRecDepth 20000 in
theorem t_Works_bandOf {X : Zx} {Q : State → Prop} {σ : Sg} {w : Nat} {x1 : Int32} {x2 : Int32} (ok : Zok X cX10_bandOf RX10 rm_Works_bandOf 198 3) (hw : zI_Works w 198) {out : Int32} (hf : Works_bandOf σ w x1 x2 = some out) (hk : ZrI cX10_bandOf X Q out σ) : ZAt X Q 0 0 0 σ [(0, .ref (X.ad w)), (1, .int x1), (2, .int x2)] [] := by
  unfold Works_bandOf at hf
  obtain ⟨hw_0, hw_1, hw_2, hw_3, hw_4, hw_5, hw_6, hw_7, hw_8, hw_9, hw_10, hw_11, hw_12, hw_13, hw_14, hw_15, hw_16, hw_17, hw_18, hw_19, hw_20, hw_21, hw_22, hw_23, hw_24, hw_25⟩ := id hw
  refine z_iload_n ok dX10_bandOf_0 2 rfl ?_
  refine z_aload_n ok dX10_bandOf_1 0 rfl ?_
  refine z_getr (q := (w + 2)) ok hw_0 zc_10 hin_10 5 (by decide) fl_10_17 rfl dX10_bandOf_2 ?_
  refine z_iconst (v := 1) ok dX10_bandOf_5 (by decide) ?_
  refine z_aaldc (q := (w + 4)) ok hw_2 (by decide) rfl (by decide) rfl dX10_bandOf_6 ?_
  refine z_iload_n ok dX10_bandOf_7 1 rfl ?_
  refine z_iald ok hw_4 dX10_bandOf_8 hf (fun v8 hf => ?_)
  refine z_icmp_ge (tgt := 14) ok dX10_bandOf_9 (by decide) hf (fun _ hf => ?_) (fun _ hf => ?_)
  · refine z_iload_n ok dX10_bandOf_14 2 rfl ?_
    refine z_aload_n ok dX10_bandOf_15 0 rfl ?_
    refine z_getr (q := (w + 2)) ok hw_0 zc_10 hin_10 5 (by decide) fl_10_17 rfl dX10_bandOf_16 ?_
    refine z_iconst (v := 2) ok dX10_bandOf_19 (by decide) ?_
    refine z_aaldc (q := (w + 5)) ok hw_2 (by decide) rfl (by decide) rfl dX10_bandOf_20 ?_
    refine z_iload_n ok dX10_bandOf_21 1 rfl ?_
    refine z_iald ok hw_5 dX10_bandOf_22 hf (fun v22 hf => ?_)
    refine z_icmp_le (tgt := 30) ok dX10_bandOf_23 (by decide) hf (fun _ hf => ?_) (fun _ hf => ?_)
    · refine z_iconst (v := 0) ok dX10_bandOf_30 (by decide) ?_
      obtain rfl := Option.some.inj hf
      exact hk _ _ dX10_bandOf_31
    · refine z_iconst (v := 2) ok dX10_bandOf_26 (by decide) ?_
      refine z_goto (tgt := 31) ok dX10_bandOf_27 (by decide) ?_
      obtain rfl := Option.some.inj hf
      exact hk _ _ dX10_bandOf_31
  · refine z_iconst (v := 1) ok dX10_bandOf_12 (by decide) ?_
    obtain rfl := Option.some.inj hf
    exact hk _ _ dX10_bandOf_13
theorem c_Works_bandOf {σ : Sg} {w : Nat} {x1 : Int32} {x2 : Int32} (hw : zI_Works w 198) {r : Int32} (h : Works_bandOf σ w x1 x2 = some r) : ZcI yX10_bandOf cX10_bandOf 3 .int rm_Works_bandOf 198 (fun ad => [.ref (ad w), .int x1, .int x2]) σ r σ :=
  zmetI pn_10 rfl (fun _ => rfl) (fun _ => Nat.le_of_ble_eq_true rfl) rfl (fun X Q ok hk => t_Works_bandOf ok hw h hk)
theorem dX11_poolsOutOfBand_0 : decode cX11_poolsOutOfBand 0 = .ok (.iconst 0, 1) := by decide +kernel
theorem dX11_poolsOutOfBand_1 : decode cX11_poolsOutOfBand 1 = .ok (.istore_n 1, 1) := by decide +kernel
theorem dX11_poolsOutOfBand_2 : decode cX11_poolsOutOfBand 2 = .ok (.iconst 0, 1) := by decide +kernel
theorem dX11_poolsOutOfBand_3 : decode cX11_poolsOutOfBand 3 = .ok (.istore_n 2, 1) := by decide +kernel
theorem dX11_poolsOutOfBand_4 : decode cX11_poolsOutOfBand 4 = .ok (.iload_n 2, 1) := by decide +kernel
theorem dX11_poolsOutOfBand_5 : decode cX11_poolsOutOfBand 5 = .ok (.aload_n 0, 1) := by decide +kernel
theorem dX11_poolsOutOfBand_6 : decode cX11_poolsOutOfBand 6 = .ok (.getfield 23, 3) := by decide +kernel
theorem dX11_poolsOutOfBand_9 : decode cX11_poolsOutOfBand 9 = .ok (.getfield 111, 3) := by decide +kernel
theorem dX11_poolsOutOfBand_12 : decode cX11_poolsOutOfBand 12 = .ok (.if_icmp .ge 38, 3) := by decide +kernel
theorem dX11_poolsOutOfBand_15 : decode cX11_poolsOutOfBand 15 = .ok (.aload_n 0, 1) := by decide +kernel
theorem dX11_poolsOutOfBand_16 : decode cX11_poolsOutOfBand 16 = .ok (.getfield 23, 3) := by decide +kernel
theorem dX11_poolsOutOfBand_19 : decode cX11_poolsOutOfBand 19 = .ok (.iload_n 2, 1) := by decide +kernel
theorem dX11_poolsOutOfBand_20 : decode cX11_poolsOutOfBand 20 = .ok (.aload_n 0, 1) := by decide +kernel
theorem dX11_poolsOutOfBand_21 : decode cX11_poolsOutOfBand 21 = .ok (.getfield 37, 3) := by decide +kernel
theorem dX11_poolsOutOfBand_24 : decode cX11_poolsOutOfBand 24 = .ok (.getfield 126, 3) := by decide +kernel
theorem dX11_poolsOutOfBand_27 : decode cX11_poolsOutOfBand 27 = .ok (.getfield 179, 3) := by decide +kernel
theorem dX11_poolsOutOfBand_30 : decode cX11_poolsOutOfBand 30 = .ok (.iload_n 2, 1) := by decide +kernel
theorem dX11_poolsOutOfBand_31 : decode cX11_poolsOutOfBand 31 = .ok (.iaload, 1) := by decide +kernel
theorem dX11_poolsOutOfBand_32 : decode cX11_poolsOutOfBand 32 = .ok (.invokevirtual 195, 3) := by decide +kernel
theorem dX11_poolsOutOfBand_35 : decode cX11_poolsOutOfBand 35 = .ok (.ifCond .eq 9, 3) := by decide +kernel
theorem dX11_poolsOutOfBand_38 : decode cX11_poolsOutOfBand 38 = .ok (.iload_n 1, 1) := by decide +kernel
theorem dX11_poolsOutOfBand_39 : decode cX11_poolsOutOfBand 39 = .ok (.iconst 1, 1) := by decide +kernel
theorem dX11_poolsOutOfBand_40 : decode cX11_poolsOutOfBand 40 = .ok (.iload_n 2, 1) := by decide +kernel
theorem dX11_poolsOutOfBand_41 : decode cX11_poolsOutOfBand 41 = .ok (.ishl, 1) := by decide +kernel
theorem dX11_poolsOutOfBand_42 : decode cX11_poolsOutOfBand 42 = .ok (.ior, 1) := by decide +kernel
theorem dX11_poolsOutOfBand_43 : decode cX11_poolsOutOfBand 43 = .ok (.istore_n 1, 1) := by decide +kernel
theorem dX11_poolsOutOfBand_44 : decode cX11_poolsOutOfBand 44 = .ok (.iinc 2 1, 3) := by decide +kernel
theorem dX11_poolsOutOfBand_47 : decode cX11_poolsOutOfBand 47 = .ok (.goto (-43), 3) := by decide +kernel
theorem dX11_poolsOutOfBand_50 : decode cX11_poolsOutOfBand 50 = .ok (.iload_n 1, 1) := by decide +kernel
theorem dX11_poolsOutOfBand_51 : decode cX11_poolsOutOfBand 51 = .ok (.ireturn, 1) := by decide +kernel
abbrev rm_CK_poolsOutOfBand : Room := { frames := 1, cells := 0, slots := 0, locals := 22 }
def CK_poolsOutOfBand_l4 (σ : Sg) (x1 : Int32) (x2 : Int32) : Option ((Int32 × Int32) ⊕ (Int32 × Int32)) :=
  zmr2 3 29 (σ 0 3) fun q6 =>
  zgt σ q6 3 fun v9 =>
  if v9 ≤ x2 then (
    some (.inr (x1, x2))
  ) else (
    zmr2 3 29 (σ 0 3) fun q16 =>
    zrd σ 57 8 x2 fun v31 =>
    (Works_bandOf σ q16 x2 v31).bind fun r32 =>
    if r32 = 0 then (
      zlt (x2 + 1) fun v44 =>
      some (.inl (x1, v44))
    ) else (
      zlt (x1 ||| (1 <<< (x2 &&& 31))) fun v43 =>
      zlt (x2 + 1) fun v44 =>
      some (.inl (v43, v44))
    )
  )
set_option maxRecDepth 20000 in
theorem t_CK_poolsOutOfBand_l4 {X : Zx} {Q : State → Prop} {σ : Sg} {x1 : Int32} {x2 : Int32} (ok : Zok X cX11_poolsOutOfBand RX11 rm_CK_poolsOutOfBand 198 3)  {out : ((Int32 × Int32) ⊕ (Int32 × Int32))} (hf : CK_poolsOutOfBand_l4 σ x1 x2 = some out) (hk : zout (fun (s : (Int32 × Int32)) => ZAt X Q 0 0 4 σ [(0, .ref (X.ad 0)), (1, .int s.1), (2, .int s.2)] []) (fun (s : (Int32 × Int32)) => ZAt X Q 0 0 50 σ [(1, .int s.1)] []) out) : ZAt X Q 0 0 4 σ [(0, .ref (X.ad 0)), (1, .int x1), (2, .int x2)] [] := by
  unfold CK_poolsOutOfBand_l4 at hf
  refine z_iload_n ok dX11_poolsOutOfBand_4 2 rfl ?_
  refine z_aload_n ok dX11_poolsOutOfBand_5 0 rfl ?_
  refine z_getm2 (p := 3) (q := 29) ok kc_0 zc_11 hin_11 3 (by decide) fl_11_23 rfl (by decide) (by decide) dX11_poolsOutOfBand_6 hf (fun q6 e6 hf => ?_)
  have hq6 : zI_Works q6 198 := by rcases e6 with rfl | rfl; exact kI_Works_3; exact kI_Works_29
  obtain ⟨hq6_0, hq6_1, hq6_2, hq6_3, hq6_4, hq6_5, hq6_6, hq6_7, hq6_8, hq6_9, hq6_10, hq6_11, hq6_12, hq6_13, hq6_14, hq6_15, hq6_16, hq6_17, hq6_18, hq6_19, hq6_20, hq6_21, hq6_22, hq6_23, hq6_24, hq6_25⟩ := id hq6
  refine z_geti ok hq6_0 zc_10 hin_10 3 (by decide) fl_11_111 rfl dX11_poolsOutOfBand_9 hf (fun v9 hf => ?_)
  refine z_icmp_ge (tgt := 50) ok dX11_poolsOutOfBand_12 (by decide) hf (fun _ hf => ?_) (fun _ hf => ?_)
  · obtain rfl := Option.some.inj hf
    exact z_sub [1] rfl hk
  · refine z_aload_n ok dX11_poolsOutOfBand_15 0 rfl ?_
    refine z_getm2 (p := 3) (q := 29) ok kc_0 zc_11 hin_11 3 (by decide) fl_11_23 rfl (by decide) (by decide) dX11_poolsOutOfBand_16 hf (fun q16 e16 hf => ?_)
    have hq16 : zI_Works q16 198 := by rcases e16 with rfl | rfl; exact kI_Works_3; exact kI_Works_29
    obtain ⟨hq16_0, hq16_1, hq16_2, hq16_3, hq16_4, hq16_5, hq16_6, hq16_7, hq16_8, hq16_9, hq16_10, hq16_11, hq16_12, hq16_13, hq16_14, hq16_15, hq16_16, hq16_17, hq16_18, hq16_19, hq16_20, hq16_21, hq16_22, hq16_23, hq16_24, hq16_25⟩ := id hq16
    refine z_iload_n ok dX11_poolsOutOfBand_19 2 rfl ?_
    refine z_aload_n ok dX11_poolsOutOfBand_20 0 rfl ?_
    refine z_getr (q := 55) ok kc_0 zc_11 hin_11 8 (by decide) fl_11_37 rfl dX11_poolsOutOfBand_21 ?_
    refine z_getr (q := 56) ok kc_55 zc_1 hin_1 0 (by decide) fl_11_126 rfl dX11_poolsOutOfBand_24 ?_
    refine z_getr (q := 57) ok kc_56 zc_9 hin_9 3 (by decide) fl_11_179 rfl dX11_poolsOutOfBand_27 ?_
    refine z_iload_n ok dX11_poolsOutOfBand_30 2 rfl ?_
    refine z_iald ok kc_57 dX11_poolsOutOfBand_31 hf (fun v31 hf => ?_)
    refine z_call hf (fun r32 h32 hf => ?_)
    refine z_cV (As := [.int x2, .int v31]) (rest := []) (w := q16) ok hq16_0 zc_10 (c_Works_bandOf hq16 h32) rfl ⟨ml_11_195, w_Works_bandOf⟩ hy_Works_bandOf ⟨rfl, rfl⟩ ⟨Nat.le_of_ble_eq_true rfl, Nat.le_of_ble_eq_true rfl⟩ ⟨Nat.zero_le _, Nat.zero_le _⟩ rfl (Nat.le_of_ble_eq_true rfl) dX11_poolsOutOfBand_32 ?_
    refine z_if_eq (tgt := 44) ok dX11_poolsOutOfBand_35 (by decide) hf (fun _ hf => ?_) (fun _ hf => ?_)
    · refine z_iinc (w := 1) (lv' := fun v44 => [(2, .int v44), (0, .ref (X.ad 0)), (1, .int x1)]) ok dX11_poolsOutOfBand_44 2 rfl (by decide) (by decide) (fun _ => rfl) hf (fun v44 hf => ?_)
      refine z_goto (tgt := 4) ok dX11_poolsOutOfBand_47 (by decide) ?_
      obtain rfl := Option.some.inj hf
      exact z_sub [1, 2, 0] rfl hk
    · refine z_iload_n ok dX11_poolsOutOfBand_38 1 rfl ?_
      refine z_iconst (v := 1) ok dX11_poolsOutOfBand_39 (by decide) ?_
      refine z_iload_n ok dX11_poolsOutOfBand_40 2 rfl ?_
      refine z_ishl ok dX11_poolsOutOfBand_41 ?_
      refine z_ior ok dX11_poolsOutOfBand_42 ?_
      refine z_nm hf (fun v43 hf => ?_)
      refine z_istore_n (lv' := [(1, .int v43), (0, .ref (X.ad 0)), (2, .int x2)]) ok dX11_poolsOutOfBand_43 (by decide) rfl ?_
      refine z_iinc (w := 1) (lv' := fun v44 => [(2, .int v44), (1, .int v43), (0, .ref (X.ad 0))]) ok dX11_poolsOutOfBand_44 2 rfl (by decide) (by decide) (fun _ => rfl) hf (fun v44 hf => ?_)
      refine z_goto (tgt := 4) ok dX11_poolsOutOfBand_47 (by decide) ?_
      obtain rfl := Option.some.inj hf
      exact z_sub [2, 1, 0] rfl hk
def CK_poolsOutOfBand (σ : Sg)  : Option Int32 :=
  zlt 0 fun v1 =>
  zlt 0 fun v3 =>
  (zit (fun (s : (Int32 × Int32)) => CK_poolsOutOfBand_l4 σ s.1 s.2) zFU (v1, v3)).bind fun r =>
  some r.1
set_option maxRecDepth 20000 in
theorem t_CK_poolsOutOfBand {X : Zx} {Q : State → Prop} {σ : Sg}  (ok : Zok X cX11_poolsOutOfBand RX11 rm_CK_poolsOutOfBand 198 3)  {out : Int32} (hf : CK_poolsOutOfBand σ = some out) (hk : ZrI cX11_poolsOutOfBand X Q out σ) : ZAt X Q 0 0 0 σ [(0, .ref (X.ad 0))] [] := by
  unfold CK_poolsOutOfBand at hf
  refine z_iconst (v := 0) ok dX11_poolsOutOfBand_0 (by decide) ?_
  refine z_nm hf (fun v1 hf => ?_)
  refine z_istore_n (lv' := [(1, .int v1), (0, .ref (X.ad 0))]) ok dX11_poolsOutOfBand_1 (by decide) rfl ?_
  refine z_iconst (v := 0) ok dX11_poolsOutOfBand_2 (by decide) ?_
  refine z_nm hf (fun v3 hf => ?_)
  refine z_istore_n (lv' := [(2, .int v3), (1, .int v1), (0, .ref (X.ad 0))]) ok dX11_poolsOutOfBand_3 (by decide) rfl ?_
  refine z_call hf (fun r hr hf => ?_)
  refine z_sub [2, 1, 0] rfl (z_iter (fun (s : (Int32 × Int32)) => σ) (fun (s : (Int32 × Int32)) => [(0, .ref (X.ad 0)), (1, .int s.1), (2, .int s.2)]) (fun s o h1 h2 => t_CK_poolsOutOfBand_l4 ok h1 h2) _ _ _ hr ?_)
  show ZAt X Q 0 0 50 σ [(1, .int r.1)] []
  refine z_iload_n ok dX11_poolsOutOfBand_50 0 rfl ?_
  obtain rfl := Option.some.inj hf
  exact hk _ _ dX11_poolsOutOfBand_51
theorem c_CK_poolsOutOfBand {σ : Sg} {r : Int32} (h : CK_poolsOutOfBand σ = some r) : ZcI yX11_poolsOutOfBand cX11_poolsOutOfBand 3 .int rm_CK_poolsOutOfBand 198 (fun ad => [.ref (ad 0)]) σ r σ :=
  zmetI pn_11 rfl (fun _ => rfl) (fun _ => Nat.le_of_ble_eq_true rfl) rfl (fun X Q ok hk => t_CK_poolsOutOfBand ok h hk)
theorem dX11_has_0 : decode cX11_has 0 = .ok (.iload_n 1, 1) := by decide +kernel
theorem dX11_has_1 : decode cX11_has 1 = .ok (.tableswitch 175 0 10 #[59, 69, 79, 92, 105, 118, 131, 144, 154, 161, 168], 59) := by decide +kernel
theorem dX11_has_60 : decode cX11_has 60 = .ok (.aload_n 0, 1) := by decide +kernel
theorem dX11_has_61 : decode cX11_has 61 = .ok (.getfield 23, 3) := by decide +kernel
theorem dX11_has_64 : decode cX11_has 64 = .ok (.getfield 111, 3) := by decide +kernel
theorem dX11_has_67 : decode cX11_has 67 = .ok (.goto 110, 3) := by decide +kernel
theorem dX11_has_70 : decode cX11_has 70 = .ok (.aload_n 0, 1) := by decide +kernel
theorem dX11_has_71 : decode cX11_has 71 = .ok (.getfield 23, 3) := by decide +kernel
theorem dX11_has_74 : decode cX11_has 74 = .ok (.getfield 114, 3) := by decide +kernel
theorem dX11_has_77 : decode cX11_has 77 = .ok (.goto 100, 3) := by decide +kernel
theorem dX11_has_80 : decode cX11_has 80 = .ok (.aload_n 0, 1) := by decide +kernel
theorem dX11_has_81 : decode cX11_has 81 = .ok (.getfield 37, 3) := by decide +kernel
theorem dX11_has_84 : decode cX11_has 84 = .ok (.getfield 117, 3) := by decide +kernel
theorem dX11_has_87 : decode cX11_has 87 = .ok (.getfield 121, 3) := by decide +kernel
theorem dX11_has_90 : decode cX11_has 90 = .ok (.goto 87, 3) := by decide +kernel
theorem dX11_has_93 : decode cX11_has 93 = .ok (.aload_n 0, 1) := by decide +kernel
theorem dX11_has_94 : decode cX11_has 94 = .ok (.getfield 37, 3) := by decide +kernel
theorem dX11_has_97 : decode cX11_has 97 = .ok (.getfield 126, 3) := by decide +kernel
theorem dX11_has_100 : decode cX11_has 100 = .ok (.getfield 130, 3) := by decide +kernel
theorem dX11_has_103 : decode cX11_has 103 = .ok (.goto 74, 3) := by decide +kernel
theorem dX11_has_106 : decode cX11_has 106 = .ok (.aload_n 0, 1) := by decide +kernel
theorem dX11_has_107 : decode cX11_has 107 = .ok (.getfield 37, 3) := by decide +kernel
theorem dX11_has_110 : decode cX11_has 110 = .ok (.getfield 126, 3) := by decide +kernel
theorem dX11_has_113 : decode cX11_has 113 = .ok (.getfield 135, 3) := by decide +kernel
theorem dX11_has_116 : decode cX11_has 116 = .ok (.goto 61, 3) := by decide +kernel
theorem dX11_has_119 : decode cX11_has 119 = .ok (.aload_n 0, 1) := by decide +kernel
theorem dX11_has_120 : decode cX11_has 120 = .ok (.getfield 37, 3) := by decide +kernel
theorem dX11_has_123 : decode cX11_has 123 = .ok (.getfield 126, 3) := by decide +kernel
theorem dX11_has_126 : decode cX11_has 126 = .ok (.getfield 138, 3) := by decide +kernel
theorem dX11_has_129 : decode cX11_has 129 = .ok (.goto 48, 3) := by decide +kernel
theorem dX11_has_132 : decode cX11_has 132 = .ok (.aload_n 0, 1) := by decide +kernel
theorem dX11_has_133 : decode cX11_has 133 = .ok (.getfield 37, 3) := by decide +kernel
theorem dX11_has_136 : decode cX11_has 136 = .ok (.getfield 141, 3) := by decide +kernel
theorem dX11_has_139 : decode cX11_has 139 = .ok (.invokevirtual 145, 3) := by decide +kernel
theorem dX11_has_142 : decode cX11_has 142 = .ok (.goto 35, 3) := by decide +kernel
theorem dX11_has_145 : decode cX11_has 145 = .ok (.aload_n 0, 1) := by decide +kernel
theorem dX11_has_146 : decode cX11_has 146 = .ok (.getfield 55, 3) := by decide +kernel
theorem dX11_has_149 : decode cX11_has 149 = .ok (.getfield 102, 3) := by decide +kernel
theorem dX11_has_152 : decode cX11_has 152 = .ok (.goto 25, 3) := by decide +kernel
theorem dX11_has_155 : decode cX11_has 155 = .ok (.aload_n 0, 1) := by decide +kernel
theorem dX11_has_156 : decode cX11_has 156 = .ok (.getfield 105, 3) := by decide +kernel
theorem dX11_has_159 : decode cX11_has 159 = .ok (.goto 18, 3) := by decide +kernel
theorem dX11_has_162 : decode cX11_has 162 = .ok (.aload_n 0, 1) := by decide +kernel
theorem dX11_has_163 : decode cX11_has 163 = .ok (.getfield 59, 3) := by decide +kernel
theorem dX11_has_166 : decode cX11_has 166 = .ok (.goto 11, 3) := by decide +kernel
theorem dX11_has_169 : decode cX11_has 169 = .ok (.aload_n 0, 1) := by decide +kernel
theorem dX11_has_170 : decode cX11_has 170 = .ok (.invokevirtual 151, 3) := by decide +kernel
theorem dX11_has_173 : decode cX11_has 173 = .ok (.goto 4, 3) := by decide +kernel
theorem dX11_has_176 : decode cX11_has 176 = .ok (.iconst (-1), 1) := by decide +kernel
theorem dX11_has_177 : decode cX11_has 177 = .ok (.ireturn, 1) := by decide +kernel
abbrev rm_CK_has : Room := { frames := 2, cells := 0, slots := 0, locals := 44 }
def CK_has (σ : Sg) (x1 : Int32) : Option Int32 :=
  if x1 = 0 then (
    zmr2 3 29 (σ 0 3) fun q61 =>
    zgt σ q61 3 fun v64 =>
    some v64
  ) else (
  if x1 = 1 then (
    zmr2 3 29 (σ 0 3) fun q71 =>
    zgt σ q71 7 fun v74 =>
    some v74
  ) else (
  if x1 = 2 then (
    zgt σ 73 0 fun v87 =>
    some v87
  ) else (
  if x1 = 3 then (
    zgt σ 56 0 fun v100 =>
    some v100
  ) else (
  if x1 = 4 then (
    zgt σ 56 1 fun v113 =>
    some v113
  ) else (
  if x1 = 5 then (
    zgt σ 56 2 fun v126 =>
    some v126
  ) else (
  if x1 = 6 then (
    (Log_toldCount σ 77).bind fun r139 =>
    some r139
  ) else (
  if x1 = 7 then (
    zgt σ 124 0 fun v149 =>
    some v149
  ) else (
  if x1 = 8 then (
    zgt σ 0 11 fun v156 =>
    some v156
  ) else (
  if x1 = 9 then (
    zgt σ 0 14 fun v163 =>
    some v163
  ) else (
  if x1 = 10 then (
    (CK_poolsOutOfBand σ).bind fun r170 =>
    some r170
  ) else (
    some (-1)
  )))))))))))
set_option maxRecDepth 20000 in
theorem t_CK_has {X : Zx} {Q : State → Prop} {σ : Sg} {x1 : Int32} (ok : Zok X cX11_has RX11 rm_CK_has 198 2)  {out : Int32} (hf : CK_has σ x1 = some out) (hk : ZrI cX11_has X Q out σ) : ZAt X Q 0 0 0 σ [(0, .ref (X.ad 0)), (1, .int x1)] [] := by
  unfold CK_has at hf
  refine z_iload_n ok dX11_has_0 1 rfl ?_
  refine z_swc (v := 0) hf (fun hf => ?_) (fun n1_0 hf => ?_)
  · refine z_tableIn (tgt := 60) ok dX11_has_1 (by decide) (by decide) rfl (by decide) ?_
    refine z_aload_n ok dX11_has_60 0 rfl ?_
    refine z_getm2 (p := 3) (q := 29) ok kc_0 zc_11 hin_11 3 (by decide) fl_11_23 rfl (by decide) (by decide) dX11_has_61 hf (fun q61 e61 hf => ?_)
    have hq61 : zI_Works q61 198 := by rcases e61 with rfl | rfl; exact kI_Works_3; exact kI_Works_29
    obtain ⟨hq61_0, hq61_1, hq61_2, hq61_3, hq61_4, hq61_5, hq61_6, hq61_7, hq61_8, hq61_9, hq61_10, hq61_11, hq61_12, hq61_13, hq61_14, hq61_15, hq61_16, hq61_17, hq61_18, hq61_19, hq61_20, hq61_21, hq61_22, hq61_23, hq61_24, hq61_25⟩ := id hq61
    refine z_geti ok hq61_0 zc_10 hin_10 3 (by decide) fl_11_111 rfl dX11_has_64 hf (fun v64 hf => ?_)
    refine z_goto (tgt := 177) ok dX11_has_67 (by decide) ?_
    obtain rfl := Option.some.inj hf
    exact hk _ _ dX11_has_177
  refine z_swc (v := 1) hf (fun hf => ?_) (fun n1_1 hf => ?_)
  · refine z_tableIn (tgt := 70) ok dX11_has_1 (by decide) (by decide) rfl (by decide) ?_
    refine z_aload_n ok dX11_has_70 0 rfl ?_
    refine z_getm2 (p := 3) (q := 29) ok kc_0 zc_11 hin_11 3 (by decide) fl_11_23 rfl (by decide) (by decide) dX11_has_71 hf (fun q71 e71 hf => ?_)
    have hq71 : zI_Works q71 198 := by rcases e71 with rfl | rfl; exact kI_Works_3; exact kI_Works_29
    obtain ⟨hq71_0, hq71_1, hq71_2, hq71_3, hq71_4, hq71_5, hq71_6, hq71_7, hq71_8, hq71_9, hq71_10, hq71_11, hq71_12, hq71_13, hq71_14, hq71_15, hq71_16, hq71_17, hq71_18, hq71_19, hq71_20, hq71_21, hq71_22, hq71_23, hq71_24, hq71_25⟩ := id hq71
    refine z_geti ok hq71_0 zc_10 hin_10 7 (by decide) fl_11_114 rfl dX11_has_74 hf (fun v74 hf => ?_)
    refine z_goto (tgt := 177) ok dX11_has_77 (by decide) ?_
    obtain rfl := Option.some.inj hf
    exact hk _ _ dX11_has_177
  refine z_swc (v := 2) hf (fun hf => ?_) (fun n1_2 hf => ?_)
  · refine z_tableIn (tgt := 80) ok dX11_has_1 (by decide) (by decide) rfl (by decide) ?_
    refine z_aload_n ok dX11_has_80 0 rfl ?_
    refine z_getr (q := 55) ok kc_0 zc_11 hin_11 8 (by decide) fl_11_37 rfl dX11_has_81 ?_
    refine z_getr (q := 73) ok kc_55 zc_1 hin_1 1 (by decide) fl_11_117 rfl dX11_has_84 ?_
    refine z_geti ok kc_73 zc_3 hin_3 0 (by decide) fl_11_121 rfl dX11_has_87 hf (fun v87 hf => ?_)
    refine z_goto (tgt := 177) ok dX11_has_90 (by decide) ?_
    obtain rfl := Option.some.inj hf
    exact hk _ _ dX11_has_177
  refine z_swc (v := 3) hf (fun hf => ?_) (fun n1_3 hf => ?_)
  · refine z_tableIn (tgt := 93) ok dX11_has_1 (by decide) (by decide) rfl (by decide) ?_
    refine z_aload_n ok dX11_has_93 0 rfl ?_
    refine z_getr (q := 55) ok kc_0 zc_11 hin_11 8 (by decide) fl_11_37 rfl dX11_has_94 ?_
    refine z_getr (q := 56) ok kc_55 zc_1 hin_1 0 (by decide) fl_11_126 rfl dX11_has_97 ?_
    refine z_geti ok kc_56 zc_9 hin_9 0 (by decide) fl_11_130 rfl dX11_has_100 hf (fun v100 hf => ?_)
    refine z_goto (tgt := 177) ok dX11_has_103 (by decide) ?_
    obtain rfl := Option.some.inj hf
    exact hk _ _ dX11_has_177
  refine z_swc (v := 4) hf (fun hf => ?_) (fun n1_4 hf => ?_)
  · refine z_tableIn (tgt := 106) ok dX11_has_1 (by decide) (by decide) rfl (by decide) ?_
    refine z_aload_n ok dX11_has_106 0 rfl ?_
    refine z_getr (q := 55) ok kc_0 zc_11 hin_11 8 (by decide) fl_11_37 rfl dX11_has_107 ?_
    refine z_getr (q := 56) ok kc_55 zc_1 hin_1 0 (by decide) fl_11_126 rfl dX11_has_110 ?_
    refine z_geti ok kc_56 zc_9 hin_9 1 (by decide) fl_11_135 rfl dX11_has_113 hf (fun v113 hf => ?_)
    refine z_goto (tgt := 177) ok dX11_has_116 (by decide) ?_
    obtain rfl := Option.some.inj hf
    exact hk _ _ dX11_has_177
  refine z_swc (v := 5) hf (fun hf => ?_) (fun n1_5 hf => ?_)
  · refine z_tableIn (tgt := 119) ok dX11_has_1 (by decide) (by decide) rfl (by decide) ?_
    refine z_aload_n ok dX11_has_119 0 rfl ?_
    refine z_getr (q := 55) ok kc_0 zc_11 hin_11 8 (by decide) fl_11_37 rfl dX11_has_120 ?_
    refine z_getr (q := 56) ok kc_55 zc_1 hin_1 0 (by decide) fl_11_126 rfl dX11_has_123 ?_
    refine z_geti ok kc_56 zc_9 hin_9 2 (by decide) fl_11_138 rfl dX11_has_126 hf (fun v126 hf => ?_)
    refine z_goto (tgt := 177) ok dX11_has_129 (by decide) ?_
    obtain rfl := Option.some.inj hf
    exact hk _ _ dX11_has_177
  refine z_swc (v := 6) hf (fun hf => ?_) (fun n1_6 hf => ?_)
  · refine z_tableIn (tgt := 132) ok dX11_has_1 (by decide) (by decide) rfl (by decide) ?_
    refine z_aload_n ok dX11_has_132 0 rfl ?_
    refine z_getr (q := 55) ok kc_0 zc_11 hin_11 8 (by decide) fl_11_37 rfl dX11_has_133 ?_
    refine z_getr (q := 77) ok kc_55 zc_1 hin_1 2 (by decide) fl_11_141 rfl dX11_has_136 ?_
    refine z_call hf (fun r139 h139 hf => ?_)
    refine z_cV (As := []) (rest := []) (w := 77) ok kc_77 zc_0 (c_Log_toldCount kI_Log_77 h139) rfl ⟨ml_11_145, w_Log_toldCount⟩ hy_Log_toldCount ⟨rfl, rfl⟩ ⟨Nat.le_of_ble_eq_true rfl, Nat.le_of_ble_eq_true rfl⟩ ⟨Nat.zero_le _, Nat.zero_le _⟩ rfl (Nat.le_of_ble_eq_true rfl) dX11_has_139 ?_
    refine z_goto (tgt := 177) ok dX11_has_142 (by decide) ?_
    obtain rfl := Option.some.inj hf
    exact hk _ _ dX11_has_177
  refine z_swc (v := 7) hf (fun hf => ?_) (fun n1_7 hf => ?_)
  · refine z_tableIn (tgt := 145) ok dX11_has_1 (by decide) (by decide) rfl (by decide) ?_
    refine z_aload_n ok dX11_has_145 0 rfl ?_
    refine z_getr (q := 124) ok kc_0 zc_11 hin_11 13 (by decide) fl_11_55 rfl dX11_has_146 ?_
    refine z_geti ok kc_124 zc_7 hin_7 0 (by decide) fl_11_102 rfl dX11_has_149 hf (fun v149 hf => ?_)
    refine z_goto (tgt := 177) ok dX11_has_152 (by decide) ?_
    obtain rfl := Option.some.inj hf
    exact hk _ _ dX11_has_177
  refine z_swc (v := 8) hf (fun hf => ?_) (fun n1_8 hf => ?_)
  · refine z_tableIn (tgt := 155) ok dX11_has_1 (by decide) (by decide) rfl (by decide) ?_
    refine z_aload_n ok dX11_has_155 0 rfl ?_
    refine z_geti ok kc_0 zc_11 hin_11 11 (by decide) fl_11_105 rfl dX11_has_156 hf (fun v156 hf => ?_)
    refine z_goto (tgt := 177) ok dX11_has_159 (by decide) ?_
    obtain rfl := Option.some.inj hf
    exact hk _ _ dX11_has_177
  refine z_swc (v := 9) hf (fun hf => ?_) (fun n1_9 hf => ?_)
  · refine z_tableIn (tgt := 162) ok dX11_has_1 (by decide) (by decide) rfl (by decide) ?_
    refine z_aload_n ok dX11_has_162 0 rfl ?_
    refine z_geti ok kc_0 zc_11 hin_11 14 (by decide) fl_11_59 rfl dX11_has_163 hf (fun v163 hf => ?_)
    refine z_goto (tgt := 177) ok dX11_has_166 (by decide) ?_
    obtain rfl := Option.some.inj hf
    exact hk _ _ dX11_has_177
  refine z_swc (v := 10) hf (fun hf => ?_) (fun n1_10 hf => ?_)
  · refine z_tableIn (tgt := 169) ok dX11_has_1 (by decide) (by decide) rfl (by decide) ?_
    refine z_aload_n ok dX11_has_169 0 rfl ?_
    refine z_call hf (fun r170 h170 hf => ?_)
    refine z_cV (As := []) (rest := []) (w := 0) ok kc_0 zc_11 (c_CK_poolsOutOfBand h170) rfl ⟨ml_11_151, w_CK_poolsOutOfBand⟩ hy_CK_poolsOutOfBand ⟨rfl, rfl⟩ ⟨Nat.le_of_ble_eq_true rfl, Nat.le_of_ble_eq_true rfl⟩ ⟨Nat.zero_le _, Nat.zero_le _⟩ rfl (Nat.le_of_ble_eq_true rfl) dX11_has_170 ?_
    refine z_goto (tgt := 177) ok dX11_has_173 (by decide) ?_
    obtain rfl := Option.some.inj hf
    exact hk _ _ dX11_has_177
  refine z_tableOut (tgt := 176) ok dX11_has_1 (zsw_out 0 10 [0, 1, 2, 3, 4, 5, 6, 7, 8, 9, 10] (by decide) (List.forall_mem_cons.mpr ⟨n1_0, (List.forall_mem_cons.mpr ⟨n1_1, (List.forall_mem_cons.mpr ⟨n1_2, (List.forall_mem_cons.mpr ⟨n1_3, (List.forall_mem_cons.mpr ⟨n1_4, (List.forall_mem_cons.mpr ⟨n1_5, (List.forall_mem_cons.mpr ⟨n1_6, (List.forall_mem_cons.mpr ⟨n1_7, (List.forall_mem_cons.mpr ⟨n1_8, (List.forall_mem_cons.mpr ⟨n1_9, (List.forall_mem_cons.mpr ⟨n1_10, (fun _ h => absurd h List.not_mem_nil)⟩)⟩)⟩)⟩)⟩)⟩)⟩)⟩)⟩)⟩)⟩)) (by decide) ?_
  refine z_iconst (v := (-1)) ok dX11_has_176 (by decide) ?_
  obtain rfl := Option.some.inj hf
  exact hk _ _ dX11_has_177
theorem c_CK_has {σ : Sg} {x1 : Int32} {r : Int32} (h : CK_has σ x1 = some r) : ZcI yX11_has cX11_has 2 .int rm_CK_has 198 (fun ad => [.ref (ad 0), .int x1]) σ r σ :=
  zmetI pn_11 rfl (fun _ => rfl) (fun _ => Nat.le_of_ble_eq_true rfl) rfl (fun X Q ok hk => t_CK_has ok h hk)
theorem dX11_isPool_0 : decode cX11_isPool 0 = .ok (.iload_n 1, 1) := by decide +kernel
theorem dX11_isPool_1 : decode cX11_isPool 1 = .ok (.ifCond .lt 18, 3) := by decide +kernel
theorem dX11_isPool_4 : decode cX11_isPool 4 = .ok (.iload_n 1, 1) := by decide +kernel
theorem dX11_isPool_5 : decode cX11_isPool 5 = .ok (.aload_n 0, 1) := by decide +kernel
theorem dX11_isPool_6 : decode cX11_isPool 6 = .ok (.getfield 23, 3) := by decide +kernel
theorem dX11_isPool_9 : decode cX11_isPool 9 = .ok (.getfield 111, 3) := by decide +kernel
theorem dX11_isPool_12 : decode cX11_isPool 12 = .ok (.if_icmp .ge 7, 3) := by decide +kernel
theorem dX11_isPool_15 : decode cX11_isPool 15 = .ok (.iconst 1, 1) := by decide +kernel
theorem dX11_isPool_16 : decode cX11_isPool 16 = .ok (.goto 4, 3) := by decide +kernel
theorem dX11_isPool_19 : decode cX11_isPool 19 = .ok (.iconst 0, 1) := by decide +kernel
theorem dX11_isPool_20 : decode cX11_isPool 20 = .ok (.ireturn, 1) := by decide +kernel
abbrev rm_CK_isPool : Room := { frames := 0, cells := 0, slots := 0, locals := 0 }
def CK_isPool (σ : Sg) (x1 : Int32) : Option Bool :=
  if x1 < 0 then (
    some false
  ) else (
    zmr2 3 29 (σ 0 3) fun q6 =>
    zgt σ q6 3 fun v9 =>
    if v9 ≤ x1 then (
      some false
    ) else (
      some true
    )
  )
set_option maxRecDepth 20000 in
theorem t_CK_isPool {X : Zx} {Q : State → Prop} {σ : Sg} {x1 : Int32} (ok : Zok X cX11_isPool RX11 rm_CK_isPool 198 2)  {out : Bool} (hf : CK_isPool σ x1 = some out) (hk : ZrI cX11_isPool X Q (zb out) σ) : ZAt X Q 0 0 0 σ [(0, .ref (X.ad 0)), (1, .int x1)] [] := by
  unfold CK_isPool at hf
  refine z_iload_n ok dX11_isPool_0 1 rfl ?_
  refine z_if_lt (tgt := 19) ok dX11_isPool_1 (by decide) hf (fun _ hf => ?_) (fun _ hf => ?_)
  · refine z_iconst (v := 0) ok dX11_isPool_19 (by decide) ?_
    obtain rfl := Option.some.inj hf
    exact hk _ _ dX11_isPool_20
  · refine z_iload_n ok dX11_isPool_4 1 rfl ?_
    refine z_aload_n ok dX11_isPool_5 0 rfl ?_
    refine z_getm2 (p := 3) (q := 29) ok kc_0 zc_11 hin_11 3 (by decide) fl_11_23 rfl (by decide) (by decide) dX11_isPool_6 hf (fun q6 e6 hf => ?_)
    have hq6 : zI_Works q6 198 := by rcases e6 with rfl | rfl; exact kI_Works_3; exact kI_Works_29
    obtain ⟨hq6_0, hq6_1, hq6_2, hq6_3, hq6_4, hq6_5, hq6_6, hq6_7, hq6_8, hq6_9, hq6_10, hq6_11, hq6_12, hq6_13, hq6_14, hq6_15, hq6_16, hq6_17, hq6_18, hq6_19, hq6_20, hq6_21, hq6_22, hq6_23, hq6_24, hq6_25⟩ := id hq6
    refine z_geti ok hq6_0 zc_10 hin_10 3 (by decide) fl_11_111 rfl dX11_isPool_9 hf (fun v9 hf => ?_)
    refine z_icmp_ge (tgt := 19) ok dX11_isPool_12 (by decide) hf (fun _ hf => ?_) (fun _ hf => ?_)
    · refine z_iconst (v := 0) ok dX11_isPool_19 (by decide) ?_
      obtain rfl := Option.some.inj hf
      exact hk _ _ dX11_isPool_20
    · refine z_iconst (v := 1) ok dX11_isPool_15 (by decide) ?_
      refine z_goto (tgt := 20) ok dX11_isPool_16 (by decide) ?_
      obtain rfl := Option.some.inj hf
      exact hk _ _ dX11_isPool_20
theorem c_CK_isPool {σ : Sg} {x1 : Int32} {r : Bool} (h : CK_isPool σ x1 = some r) : ZcI yX11_isPool cX11_isPool 2 .boolean rm_CK_isPool 198 (fun ad => [.ref (ad 0), .int x1]) σ (zb r) σ :=
  zmetI pn_11 rfl (fun _ => rfl) (fun _ => Nat.le_of_ble_eq_true rfl) (zb_nar _) (fun X Q ok hk => t_CK_isPool ok h hk)
theorem dX11_letterOf_0 : decode cX11_letterOf 0 = .ok (.iload_n 0, 1) := by decide +kernel
theorem dX11_letterOf_1 : decode cX11_letterOf 1 = .ok (.bipush 25, 2) := by decide +kernel
theorem dX11_letterOf_3 : decode cX11_letterOf 3 = .ok (.iconst 5, 1) := by decide +kernel
theorem dX11_letterOf_4 : decode cX11_letterOf 4 = .ok (.iload_n 1, 1) := by decide +kernel
theorem dX11_letterOf_5 : decode cX11_letterOf 5 = .ok (.imul, 1) := by decide +kernel
theorem dX11_letterOf_6 : decode cX11_letterOf 6 = .ok (.isub, 1) := by decide +kernel
theorem dX11_letterOf_7 : decode cX11_letterOf 7 = .ok (.ishr, 1) := by decide +kernel
theorem dX11_letterOf_8 : decode cX11_letterOf 8 = .ok (.bipush 31, 2) := by decide +kernel
theorem dX11_letterOf_10 : decode cX11_letterOf 10 = .ok (.iand, 1) := by decide +kernel
theorem dX11_letterOf_11 : decode cX11_letterOf 11 = .ok (.ireturn, 1) := by decide +kernel
abbrev rm_CK_letterOf : Room := { frames := 0, cells := 0, slots := 0, locals := 0 }
def CK_letterOf (x0 : Int32) (x1 : Int32) : Option Int32 :=
  some ((x0 >>> ((25 - (5 * x1)) &&& 31)) &&& 31)
set_option maxRecDepth 20000 in
theorem t_CK_letterOf {X : Zx} {Q : State → Prop} {σ : Sg} {x0 : Int32} {x1 : Int32} (ok : Zok X cX11_letterOf RX11 rm_CK_letterOf 198 2)  {out : Int32} (hf : CK_letterOf x0 x1 = some out) (hk : ZrI cX11_letterOf X Q out σ) : ZAt X Q 0 0 0 σ [(0, .int x0), (1, .int x1)] [] := by
  unfold CK_letterOf at hf
  refine z_iload_n ok dX11_letterOf_0 0 rfl ?_
  refine z_bipush (v := 25) ok dX11_letterOf_1 (by decide) ?_
  refine z_iconst (v := 5) ok dX11_letterOf_3 (by decide) ?_
  refine z_iload_n ok dX11_letterOf_4 1 rfl ?_
  refine z_imul ok dX11_letterOf_5 ?_
  refine z_isub ok dX11_letterOf_6 ?_
  refine z_ishr ok dX11_letterOf_7 ?_
  refine z_bipush (v := 31) ok dX11_letterOf_8 (by decide) ?_
  refine z_iand ok dX11_letterOf_10 ?_
  obtain rfl := Option.some.inj hf
  exact hk _ _ dX11_letterOf_11
theorem c_CK_letterOf {σ : Sg} {x0 : Int32} {x1 : Int32} {r : Int32} (h : CK_letterOf x0 x1 = some r) : ZcI yX11_letterOf cX11_letterOf 2 .int rm_CK_letterOf 198 (fun ad => [.int x0, .int x1]) σ r σ :=
  zmetI pn_11 rfl (fun _ => rfl) (fun _ => Nat.le_of_ble_eq_true rfl) rfl (fun X Q ok hk => t_CK_letterOf ok h hk)
theorem dX11_isOutlet_0 : decode cX11_isOutlet 0 = .ok (.iload_n 1, 1) := by decide +kernel
theorem dX11_isOutlet_1 : decode cX11_isOutlet 1 = .ok (.ifCond .lt 18, 3) := by decide +kernel
theorem dX11_isOutlet_4 : decode cX11_isOutlet 4 = .ok (.iload_n 1, 1) := by decide +kernel
theorem dX11_isOutlet_5 : decode cX11_isOutlet 5 = .ok (.aload_n 0, 1) := by decide +kernel
theorem dX11_isOutlet_6 : decode cX11_isOutlet 6 = .ok (.getfield 23, 3) := by decide +kernel
theorem dX11_isOutlet_9 : decode cX11_isOutlet 9 = .ok (.getfield 114, 3) := by decide +kernel
theorem dX11_isOutlet_12 : decode cX11_isOutlet 12 = .ok (.if_icmp .ge 7, 3) := by decide +kernel
theorem dX11_isOutlet_15 : decode cX11_isOutlet 15 = .ok (.iconst 1, 1) := by decide +kernel
theorem dX11_isOutlet_16 : decode cX11_isOutlet 16 = .ok (.goto 4, 3) := by decide +kernel
theorem dX11_isOutlet_19 : decode cX11_isOutlet 19 = .ok (.iconst 0, 1) := by decide +kernel
theorem dX11_isOutlet_20 : decode cX11_isOutlet 20 = .ok (.ireturn, 1) := by decide +kernel
abbrev rm_CK_isOutlet : Room := { frames := 0, cells := 0, slots := 0, locals := 0 }
def CK_isOutlet (σ : Sg) (x1 : Int32) : Option Bool :=
  if x1 < 0 then (
    some false
  ) else (
    zmr2 3 29 (σ 0 3) fun q6 =>
    zgt σ q6 7 fun v9 =>
    if v9 ≤ x1 then (
      some false
    ) else (
      some true
    )
  )
set_option maxRecDepth 20000 in
theorem t_CK_isOutlet {X : Zx} {Q : State → Prop} {σ : Sg} {x1 : Int32} (ok : Zok X cX11_isOutlet RX11 rm_CK_isOutlet 198 2)  {out : Bool} (hf : CK_isOutlet σ x1 = some out) (hk : ZrI cX11_isOutlet X Q (zb out) σ) : ZAt X Q 0 0 0 σ [(0, .ref (X.ad 0)), (1, .int x1)] [] := by
  unfold CK_isOutlet at hf
  refine z_iload_n ok dX11_isOutlet_0 1 rfl ?_
  refine z_if_lt (tgt := 19) ok dX11_isOutlet_1 (by decide) hf (fun _ hf => ?_) (fun _ hf => ?_)
  · refine z_iconst (v := 0) ok dX11_isOutlet_19 (by decide) ?_
    obtain rfl := Option.some.inj hf
    exact hk _ _ dX11_isOutlet_20
  · refine z_iload_n ok dX11_isOutlet_4 1 rfl ?_
    refine z_aload_n ok dX11_isOutlet_5 0 rfl ?_
    refine z_getm2 (p := 3) (q := 29) ok kc_0 zc_11 hin_11 3 (by decide) fl_11_23 rfl (by decide) (by decide) dX11_isOutlet_6 hf (fun q6 e6 hf => ?_)
    have hq6 : zI_Works q6 198 := by rcases e6 with rfl | rfl; exact kI_Works_3; exact kI_Works_29
    obtain ⟨hq6_0, hq6_1, hq6_2, hq6_3, hq6_4, hq6_5, hq6_6, hq6_7, hq6_8, hq6_9, hq6_10, hq6_11, hq6_12, hq6_13, hq6_14, hq6_15, hq6_16, hq6_17, hq6_18, hq6_19, hq6_20, hq6_21, hq6_22, hq6_23, hq6_24, hq6_25⟩ := id hq6
    refine z_geti ok hq6_0 zc_10 hin_10 7 (by decide) fl_11_114 rfl dX11_isOutlet_9 hf (fun v9 hf => ?_)
    refine z_icmp_ge (tgt := 19) ok dX11_isOutlet_12 (by decide) hf (fun _ hf => ?_) (fun _ hf => ?_)
    · refine z_iconst (v := 0) ok dX11_isOutlet_19 (by decide) ?_
      obtain rfl := Option.some.inj hf
      exact hk _ _ dX11_isOutlet_20
    · refine z_iconst (v := 1) ok dX11_isOutlet_15 (by decide) ?_
      refine z_goto (tgt := 20) ok dX11_isOutlet_16 (by decide) ?_
      obtain rfl := Option.some.inj hf
      exact hk _ _ dX11_isOutlet_20
theorem c_CK_isOutlet {σ : Sg} {x1 : Int32} {r : Bool} (h : CK_isOutlet σ x1 = some r) : ZcI yX11_isOutlet cX11_isOutlet 2 .boolean rm_CK_isOutlet 198 (fun ad => [.ref (ad 0), .int x1]) σ (zb r) σ :=
  zmetI pn_11 rfl (fun _ => rfl) (fun _ => Nat.le_of_ble_eq_true rfl) (zb_nar _) (fun X Q ok hk => t_CK_isOutlet ok h hk)
theorem dX11_letter_0 : decode cX11_letter 0 = .ok (.iload_n 3, 1) := by decide +kernel
theorem dX11_letter_1 : decode cX11_letter 1 = .ok (.ifCond .lt 9, 3) := by decide +kernel
theorem dX11_letter_4 : decode cX11_letter 4 = .ok (.iload_n 3, 1) := by decide +kernel
theorem dX11_letter_5 : decode cX11_letter 5 = .ok (.bipush 6, 2) := by decide +kernel
theorem dX11_letter_7 : decode cX11_letter 7 = .ok (.if_icmp .lt 5, 3) := by decide +kernel
theorem dX11_letter_10 : decode cX11_letter 10 = .ok (.iconst (-1), 1) := by decide +kernel
theorem dX11_letter_11 : decode cX11_letter 11 = .ok (.ireturn, 1) := by decide +kernel
theorem dX11_letter_12 : decode cX11_letter 12 = .ok (.iload_n 1, 1) := by decide +kernel
theorem dX11_letter_13 : decode cX11_letter 13 = .ok (.ifCond .ne 25, 3) := by decide +kernel
theorem dX11_letter_16 : decode cX11_letter 16 = .ok (.aload_n 0, 1) := by decide +kernel
theorem dX11_letter_17 : decode cX11_letter 17 = .ok (.iload_n 2, 1) := by decide +kernel
theorem dX11_letter_18 : decode cX11_letter 18 = .ok (.invokevirtual 154, 3) := by decide +kernel
theorem dX11_letter_21 : decode cX11_letter 21 = .ok (.ifCond .eq 17, 3) := by decide +kernel
theorem dX11_letter_24 : decode cX11_letter 24 = .ok (.aload_n 0, 1) := by decide +kernel
theorem dX11_letter_25 : decode cX11_letter 25 = .ok (.getfield 23, 3) := by decide +kernel
theorem dX11_letter_28 : decode cX11_letter 28 = .ok (.getfield 157, 3) := by decide +kernel
theorem dX11_letter_31 : decode cX11_letter 31 = .ok (.iload_n 2, 1) := by decide +kernel
theorem dX11_letter_32 : decode cX11_letter 32 = .ok (.iaload, 1) := by decide +kernel
theorem dX11_letter_33 : decode cX11_letter 33 = .ok (.iload_n 3, 1) := by decide +kernel
theorem dX11_letter_34 : decode cX11_letter 34 = .ok (.invokestatic 160, 3) := by decide +kernel
theorem dX11_letter_37 : decode cX11_letter 37 = .ok (.ireturn, 1) := by decide +kernel
theorem dX11_letter_38 : decode cX11_letter 38 = .ok (.iload_n 1, 1) := by decide +kernel
theorem dX11_letter_39 : decode cX11_letter 39 = .ok (.iconst 1, 1) := by decide +kernel
theorem dX11_letter_40 : decode cX11_letter 40 = .ok (.if_icmp .ne 25, 3) := by decide +kernel
theorem dX11_letter_43 : decode cX11_letter 43 = .ok (.aload_n 0, 1) := by decide +kernel
theorem dX11_letter_44 : decode cX11_letter 44 = .ok (.iload_n 2, 1) := by decide +kernel
theorem dX11_letter_45 : decode cX11_letter 45 = .ok (.invokevirtual 164, 3) := by decide +kernel
theorem dX11_letter_48 : decode cX11_letter 48 = .ok (.ifCond .eq 17, 3) := by decide +kernel
theorem dX11_letter_51 : decode cX11_letter 51 = .ok (.aload_n 0, 1) := by decide +kernel
theorem dX11_letter_52 : decode cX11_letter 52 = .ok (.getfield 23, 3) := by decide +kernel
theorem dX11_letter_55 : decode cX11_letter 55 = .ok (.getfield 167, 3) := by decide +kernel
theorem dX11_letter_58 : decode cX11_letter 58 = .ok (.iload_n 2, 1) := by decide +kernel
theorem dX11_letter_59 : decode cX11_letter 59 = .ok (.iaload, 1) := by decide +kernel
theorem dX11_letter_60 : decode cX11_letter 60 = .ok (.iload_n 3, 1) := by decide +kernel
theorem dX11_letter_61 : decode cX11_letter 61 = .ok (.invokestatic 160, 3) := by decide +kernel
theorem dX11_letter_64 : decode cX11_letter 64 = .ok (.ireturn, 1) := by decide +kernel
theorem dX11_letter_65 : decode cX11_letter 65 = .ok (.iconst (-1), 1) := by decide +kernel
theorem dX11_letter_66 : decode cX11_letter 66 = .ok (.ireturn, 1) := by decide +kernel
abbrev rm_CK_letter : Room := { frames := 1, cells := 0, slots := 0, locals := 21 }
def CK_letter_j38 (σ : Sg) (x1 : Int32) (x2 : Int32) (x3 : Int32) : Option Int32 :=
  if x1 = 1 then (
    (CK_isOutlet σ x2).bind fun r45 =>
    if (zb r45) = 0 then (
      some (-1)
    ) else (
      zmr2 3 29 (σ 0 3) fun q52 =>
      zrd σ (q52 + 13) 10 x2 fun v59 =>
      (CK_letterOf v59 x3).bind fun r61 =>
      some r61
    )
  ) else (
    some (-1)
  )
set_option maxRecDepth 20000 in
theorem t_CK_letter_j38 {X : Zx} {Q : State → Prop} {σ : Sg} {x1 : Int32} {x2 : Int32} {x3 : Int32} (ok : Zok X cX11_letter RX11 rm_CK_letter 198 4)  {out : Int32} (hf : CK_letter_j38 σ x1 x2 x3 = some out) (hk : ZrI cX11_letter X Q out σ) : ZAt X Q 0 0 38 σ [(0, .ref (X.ad 0)), (1, .int x1), (2, .int x2), (3, .int x3)] [] := by
  unfold CK_letter_j38 at hf
  refine z_iload_n ok dX11_letter_38 1 rfl ?_
  refine z_iconst (v := 1) ok dX11_letter_39 (by decide) ?_
  refine z_icmp_ne (tgt := 65) ok dX11_letter_40 (by decide) hf (fun _ hf => ?_) (fun _ hf => ?_)
  · refine z_aload_n ok dX11_letter_43 0 rfl ?_
    refine z_iload_n ok dX11_letter_44 2 rfl ?_
    refine z_call hf (fun r45 h45 hf => ?_)
    refine z_cV (As := [.int x2]) (rest := []) (w := 0) ok kc_0 zc_11 (c_CK_isOutlet h45) rfl ⟨ml_11_164, w_CK_isOutlet⟩ hy_CK_isOutlet ⟨rfl, rfl⟩ ⟨Nat.le_of_ble_eq_true rfl, Nat.le_of_ble_eq_true rfl⟩ ⟨Nat.zero_le _, Nat.zero_le _⟩ rfl (Nat.le_of_ble_eq_true rfl) dX11_letter_45 ?_
    refine z_if_eq (tgt := 65) ok dX11_letter_48 (by decide) hf (fun _ hf => ?_) (fun _ hf => ?_)
    · refine z_iconst (v := (-1)) ok dX11_letter_65 (by decide) ?_
      obtain rfl := Option.some.inj hf
      exact hk _ _ dX11_letter_66
    · refine z_aload_n ok dX11_letter_51 0 rfl ?_
      refine z_getm2 (p := 3) (q := 29) ok kc_0 zc_11 hin_11 3 (by decide) fl_11_23 rfl (by decide) (by decide) dX11_letter_52 hf (fun q52 e52 hf => ?_)
      have hq52 : zI_Works q52 198 := by rcases e52 with rfl | rfl; exact kI_Works_3; exact kI_Works_29
      obtain ⟨hq52_0, hq52_1, hq52_2, hq52_3, hq52_4, hq52_5, hq52_6, hq52_7, hq52_8, hq52_9, hq52_10, hq52_11, hq52_12, hq52_13, hq52_14, hq52_15, hq52_16, hq52_17, hq52_18, hq52_19, hq52_20, hq52_21, hq52_22, hq52_23, hq52_24, hq52_25⟩ := id hq52
      refine z_getr (q := (q52 + 13)) ok hq52_0 zc_10 hin_10 8 (by decide) fl_11_167 rfl dX11_letter_55 ?_
      refine z_iload_n ok dX11_letter_58 2 rfl ?_
      refine z_iald ok hq52_13 dX11_letter_59 hf (fun v59 hf => ?_)
      refine z_iload_n ok dX11_letter_60 3 rfl ?_
      refine z_call hf (fun r61 h61 hf => ?_)
      refine z_cS (As := [.int v59, .int x3]) (rest := []) ok (c_CK_letterOf h61) rfl ⟨ml_11_160, w_CK_letterOf⟩ hy_CK_letterOf ⟨rfl, rfl⟩ ⟨Nat.le_of_ble_eq_true rfl, Nat.le_of_ble_eq_true rfl⟩ ⟨Nat.zero_le _, Nat.zero_le _⟩ rfl (Nat.le_of_ble_eq_true rfl) dX11_letter_61 ?_
      obtain rfl := Option.some.inj hf
      exact hk _ _ dX11_letter_64
  · refine z_iconst (v := (-1)) ok dX11_letter_65 (by decide) ?_
    obtain rfl := Option.some.inj hf
    exact hk _ _ dX11_letter_66
def CK_letter (σ : Sg) (x1 : Int32) (x2 : Int32) (x3 : Int32) : Option Int32 :=
  if x3 < 0 then (
    some (-1)
  ) else (
    if x3 < 6 then (
      if x1 = 0 then (
        (CK_isPool σ x2).bind fun r18 =>
        if (zb r18) = 0 then (
          CK_letter_j38 σ x1 x2 x3
        ) else (
          zmr2 3 29 (σ 0 3) fun q25 =>
          zrd σ (q25 + 1) 8 x2 fun v32 =>
          (CK_letterOf v32 x3).bind fun r34 =>
          some r34
        )
      ) else (
        CK_letter_j38 σ x1 x2 x3
      )
    ) else (
      some (-1)
    )
  )
set_option maxRecDepth 20000 in
theorem t_CK_letter {X : Zx} {Q : State → Prop} {σ : Sg} {x1 : Int32} {x2 : Int32} {x3 : Int32} (ok : Zok X cX11_letter RX11 rm_CK_letter 198 4)  {out : Int32} (hf : CK_letter σ x1 x2 x3 = some out) (hk : ZrI cX11_letter X Q out σ) : ZAt X Q 0 0 0 σ [(0, .ref (X.ad 0)), (1, .int x1), (2, .int x2), (3, .int x3)] [] := by
  unfold CK_letter at hf
  refine z_iload_n ok dX11_letter_0 3 rfl ?_
  refine z_if_lt (tgt := 10) ok dX11_letter_1 (by decide) hf (fun _ hf => ?_) (fun _ hf => ?_)
  · refine z_iconst (v := (-1)) ok dX11_letter_10 (by decide) ?_
    obtain rfl := Option.some.inj hf
    exact hk _ _ dX11_letter_11
  · refine z_iload_n ok dX11_letter_4 3 rfl ?_
    refine z_bipush (v := 6) ok dX11_letter_5 (by decide) ?_
    refine z_icmp_lt (tgt := 12) ok dX11_letter_7 (by decide) hf (fun _ hf => ?_) (fun _ hf => ?_)
    · refine z_iload_n ok dX11_letter_12 1 rfl ?_
      refine z_if_ne (tgt := 38) ok dX11_letter_13 (by decide) hf (fun _ hf => ?_) (fun _ hf => ?_)
      · refine z_aload_n ok dX11_letter_16 0 rfl ?_
        refine z_iload_n ok dX11_letter_17 2 rfl ?_
        refine z_call hf (fun r18 h18 hf => ?_)
        refine z_cV (As := [.int x2]) (rest := []) (w := 0) ok kc_0 zc_11 (c_CK_isPool h18) rfl ⟨ml_11_154, w_CK_isPool⟩ hy_CK_isPool ⟨rfl, rfl⟩ ⟨Nat.le_of_ble_eq_true rfl, Nat.le_of_ble_eq_true rfl⟩ ⟨Nat.zero_le _, Nat.zero_le _⟩ rfl (Nat.le_of_ble_eq_true rfl) dX11_letter_18 ?_
        refine z_if_eq (tgt := 38) ok dX11_letter_21 (by decide) hf (fun _ hf => ?_) (fun _ hf => ?_)
        · exact z_sub [0, 1, 2, 3] rfl (t_CK_letter_j38 ok hf hk)
        · refine z_aload_n ok dX11_letter_24 0 rfl ?_
          refine z_getm2 (p := 3) (q := 29) ok kc_0 zc_11 hin_11 3 (by decide) fl_11_23 rfl (by decide) (by decide) dX11_letter_25 hf (fun q25 e25 hf => ?_)
          have hq25 : zI_Works q25 198 := by rcases e25 with rfl | rfl; exact kI_Works_3; exact kI_Works_29
          obtain ⟨hq25_0, hq25_1, hq25_2, hq25_3, hq25_4, hq25_5, hq25_6, hq25_7, hq25_8, hq25_9, hq25_10, hq25_11, hq25_12, hq25_13, hq25_14, hq25_15, hq25_16, hq25_17, hq25_18, hq25_19, hq25_20, hq25_21, hq25_22, hq25_23, hq25_24, hq25_25⟩ := id hq25
          refine z_getr (q := (q25 + 1)) ok hq25_0 zc_10 hin_10 4 (by decide) fl_11_157 rfl dX11_letter_28 ?_
          refine z_iload_n ok dX11_letter_31 2 rfl ?_
          refine z_iald ok hq25_1 dX11_letter_32 hf (fun v32 hf => ?_)
          refine z_iload_n ok dX11_letter_33 3 rfl ?_
          refine z_call hf (fun r34 h34 hf => ?_)
          refine z_cS (As := [.int v32, .int x3]) (rest := []) ok (c_CK_letterOf h34) rfl ⟨ml_11_160, w_CK_letterOf⟩ hy_CK_letterOf ⟨rfl, rfl⟩ ⟨Nat.le_of_ble_eq_true rfl, Nat.le_of_ble_eq_true rfl⟩ ⟨Nat.zero_le _, Nat.zero_le _⟩ rfl (Nat.le_of_ble_eq_true rfl) dX11_letter_34 ?_
          obtain rfl := Option.some.inj hf
          exact hk _ _ dX11_letter_37
      · exact z_sub [0, 1, 2, 3] rfl (t_CK_letter_j38 ok hf hk)
    · refine z_iconst (v := (-1)) ok dX11_letter_10 (by decide) ?_
      obtain rfl := Option.some.inj hf
      exact hk _ _ dX11_letter_11
theorem c_CK_letter {σ : Sg} {x1 : Int32} {x2 : Int32} {x3 : Int32} {r : Int32} (h : CK_letter σ x1 x2 x3 = some r) : ZcI yX11_letter cX11_letter 4 .int rm_CK_letter 198 (fun ad => [.ref (ad 0), .int x1, .int x2, .int x3]) σ r σ :=
  zmetI pn_11 rfl (fun _ => rfl) (fun _ => Nat.le_of_ble_eq_true rfl) rfl (fun X Q ok hk => t_CK_letter ok h hk)
theorem dX11_nameOnTape_0 : decode cX11_nameOnTape 0 = .ok (.iload_n 1, 1) := by decide +kernel
theorem dX11_nameOnTape_1 : decode cX11_nameOnTape 1 = .ok (.bipush 6, 2) := by decide +kernel
theorem dX11_nameOnTape_3 : decode cX11_nameOnTape 3 = .ok (.if_icmp .le 5, 3) := by decide +kernel
theorem dX11_nameOnTape_6 : decode cX11_nameOnTape 6 = .ok (.iconst 0, 1) := by decide +kernel
theorem dX11_nameOnTape_7 : decode cX11_nameOnTape 7 = .ok (.ireturn, 1) := by decide +kernel
theorem dX11_nameOnTape_8 : decode cX11_nameOnTape 8 = .ok (.iconst 0, 1) := by decide +kernel
theorem dX11_nameOnTape_9 : decode cX11_nameOnTape 9 = .ok (.istore_n 2, 1) := by decide +kernel
theorem dX11_nameOnTape_10 : decode cX11_nameOnTape 10 = .ok (.iload_n 2, 1) := by decide +kernel
theorem dX11_nameOnTape_11 : decode cX11_nameOnTape 11 = .ok (.iload_n 1, 1) := by decide +kernel
theorem dX11_nameOnTape_12 : decode cX11_nameOnTape 12 = .ok (.if_icmp .ge 23, 3) := by decide +kernel
theorem dX11_nameOnTape_15 : decode cX11_nameOnTape 15 = .ok (.aload_n 0, 1) := by decide +kernel
theorem dX11_nameOnTape_16 : decode cX11_nameOnTape 16 = .ok (.getfield 9, 3) := by decide +kernel
theorem dX11_nameOnTape_19 : decode cX11_nameOnTape 19 = .ok (.iload_n 2, 1) := by decide +kernel
theorem dX11_nameOnTape_20 : decode cX11_nameOnTape 20 = .ok (.baload, 1) := by decide +kernel
theorem dX11_nameOnTape_21 : decode cX11_nameOnTape 21 = .ok (.invokestatic 381, 3) := by decide +kernel
theorem dX11_nameOnTape_24 : decode cX11_nameOnTape 24 = .ok (.ifCond .ne 5, 3) := by decide +kernel
theorem dX11_nameOnTape_27 : decode cX11_nameOnTape 27 = .ok (.iconst 0, 1) := by decide +kernel
theorem dX11_nameOnTape_28 : decode cX11_nameOnTape 28 = .ok (.ireturn, 1) := by decide +kernel
theorem dX11_nameOnTape_29 : decode cX11_nameOnTape 29 = .ok (.iinc 2 1, 3) := by decide +kernel
theorem dX11_nameOnTape_32 : decode cX11_nameOnTape 32 = .ok (.goto (-22), 3) := by decide +kernel
theorem dX11_nameOnTape_35 : decode cX11_nameOnTape 35 = .ok (.aload_n 0, 1) := by decide +kernel
theorem dX11_nameOnTape_36 : decode cX11_nameOnTape 36 = .ok (.getfield 9, 3) := by decide +kernel
theorem dX11_nameOnTape_39 : decode cX11_nameOnTape 39 = .ok (.iconst 0, 1) := by decide +kernel
theorem dX11_nameOnTape_40 : decode cX11_nameOnTape 40 = .ok (.iload_n 1, 1) := by decide +kernel
theorem dX11_nameOnTape_41 : decode cX11_nameOnTape 41 = .ok (.invokestatic 385, 3) := by decide +kernel
theorem dX11_nameOnTape_44 : decode cX11_nameOnTape 44 = .ok (.ireturn, 1) := by decide +kernel
abbrev rm_CK_nameOnTape : Room := { frames := 1, cells := 0, slots := 0, locals := 25 }
def CK_nameOnTape_l10 (σ : Sg) (x1 : Int32) (x2 : Int32) : Option (Int32 ⊕ (Int32 ⊕ Int32)) :=
  if x1 ≤ x2 then (
    some (.inr (.inr x2))
  ) else (
    zrd σ 1 1600 x2 fun v20 =>
    (Reader_isLetter v20).bind fun r21 =>
    if (zb r21) = 0 then (
      some (.inr (.inl 0))
    ) else (
      zlt (x2 + 1) fun v29 =>
      some (.inl v29)
    )
  )
set_option maxRecDepth 20000 in
theorem t_CK_nameOnTape_l10 {X : Zx} {Q : State → Prop} {σ : Sg} {x1 : Int32} {x2 : Int32} (ok : Zok X cX11_nameOnTape RX11 rm_CK_nameOnTape 198 3)  {out : (Int32 ⊕ (Int32 ⊕ Int32))} (hf : CK_nameOnTape_l10 σ x1 x2 = some out) (hk : zout (fun (s : Int32) => ZAt X Q 0 0 10 σ [(0, .ref (X.ad 0)), (1, .int x1), (2, .int s)] []) (zout (fun (r : Int32) => ZrI cX11_nameOnTape X Q r σ) (fun (s : Int32) => ZAt X Q 0 0 35 σ [(0, .ref (X.ad 0)), (1, .int x1)] [])) out) : ZAt X Q 0 0 10 σ [(0, .ref (X.ad 0)), (1, .int x1), (2, .int x2)] [] := by
  unfold CK_nameOnTape_l10 at hf
  refine z_iload_n ok dX11_nameOnTape_10 2 rfl ?_
  refine z_iload_n ok dX11_nameOnTape_11 1 rfl ?_
  refine z_icmp_ge (tgt := 35) ok dX11_nameOnTape_12 (by decide) hf (fun _ hf => ?_) (fun _ hf => ?_)
  · obtain rfl := Option.some.inj hf
    exact z_sub [0, 1] rfl hk
  · refine z_aload_n ok dX11_nameOnTape_15 0 rfl ?_
    refine z_getr (q := 1) ok kc_0 zc_11 hin_11 0 (by decide) fl_11_9 rfl dX11_nameOnTape_16 ?_
    refine z_iload_n ok dX11_nameOnTape_19 2 rfl ?_
    refine z_bald ok kc_1 dX11_nameOnTape_20 hf (fun v20 hf => ?_)
    refine z_call hf (fun r21 h21 hf => ?_)
    refine z_cS (As := [.int v20]) (rest := []) ok (c_Reader_isLetter h21) rfl ⟨ml_11_381, w_Reader_isLetter⟩ hy_Reader_isLetter ⟨rfl, rfl⟩ ⟨Nat.le_of_ble_eq_true rfl, Nat.le_of_ble_eq_true rfl⟩ ⟨Nat.zero_le _, Nat.zero_le _⟩ rfl (Nat.le_of_ble_eq_true rfl) dX11_nameOnTape_21 ?_
    refine z_if_ne (tgt := 29) ok dX11_nameOnTape_24 (by decide) hf (fun _ hf => ?_) (fun _ hf => ?_)
    · refine z_iconst (v := 0) ok dX11_nameOnTape_27 (by decide) ?_
      obtain rfl := Option.some.inj hf
      exact hk _ _ dX11_nameOnTape_28
    · refine z_iinc (w := 1) (lv' := fun v29 => [(2, .int v29), (0, .ref (X.ad 0)), (1, .int x1)]) ok dX11_nameOnTape_29 2 rfl (by decide) (by decide) (fun _ => rfl) hf (fun v29 hf => ?_)
      refine z_goto (tgt := 10) ok dX11_nameOnTape_32 (by decide) ?_
      obtain rfl := Option.some.inj hf
      exact z_sub [1, 2, 0] rfl hk
def CK_nameOnTape (σ : Sg) (x1 : Int32) : Option Int32 :=
  if x1 ≤ 6 then (
    zlt 0 fun v9 =>
    (zit (fun (s : Int32) => CK_nameOnTape_l10 σ x1 s) zFU v9).bind fun r => r.elim (fun r =>
    some r
    ) (fun r =>
    (Reader_nameIn σ 1 1600 0 x1).bind fun r41 =>
    some r41
    )
  ) else (
    some 0
  )
set_option maxRecDepth 20000 in
theorem t_CK_nameOnTape {X : Zx} {Q : State → Prop} {σ : Sg} {x1 : Int32} (ok : Zok X cX11_nameOnTape RX11 rm_CK_nameOnTape 198 3)  {out : Int32} (hf : CK_nameOnTape σ x1 = some out) (hk : ZrI cX11_nameOnTape X Q out σ) : ZAt X Q 0 0 0 σ [(0, .ref (X.ad 0)), (1, .int x1)] [] := by
  unfold CK_nameOnTape at hf
  refine z_iload_n ok dX11_nameOnTape_0 1 rfl ?_
  refine z_bipush (v := 6) ok dX11_nameOnTape_1 (by decide) ?_
  refine z_icmp_le (tgt := 8) ok dX11_nameOnTape_3 (by decide) hf (fun _ hf => ?_) (fun _ hf => ?_)
  · refine z_iconst (v := 0) ok dX11_nameOnTape_8 (by decide) ?_
    refine z_nm hf (fun v9 hf => ?_)
    refine z_istore_n (lv' := [(2, .int v9), (0, .ref (X.ad 0)), (1, .int x1)]) ok dX11_nameOnTape_9 (by decide) rfl ?_
    refine z_call hf (fun r hr hf => ?_)
    refine z_sub [1, 2, 0] rfl (z_iter (fun (s : Int32) => σ) (fun (s : Int32) => [(0, .ref (X.ad 0)), (1, .int x1), (2, .int s)]) (fun s o h1 h2 => t_CK_nameOnTape_l10 ok h1 h2) _ _ _ hr ?_)
    cases r with
    | inl r =>
      obtain rfl := Option.some.inj hf
      exact hk
    | inr r =>
      simp only [Sum.elim_inr] at hf
      show ZAt X Q 0 0 35 σ [(0, .ref (X.ad 0)), (1, .int x1)] []
      refine z_aload_n ok dX11_nameOnTape_35 0 rfl ?_
      refine z_getr (q := 1) ok kc_0 zc_11 hin_11 0 (by decide) fl_11_9 rfl dX11_nameOnTape_36 ?_
      refine z_iconst (v := 0) ok dX11_nameOnTape_39 (by decide) ?_
      refine z_iload_n ok dX11_nameOnTape_40 1 rfl ?_
      refine z_call hf (fun r41 h41 hf => ?_)
      refine z_cS (As := [.ref (X.ad 1), .int 0, .int x1]) (rest := []) ok (c_Reader_nameIn kc_1 h41) rfl ⟨ml_11_385, w_Reader_nameIn⟩ hy_Reader_nameIn ⟨rfl, rfl⟩ ⟨Nat.le_of_ble_eq_true rfl, Nat.le_of_ble_eq_true rfl⟩ ⟨Nat.zero_le _, Nat.zero_le _⟩ rfl (Nat.le_of_ble_eq_true rfl) dX11_nameOnTape_41 ?_
      obtain rfl := Option.some.inj hf
      exact hk _ _ dX11_nameOnTape_44
  · refine z_iconst (v := 0) ok dX11_nameOnTape_6 (by decide) ?_
    obtain rfl := Option.some.inj hf
    exact hk _ _ dX11_nameOnTape_7
theorem c_CK_nameOnTape {σ : Sg} {x1 : Int32} {r : Int32} (h : CK_nameOnTape σ x1 = some r) : ZcI yX11_nameOnTape cX11_nameOnTape 3 .int rm_CK_nameOnTape 198 (fun ad => [.ref (ad 0), .int x1]) σ r σ :=
  zmetI pn_11 rfl (fun _ => rfl) (fun _ => Nat.le_of_ble_eq_true rfl) rfl (fun X Q ok hk => t_CK_nameOnTape ok h hk)
theorem dX11_named_0 : decode cX11_named 0 = .ok (.aload_n 0, 1) := by decide +kernel
theorem dX11_named_1 : decode cX11_named 1 = .ok (.getfield 66, 3) := by decide +kernel
theorem dX11_named_4 : decode cX11_named 4 = .ok (.istore_n 2, 1) := by decide +kernel
theorem dX11_named_5 : decode cX11_named 5 = .ok (.aload_n 0, 1) := by decide +kernel
theorem dX11_named_6 : decode cX11_named 6 = .ok (.iconst 0, 1) := by decide +kernel
theorem dX11_named_7 : decode cX11_named 7 = .ok (.putfield 66, 3) := by decide +kernel
theorem dX11_named_10 : decode cX11_named 10 = .ok (.aload_n 0, 1) := by decide +kernel
theorem dX11_named_11 : decode cX11_named 11 = .ok (.iload_n 2, 1) := by decide +kernel
theorem dX11_named_12 : decode cX11_named 12 = .ok (.invokevirtual 170, 3) := by decide +kernel
theorem dX11_named_15 : decode cX11_named 15 = .ok (.istore_n 3, 1) := by decide +kernel
theorem dX11_named_16 : decode cX11_named 16 = .ok (.iload_n 3, 1) := by decide +kernel
theorem dX11_named_17 : decode cX11_named 17 = .ok (.ifCond .ne 5, 3) := by decide +kernel
theorem dX11_named_20 : decode cX11_named 20 = .ok (.iconst (-1), 1) := by decide +kernel
theorem dX11_named_21 : decode cX11_named 21 = .ok (.ireturn, 1) := by decide +kernel
theorem dX11_named_22 : decode cX11_named 22 = .ok (.iload_n 1, 1) := by decide +kernel
theorem dX11_named_23 : decode cX11_named 23 = .ok (.lookupswitch 47 #[(0, 25), (1, 36)], 25) := by decide +kernel
theorem dX11_named_48 : decode cX11_named 48 = .ok (.aload_n 0, 1) := by decide +kernel
theorem dX11_named_49 : decode cX11_named 49 = .ok (.getfield 23, 3) := by decide +kernel
theorem dX11_named_52 : decode cX11_named 52 = .ok (.iload_n 3, 1) := by decide +kernel
theorem dX11_named_53 : decode cX11_named 53 = .ok (.invokevirtual 173, 3) := by decide +kernel
theorem dX11_named_56 : decode cX11_named 56 = .ok (.goto 15, 3) := by decide +kernel
theorem dX11_named_59 : decode cX11_named 59 = .ok (.aload_n 0, 1) := by decide +kernel
theorem dX11_named_60 : decode cX11_named 60 = .ok (.getfield 23, 3) := by decide +kernel
theorem dX11_named_63 : decode cX11_named 63 = .ok (.iload_n 3, 1) := by decide +kernel
theorem dX11_named_64 : decode cX11_named 64 = .ok (.invokevirtual 176, 3) := by decide +kernel
theorem dX11_named_67 : decode cX11_named 67 = .ok (.goto 4, 3) := by decide +kernel
theorem dX11_named_70 : decode cX11_named 70 = .ok (.iconst (-1), 1) := by decide +kernel
theorem dX11_named_71 : decode cX11_named 71 = .ok (.ireturn, 1) := by decide +kernel
abbrev rm_CK_named : Room := { frames := 2, cells := 0, slots := 0, locals := 47 }
def CK_named (σ : Sg) (x1 : Int32) : Option (Int32 × Sg) :=
  zgt σ 0 1 fun v1 =>
  zpt σ 0 1 0 fun σ7 =>
  (CK_nameOnTape σ7 v1).bind fun r12 =>
  zlt r12 fun v15 =>
  if v15 = 0 then (
    some ((-1), σ7)
  ) else (
    if x1 = 0 then (
      zmr2 3 29 (σ7 0 3) fun q49 =>
      (Works_poolOf σ7 q49 v15).bind fun r53 =>
      some (r53, σ7)
    ) else (
    if x1 = 1 then (
      zmr2 3 29 (σ7 0 3) fun q60 =>
      (Works_outletOf σ7 q60 v15).bind fun r64 =>
      some (r64, σ7)
    ) else (
      some ((-1), σ7)
    ))
  )
set_option maxRecDepth 20000 in
theorem t_CK_named {X : Zx} {Q : State → Prop} {σ : Sg} {x1 : Int32} (ok : Zok X cX11_named RX11 rm_CK_named 198 4)  {out : (Int32 × Sg)} (hf : CK_named σ x1 = some out) (hk : ZrI cX11_named X Q out.1 out.2) : ZAt X Q 0 0 0 σ [(0, .ref (X.ad 0)), (1, .int x1)] [] := by
  unfold CK_named at hf
  refine z_aload_n ok dX11_named_0 0 rfl ?_
  refine z_geti ok kc_0 zc_11 hin_11 1 (by decide) fl_11_66 rfl dX11_named_1 hf (fun v1 hf => ?_)
  refine z_istore_n (lv' := [(2, .int v1), (0, .ref (X.ad 0)), (1, .int x1)]) ok dX11_named_4 (by decide) rfl ?_
  refine z_aload_n ok dX11_named_5 1 rfl ?_
  refine z_iconst (v := 0) ok dX11_named_6 (by decide) ?_
  refine z_puti ok kc_0 zc_11 hin_11 tyX11 tyX11_ok nmX11 1 (by decide) fl_11_66 rfl rfl (tyX11_ok 1 (by decide)) dX11_named_7 hf (fun σ7 hf => ?_)
  refine z_aload_n ok dX11_named_10 1 rfl ?_
  refine z_iload_n ok dX11_named_11 0 rfl ?_
  refine z_call hf (fun r12 h12 hf => ?_)
  refine z_cV (As := [.int v1]) (rest := []) (w := 0) ok kc_0 zc_11 (c_CK_nameOnTape h12) rfl ⟨ml_11_170, w_CK_nameOnTape⟩ hy_CK_nameOnTape ⟨rfl, rfl⟩ ⟨Nat.le_of_ble_eq_true rfl, Nat.le_of_ble_eq_true rfl⟩ ⟨Nat.zero_le _, Nat.zero_le _⟩ rfl (Nat.le_of_ble_eq_true rfl) dX11_named_12 ?_
  refine z_nm hf (fun v15 hf => ?_)
  refine z_istore_n (lv' := [(3, .int v15), (2, .int v1), (0, .ref (X.ad 0)), (1, .int x1)]) ok dX11_named_15 (by decide) rfl ?_
  refine z_iload_n ok dX11_named_16 0 rfl ?_
  refine z_if_ne (tgt := 22) ok dX11_named_17 (by decide) hf (fun _ hf => ?_) (fun _ hf => ?_)
  · refine z_iconst (v := (-1)) ok dX11_named_20 (by decide) ?_
    obtain rfl := Option.some.inj hf
    exact hk _ _ dX11_named_21
  · refine z_iload_n ok dX11_named_22 3 rfl ?_
    refine z_swc (v := 0) hf (fun hf => ?_) (fun n23_0 hf => ?_)
    · refine z_lookup (off := 25) (tgt := 48) ok dX11_named_23 (by decide) (by decide) (by decide) ?_
      refine z_aload_n ok dX11_named_48 2 rfl ?_
      refine z_getm2 (p := 3) (q := 29) ok kc_0 zc_11 hin_11 3 (by decide) fl_11_23 rfl (by decide) (by decide) dX11_named_49 hf (fun q49 e49 hf => ?_)
      have hq49 : zI_Works q49 198 := by rcases e49 with rfl | rfl; exact kI_Works_3; exact kI_Works_29
      obtain ⟨hq49_0, hq49_1, hq49_2, hq49_3, hq49_4, hq49_5, hq49_6, hq49_7, hq49_8, hq49_9, hq49_10, hq49_11, hq49_12, hq49_13, hq49_14, hq49_15, hq49_16, hq49_17, hq49_18, hq49_19, hq49_20, hq49_21, hq49_22, hq49_23, hq49_24, hq49_25⟩ := id hq49
      refine z_iload_n ok dX11_named_52 0 rfl ?_
      refine z_call hf (fun r53 h53 hf => ?_)
      refine z_cV (As := [.int v15]) (rest := []) (w := q49) ok hq49_0 zc_10 (c_Works_poolOf hq49 h53) rfl ⟨ml_11_173, w_Works_poolOf⟩ hy_Works_poolOf ⟨rfl, rfl⟩ ⟨Nat.le_of_ble_eq_true rfl, Nat.le_of_ble_eq_true rfl⟩ ⟨Nat.zero_le _, Nat.zero_le _⟩ rfl (Nat.le_of_ble_eq_true rfl) dX11_named_53 ?_
      refine z_goto (tgt := 71) ok dX11_named_56 (by decide) ?_
      obtain rfl := Option.some.inj hf
      exact hk _ _ dX11_named_71
    refine z_swc (v := 1) hf (fun hf => ?_) (fun n23_1 hf => ?_)
    · refine z_lookup (off := 36) (tgt := 59) ok dX11_named_23 (by decide) (by decide) (by decide) ?_
      refine z_aload_n ok dX11_named_59 2 rfl ?_
      refine z_getm2 (p := 3) (q := 29) ok kc_0 zc_11 hin_11 3 (by decide) fl_11_23 rfl (by decide) (by decide) dX11_named_60 hf (fun q60 e60 hf => ?_)
      have hq60 : zI_Works q60 198 := by rcases e60 with rfl | rfl; exact kI_Works_3; exact kI_Works_29
      obtain ⟨hq60_0, hq60_1, hq60_2, hq60_3, hq60_4, hq60_5, hq60_6, hq60_7, hq60_8, hq60_9, hq60_10, hq60_11, hq60_12, hq60_13, hq60_14, hq60_15, hq60_16, hq60_17, hq60_18, hq60_19, hq60_20, hq60_21, hq60_22, hq60_23, hq60_24, hq60_25⟩ := id hq60
      refine z_iload_n ok dX11_named_63 0 rfl ?_
      refine z_call hf (fun r64 h64 hf => ?_)
      refine z_cV (As := [.int v15]) (rest := []) (w := q60) ok hq60_0 zc_10 (c_Works_outletOf hq60 h64) rfl ⟨ml_11_176, w_Works_outletOf⟩ hy_Works_outletOf ⟨rfl, rfl⟩ ⟨Nat.le_of_ble_eq_true rfl, Nat.le_of_ble_eq_true rfl⟩ ⟨Nat.zero_le _, Nat.zero_le _⟩ rfl (Nat.le_of_ble_eq_true rfl) dX11_named_64 ?_
      refine z_goto (tgt := 71) ok dX11_named_67 (by decide) ?_
      obtain rfl := Option.some.inj hf
      exact hk _ _ dX11_named_71
    refine z_lookdef (tgt := 70) ok dX11_named_23 (by decide) (by decide) (List.forall_mem_cons.mpr ⟨n23_0, (List.forall_mem_cons.mpr ⟨n23_1, (fun _ h => absurd h List.not_mem_nil)⟩)⟩) (by decide) ?_
    refine z_iconst (v := (-1)) ok dX11_named_70 (by decide) ?_
    obtain rfl := Option.some.inj hf
    exact hk _ _ dX11_named_71
theorem c_CK_named {σ : Sg} {x1 : Int32} {r : (Int32 × Sg)} (h : CK_named σ x1 = some r) : ZcI yX11_named cX11_named 4 .int rm_CK_named 198 (fun ad => [.ref (ad 0), .int x1]) σ r.1 r.2 :=
  zmetI pn_11 rfl (fun _ => rfl) (fun _ => Nat.le_of_ble_eq_true rfl) rfl (fun X Q ok hk => t_CK_named ok h hk)
theorem dX9_onItsWay_0 : decode cX9_onItsWay 0 = .ok (.iconst 0, 1) := by decide +kernel
theorem dX9_onItsWay_1 : decode cX9_onItsWay 1 = .ok (.istore_n 2, 1) := by decide +kernel
theorem dX9_onItsWay_2 : decode cX9_onItsWay 2 = .ok (.iconst 0, 1) := by decide +kernel
theorem dX9_onItsWay_3 : decode cX9_onItsWay 3 = .ok (.istore_n 3, 1) := by decide +kernel
theorem dX9_onItsWay_4 : decode cX9_onItsWay 4 = .ok (.iload_n 3, 1) := by decide +kernel
theorem dX9_onItsWay_5 : decode cX9_onItsWay 5 = .ok (.bipush 9, 2) := by decide +kernel
theorem dX9_onItsWay_7 : decode cX9_onItsWay 7 = .ok (.if_icmp .ge 23, 3) := by decide +kernel
theorem dX9_onItsWay_10 : decode cX9_onItsWay 10 = .ok (.iload_n 2, 1) := by decide +kernel
theorem dX9_onItsWay_11 : decode cX9_onItsWay 11 = .ok (.aload_n 0, 1) := by decide +kernel
theorem dX9_onItsWay_12 : decode cX9_onItsWay 12 = .ok (.getfield 24, 3) := by decide +kernel
theorem dX9_onItsWay_15 : decode cX9_onItsWay 15 = .ok (.iload_n 1, 1) := by decide +kernel
theorem dX9_onItsWay_16 : decode cX9_onItsWay 16 = .ok (.bipush 9, 2) := by decide +kernel
theorem dX9_onItsWay_18 : decode cX9_onItsWay 18 = .ok (.imul, 1) := by decide +kernel
theorem dX9_onItsWay_19 : decode cX9_onItsWay 19 = .ok (.iload_n 3, 1) := by decide +kernel
theorem dX9_onItsWay_20 : decode cX9_onItsWay 20 = .ok (.iadd, 1) := by decide +kernel
theorem dX9_onItsWay_21 : decode cX9_onItsWay 21 = .ok (.iaload, 1) := by decide +kernel
theorem dX9_onItsWay_22 : decode cX9_onItsWay 22 = .ok (.iadd, 1) := by decide +kernel
theorem dX9_onItsWay_23 : decode cX9_onItsWay 23 = .ok (.istore_n 2, 1) := by decide +kernel
theorem dX9_onItsWay_24 : decode cX9_onItsWay 24 = .ok (.iinc 3 1, 3) := by decide +kernel
theorem dX9_onItsWay_27 : decode cX9_onItsWay 27 = .ok (.goto (-23), 3) := by decide +kernel
theorem dX9_onItsWay_30 : decode cX9_onItsWay 30 = .ok (.iload_n 2, 1) := by decide +kernel
theorem dX9_onItsWay_31 : decode cX9_onItsWay 31 = .ok (.ireturn, 1) := by decide +kernel
abbrev rm_Water_onItsWay : Room := { frames := 0, cells := 0, slots := 0, locals := 0 }
def Water_onItsWay_l4 (σ : Sg) (w : Nat) (x1 : Int32) (x2 : Int32) (x3 : Int32) : Option ((Int32 × Int32) ⊕ (Int32 × Int32)) :=
  if 9 ≤ x3 then (
    some (.inr (x2, x3))
  ) else (
    zrd σ (w + 5) 72 ((x1 * 9) + x3) fun v21 =>
    zlt (x2 + v21) fun v23 =>
    zlt (x3 + 1) fun v24 =>
    some (.inl (v23, v24))
  )
set_option maxRecDepth 20000 in
theorem t_Water_onItsWay_l4 {X : Zx} {Q : State → Prop} {σ : Sg} {w : Nat} {x1 : Int32} {x2 : Int32} {x3 : Int32} (ok : Zok X cX9_onItsWay RX9 rm_Water_onItsWay 198 4) (hw : zI_Water w 198) {out : ((Int32 × Int32) ⊕ (Int32 × Int32))} (hf : Water_onItsWay_l4 σ w x1 x2 x3 = some out) (hk : zout (fun (s : (Int32 × Int32)) => ZAt X Q 0 0 4 σ [(0, .ref (X.ad w)), (1, .int x1), (2, .int s.1), (3, .int s.2)] []) (fun (s : (Int32 × Int32)) => ZAt X Q 0 0 30 σ [(2, .int s.1)] []) out) : ZAt X Q 0 0 4 σ [(0, .ref (X.ad w)), (1, .int x1), (2, .int x2), (3, .int x3)] [] := by
  unfold Water_onItsWay_l4 at hf
  obtain ⟨hw_0, hw_1, hw_2, hw_3, hw_4, hw_5, hw_6, hw_7, hw_8, hw_9, hw_10, hw_11, hw_12, hw_13, hw_14, hw_15, hw_16⟩ := id hw
  refine z_iload_n ok dX9_onItsWay_4 3 rfl ?_
  refine z_bipush (v := 9) ok dX9_onItsWay_5 (by decide) ?_
  refine z_icmp_ge (tgt := 30) ok dX9_onItsWay_7 (by decide) hf (fun _ hf => ?_) (fun _ hf => ?_)
  · obtain rfl := Option.some.inj hf
    exact z_sub [2] rfl hk
  · refine z_iload_n ok dX9_onItsWay_10 2 rfl ?_
    refine z_aload_n ok dX9_onItsWay_11 0 rfl ?_
    refine z_getr (q := (w + 5)) ok hw_0 zc_9 hin_9 7 (by decide) fl_9_24 rfl dX9_onItsWay_12 ?_
    refine z_iload_n ok dX9_onItsWay_15 1 rfl ?_
    refine z_bipush (v := 9) ok dX9_onItsWay_16 (by decide) ?_
    refine z_imul ok dX9_onItsWay_18 ?_
    refine z_iload_n ok dX9_onItsWay_19 3 rfl ?_
    refine z_iadd ok dX9_onItsWay_20 ?_
    refine z_iald ok hw_5 dX9_onItsWay_21 hf (fun v21 hf => ?_)
    refine z_iadd ok dX9_onItsWay_22 ?_
    refine z_nm hf (fun v23 hf => ?_)
    refine z_istore_n (lv' := [(2, .int v23), (0, .ref (X.ad w)), (1, .int x1), (3, .int x3)]) ok dX9_onItsWay_23 (by decide) rfl ?_
    refine z_iinc (w := 1) (lv' := fun v24 => [(3, .int v24), (2, .int v23), (0, .ref (X.ad w)), (1, .int x1)]) ok dX9_onItsWay_24 3 rfl (by decide) (by decide) (fun _ => rfl) hf (fun v24 hf => ?_)
    refine z_goto (tgt := 4) ok dX9_onItsWay_27 (by decide) ?_
    obtain rfl := Option.some.inj hf
    exact z_sub [2, 3, 1, 0] rfl hk
def Water_onItsWay (σ : Sg) (w : Nat) (x1 : Int32) : Option Int32 :=
  zlt 0 fun v1 =>
  zlt 0 fun v3 =>
  (zit (fun (s : (Int32 × Int32)) => Water_onItsWay_l4 σ w x1 s.1 s.2) zFU (v1, v3)).bind fun r =>
  some r.1
set_option maxRecDepth 20000 in
theorem t_Water_onItsWay {X : Zx} {Q : State → Prop} {σ : Sg} {w : Nat} {x1 : Int32} (ok : Zok X cX9_onItsWay RX9 rm_Water_onItsWay 198 4) (hw : zI_Water w 198) {out : Int32} (hf : Water_onItsWay σ w x1 = some out) (hk : ZrI cX9_onItsWay X Q out σ) : ZAt X Q 0 0 0 σ [(0, .ref (X.ad w)), (1, .int x1)] [] := by
  unfold Water_onItsWay at hf
  obtain ⟨hw_0, hw_1, hw_2, hw_3, hw_4, hw_5, hw_6, hw_7, hw_8, hw_9, hw_10, hw_11, hw_12, hw_13, hw_14, hw_15, hw_16⟩ := id hw
  refine z_iconst (v := 0) ok dX9_onItsWay_0 (by decide) ?_
  refine z_nm hf (fun v1 hf => ?_)
  refine z_istore_n (lv' := [(2, .int v1), (0, .ref (X.ad w)), (1, .int x1)]) ok dX9_onItsWay_1 (by decide) rfl ?_
  refine z_iconst (v := 0) ok dX9_onItsWay_2 (by decide) ?_
  refine z_nm hf (fun v3 hf => ?_)
  refine z_istore_n (lv' := [(3, .int v3), (2, .int v1), (0, .ref (X.ad w)), (1, .int x1)]) ok dX9_onItsWay_3 (by decide) rfl ?_
  refine z_call hf (fun r hr hf => ?_)
  refine z_sub [2, 3, 1, 0] rfl (z_iter (fun (s : (Int32 × Int32)) => σ) (fun (s : (Int32 × Int32)) => [(0, .ref (X.ad w)), (1, .int x1), (2, .int s.1), (3, .int s.2)]) (fun s o h1 h2 => t_Water_onItsWay_l4 ok hw h1 h2) _ _ _ hr ?_)
  show ZAt X Q 0 0 30 σ [(2, .int r.1)] []
  refine z_iload_n ok dX9_onItsWay_30 0 rfl ?_
  obtain rfl := Option.some.inj hf
  exact hk _ _ dX9_onItsWay_31
theorem c_Water_onItsWay {σ : Sg} {w : Nat} {x1 : Int32} (hw : zI_Water w 198) {r : Int32} (h : Water_onItsWay σ w x1 = some r) : ZcI yX9_onItsWay cX9_onItsWay 4 .int rm_Water_onItsWay 198 (fun ad => [.ref (ad w), .int x1]) σ r σ :=
  zmetI pn_9 rfl (fun _ => rfl) (fun _ => Nat.le_of_ble_eq_true rfl) rfl (fun X Q ok hk => t_Water_onItsWay ok hw h hk)
theorem dX11_pool_0 : decode cX11_pool 0 = .ok (.aload_n 0, 1) := by decide +kernel
theorem dX11_pool_1 : decode cX11_pool 1 = .ok (.iload_n 1, 1) := by decide +kernel
theorem dX11_pool_2 : decode cX11_pool 2 = .ok (.invokevirtual 154, 3) := by decide +kernel
theorem dX11_pool_5 : decode cX11_pool 5 = .ok (.ifCond .ne 5, 3) := by decide +kernel
theorem dX11_pool_8 : decode cX11_pool 8 = .ok (.iconst (-1), 1) := by decide +kernel
theorem dX11_pool_9 : decode cX11_pool 9 = .ok (.ireturn, 1) := by decide +kernel
theorem dX11_pool_10 : decode cX11_pool 10 = .ok (.aload_n 0, 1) := by decide +kernel
theorem dX11_pool_11 : decode cX11_pool 11 = .ok (.getfield 37, 3) := by decide +kernel
theorem dX11_pool_14 : decode cX11_pool 14 = .ok (.getfield 126, 3) := by decide +kernel
theorem dX11_pool_17 : decode cX11_pool 17 = .ok (.getfield 179, 3) := by decide +kernel
theorem dX11_pool_20 : decode cX11_pool 20 = .ok (.iload_n 1, 1) := by decide +kernel
theorem dX11_pool_21 : decode cX11_pool 21 = .ok (.iaload, 1) := by decide +kernel
theorem dX11_pool_22 : decode cX11_pool 22 = .ok (.istore_n 3, 1) := by decide +kernel
theorem dX11_pool_23 : decode cX11_pool 23 = .ok (.iload_n 2, 1) := by decide +kernel
theorem dX11_pool_24 : decode cX11_pool 24 = .ok (.tableswitch 165 0 8 #[52, 56, 70, 84, 98, 112, 127, 141, 153], 52) := by decide +kernel
theorem dX11_pool_76 : decode cX11_pool 76 = .ok (.iload_n 3, 1) := by decide +kernel
theorem dX11_pool_77 : decode cX11_pool 77 = .ok (.goto 113, 3) := by decide +kernel
theorem dX11_pool_80 : decode cX11_pool 80 = .ok (.aload_n 0, 1) := by decide +kernel
theorem dX11_pool_81 : decode cX11_pool 81 = .ok (.getfield 23, 3) := by decide +kernel
theorem dX11_pool_84 : decode cX11_pool 84 = .ok (.getfield 182, 3) := by decide +kernel
theorem dX11_pool_87 : decode cX11_pool 87 = .ok (.iconst 1, 1) := by decide +kernel
theorem dX11_pool_88 : decode cX11_pool 88 = .ok (.aaload, 1) := by decide +kernel
theorem dX11_pool_89 : decode cX11_pool 89 = .ok (.iload_n 1, 1) := by decide +kernel
theorem dX11_pool_90 : decode cX11_pool 90 = .ok (.iaload, 1) := by decide +kernel
theorem dX11_pool_91 : decode cX11_pool 91 = .ok (.goto 99, 3) := by decide +kernel
theorem dX11_pool_94 : decode cX11_pool 94 = .ok (.aload_n 0, 1) := by decide +kernel
theorem dX11_pool_95 : decode cX11_pool 95 = .ok (.getfield 23, 3) := by decide +kernel
theorem dX11_pool_98 : decode cX11_pool 98 = .ok (.getfield 182, 3) := by decide +kernel
theorem dX11_pool_101 : decode cX11_pool 101 = .ok (.iconst 2, 1) := by decide +kernel
theorem dX11_pool_102 : decode cX11_pool 102 = .ok (.aaload, 1) := by decide +kernel
theorem dX11_pool_103 : decode cX11_pool 103 = .ok (.iload_n 1, 1) := by decide +kernel
theorem dX11_pool_104 : decode cX11_pool 104 = .ok (.iaload, 1) := by decide +kernel
theorem dX11_pool_105 : decode cX11_pool 105 = .ok (.goto 85, 3) := by decide +kernel
theorem dX11_pool_108 : decode cX11_pool 108 = .ok (.aload_n 0, 1) := by decide +kernel
theorem dX11_pool_109 : decode cX11_pool 109 = .ok (.getfield 23, 3) := by decide +kernel
theorem dX11_pool_112 : decode cX11_pool 112 = .ok (.getfield 182, 3) := by decide +kernel
theorem dX11_pool_115 : decode cX11_pool 115 = .ok (.iconst 3, 1) := by decide +kernel
theorem dX11_pool_116 : decode cX11_pool 116 = .ok (.aaload, 1) := by decide +kernel
theorem dX11_pool_117 : decode cX11_pool 117 = .ok (.iload_n 1, 1) := by decide +kernel
theorem dX11_pool_118 : decode cX11_pool 118 = .ok (.iaload, 1) := by decide +kernel
theorem dX11_pool_119 : decode cX11_pool 119 = .ok (.goto 71, 3) := by decide +kernel
theorem dX11_pool_122 : decode cX11_pool 122 = .ok (.aload_n 0, 1) := by decide +kernel
theorem dX11_pool_123 : decode cX11_pool 123 = .ok (.getfield 23, 3) := by decide +kernel
theorem dX11_pool_126 : decode cX11_pool 126 = .ok (.getfield 182, 3) := by decide +kernel
theorem dX11_pool_129 : decode cX11_pool 129 = .ok (.iconst 4, 1) := by decide +kernel
theorem dX11_pool_130 : decode cX11_pool 130 = .ok (.aaload, 1) := by decide +kernel
theorem dX11_pool_131 : decode cX11_pool 131 = .ok (.iload_n 1, 1) := by decide +kernel
theorem dX11_pool_132 : decode cX11_pool 132 = .ok (.iaload, 1) := by decide +kernel
theorem dX11_pool_133 : decode cX11_pool 133 = .ok (.goto 57, 3) := by decide +kernel
theorem dX11_pool_136 : decode cX11_pool 136 = .ok (.aload_n 0, 1) := by decide +kernel
theorem dX11_pool_137 : decode cX11_pool 137 = .ok (.getfield 37, 3) := by decide +kernel
theorem dX11_pool_140 : decode cX11_pool 140 = .ok (.getfield 126, 3) := by decide +kernel
theorem dX11_pool_143 : decode cX11_pool 143 = .ok (.getfield 186, 3) := by decide +kernel
theorem dX11_pool_146 : decode cX11_pool 146 = .ok (.iload_n 1, 1) := by decide +kernel
theorem dX11_pool_147 : decode cX11_pool 147 = .ok (.iaload, 1) := by decide +kernel
theorem dX11_pool_148 : decode cX11_pool 148 = .ok (.goto 42, 3) := by decide +kernel
theorem dX11_pool_151 : decode cX11_pool 151 = .ok (.aload_n 0, 1) := by decide +kernel
theorem dX11_pool_152 : decode cX11_pool 152 = .ok (.getfield 37, 3) := by decide +kernel
theorem dX11_pool_155 : decode cX11_pool 155 = .ok (.getfield 126, 3) := by decide +kernel
theorem dX11_pool_158 : decode cX11_pool 158 = .ok (.iload_n 1, 1) := by decide +kernel
theorem dX11_pool_159 : decode cX11_pool 159 = .ok (.invokevirtual 189, 3) := by decide +kernel
theorem dX11_pool_162 : decode cX11_pool 162 = .ok (.goto 28, 3) := by decide +kernel
theorem dX11_pool_165 : decode cX11_pool 165 = .ok (.aload_n 0, 1) := by decide +kernel
theorem dX11_pool_166 : decode cX11_pool 166 = .ok (.getfield 23, 3) := by decide +kernel
theorem dX11_pool_169 : decode cX11_pool 169 = .ok (.getfield 192, 3) := by decide +kernel
theorem dX11_pool_172 : decode cX11_pool 172 = .ok (.iload_n 1, 1) := by decide +kernel
theorem dX11_pool_173 : decode cX11_pool 173 = .ok (.iaload, 1) := by decide +kernel
theorem dX11_pool_174 : decode cX11_pool 174 = .ok (.goto 16, 3) := by decide +kernel
theorem dX11_pool_177 : decode cX11_pool 177 = .ok (.aload_n 0, 1) := by decide +kernel
theorem dX11_pool_178 : decode cX11_pool 178 = .ok (.getfield 23, 3) := by decide +kernel
theorem dX11_pool_181 : decode cX11_pool 181 = .ok (.iload_n 1, 1) := by decide +kernel
theorem dX11_pool_182 : decode cX11_pool 182 = .ok (.iload_n 3, 1) := by decide +kernel
theorem dX11_pool_183 : decode cX11_pool 183 = .ok (.invokevirtual 195, 3) := by decide +kernel
theorem dX11_pool_186 : decode cX11_pool 186 = .ok (.goto 4, 3) := by decide +kernel
theorem dX11_pool_189 : decode cX11_pool 189 = .ok (.iconst (-1), 1) := by decide +kernel
theorem dX11_pool_190 : decode cX11_pool 190 = .ok (.ireturn, 1) := by decide +kernel
abbrev rm_CK_pool : Room := { frames := 1, cells := 0, slots := 0, locals := 23 }
def CK_pool (σ : Sg) (x1 : Int32) (x2 : Int32) : Option Int32 :=
  (CK_isPool σ x1).bind fun r2 =>
  if (zb r2) = 0 then (
    some (-1)
  ) else (
    zrd σ 57 8 x1 fun v21 =>
    if x2 = 0 then (
      some v21
    ) else (
    if x2 = 1 then (
      zmr2 3 29 (σ 0 3) fun q81 =>
      zrd σ (q81 + 4) 8 x1 fun v90 =>
      some v90
    ) else (
    if x2 = 2 then (
      zmr2 3 29 (σ 0 3) fun q95 =>
      zrd σ (q95 + 5) 8 x1 fun v104 =>
      some v104
    ) else (
    if x2 = 3 then (
      zmr2 3 29 (σ 0 3) fun q109 =>
      zrd σ (q109 + 6) 8 x1 fun v118 =>
      some v118
    ) else (
    if x2 = 4 then (
      zmr2 3 29 (σ 0 3) fun q123 =>
      zrd σ (q123 + 7) 8 x1 fun v132 =>
      some v132
    ) else (
    if x2 = 5 then (
      zrd σ 59 8 x1 fun v147 =>
      some v147
    ) else (
    if x2 = 6 then (
      (Water_onItsWay σ 56 x1).bind fun r159 =>
      some r159
    ) else (
    if x2 = 7 then (
      zmr2 3 29 (σ 0 3) fun q166 =>
      zrd σ (q166 + 12) 8 x1 fun v173 =>
      some v173
    ) else (
    if x2 = 8 then (
      zmr2 3 29 (σ 0 3) fun q178 =>
      (Works_bandOf σ q178 x1 v21).bind fun r183 =>
      some r183
    ) else (
      some (-1)
    )))))))))
  )
set_option maxRecDepth 20000 in
theorem t_CK_pool {X : Zx} {Q : State → Prop} {σ : Sg} {x1 : Int32} {x2 : Int32} (ok : Zok X cX11_pool RX11 rm_CK_pool 198 4)  {out : Int32} (hf : CK_pool σ x1 x2 = some out) (hk : ZrI cX11_pool X Q out σ) : ZAt X Q 0 0 0 σ [(0, .ref (X.ad 0)), (1, .int x1), (2, .int x2)] [] := by
  unfold CK_pool at hf
  refine z_aload_n ok dX11_pool_0 0 rfl ?_
  refine z_iload_n ok dX11_pool_1 1 rfl ?_
  refine z_call hf (fun r2 h2 hf => ?_)
  refine z_cV (As := [.int x1]) (rest := []) (w := 0) ok kc_0 zc_11 (c_CK_isPool h2) rfl ⟨ml_11_154, w_CK_isPool⟩ hy_CK_isPool ⟨rfl, rfl⟩ ⟨Nat.le_of_ble_eq_true rfl, Nat.le_of_ble_eq_true rfl⟩ ⟨Nat.zero_le _, Nat.zero_le _⟩ rfl (Nat.le_of_ble_eq_true rfl) dX11_pool_2 ?_
  refine z_if_ne (tgt := 10) ok dX11_pool_5 (by decide) hf (fun _ hf => ?_) (fun _ hf => ?_)
  · refine z_iconst (v := (-1)) ok dX11_pool_8 (by decide) ?_
    obtain rfl := Option.some.inj hf
    exact hk _ _ dX11_pool_9
  · refine z_aload_n ok dX11_pool_10 0 rfl ?_
    refine z_getr (q := 55) ok kc_0 zc_11 hin_11 8 (by decide) fl_11_37 rfl dX11_pool_11 ?_
    refine z_getr (q := 56) ok kc_55 zc_1 hin_1 0 (by decide) fl_11_126 rfl dX11_pool_14 ?_
    refine z_getr (q := 57) ok kc_56 zc_9 hin_9 3 (by decide) fl_11_179 rfl dX11_pool_17 ?_
    refine z_iload_n ok dX11_pool_20 1 rfl ?_
    refine z_iald ok kc_57 dX11_pool_21 hf (fun v21 hf => ?_)
    refine z_istore_n (lv' := [(3, .int v21), (0, .ref (X.ad 0)), (1, .int x1), (2, .int x2)]) ok dX11_pool_22 (by decide) rfl ?_
    refine z_iload_n ok dX11_pool_23 3 rfl ?_
    refine z_swc (v := 0) hf (fun hf => ?_) (fun n24_0 hf => ?_)
    · refine z_tableIn (tgt := 76) ok dX11_pool_24 (by decide) (by decide) rfl (by decide) ?_
      refine z_iload_n ok dX11_pool_76 0 rfl ?_
      refine z_goto (tgt := 190) ok dX11_pool_77 (by decide) ?_
      obtain rfl := Option.some.inj hf
      exact hk _ _ dX11_pool_190
    refine z_swc (v := 1) hf (fun hf => ?_) (fun n24_1 hf => ?_)
    · refine z_tableIn (tgt := 80) ok dX11_pool_24 (by decide) (by decide) rfl (by decide) ?_
      refine z_aload_n ok dX11_pool_80 1 rfl ?_
      refine z_getm2 (p := 3) (q := 29) ok kc_0 zc_11 hin_11 3 (by decide) fl_11_23 rfl (by decide) (by decide) dX11_pool_81 hf (fun q81 e81 hf => ?_)
      have hq81 : zI_Works q81 198 := by rcases e81 with rfl | rfl; exact kI_Works_3; exact kI_Works_29
      obtain ⟨hq81_0, hq81_1, hq81_2, hq81_3, hq81_4, hq81_5, hq81_6, hq81_7, hq81_8, hq81_9, hq81_10, hq81_11, hq81_12, hq81_13, hq81_14, hq81_15, hq81_16, hq81_17, hq81_18, hq81_19, hq81_20, hq81_21, hq81_22, hq81_23, hq81_24, hq81_25⟩ := id hq81
      refine z_getr (q := (q81 + 2)) ok hq81_0 zc_10 hin_10 5 (by decide) fl_11_182 rfl dX11_pool_84 ?_
      refine z_iconst (v := 1) ok dX11_pool_87 (by decide) ?_
      refine z_aaldc (q := (q81 + 4)) ok hq81_2 (by decide) rfl (by decide) rfl dX11_pool_88 ?_
      refine z_iload_n ok dX11_pool_89 2 rfl ?_
      refine z_iald ok hq81_4 dX11_pool_90 hf (fun v90 hf => ?_)
      refine z_goto (tgt := 190) ok dX11_pool_91 (by decide) ?_
      obtain rfl := Option.some.inj hf
      exact hk _ _ dX11_pool_190
    refine z_swc (v := 2) hf (fun hf => ?_) (fun n24_2 hf => ?_)
    · refine z_tableIn (tgt := 94) ok dX11_pool_24 (by decide) (by decide) rfl (by decide) ?_
      refine z_aload_n ok dX11_pool_94 1 rfl ?_
      refine z_getm2 (p := 3) (q := 29) ok kc_0 zc_11 hin_11 3 (by decide) fl_11_23 rfl (by decide) (by decide) dX11_pool_95 hf (fun q95 e95 hf => ?_)
      have hq95 : zI_Works q95 198 := by rcases e95 with rfl | rfl; exact kI_Works_3; exact kI_Works_29
      obtain ⟨hq95_0, hq95_1, hq95_2, hq95_3, hq95_4, hq95_5, hq95_6, hq95_7, hq95_8, hq95_9, hq95_10, hq95_11, hq95_12, hq95_13, hq95_14, hq95_15, hq95_16, hq95_17, hq95_18, hq95_19, hq95_20, hq95_21, hq95_22, hq95_23, hq95_24, hq95_25⟩ := id hq95
      refine z_getr (q := (q95 + 2)) ok hq95_0 zc_10 hin_10 5 (by decide) fl_11_182 rfl dX11_pool_98 ?_
      refine z_iconst (v := 2) ok dX11_pool_101 (by decide) ?_
      refine z_aaldc (q := (q95 + 5)) ok hq95_2 (by decide) rfl (by decide) rfl dX11_pool_102 ?_
      refine z_iload_n ok dX11_pool_103 2 rfl ?_
      refine z_iald ok hq95_5 dX11_pool_104 hf (fun v104 hf => ?_)
      refine z_goto (tgt := 190) ok dX11_pool_105 (by decide) ?_
      obtain rfl := Option.some.inj hf
      exact hk _ _ dX11_pool_190
    refine z_swc (v := 3) hf (fun hf => ?_) (fun n24_3 hf => ?_)
    · refine z_tableIn (tgt := 108) ok dX11_pool_24 (by decide) (by decide) rfl (by decide) ?_
      refine z_aload_n ok dX11_pool_108 1 rfl ?_
      refine z_getm2 (p := 3) (q := 29) ok kc_0 zc_11 hin_11 3 (by decide) fl_11_23 rfl (by decide) (by decide) dX11_pool_109 hf (fun q109 e109 hf => ?_)
      have hq109 : zI_Works q109 198 := by rcases e109 with rfl | rfl; exact kI_Works_3; exact kI_Works_29
      obtain ⟨hq109_0, hq109_1, hq109_2, hq109_3, hq109_4, hq109_5, hq109_6, hq109_7, hq109_8, hq109_9, hq109_10, hq109_11, hq109_12, hq109_13, hq109_14, hq109_15, hq109_16, hq109_17, hq109_18, hq109_19, hq109_20, hq109_21, hq109_22, hq109_23, hq109_24, hq109_25⟩ := id hq109
      refine z_getr (q := (q109 + 2)) ok hq109_0 zc_10 hin_10 5 (by decide) fl_11_182 rfl dX11_pool_112 ?_
      refine z_iconst (v := 3) ok dX11_pool_115 (by decide) ?_
      refine z_aaldc (q := (q109 + 6)) ok hq109_2 (by decide) rfl (by decide) rfl dX11_pool_116 ?_
      refine z_iload_n ok dX11_pool_117 2 rfl ?_
      refine z_iald ok hq109_6 dX11_pool_118 hf (fun v118 hf => ?_)
      refine z_goto (tgt := 190) ok dX11_pool_119 (by decide) ?_
      obtain rfl := Option.some.inj hf
      exact hk _ _ dX11_pool_190
    refine z_swc (v := 4) hf (fun hf => ?_) (fun n24_4 hf => ?_)
    · refine z_tableIn (tgt := 122) ok dX11_pool_24 (by decide) (by decide) rfl (by decide) ?_
      refine z_aload_n ok dX11_pool_122 1 rfl ?_
      refine z_getm2 (p := 3) (q := 29) ok kc_0 zc_11 hin_11 3 (by decide) fl_11_23 rfl (by decide) (by decide) dX11_pool_123 hf (fun q123 e123 hf => ?_)
      have hq123 : zI_Works q123 198 := by rcases e123 with rfl | rfl; exact kI_Works_3; exact kI_Works_29
      obtain ⟨hq123_0, hq123_1, hq123_2, hq123_3, hq123_4, hq123_5, hq123_6, hq123_7, hq123_8, hq123_9, hq123_10, hq123_11, hq123_12, hq123_13, hq123_14, hq123_15, hq123_16, hq123_17, hq123_18, hq123_19, hq123_20, hq123_21, hq123_22, hq123_23, hq123_24, hq123_25⟩ := id hq123
      refine z_getr (q := (q123 + 2)) ok hq123_0 zc_10 hin_10 5 (by decide) fl_11_182 rfl dX11_pool_126 ?_
      refine z_iconst (v := 4) ok dX11_pool_129 (by decide) ?_
      refine z_aaldc (q := (q123 + 7)) ok hq123_2 (by decide) rfl (by decide) rfl dX11_pool_130 ?_
      refine z_iload_n ok dX11_pool_131 2 rfl ?_
      refine z_iald ok hq123_7 dX11_pool_132 hf (fun v132 hf => ?_)
      refine z_goto (tgt := 190) ok dX11_pool_133 (by decide) ?_
      obtain rfl := Option.some.inj hf
      exact hk _ _ dX11_pool_190
    refine z_swc (v := 5) hf (fun hf => ?_) (fun n24_5 hf => ?_)
    · refine z_tableIn (tgt := 136) ok dX11_pool_24 (by decide) (by decide) rfl (by decide) ?_
      refine z_aload_n ok dX11_pool_136 1 rfl ?_
      refine z_getr (q := 55) ok kc_0 zc_11 hin_11 8 (by decide) fl_11_37 rfl dX11_pool_137 ?_
      refine z_getr (q := 56) ok kc_55 zc_1 hin_1 0 (by decide) fl_11_126 rfl dX11_pool_140 ?_
      refine z_getr (q := 59) ok kc_56 zc_9 hin_9 5 (by decide) fl_11_186 rfl dX11_pool_143 ?_
      refine z_iload_n ok dX11_pool_146 2 rfl ?_
      refine z_iald ok kc_59 dX11_pool_147 hf (fun v147 hf => ?_)
      refine z_goto (tgt := 190) ok dX11_pool_148 (by decide) ?_
      obtain rfl := Option.some.inj hf
      exact hk _ _ dX11_pool_190
    refine z_swc (v := 6) hf (fun hf => ?_) (fun n24_6 hf => ?_)
    · refine z_tableIn (tgt := 151) ok dX11_pool_24 (by decide) (by decide) rfl (by decide) ?_
      refine z_aload_n ok dX11_pool_151 1 rfl ?_
      refine z_getr (q := 55) ok kc_0 zc_11 hin_11 8 (by decide) fl_11_37 rfl dX11_pool_152 ?_
      refine z_getr (q := 56) ok kc_55 zc_1 hin_1 0 (by decide) fl_11_126 rfl dX11_pool_155 ?_
      refine z_iload_n ok dX11_pool_158 2 rfl ?_
      refine z_call hf (fun r159 h159 hf => ?_)
      refine z_cV (As := [.int x1]) (rest := []) (w := 56) ok kc_56 zc_9 (c_Water_onItsWay kI_Water_56 h159) rfl ⟨ml_11_189, w_Water_onItsWay⟩ hy_Water_onItsWay ⟨rfl, rfl⟩ ⟨Nat.le_of_ble_eq_true rfl, Nat.le_of_ble_eq_true rfl⟩ ⟨Nat.zero_le _, Nat.zero_le _⟩ rfl (Nat.le_of_ble_eq_true rfl) dX11_pool_159 ?_
      refine z_goto (tgt := 190) ok dX11_pool_162 (by decide) ?_
      obtain rfl := Option.some.inj hf
      exact hk _ _ dX11_pool_190
    refine z_swc (v := 7) hf (fun hf => ?_) (fun n24_7 hf => ?_)
    · refine z_tableIn (tgt := 165) ok dX11_pool_24 (by decide) (by decide) rfl (by decide) ?_
      refine z_aload_n ok dX11_pool_165 1 rfl ?_
      refine z_getm2 (p := 3) (q := 29) ok kc_0 zc_11 hin_11 3 (by decide) fl_11_23 rfl (by decide) (by decide) dX11_pool_166 hf (fun q166 e166 hf => ?_)
      have hq166 : zI_Works q166 198 := by rcases e166 with rfl | rfl; exact kI_Works_3; exact kI_Works_29
      obtain ⟨hq166_0, hq166_1, hq166_2, hq166_3, hq166_4, hq166_5, hq166_6, hq166_7, hq166_8, hq166_9, hq166_10, hq166_11, hq166_12, hq166_13, hq166_14, hq166_15, hq166_16, hq166_17, hq166_18, hq166_19, hq166_20, hq166_21, hq166_22, hq166_23, hq166_24, hq166_25⟩ := id hq166
      refine z_getr (q := (q166 + 12)) ok hq166_0 zc_10 hin_10 6 (by decide) fl_11_192 rfl dX11_pool_169 ?_
      refine z_iload_n ok dX11_pool_172 2 rfl ?_
      refine z_iald ok hq166_12 dX11_pool_173 hf (fun v173 hf => ?_)
      refine z_goto (tgt := 190) ok dX11_pool_174 (by decide) ?_
      obtain rfl := Option.some.inj hf
      exact hk _ _ dX11_pool_190
    refine z_swc (v := 8) hf (fun hf => ?_) (fun n24_8 hf => ?_)
    · refine z_tableIn (tgt := 177) ok dX11_pool_24 (by decide) (by decide) rfl (by decide) ?_
      refine z_aload_n ok dX11_pool_177 1 rfl ?_
      refine z_getm2 (p := 3) (q := 29) ok kc_0 zc_11 hin_11 3 (by decide) fl_11_23 rfl (by decide) (by decide) dX11_pool_178 hf (fun q178 e178 hf => ?_)
      have hq178 : zI_Works q178 198 := by rcases e178 with rfl | rfl; exact kI_Works_3; exact kI_Works_29
      obtain ⟨hq178_0, hq178_1, hq178_2, hq178_3, hq178_4, hq178_5, hq178_6, hq178_7, hq178_8, hq178_9, hq178_10, hq178_11, hq178_12, hq178_13, hq178_14, hq178_15, hq178_16, hq178_17, hq178_18, hq178_19, hq178_20, hq178_21, hq178_22, hq178_23, hq178_24, hq178_25⟩ := id hq178
      refine z_iload_n ok dX11_pool_181 2 rfl ?_
      refine z_iload_n ok dX11_pool_182 0 rfl ?_
      refine z_call hf (fun r183 h183 hf => ?_)
      refine z_cV (As := [.int x1, .int v21]) (rest := []) (w := q178) ok hq178_0 zc_10 (c_Works_bandOf hq178 h183) rfl ⟨ml_11_195, w_Works_bandOf⟩ hy_Works_bandOf ⟨rfl, rfl⟩ ⟨Nat.le_of_ble_eq_true rfl, Nat.le_of_ble_eq_true rfl⟩ ⟨Nat.zero_le _, Nat.zero_le _⟩ rfl (Nat.le_of_ble_eq_true rfl) dX11_pool_183 ?_
      refine z_goto (tgt := 190) ok dX11_pool_186 (by decide) ?_
      obtain rfl := Option.some.inj hf
      exact hk _ _ dX11_pool_190
    refine z_tableOut (tgt := 189) ok dX11_pool_24 (zsw_out 0 8 [0, 1, 2, 3, 4, 5, 6, 7, 8] (by decide) (List.forall_mem_cons.mpr ⟨n24_0, (List.forall_mem_cons.mpr ⟨n24_1, (List.forall_mem_cons.mpr ⟨n24_2, (List.forall_mem_cons.mpr ⟨n24_3, (List.forall_mem_cons.mpr ⟨n24_4, (List.forall_mem_cons.mpr ⟨n24_5, (List.forall_mem_cons.mpr ⟨n24_6, (List.forall_mem_cons.mpr ⟨n24_7, (List.forall_mem_cons.mpr ⟨n24_8, (fun _ h => absurd h List.not_mem_nil)⟩)⟩)⟩)⟩)⟩)⟩)⟩)⟩)⟩)) (by decide) ?_
    refine z_iconst (v := (-1)) ok dX11_pool_189 (by decide) ?_
    obtain rfl := Option.some.inj hf
    exact hk _ _ dX11_pool_190
theorem c_CK_pool {σ : Sg} {x1 : Int32} {x2 : Int32} {r : Int32} (h : CK_pool σ x1 x2 = some r) : ZcI yX11_pool cX11_pool 4 .int rm_CK_pool 198 (fun ad => [.ref (ad 0), .int x1, .int x2]) σ r σ :=
  zmetI pn_11 rfl (fun _ => rfl) (fun _ => Nat.le_of_ble_eq_true rfl) rfl (fun X Q ok hk => t_CK_pool ok h hk)
theorem dX10_needs_0 : decode cX10_needs 0 = .ok (.iconst 0, 1) := by decide +kernel
theorem dX10_needs_1 : decode cX10_needs 1 = .ok (.istore_n 3, 1) := by decide +kernel
theorem dX10_needs_2 : decode cX10_needs 2 = .ok (.iload_n 1, 1) := by decide +kernel
theorem dX10_needs_3 : decode cX10_needs 3 = .ok (.istore 4, 2) := by decide +kernel
theorem dX10_needs_5 : decode cX10_needs 5 = .ok (.iload 4, 2) := by decide +kernel
theorem dX10_needs_7 : decode cX10_needs 7 = .ok (.iload_n 2, 1) := by decide +kernel
theorem dX10_needs_8 : decode cX10_needs 8 = .ok (.if_icmp .gt 30, 3) := by decide +kernel
theorem dX10_needs_11 : decode cX10_needs 11 = .ok (.iload 4, 2) := by decide +kernel
theorem dX10_needs_13 : decode cX10_needs 13 = .ok (.aload_n 0, 1) := by decide +kernel
theorem dX10_needs_14 : decode cX10_needs 14 = .ok (.getfield 56, 3) := by decide +kernel
theorem dX10_needs_17 : decode cX10_needs 17 = .ok (.if_icmp .ge 21, 3) := by decide +kernel
theorem dX10_needs_20 : decode cX10_needs 20 = .ok (.iload_n 3, 1) := by decide +kernel
theorem dX10_needs_21 : decode cX10_needs 21 = .ok (.aload_n 0, 1) := by decide +kernel
theorem dX10_needs_22 : decode cX10_needs 22 = .ok (.getfield 17, 3) := by decide +kernel
theorem dX10_needs_25 : decode cX10_needs 25 = .ok (.iconst 4, 1) := by decide +kernel
theorem dX10_needs_26 : decode cX10_needs 26 = .ok (.aaload, 1) := by decide +kernel
theorem dX10_needs_27 : decode cX10_needs 27 = .ok (.iload 4, 2) := by decide +kernel
theorem dX10_needs_29 : decode cX10_needs 29 = .ok (.iaload, 1) := by decide +kernel
theorem dX10_needs_30 : decode cX10_needs 30 = .ok (.iadd, 1) := by decide +kernel
theorem dX10_needs_31 : decode cX10_needs 31 = .ok (.istore_n 3, 1) := by decide +kernel
theorem dX10_needs_32 : decode cX10_needs 32 = .ok (.iinc 4 1, 3) := by decide +kernel
theorem dX10_needs_35 : decode cX10_needs 35 = .ok (.goto (-30), 3) := by decide +kernel
theorem dX10_needs_38 : decode cX10_needs 38 = .ok (.iload_n 3, 1) := by decide +kernel
theorem dX10_needs_39 : decode cX10_needs 39 = .ok (.ireturn, 1) := by decide +kernel
abbrev rm_Works_needs : Room := { frames := 0, cells := 0, slots := 0, locals := 0 }
def Works_needs_l5 (σ : Sg) (w : Nat) (x2 : Int32) (x3 : Int32) (x4 : Int32) : Option ((Int32 × Int32) ⊕ (Int32 × Int32)) :=
  if x2 < x4 then (
    some (.inr (x3, x4))
  ) else (
    zgt σ w 3 fun v14 =>
    if v14 ≤ x4 then (
      some (.inr (x3, x4))
    ) else (
      zrd σ (w + 7) 8 x4 fun v29 =>
      zlt (x3 + v29) fun v31 =>
      zlt (x4 + 1) fun v32 =>
      some (.inl (v31, v32))
    )
  )
set_option maxRecDepth 20000 in
theorem t_Works_needs_l5 {X : Zx} {Q : State → Prop} {σ : Sg} {w : Nat} {x2 : Int32} {x3 : Int32} {x4 : Int32} (ok : Zok X cX10_needs RX10 rm_Works_needs 198 5) (hw : zI_Works w 198) {out : ((Int32 × Int32) ⊕ (Int32 × Int32))} (hf : Works_needs_l5 σ w x2 x3 x4 = some out) (hk : zout (fun (s : (Int32 × Int32)) => ZAt X Q 0 0 5 σ [(0, .ref (X.ad w)), (2, .int x2), (3, .int s.1), (4, .int s.2)] []) (fun (s : (Int32 × Int32)) => ZAt X Q 0 0 38 σ [(3, .int s.1)] []) out) : ZAt X Q 0 0 5 σ [(0, .ref (X.ad w)), (2, .int x2), (3, .int x3), (4, .int x4)] [] := by
  unfold Works_needs_l5 at hf
  obtain ⟨hw_0, hw_1, hw_2, hw_3, hw_4, hw_5, hw_6, hw_7, hw_8, hw_9, hw_10, hw_11, hw_12, hw_13, hw_14, hw_15, hw_16, hw_17, hw_18, hw_19, hw_20, hw_21, hw_22, hw_23, hw_24, hw_25⟩ := id hw
  refine z_iload ok dX10_needs_5 3 rfl ?_
  refine z_iload_n ok dX10_needs_7 1 rfl ?_
  refine z_icmp_gt (tgt := 38) ok dX10_needs_8 (by decide) hf (fun _ hf => ?_) (fun _ hf => ?_)
  · obtain rfl := Option.some.inj hf
    exact z_sub [2] rfl hk
  · refine z_iload ok dX10_needs_11 3 rfl ?_
    refine z_aload_n ok dX10_needs_13 0 rfl ?_
    refine z_geti ok hw_0 zc_10 hin_10 3 (by decide) fl_10_56 rfl dX10_needs_14 hf (fun v14 hf => ?_)
    refine z_icmp_ge (tgt := 38) ok dX10_needs_17 (by decide) hf (fun _ hf => ?_) (fun _ hf => ?_)
    · obtain rfl := Option.some.inj hf
      exact z_sub [2] rfl hk
    · refine z_iload_n ok dX10_needs_20 2 rfl ?_
      refine z_aload_n ok dX10_needs_21 0 rfl ?_
      refine z_getr (q := (w + 2)) ok hw_0 zc_10 hin_10 5 (by decide) fl_10_17 rfl dX10_needs_22 ?_
      refine z_iconst (v := 4) ok dX10_needs_25 (by decide) ?_
      refine z_aaldc (q := (w + 7)) ok hw_2 (by decide) rfl (by decide) rfl dX10_needs_26 ?_
      refine z_iload ok dX10_needs_27 3 rfl ?_
      refine z_iald ok hw_7 dX10_needs_29 hf (fun v29 hf => ?_)
      refine z_iadd ok dX10_needs_30 ?_
      refine z_nm hf (fun v31 hf => ?_)
      refine z_istore_n (lv' := [(3, .int v31), (0, .ref (X.ad w)), (2, .int x2), (4, .int x4)]) ok dX10_needs_31 (by decide) rfl ?_
      refine z_iinc (w := 1) (lv' := fun v32 => [(4, .int v32), (3, .int v31), (0, .ref (X.ad w)), (2, .int x2)]) ok dX10_needs_32 3 rfl (by decide) (by decide) (fun _ => rfl) hf (fun v32 hf => ?_)
      refine z_goto (tgt := 5) ok dX10_needs_35 (by decide) ?_
      obtain rfl := Option.some.inj hf
      exact z_sub [2, 3, 1, 0] rfl hk
def Works_needs (σ : Sg) (w : Nat) (x1 : Int32) (x2 : Int32) : Option Int32 :=
  zlt 0 fun v1 =>
  (zit (fun (s : (Int32 × Int32)) => Works_needs_l5 σ w x2 s.1 s.2) zFU (v1, x1)).bind fun r =>
  some r.1
set_option maxRecDepth 20000 in
theorem t_Works_needs {X : Zx} {Q : State → Prop} {σ : Sg} {w : Nat} {x1 : Int32} {x2 : Int32} (ok : Zok X cX10_needs RX10 rm_Works_needs 198 5) (hw : zI_Works w 198) {out : Int32} (hf : Works_needs σ w x1 x2 = some out) (hk : ZrI cX10_needs X Q out σ) : ZAt X Q 0 0 0 σ [(0, .ref (X.ad w)), (1, .int x1), (2, .int x2)] [] := by
  unfold Works_needs at hf
  obtain ⟨hw_0, hw_1, hw_2, hw_3, hw_4, hw_5, hw_6, hw_7, hw_8, hw_9, hw_10, hw_11, hw_12, hw_13, hw_14, hw_15, hw_16, hw_17, hw_18, hw_19, hw_20, hw_21, hw_22, hw_23, hw_24, hw_25⟩ := id hw
  refine z_iconst (v := 0) ok dX10_needs_0 (by decide) ?_
  refine z_nm hf (fun v1 hf => ?_)
  refine z_istore_n (lv' := [(3, .int v1), (0, .ref (X.ad w)), (1, .int x1), (2, .int x2)]) ok dX10_needs_1 (by decide) rfl ?_
  refine z_iload_n ok dX10_needs_2 2 rfl ?_
  refine z_istore (lv' := [(4, .int x1), (3, .int v1), (0, .ref (X.ad w)), (1, .int x1), (2, .int x2)]) ok dX10_needs_3 (by decide) rfl ?_
  refine z_call hf (fun r hr hf => ?_)
  refine z_sub [2, 4, 1, 0] rfl (z_iter (fun (s : (Int32 × Int32)) => σ) (fun (s : (Int32 × Int32)) => [(0, .ref (X.ad w)), (2, .int x2), (3, .int s.1), (4, .int s.2)]) (fun s o h1 h2 => t_Works_needs_l5 ok hw h1 h2) _ _ _ hr ?_)
  show ZAt X Q 0 0 38 σ [(3, .int r.1)] []
  refine z_iload_n ok dX10_needs_38 0 rfl ?_
  obtain rfl := Option.some.inj hf
  exact hk _ _ dX10_needs_39
theorem c_Works_needs {σ : Sg} {w : Nat} {x1 : Int32} {x2 : Int32} (hw : zI_Works w 198) {r : Int32} (h : Works_needs σ w x1 x2 = some r) : ZcI yX10_needs cX10_needs 5 .int rm_Works_needs 198 (fun ad => [.ref (ad w), .int x1, .int x2]) σ r σ :=
  zmetI pn_10 rfl (fun _ => rfl) (fun _ => Nat.le_of_ble_eq_true rfl) rfl (fun X Q ok hk => t_Works_needs ok hw h hk)
theorem dX3_isOpen_0 : decode cX3_isOpen 0 = .ok (.iconst 0, 1) := by decide +kernel
theorem dX3_isOpen_1 : decode cX3_isOpen 1 = .ok (.istore_n 3, 1) := by decide +kernel
theorem dX3_isOpen_2 : decode cX3_isOpen 2 = .ok (.iload_n 3, 1) := by decide +kernel
theorem dX3_isOpen_3 : decode cX3_isOpen 3 = .ok (.aload_n 0, 1) := by decide +kernel
theorem dX3_isOpen_4 : decode cX3_isOpen 4 = .ok (.getfield 21, 3) := by decide +kernel
theorem dX3_isOpen_7 : decode cX3_isOpen 7 = .ok (.if_icmp .ge 48, 3) := by decide +kernel
theorem dX3_isOpen_10 : decode cX3_isOpen 10 = .ok (.aload_n 0, 1) := by decide +kernel
theorem dX3_isOpen_11 : decode cX3_isOpen 11 = .ok (.getfield 9, 3) := by decide +kernel
theorem dX3_isOpen_14 : decode cX3_isOpen 14 = .ok (.iload_n 3, 1) := by decide +kernel
theorem dX3_isOpen_15 : decode cX3_isOpen 15 = .ok (.iaload, 1) := by decide +kernel
theorem dX3_isOpen_16 : decode cX3_isOpen 16 = .ok (.iload_n 1, 1) := by decide +kernel
theorem dX3_isOpen_17 : decode cX3_isOpen 17 = .ok (.if_icmp .ne 32, 3) := by decide +kernel
theorem dX3_isOpen_20 : decode cX3_isOpen 20 = .ok (.iload_n 2, 1) := by decide +kernel
theorem dX3_isOpen_21 : decode cX3_isOpen 21 = .ok (.aload_n 0, 1) := by decide +kernel
theorem dX3_isOpen_22 : decode cX3_isOpen 22 = .ok (.getfield 15, 3) := by decide +kernel
theorem dX3_isOpen_25 : decode cX3_isOpen 25 = .ok (.iload_n 3, 1) := by decide +kernel
theorem dX3_isOpen_26 : decode cX3_isOpen 26 = .ok (.iaload, 1) := by decide +kernel
theorem dX3_isOpen_27 : decode cX3_isOpen 27 = .ok (.if_icmp .lt 22, 3) := by decide +kernel
theorem dX3_isOpen_30 : decode cX3_isOpen 30 = .ok (.iload_n 2, 1) := by decide +kernel
theorem dX3_isOpen_31 : decode cX3_isOpen 31 = .ok (.aload_n 0, 1) := by decide +kernel
theorem dX3_isOpen_32 : decode cX3_isOpen 32 = .ok (.getfield 15, 3) := by decide +kernel
theorem dX3_isOpen_35 : decode cX3_isOpen 35 = .ok (.iload_n 3, 1) := by decide +kernel
theorem dX3_isOpen_36 : decode cX3_isOpen 36 = .ok (.iaload, 1) := by decide +kernel
theorem dX3_isOpen_37 : decode cX3_isOpen 37 = .ok (.aload_n 0, 1) := by decide +kernel
theorem dX3_isOpen_38 : decode cX3_isOpen 38 = .ok (.getfield 18, 3) := by decide +kernel
theorem dX3_isOpen_41 : decode cX3_isOpen 41 = .ok (.iload_n 3, 1) := by decide +kernel
theorem dX3_isOpen_42 : decode cX3_isOpen 42 = .ok (.iaload, 1) := by decide +kernel
theorem dX3_isOpen_43 : decode cX3_isOpen 43 = .ok (.iadd, 1) := by decide +kernel
theorem dX3_isOpen_44 : decode cX3_isOpen 44 = .ok (.if_icmp .ge 5, 3) := by decide +kernel
theorem dX3_isOpen_47 : decode cX3_isOpen 47 = .ok (.iconst 1, 1) := by decide +kernel
theorem dX3_isOpen_48 : decode cX3_isOpen 48 = .ok (.ireturn, 1) := by decide +kernel
theorem dX3_isOpen_49 : decode cX3_isOpen 49 = .ok (.iinc 3 1, 3) := by decide +kernel
theorem dX3_isOpen_52 : decode cX3_isOpen 52 = .ok (.goto (-50), 3) := by decide +kernel
theorem dX3_isOpen_55 : decode cX3_isOpen 55 = .ok (.iconst 0, 1) := by decide +kernel
theorem dX3_isOpen_56 : decode cX3_isOpen 56 = .ok (.ireturn, 1) := by decide +kernel
abbrev rm_Orders_isOpen : Room := { frames := 0, cells := 0, slots := 0, locals := 0 }
def Orders_isOpen_l2 (σ : Sg) (w : Nat) (x1 : Int32) (x2 : Int32) (x3 : Int32) : Option (Int32 ⊕ (Bool ⊕ Int32)) :=
  zgt σ w 0 fun v4 =>
  if v4 ≤ x3 then (
    some (.inr (.inr x3))
  ) else (
    zrd σ (w + 1) 16 x3 fun v15 =>
    if v15 = x1 then (
      zrd σ (w + 2) 16 x3 fun v26 =>
      if x2 < v26 then (
        zlt (x3 + 1) fun v49 =>
        some (.inl v49)
      ) else (
        zrd σ (w + 2) 16 x3 fun v36 =>
        zrd σ (w + 3) 16 x3 fun v42 =>
        if (v36 + v42) ≤ x2 then (
          zlt (x3 + 1) fun v49 =>
          some (.inl v49)
        ) else (
          some (.inr (.inl true))
        )
      )
    ) else (
      zlt (x3 + 1) fun v49 =>
      some (.inl v49)
    )
  )
set_option maxRecDepth 20000 in
theorem t_Orders_isOpen_l2 {X : Zx} {Q : State → Prop} {σ : Sg} {w : Nat} {x1 : Int32} {x2 : Int32} {x3 : Int32} (ok : Zok X cX3_isOpen RX3 rm_Orders_isOpen 198 4) (hw : zI_Orders w 198) {out : (Int32 ⊕ (Bool ⊕ Int32))} (hf : Orders_isOpen_l2 σ w x1 x2 x3 = some out) (hk : zout (fun (s : Int32) => ZAt X Q 0 0 2 σ [(0, .ref (X.ad w)), (1, .int x1), (2, .int x2), (3, .int s)] []) (zout (fun (r : Bool) => ZrI cX3_isOpen X Q (zb r) σ) (fun (s : Int32) => ZAt X Q 0 0 55 σ [] [])) out) : ZAt X Q 0 0 2 σ [(0, .ref (X.ad w)), (1, .int x1), (2, .int x2), (3, .int x3)] [] := by
  unfold Orders_isOpen_l2 at hf
  obtain ⟨hw_0, hw_1, hw_2, hw_3⟩ := id hw
  refine z_iload_n ok dX3_isOpen_2 3 rfl ?_
  refine z_aload_n ok dX3_isOpen_3 0 rfl ?_
  refine z_geti ok hw_0 zc_3 hin_3 0 (by decide) fl_3_21 rfl dX3_isOpen_4 hf (fun v4 hf => ?_)
  refine z_icmp_ge (tgt := 55) ok dX3_isOpen_7 (by decide) hf (fun _ hf => ?_) (fun _ hf => ?_)
  · obtain rfl := Option.some.inj hf
    exact z_sub [] rfl hk
  · refine z_aload_n ok dX3_isOpen_10 0 rfl ?_
    refine z_getr (q := (w + 1)) ok hw_0 zc_3 hin_3 1 (by decide) fl_3_9 rfl dX3_isOpen_11 ?_
    refine z_iload_n ok dX3_isOpen_14 3 rfl ?_
    refine z_iald ok hw_1 dX3_isOpen_15 hf (fun v15 hf => ?_)
    refine z_iload_n ok dX3_isOpen_16 1 rfl ?_
    refine z_icmp_ne (tgt := 49) ok dX3_isOpen_17 (by decide) hf (fun _ hf => ?_) (fun _ hf => ?_)
    · refine z_iload_n ok dX3_isOpen_20 2 rfl ?_
      refine z_aload_n ok dX3_isOpen_21 0 rfl ?_
      refine z_getr (q := (w + 2)) ok hw_0 zc_3 hin_3 2 (by decide) fl_3_15 rfl dX3_isOpen_22 ?_
      refine z_iload_n ok dX3_isOpen_25 3 rfl ?_
      refine z_iald ok hw_2 dX3_isOpen_26 hf (fun v26 hf => ?_)
      refine z_icmp_lt (tgt := 49) ok dX3_isOpen_27 (by decide) hf (fun _ hf => ?_) (fun _ hf => ?_)
      · refine z_iinc (w := 1) (lv' := fun v49 => [(3, .int v49), (0, .ref (X.ad w)), (1, .int x1), (2, .int x2)]) ok dX3_isOpen_49 3 rfl (by decide) (by decide) (fun _ => rfl) hf (fun v49 hf => ?_)
        refine z_goto (tgt := 2) ok dX3_isOpen_52 (by decide) ?_
        obtain rfl := Option.some.inj hf
        exact z_sub [1, 2, 3, 0] rfl hk
      · refine z_iload_n ok dX3_isOpen_30 2 rfl ?_
        refine z_aload_n ok dX3_isOpen_31 0 rfl ?_
        refine z_getr (q := (w + 2)) ok hw_0 zc_3 hin_3 2 (by decide) fl_3_15 rfl dX3_isOpen_32 ?_
        refine z_iload_n ok dX3_isOpen_35 3 rfl ?_
        refine z_iald ok hw_2 dX3_isOpen_36 hf (fun v36 hf => ?_)
        refine z_aload_n ok dX3_isOpen_37 0 rfl ?_
        refine z_getr (q := (w + 3)) ok hw_0 zc_3 hin_3 3 (by decide) fl_3_18 rfl dX3_isOpen_38 ?_
        refine z_iload_n ok dX3_isOpen_41 3 rfl ?_
        refine z_iald ok hw_3 dX3_isOpen_42 hf (fun v42 hf => ?_)
        refine z_iadd ok dX3_isOpen_43 ?_
        refine z_icmp_ge (tgt := 49) ok dX3_isOpen_44 (by decide) hf (fun _ hf => ?_) (fun _ hf => ?_)
        · refine z_iinc (w := 1) (lv' := fun v49 => [(3, .int v49), (0, .ref (X.ad w)), (1, .int x1), (2, .int x2)]) ok dX3_isOpen_49 3 rfl (by decide) (by decide) (fun _ => rfl) hf (fun v49 hf => ?_)
          refine z_goto (tgt := 2) ok dX3_isOpen_52 (by decide) ?_
          obtain rfl := Option.some.inj hf
          exact z_sub [1, 2, 3, 0] rfl hk
        · refine z_iconst (v := 1) ok dX3_isOpen_47 (by decide) ?_
          obtain rfl := Option.some.inj hf
          exact hk _ _ dX3_isOpen_48
    · refine z_iinc (w := 1) (lv' := fun v49 => [(3, .int v49), (0, .ref (X.ad w)), (1, .int x1), (2, .int x2)]) ok dX3_isOpen_49 3 rfl (by decide) (by decide) (fun _ => rfl) hf (fun v49 hf => ?_)
      refine z_goto (tgt := 2) ok dX3_isOpen_52 (by decide) ?_
      obtain rfl := Option.some.inj hf
      exact z_sub [1, 2, 3, 0] rfl hk
def Orders_isOpen (σ : Sg) (w : Nat) (x1 : Int32) (x2 : Int32) : Option Bool :=
  zlt 0 fun v1 =>
  (zit (fun (s : Int32) => Orders_isOpen_l2 σ w x1 x2 s) zFU v1).bind fun r => r.elim (fun r =>
  some r
  ) (fun r =>
  some false
  )
set_option maxRecDepth 20000 in
theorem t_Orders_isOpen {X : Zx} {Q : State → Prop} {σ : Sg} {w : Nat} {x1 : Int32} {x2 : Int32} (ok : Zok X cX3_isOpen RX3 rm_Orders_isOpen 198 4) (hw : zI_Orders w 198) {out : Bool} (hf : Orders_isOpen σ w x1 x2 = some out) (hk : ZrI cX3_isOpen X Q (zb out) σ) : ZAt X Q 0 0 0 σ [(0, .ref (X.ad w)), (1, .int x1), (2, .int x2)] [] := by
  unfold Orders_isOpen at hf
  obtain ⟨hw_0, hw_1, hw_2, hw_3⟩ := id hw
  refine z_iconst (v := 0) ok dX3_isOpen_0 (by decide) ?_
  refine z_nm hf (fun v1 hf => ?_)
  refine z_istore_n (lv' := [(3, .int v1), (0, .ref (X.ad w)), (1, .int x1), (2, .int x2)]) ok dX3_isOpen_1 (by decide) rfl ?_
  refine z_call hf (fun r hr hf => ?_)
  refine z_sub [1, 2, 3, 0] rfl (z_iter (fun (s : Int32) => σ) (fun (s : Int32) => [(0, .ref (X.ad w)), (1, .int x1), (2, .int x2), (3, .int s)]) (fun s o h1 h2 => t_Orders_isOpen_l2 ok hw h1 h2) _ _ _ hr ?_)
  cases r with
  | inl r =>
    obtain rfl := Option.some.inj hf
    exact hk
  | inr r =>
    simp only [Sum.elim_inr] at hf
    show ZAt X Q 0 0 55 σ [] []
    refine z_iconst (v := 0) ok dX3_isOpen_55 (by decide) ?_
    obtain rfl := Option.some.inj hf
    exact hk _ _ dX3_isOpen_56
theorem c_Orders_isOpen {σ : Sg} {w : Nat} {x1 : Int32} {x2 : Int32} (hw : zI_Orders w 198) {r : Bool} (h : Orders_isOpen σ w x1 x2 = some r) : ZcI yX3_isOpen cX3_isOpen 4 .boolean rm_Orders_isOpen 198 (fun ad => [.ref (ad w), .int x1, .int x2]) σ (zb r) σ :=
  zmetI pn_3 rfl (fun _ => rfl) (fun _ => Nat.le_of_ble_eq_true rfl) (zb_nar _) (fun X Q ok hk => t_Orders_isOpen ok hw h hk)
theorem dX8_isOpen_0 : decode cX8_isOpen 0 = .ok (.iconst 0, 1) := by decide +kernel
theorem dX8_isOpen_1 : decode cX8_isOpen 1 = .ok (.istore_n 3, 1) := by decide +kernel
theorem dX8_isOpen_2 : decode cX8_isOpen 2 = .ok (.iload_n 3, 1) := by decide +kernel
theorem dX8_isOpen_3 : decode cX8_isOpen 3 = .ok (.aload_n 0, 1) := by decide +kernel
theorem dX8_isOpen_4 : decode cX8_isOpen 4 = .ok (.getfield 23, 3) := by decide +kernel
theorem dX8_isOpen_7 : decode cX8_isOpen 7 = .ok (.if_icmp .ge 55, 3) := by decide +kernel
theorem dX8_isOpen_10 : decode cX8_isOpen 10 = .ok (.aload_n 0, 1) := by decide +kernel
theorem dX8_isOpen_11 : decode cX8_isOpen 11 = .ok (.getfield 9, 3) := by decide +kernel
theorem dX8_isOpen_14 : decode cX8_isOpen 14 = .ok (.iload_n 3, 1) := by decide +kernel
theorem dX8_isOpen_15 : decode cX8_isOpen 15 = .ok (.iaload, 1) := by decide +kernel
theorem dX8_isOpen_16 : decode cX8_isOpen 16 = .ok (.ifCond .le 40, 3) := by decide +kernel
theorem dX8_isOpen_19 : decode cX8_isOpen 19 = .ok (.aload_n 0, 1) := by decide +kernel
theorem dX8_isOpen_20 : decode cX8_isOpen 20 = .ok (.getfield 15, 3) := by decide +kernel
theorem dX8_isOpen_23 : decode cX8_isOpen 23 = .ok (.iload_n 3, 1) := by decide +kernel
theorem dX8_isOpen_24 : decode cX8_isOpen 24 = .ok (.iaload, 1) := by decide +kernel
theorem dX8_isOpen_25 : decode cX8_isOpen 25 = .ok (.ifCond .le 31, 3) := by decide +kernel
theorem dX8_isOpen_28 : decode cX8_isOpen 28 = .ok (.aload_n 0, 1) := by decide +kernel
theorem dX8_isOpen_29 : decode cX8_isOpen 29 = .ok (.getfield 20, 3) := by decide +kernel
theorem dX8_isOpen_32 : decode cX8_isOpen 32 = .ok (.iload_n 3, 1) := by decide +kernel
theorem dX8_isOpen_33 : decode cX8_isOpen 33 = .ok (.aaload, 1) := by decide +kernel
theorem dX8_isOpen_34 : decode cX8_isOpen 34 = .ok (.iload_n 2, 1) := by decide +kernel
theorem dX8_isOpen_35 : decode cX8_isOpen 35 = .ok (.aload_n 0, 1) := by decide +kernel
theorem dX8_isOpen_36 : decode cX8_isOpen 36 = .ok (.getfield 9, 3) := by decide +kernel
theorem dX8_isOpen_39 : decode cX8_isOpen 39 = .ok (.iload_n 3, 1) := by decide +kernel
theorem dX8_isOpen_40 : decode cX8_isOpen 40 = .ok (.iaload, 1) := by decide +kernel
theorem dX8_isOpen_41 : decode cX8_isOpen 41 = .ok (.idiv, 1) := by decide +kernel
theorem dX8_isOpen_42 : decode cX8_isOpen 42 = .ok (.aload_n 0, 1) := by decide +kernel
theorem dX8_isOpen_43 : decode cX8_isOpen 43 = .ok (.getfield 15, 3) := by decide +kernel
theorem dX8_isOpen_46 : decode cX8_isOpen 46 = .ok (.iload_n 3, 1) := by decide +kernel
theorem dX8_isOpen_47 : decode cX8_isOpen 47 = .ok (.iaload, 1) := by decide +kernel
theorem dX8_isOpen_48 : decode cX8_isOpen 48 = .ok (.irem, 1) := by decide +kernel
theorem dX8_isOpen_49 : decode cX8_isOpen 49 = .ok (.iaload, 1) := by decide +kernel
theorem dX8_isOpen_50 : decode cX8_isOpen 50 = .ok (.iload_n 1, 1) := by decide +kernel
theorem dX8_isOpen_51 : decode cX8_isOpen 51 = .ok (.if_icmp .ne 5, 3) := by decide +kernel
theorem dX8_isOpen_54 : decode cX8_isOpen 54 = .ok (.iconst 1, 1) := by decide +kernel
theorem dX8_isOpen_55 : decode cX8_isOpen 55 = .ok (.ireturn, 1) := by decide +kernel
theorem dX8_isOpen_56 : decode cX8_isOpen 56 = .ok (.iinc 3 1, 3) := by decide +kernel
theorem dX8_isOpen_59 : decode cX8_isOpen 59 = .ok (.goto (-57), 3) := by decide +kernel
theorem dX8_isOpen_62 : decode cX8_isOpen 62 = .ok (.iconst 0, 1) := by decide +kernel
theorem dX8_isOpen_63 : decode cX8_isOpen 63 = .ok (.ireturn, 1) := by decide +kernel
abbrev rm_Turns_isOpen : Room := { frames := 0, cells := 0, slots := 0, locals := 0 }
def Turns_isOpen_l2 (σ : Sg) (w : Nat) (x1 : Int32) (x2 : Int32) (x3 : Int32) : Option (Int32 ⊕ (Bool ⊕ Int32)) :=
  zgt σ w 0 fun v4 =>
  if v4 ≤ x3 then (
    some (.inr (.inr x3))
  ) else (
    zrd σ (w + 1) 2 x3 fun v15 =>
    if v15 ≤ 0 then (
      zlt (x3 + 1) fun v56 =>
      some (.inl v56)
    ) else (
      zrd σ (w + 2) 2 x3 fun v24 =>
      if v24 ≤ 0 then (
        zlt (x3 + 1) fun v56 =>
        some (.inl v56)
      ) else (
        zelr (w + 4) 2 x3 fun q33 =>
        zrd σ (w + 1) 2 x3 fun v40 =>
        znz v40 <|
        zrd σ (w + 2) 2 x3 fun v47 =>
        znz v47 <|
        zrd σ q33 6 ((x2 / v40) - (x2 / v40) / v47 * v47) fun v49 =>
        if v49 = x1 then (
          some (.inr (.inl true))
        ) else (
          zlt (x3 + 1) fun v56 =>
          some (.inl v56)
        )
      )
    )
  )
set_option maxRecDepth 20000 in
theorem t_Turns_isOpen_l2 {X : Zx} {Q : State → Prop} {σ : Sg} {w : Nat} {x1 : Int32} {x2 : Int32} {x3 : Int32} (ok : Zok X cX8_isOpen RX8 rm_Turns_isOpen 198 4) (hw : zI_Turns w 198) {out : (Int32 ⊕ (Bool ⊕ Int32))} (hf : Turns_isOpen_l2 σ w x1 x2 x3 = some out) (hk : zout (fun (s : Int32) => ZAt X Q 0 0 2 σ [(0, .ref (X.ad w)), (1, .int x1), (2, .int x2), (3, .int s)] []) (zout (fun (r : Bool) => ZrI cX8_isOpen X Q (zb r) σ) (fun (s : Int32) => ZAt X Q 0 0 62 σ [] [])) out) : ZAt X Q 0 0 2 σ [(0, .ref (X.ad w)), (1, .int x1), (2, .int x2), (3, .int x3)] [] := by
  unfold Turns_isOpen_l2 at hf
  obtain ⟨hw_0, hw_1, hw_2, hw_3, hw_4, hw_5⟩ := id hw
  refine z_iload_n ok dX8_isOpen_2 3 rfl ?_
  refine z_aload_n ok dX8_isOpen_3 0 rfl ?_
  refine z_geti ok hw_0 zc_8 hin_8 0 (by decide) fl_8_23 rfl dX8_isOpen_4 hf (fun v4 hf => ?_)
  refine z_icmp_ge (tgt := 62) ok dX8_isOpen_7 (by decide) hf (fun _ hf => ?_) (fun _ hf => ?_)
  · obtain rfl := Option.some.inj hf
    exact z_sub [] rfl hk
  · refine z_aload_n ok dX8_isOpen_10 0 rfl ?_
    refine z_getr (q := (w + 1)) ok hw_0 zc_8 hin_8 1 (by decide) fl_8_9 rfl dX8_isOpen_11 ?_
    refine z_iload_n ok dX8_isOpen_14 3 rfl ?_
    refine z_iald ok hw_1 dX8_isOpen_15 hf (fun v15 hf => ?_)
    refine z_if_le (tgt := 56) ok dX8_isOpen_16 (by decide) hf (fun _ hf => ?_) (fun _ hf => ?_)
    · refine z_iinc (w := 1) (lv' := fun v56 => [(3, .int v56), (0, .ref (X.ad w)), (1, .int x1), (2, .int x2)]) ok dX8_isOpen_56 3 rfl (by decide) (by decide) (fun _ => rfl) hf (fun v56 hf => ?_)
      refine z_goto (tgt := 2) ok dX8_isOpen_59 (by decide) ?_
      obtain rfl := Option.some.inj hf
      exact z_sub [1, 2, 3, 0] rfl hk
    · refine z_aload_n ok dX8_isOpen_19 0 rfl ?_
      refine z_getr (q := (w + 2)) ok hw_0 zc_8 hin_8 2 (by decide) fl_8_15 rfl dX8_isOpen_20 ?_
      refine z_iload_n ok dX8_isOpen_23 3 rfl ?_
      refine z_iald ok hw_2 dX8_isOpen_24 hf (fun v24 hf => ?_)
      refine z_if_le (tgt := 56) ok dX8_isOpen_25 (by decide) hf (fun _ hf => ?_) (fun _ hf => ?_)
      · refine z_iinc (w := 1) (lv' := fun v56 => [(3, .int v56), (0, .ref (X.ad w)), (1, .int x1), (2, .int x2)]) ok dX8_isOpen_56 3 rfl (by decide) (by decide) (fun _ => rfl) hf (fun v56 hf => ?_)
        refine z_goto (tgt := 2) ok dX8_isOpen_59 (by decide) ?_
        obtain rfl := Option.some.inj hf
        exact z_sub [1, 2, 3, 0] rfl hk
      · refine z_aload_n ok dX8_isOpen_28 0 rfl ?_
        refine z_getr (q := (w + 3)) ok hw_0 zc_8 hin_8 3 (by decide) fl_8_20 rfl dX8_isOpen_29 ?_
        refine z_iload_n ok dX8_isOpen_32 3 rfl ?_
        refine z_aaldr (p := (w + 4)) ok hw_3 (by decide) rfl dX8_isOpen_33 hf (fun q33 e33 hf => ?_)
        have hq33 : zk q33 198 (.inr (0, 6, [])) := (show ∀ q ∈ [(w + 4), (w + 5)], zk q 198 (.inr (0, 6, [])) from (List.forall_mem_cons.mpr ⟨hw_4, (List.forall_mem_cons.mpr ⟨hw_5, (fun _ h => absurd h List.not_mem_nil)⟩)⟩)) q33 e33
        refine z_iload_n ok dX8_isOpen_34 2 rfl ?_
        refine z_aload_n ok dX8_isOpen_35 0 rfl ?_
        refine z_getr (q := (w + 1)) ok hw_0 zc_8 hin_8 1 (by decide) fl_8_9 rfl dX8_isOpen_36 ?_
        refine z_iload_n ok dX8_isOpen_39 3 rfl ?_
        refine z_iald ok hw_1 dX8_isOpen_40 hf (fun v40 hf => ?_)
        refine z_idiv ok dX8_isOpen_41 hf (fun hf => ?_)
        refine z_aload_n ok dX8_isOpen_42 0 rfl ?_
        refine z_getr (q := (w + 2)) ok hw_0 zc_8 hin_8 2 (by decide) fl_8_15 rfl dX8_isOpen_43 ?_
        refine z_iload_n ok dX8_isOpen_46 3 rfl ?_
        refine z_iald ok hw_2 dX8_isOpen_47 hf (fun v47 hf => ?_)
        refine z_irem ok dX8_isOpen_48 hf (fun hf => ?_)
        refine z_iald ok hq33 dX8_isOpen_49 hf (fun v49 hf => ?_)
        refine z_iload_n ok dX8_isOpen_50 1 rfl ?_
        refine z_icmp_ne (tgt := 56) ok dX8_isOpen_51 (by decide) hf (fun _ hf => ?_) (fun _ hf => ?_)
        · refine z_iconst (v := 1) ok dX8_isOpen_54 (by decide) ?_
          obtain rfl := Option.some.inj hf
          exact hk _ _ dX8_isOpen_55
        · refine z_iinc (w := 1) (lv' := fun v56 => [(3, .int v56), (0, .ref (X.ad w)), (1, .int x1), (2, .int x2)]) ok dX8_isOpen_56 3 rfl (by decide) (by decide) (fun _ => rfl) hf (fun v56 hf => ?_)
          refine z_goto (tgt := 2) ok dX8_isOpen_59 (by decide) ?_
          obtain rfl := Option.some.inj hf
          exact z_sub [1, 2, 3, 0] rfl hk
def Turns_isOpen (σ : Sg) (w : Nat) (x1 : Int32) (x2 : Int32) : Option Bool :=
  zlt 0 fun v1 =>
  (zit (fun (s : Int32) => Turns_isOpen_l2 σ w x1 x2 s) zFU v1).bind fun r => r.elim (fun r =>
  some r
  ) (fun r =>
  some false
  )
set_option maxRecDepth 20000 in
theorem t_Turns_isOpen {X : Zx} {Q : State → Prop} {σ : Sg} {w : Nat} {x1 : Int32} {x2 : Int32} (ok : Zok X cX8_isOpen RX8 rm_Turns_isOpen 198 4) (hw : zI_Turns w 198) {out : Bool} (hf : Turns_isOpen σ w x1 x2 = some out) (hk : ZrI cX8_isOpen X Q (zb out) σ) : ZAt X Q 0 0 0 σ [(0, .ref (X.ad w)), (1, .int x1), (2, .int x2)] [] := by
  unfold Turns_isOpen at hf
  obtain ⟨hw_0, hw_1, hw_2, hw_3, hw_4, hw_5⟩ := id hw
  refine z_iconst (v := 0) ok dX8_isOpen_0 (by decide) ?_
  refine z_nm hf (fun v1 hf => ?_)
  refine z_istore_n (lv' := [(3, .int v1), (0, .ref (X.ad w)), (1, .int x1), (2, .int x2)]) ok dX8_isOpen_1 (by decide) rfl ?_
  refine z_call hf (fun r hr hf => ?_)
  refine z_sub [1, 2, 3, 0] rfl (z_iter (fun (s : Int32) => σ) (fun (s : Int32) => [(0, .ref (X.ad w)), (1, .int x1), (2, .int x2), (3, .int s)]) (fun s o h1 h2 => t_Turns_isOpen_l2 ok hw h1 h2) _ _ _ hr ?_)
  cases r with
  | inl r =>
    obtain rfl := Option.some.inj hf
    exact hk
  | inr r =>
    simp only [Sum.elim_inr] at hf
    show ZAt X Q 0 0 62 σ [] []
    refine z_iconst (v := 0) ok dX8_isOpen_62 (by decide) ?_
    obtain rfl := Option.some.inj hf
    exact hk _ _ dX8_isOpen_63
theorem c_Turns_isOpen {σ : Sg} {w : Nat} {x1 : Int32} {x2 : Int32} (hw : zI_Turns w 198) {r : Bool} (h : Turns_isOpen σ w x1 x2 = some r) : ZcI yX8_isOpen cX8_isOpen 4 .boolean rm_Turns_isOpen 198 (fun ad => [.ref (ad w), .int x1, .int x2]) σ (zb r) σ :=
  zmetI pn_8 rfl (fun _ => rfl) (fun _ => Nat.le_of_ble_eq_true rfl) (zb_nar _) (fun X Q ok hk => t_Turns_isOpen ok hw h hk)
theorem dX10_isOpen_0 : decode cX10_isOpen 0 = .ok (.aload_n 1, 1) := by decide +kernel
theorem dX10_isOpen_1 : decode cX10_isOpen 1 = .ok (.iload_n 2, 1) := by decide +kernel
theorem dX10_isOpen_2 : decode cX10_isOpen 2 = .ok (.iload_n 3, 1) := by decide +kernel
theorem dX10_isOpen_3 : decode cX10_isOpen 3 = .ok (.invokevirtual 75, 3) := by decide +kernel
theorem dX10_isOpen_6 : decode cX10_isOpen 6 = .ok (.ifCond .ne 15, 3) := by decide +kernel
theorem dX10_isOpen_9 : decode cX10_isOpen 9 = .ok (.aload_n 0, 1) := by decide +kernel
theorem dX10_isOpen_10 : decode cX10_isOpen 10 = .ok (.getfield 42, 3) := by decide +kernel
theorem dX10_isOpen_13 : decode cX10_isOpen 13 = .ok (.iload_n 2, 1) := by decide +kernel
theorem dX10_isOpen_14 : decode cX10_isOpen 14 = .ok (.iload_n 3, 1) := by decide +kernel
theorem dX10_isOpen_15 : decode cX10_isOpen 15 = .ok (.invokevirtual 79, 3) := by decide +kernel
theorem dX10_isOpen_18 : decode cX10_isOpen 18 = .ok (.ifCond .eq 7, 3) := by decide +kernel
theorem dX10_isOpen_21 : decode cX10_isOpen 21 = .ok (.iconst 1, 1) := by decide +kernel
theorem dX10_isOpen_22 : decode cX10_isOpen 22 = .ok (.goto 4, 3) := by decide +kernel
theorem dX10_isOpen_25 : decode cX10_isOpen 25 = .ok (.iconst 0, 1) := by decide +kernel
theorem dX10_isOpen_26 : decode cX10_isOpen 26 = .ok (.ireturn, 1) := by decide +kernel
abbrev rm_Works_isOpen : Room := { frames := 1, cells := 0, slots := 0, locals := 23 }
def Works_isOpen (σ : Sg) (w : Nat) (p1 : Nat) (x2 : Int32) (x3 : Int32) : Option Bool :=
  (Orders_isOpen σ p1 x2 x3).bind fun r3 =>
  if (zb r3) = 0 then (
    (Turns_isOpen σ (w + 20) x2 x3).bind fun r15 =>
    if (zb r15) = 0 then (
      some false
    ) else (
      some true
    )
  ) else (
    some true
  )
set_option maxRecDepth 20000 in
theorem t_Works_isOpen {X : Zx} {Q : State → Prop} {σ : Sg} {w : Nat} {p1 : Nat} {x2 : Int32} {x3 : Int32} (ok : Zok X cX10_isOpen RX10 rm_Works_isOpen 198 4) (hw : zI_Works w 198) (hp1 : zI_Orders p1 198) {out : Bool} (hf : Works_isOpen σ w p1 x2 x3 = some out) (hk : ZrI cX10_isOpen X Q (zb out) σ) : ZAt X Q 0 0 0 σ [(0, .ref (X.ad w)), (1, .ref (X.ad p1)), (2, .int x2), (3, .int x3)] [] := by
  unfold Works_isOpen at hf
  obtain ⟨hw_0, hw_1, hw_2, hw_3, hw_4, hw_5, hw_6, hw_7, hw_8, hw_9, hw_10, hw_11, hw_12, hw_13, hw_14, hw_15, hw_16, hw_17, hw_18, hw_19, hw_20, hw_21, hw_22, hw_23, hw_24, hw_25⟩ := id hw
  obtain ⟨hp1_0, hp1_1, hp1_2, hp1_3⟩ := id hp1
  refine z_aload_n ok dX10_isOpen_0 1 rfl ?_
  refine z_iload_n ok dX10_isOpen_1 2 rfl ?_
  refine z_iload_n ok dX10_isOpen_2 3 rfl ?_
  refine z_call hf (fun r3 h3 hf => ?_)
  refine z_cV (As := [.int x2, .int x3]) (rest := []) (w := p1) ok hp1_0 zc_3 (c_Orders_isOpen hp1 h3) rfl ⟨ml_10_75, w_Orders_isOpen⟩ hy_Orders_isOpen ⟨rfl, rfl⟩ ⟨Nat.le_of_ble_eq_true rfl, Nat.le_of_ble_eq_true rfl⟩ ⟨Nat.zero_le _, Nat.zero_le _⟩ rfl (Nat.le_of_ble_eq_true rfl) dX10_isOpen_3 ?_
  refine z_if_ne (tgt := 21) ok dX10_isOpen_6 (by decide) hf (fun _ hf => ?_) (fun _ hf => ?_)
  · refine z_aload_n ok dX10_isOpen_9 0 rfl ?_
    refine z_getr (q := (w + 20)) ok hw_0 zc_10 hin_10 12 (by decide) fl_10_42 rfl dX10_isOpen_10 ?_
    refine z_iload_n ok dX10_isOpen_13 2 rfl ?_
    refine z_iload_n ok dX10_isOpen_14 3 rfl ?_
    refine z_call hf (fun r15 h15 hf => ?_)
    refine z_cV (As := [.int x2, .int x3]) (rest := []) (w := (w + 20)) ok hw_20 zc_8 (c_Turns_isOpen (zI_Works_20 hw) h15) rfl ⟨ml_10_79, w_Turns_isOpen⟩ hy_Turns_isOpen ⟨rfl, rfl⟩ ⟨Nat.le_of_ble_eq_true rfl, Nat.le_of_ble_eq_true rfl⟩ ⟨Nat.zero_le _, Nat.zero_le _⟩ rfl (Nat.le_of_ble_eq_true rfl) dX10_isOpen_15 ?_
    refine z_if_eq (tgt := 25) ok dX10_isOpen_18 (by decide) hf (fun _ hf => ?_) (fun _ hf => ?_)
    · refine z_iconst (v := 0) ok dX10_isOpen_25 (by decide) ?_
      obtain rfl := Option.some.inj hf
      exact hk _ _ dX10_isOpen_26
    · refine z_iconst (v := 1) ok dX10_isOpen_21 (by decide) ?_
      refine z_goto (tgt := 26) ok dX10_isOpen_22 (by decide) ?_
      obtain rfl := Option.some.inj hf
      exact hk _ _ dX10_isOpen_26
  · refine z_iconst (v := 1) ok dX10_isOpen_21 (by decide) ?_
    refine z_goto (tgt := 26) ok dX10_isOpen_22 (by decide) ?_
    obtain rfl := Option.some.inj hf
    exact hk _ _ dX10_isOpen_26
theorem c_Works_isOpen {σ : Sg} {w : Nat} {p1 : Nat} {x2 : Int32} {x3 : Int32} (hw : zI_Works w 198) (hp1 : zI_Orders p1 198) {r : Bool} (h : Works_isOpen σ w p1 x2 x3 = some r) : ZcI yX10_isOpen cX10_isOpen 4 .boolean rm_Works_isOpen 198 (fun ad => [.ref (ad w), .ref (ad p1), .int x2, .int x3]) σ (zb r) σ :=
  zmetI pn_10 rfl (fun _ => rfl) (fun _ => Nat.le_of_ble_eq_true rfl) (zb_nar _) (fun X Q ok hk => t_Works_isOpen ok hw hp1 h hk)
theorem dX11_loadAt_0 : decode cX11_loadAt 0 = .ok (.iconst 0, 1) := by decide +kernel
theorem dX11_loadAt_1 : decode cX11_loadAt 1 = .ok (.istore_n 3, 1) := by decide +kernel
theorem dX11_loadAt_2 : decode cX11_loadAt 2 = .ok (.iload_n 1, 1) := by decide +kernel
theorem dX11_loadAt_3 : decode cX11_loadAt 3 = .ok (.istore 4, 2) := by decide +kernel
theorem dX11_loadAt_5 : decode cX11_loadAt 5 = .ok (.iload 4, 2) := by decide +kernel
theorem dX11_loadAt_7 : decode cX11_loadAt 7 = .ok (.aload_n 0, 1) := by decide +kernel
theorem dX11_loadAt_8 : decode cX11_loadAt 8 = .ok (.getfield 23, 3) := by decide +kernel
theorem dX11_loadAt_11 : decode cX11_loadAt 11 = .ok (.getfield 111, 3) := by decide +kernel
theorem dX11_loadAt_14 : decode cX11_loadAt 14 = .ok (.if_icmp .ge 25, 3) := by decide +kernel
theorem dX11_loadAt_17 : decode cX11_loadAt 17 = .ok (.iload_n 3, 1) := by decide +kernel
theorem dX11_loadAt_18 : decode cX11_loadAt 18 = .ok (.aload_n 0, 1) := by decide +kernel
theorem dX11_loadAt_19 : decode cX11_loadAt 19 = .ok (.getfield 37, 3) := by decide +kernel
theorem dX11_loadAt_22 : decode cX11_loadAt 22 = .ok (.getfield 126, 3) := by decide +kernel
theorem dX11_loadAt_25 : decode cX11_loadAt 25 = .ok (.getfield 186, 3) := by decide +kernel
theorem dX11_loadAt_28 : decode cX11_loadAt 28 = .ok (.iload 4, 2) := by decide +kernel
theorem dX11_loadAt_30 : decode cX11_loadAt 30 = .ok (.iaload, 1) := by decide +kernel
theorem dX11_loadAt_31 : decode cX11_loadAt 31 = .ok (.iadd, 1) := by decide +kernel
theorem dX11_loadAt_32 : decode cX11_loadAt 32 = .ok (.istore_n 3, 1) := by decide +kernel
theorem dX11_loadAt_33 : decode cX11_loadAt 33 = .ok (.iinc 4 1, 3) := by decide +kernel
theorem dX11_loadAt_36 : decode cX11_loadAt 36 = .ok (.goto (-31), 3) := by decide +kernel
theorem dX11_loadAt_39 : decode cX11_loadAt 39 = .ok (.iconst 0, 1) := by decide +kernel
theorem dX11_loadAt_40 : decode cX11_loadAt 40 = .ok (.istore 4, 2) := by decide +kernel
theorem dX11_loadAt_42 : decode cX11_loadAt 42 = .ok (.iload 4, 2) := by decide +kernel
theorem dX11_loadAt_44 : decode cX11_loadAt 44 = .ok (.aload_n 0, 1) := by decide +kernel
theorem dX11_loadAt_45 : decode cX11_loadAt 45 = .ok (.getfield 23, 3) := by decide +kernel
theorem dX11_loadAt_48 : decode cX11_loadAt 48 = .ok (.getfield 114, 3) := by decide +kernel
theorem dX11_loadAt_51 : decode cX11_loadAt 51 = .ok (.if_icmp .ge 71, 3) := by decide +kernel
theorem dX11_loadAt_54 : decode cX11_loadAt 54 = .ok (.aload_n 0, 1) := by decide +kernel
theorem dX11_loadAt_55 : decode cX11_loadAt 55 = .ok (.getfield 23, 3) := by decide +kernel
theorem dX11_loadAt_58 : decode cX11_loadAt 58 = .ok (.getfield 221, 3) := by decide +kernel
theorem dX11_loadAt_61 : decode cX11_loadAt 61 = .ok (.iload 4, 2) := by decide +kernel
theorem dX11_loadAt_63 : decode cX11_loadAt 63 = .ok (.iaload, 1) := by decide +kernel
theorem dX11_loadAt_64 : decode cX11_loadAt 64 = .ok (.istore 5, 2) := by decide +kernel
theorem dX11_loadAt_66 : decode cX11_loadAt 66 = .ok (.iload 5, 2) := by decide +kernel
theorem dX11_loadAt_68 : decode cX11_loadAt 68 = .ok (.iload_n 1, 1) := by decide +kernel
theorem dX11_loadAt_69 : decode cX11_loadAt 69 = .ok (.if_icmp .lt 47, 3) := by decide +kernel
theorem dX11_loadAt_72 : decode cX11_loadAt 72 = .ok (.aload_n 0, 1) := by decide +kernel
theorem dX11_loadAt_73 : decode cX11_loadAt 73 = .ok (.getfield 23, 3) := by decide +kernel
theorem dX11_loadAt_76 : decode cX11_loadAt 76 = .ok (.aload_n 0, 1) := by decide +kernel
theorem dX11_loadAt_77 : decode cX11_loadAt 77 = .ok (.getfield 37, 3) := by decide +kernel
theorem dX11_loadAt_80 : decode cX11_loadAt 80 = .ok (.getfield 117, 3) := by decide +kernel
theorem dX11_loadAt_83 : decode cX11_loadAt 83 = .ok (.iload 4, 2) := by decide +kernel
theorem dX11_loadAt_85 : decode cX11_loadAt 85 = .ok (.iload_n 2, 1) := by decide +kernel
theorem dX11_loadAt_86 : decode cX11_loadAt 86 = .ok (.aload_n 0, 1) := by decide +kernel
theorem dX11_loadAt_87 : decode cX11_loadAt 87 = .ok (.getfield 23, 3) := by decide +kernel
theorem dX11_loadAt_90 : decode cX11_loadAt 90 = .ok (.iload_n 1, 1) := by decide +kernel
theorem dX11_loadAt_91 : decode cX11_loadAt 91 = .ok (.iload 5, 2) := by decide +kernel
theorem dX11_loadAt_93 : decode cX11_loadAt 93 = .ok (.invokevirtual 237, 3) := by decide +kernel
theorem dX11_loadAt_96 : decode cX11_loadAt 96 = .ok (.iadd, 1) := by decide +kernel
theorem dX11_loadAt_97 : decode cX11_loadAt 97 = .ok (.invokevirtual 227, 3) := by decide +kernel
theorem dX11_loadAt_100 : decode cX11_loadAt 100 = .ok (.ifCond .eq 16, 3) := by decide +kernel
theorem dX11_loadAt_103 : decode cX11_loadAt 103 = .ok (.iload_n 3, 1) := by decide +kernel
theorem dX11_loadAt_104 : decode cX11_loadAt 104 = .ok (.aload_n 0, 1) := by decide +kernel
theorem dX11_loadAt_105 : decode cX11_loadAt 105 = .ok (.getfield 23, 3) := by decide +kernel
theorem dX11_loadAt_108 : decode cX11_loadAt 108 = .ok (.getfield 224, 3) := by decide +kernel
theorem dX11_loadAt_111 : decode cX11_loadAt 111 = .ok (.iload 4, 2) := by decide +kernel
theorem dX11_loadAt_113 : decode cX11_loadAt 113 = .ok (.iaload, 1) := by decide +kernel
theorem dX11_loadAt_114 : decode cX11_loadAt 114 = .ok (.iadd, 1) := by decide +kernel
theorem dX11_loadAt_115 : decode cX11_loadAt 115 = .ok (.istore_n 3, 1) := by decide +kernel
theorem dX11_loadAt_116 : decode cX11_loadAt 116 = .ok (.iinc 4 1, 3) := by decide +kernel
theorem dX11_loadAt_119 : decode cX11_loadAt 119 = .ok (.goto (-77), 3) := by decide +kernel
theorem dX11_loadAt_122 : decode cX11_loadAt 122 = .ok (.iload_n 3, 1) := by decide +kernel
theorem dX11_loadAt_123 : decode cX11_loadAt 123 = .ok (.ireturn, 1) := by decide +kernel
abbrev rm_CK_loadAt : Room := { frames := 2, cells := 0, slots := 0, locals := 46 }
def CK_loadAt_l5 (σ : Sg) (x1 : Int32) (x2 : Int32) (x3 : Int32) (x4 : Int32) : Option ((Int32 × Int32) ⊕ (Int32 × Int32)) :=
  zmr2 3 29 (σ 0 3) fun q8 =>
  zgt σ q8 3 fun v11 =>
  if v11 ≤ x4 then (
    some (.inr (x3, x4))
  ) else (
    zrd σ 59 8 x4 fun v30 =>
    zlt (x3 + v30) fun v32 =>
    zlt (x4 + 1) fun v33 =>
    some (.inl (v32, v33))
  )
set_option maxRecDepth 20000 in
theorem t_CK_loadAt_l5 {X : Zx} {Q : State → Prop} {σ : Sg} {x1 : Int32} {x2 : Int32} {x3 : Int32} {x4 : Int32} (ok : Zok X cX11_loadAt RX11 rm_CK_loadAt 198 6)  {out : ((Int32 × Int32) ⊕ (Int32 × Int32))} (hf : CK_loadAt_l5 σ x1 x2 x3 x4 = some out) (hk : zout (fun (s : (Int32 × Int32)) => ZAt X Q 0 0 5 σ [(0, .ref (X.ad 0)), (1, .int x1), (2, .int x2), (3, .int s.1), (4, .int s.2)] []) (fun (s : (Int32 × Int32)) => ZAt X Q 0 0 39 σ [(0, .ref (X.ad 0)), (1, .int x1), (2, .int x2), (3, .int s.1)] []) out) : ZAt X Q 0 0 5 σ [(0, .ref (X.ad 0)), (1, .int x1), (2, .int x2), (3, .int x3), (4, .int x4)] [] := by
  unfold CK_loadAt_l5 at hf
  refine z_iload ok dX11_loadAt_5 4 rfl ?_
  refine z_aload_n ok dX11_loadAt_7 0 rfl ?_
  refine z_getm2 (p := 3) (q := 29) ok kc_0 zc_11 hin_11 3 (by decide) fl_11_23 rfl (by decide) (by decide) dX11_loadAt_8 hf (fun q8 e8 hf => ?_)
  have hq8 : zI_Works q8 198 := by rcases e8 with rfl | rfl; exact kI_Works_3; exact kI_Works_29
  obtain ⟨hq8_0, hq8_1, hq8_2, hq8_3, hq8_4, hq8_5, hq8_6, hq8_7, hq8_8, hq8_9, hq8_10, hq8_11, hq8_12, hq8_13, hq8_14, hq8_15, hq8_16, hq8_17, hq8_18, hq8_19, hq8_20, hq8_21, hq8_22, hq8_23, hq8_24, hq8_25⟩ := id hq8
  refine z_geti ok hq8_0 zc_10 hin_10 3 (by decide) fl_11_111 rfl dX11_loadAt_11 hf (fun v11 hf => ?_)
  refine z_icmp_ge (tgt := 39) ok dX11_loadAt_14 (by decide) hf (fun _ hf => ?_) (fun _ hf => ?_)
  · obtain rfl := Option.some.inj hf
    exact z_sub [0, 1, 2, 3] rfl hk
  · refine z_iload_n ok dX11_loadAt_17 3 rfl ?_
    refine z_aload_n ok dX11_loadAt_18 0 rfl ?_
    refine z_getr (q := 55) ok kc_0 zc_11 hin_11 8 (by decide) fl_11_37 rfl dX11_loadAt_19 ?_
    refine z_getr (q := 56) ok kc_55 zc_1 hin_1 0 (by decide) fl_11_126 rfl dX11_loadAt_22 ?_
    refine z_getr (q := 59) ok kc_56 zc_9 hin_9 5 (by decide) fl_11_186 rfl dX11_loadAt_25 ?_
    refine z_iload ok dX11_loadAt_28 4 rfl ?_
    refine z_iald ok kc_59 dX11_loadAt_30 hf (fun v30 hf => ?_)
    refine z_iadd ok dX11_loadAt_31 ?_
    refine z_nm hf (fun v32 hf => ?_)
    refine z_istore_n (lv' := [(3, .int v32), (0, .ref (X.ad 0)), (1, .int x1), (2, .int x2), (4, .int x4)]) ok dX11_loadAt_32 (by decide) rfl ?_
    refine z_iinc (w := 1) (lv' := fun v33 => [(4, .int v33), (3, .int v32), (0, .ref (X.ad 0)), (1, .int x1), (2, .int x2)]) ok dX11_loadAt_33 4 rfl (by decide) (by decide) (fun _ => rfl) hf (fun v33 hf => ?_)
    refine z_goto (tgt := 5) ok dX11_loadAt_36 (by decide) ?_
    obtain rfl := Option.some.inj hf
    exact z_sub [2, 3, 4, 1, 0] rfl hk
def CK_loadAt_l42 (σ : Sg) (x1 : Int32) (x2 : Int32) (x3 : Int32) (x4 : Int32) : Option ((Int32 × Int32) ⊕ (Int32 × Int32)) :=
  zmr2 3 29 (σ 0 3) fun q45 =>
  zgt σ q45 7 fun v48 =>
  if v48 ≤ x4 then (
    some (.inr (x3, x4))
  ) else (
    zmr2 3 29 (σ 0 3) fun q55 =>
    zrd σ (q55 + 14) 10 x4 fun v63 =>
    if v63 < x1 then (
      zlt (x4 + 1) fun v116 =>
      some (.inl (x3, v116))
    ) else (
      zmr2 3 29 (σ 0 3) fun q73 =>
      zmr2 3 29 (σ 0 3) fun q87 =>
      (Works_needs σ q87 x1 v63).bind fun r93 =>
      (Works_isOpen σ q73 73 x4 (x2 + r93)).bind fun r97 =>
      if (zb r97) = 0 then (
        zlt (x4 + 1) fun v116 =>
        some (.inl (x3, v116))
      ) else (
        zmr2 3 29 (σ 0 3) fun q105 =>
        zrd σ (q105 + 15) 10 x4 fun v113 =>
        zlt (x3 + v113) fun v115 =>
        zlt (x4 + 1) fun v116 =>
        some (.inl (v115, v116))
      )
    )
  )
set_option maxRecDepth 20000 in
theorem t_CK_loadAt_l42 {X : Zx} {Q : State → Prop} {σ : Sg} {x1 : Int32} {x2 : Int32} {x3 : Int32} {x4 : Int32} (ok : Zok X cX11_loadAt RX11 rm_CK_loadAt 198 6)  {out : ((Int32 × Int32) ⊕ (Int32 × Int32))} (hf : CK_loadAt_l42 σ x1 x2 x3 x4 = some out) (hk : zout (fun (s : (Int32 × Int32)) => ZAt X Q 0 0 42 σ [(0, .ref (X.ad 0)), (1, .int x1), (2, .int x2), (3, .int s.1), (4, .int s.2)] []) (fun (s : (Int32 × Int32)) => ZAt X Q 0 0 122 σ [(3, .int s.1)] []) out) : ZAt X Q 0 0 42 σ [(0, .ref (X.ad 0)), (1, .int x1), (2, .int x2), (3, .int x3), (4, .int x4)] [] := by
  unfold CK_loadAt_l42 at hf
  refine z_iload ok dX11_loadAt_42 4 rfl ?_
  refine z_aload_n ok dX11_loadAt_44 0 rfl ?_
  refine z_getm2 (p := 3) (q := 29) ok kc_0 zc_11 hin_11 3 (by decide) fl_11_23 rfl (by decide) (by decide) dX11_loadAt_45 hf (fun q45 e45 hf => ?_)
  have hq45 : zI_Works q45 198 := by rcases e45 with rfl | rfl; exact kI_Works_3; exact kI_Works_29
  obtain ⟨hq45_0, hq45_1, hq45_2, hq45_3, hq45_4, hq45_5, hq45_6, hq45_7, hq45_8, hq45_9, hq45_10, hq45_11, hq45_12, hq45_13, hq45_14, hq45_15, hq45_16, hq45_17, hq45_18, hq45_19, hq45_20, hq45_21, hq45_22, hq45_23, hq45_24, hq45_25⟩ := id hq45
  refine z_geti ok hq45_0 zc_10 hin_10 7 (by decide) fl_11_114 rfl dX11_loadAt_48 hf (fun v48 hf => ?_)
  refine z_icmp_ge (tgt := 122) ok dX11_loadAt_51 (by decide) hf (fun _ hf => ?_) (fun _ hf => ?_)
  · obtain rfl := Option.some.inj hf
    exact z_sub [3] rfl hk
  · refine z_aload_n ok dX11_loadAt_54 0 rfl ?_
    refine z_getm2 (p := 3) (q := 29) ok kc_0 zc_11 hin_11 3 (by decide) fl_11_23 rfl (by decide) (by decide) dX11_loadAt_55 hf (fun q55 e55 hf => ?_)
    have hq55 : zI_Works q55 198 := by rcases e55 with rfl | rfl; exact kI_Works_3; exact kI_Works_29
    obtain ⟨hq55_0, hq55_1, hq55_2, hq55_3, hq55_4, hq55_5, hq55_6, hq55_7, hq55_8, hq55_9, hq55_10, hq55_11, hq55_12, hq55_13, hq55_14, hq55_15, hq55_16, hq55_17, hq55_18, hq55_19, hq55_20, hq55_21, hq55_22, hq55_23, hq55_24, hq55_25⟩ := id hq55
    refine z_getr (q := (q55 + 14)) ok hq55_0 zc_10 hin_10 9 (by decide) fl_11_221 rfl dX11_loadAt_58 ?_
    refine z_iload ok dX11_loadAt_61 4 rfl ?_
    refine z_iald ok hq55_14 dX11_loadAt_63 hf (fun v63 hf => ?_)
    refine z_istore (lv' := [(5, .int v63), (0, .ref (X.ad 0)), (1, .int x1), (2, .int x2), (3, .int x3), (4, .int x4)]) ok dX11_loadAt_64 (by decide) rfl ?_
    refine z_iload ok dX11_loadAt_66 0 rfl ?_
    refine z_iload_n ok dX11_loadAt_68 2 rfl ?_
    refine z_icmp_lt (tgt := 116) ok dX11_loadAt_69 (by decide) hf (fun _ hf => ?_) (fun _ hf => ?_)
    · refine z_iinc (w := 1) (lv' := fun v116 => [(4, .int v116), (5, .int v63), (0, .ref (X.ad 0)), (1, .int x1), (2, .int x2), (3, .int x3)]) ok dX11_loadAt_116 5 rfl (by decide) (by decide) (fun _ => rfl) hf (fun v116 hf => ?_)
      refine z_goto (tgt := 42) ok dX11_loadAt_119 (by decide) ?_
      obtain rfl := Option.some.inj hf
      exact z_sub [2, 3, 4, 5, 0] rfl hk
    · refine z_aload_n ok dX11_loadAt_72 1 rfl ?_
      refine z_getm2 (p := 3) (q := 29) ok kc_0 zc_11 hin_11 3 (by decide) fl_11_23 rfl (by decide) (by decide) dX11_loadAt_73 hf (fun q73 e73 hf => ?_)
      have hq73 : zI_Works q73 198 := by rcases e73 with rfl | rfl; exact kI_Works_3; exact kI_Works_29
      obtain ⟨hq73_0, hq73_1, hq73_2, hq73_3, hq73_4, hq73_5, hq73_6, hq73_7, hq73_8, hq73_9, hq73_10, hq73_11, hq73_12, hq73_13, hq73_14, hq73_15, hq73_16, hq73_17, hq73_18, hq73_19, hq73_20, hq73_21, hq73_22, hq73_23, hq73_24, hq73_25⟩ := id hq73
      refine z_aload_n ok dX11_loadAt_76 1 rfl ?_
      refine z_getr (q := 55) ok kc_0 zc_11 hin_11 8 (by decide) fl_11_37 rfl dX11_loadAt_77 ?_
      refine z_getr (q := 73) ok kc_55 zc_1 hin_1 1 (by decide) fl_11_117 rfl dX11_loadAt_80 ?_
      refine z_iload ok dX11_loadAt_83 5 rfl ?_
      refine z_iload_n ok dX11_loadAt_85 3 rfl ?_
      refine z_aload_n ok dX11_loadAt_86 1 rfl ?_
      refine z_getm2 (p := 3) (q := 29) ok kc_0 zc_11 hin_11 3 (by decide) fl_11_23 rfl (by decide) (by decide) dX11_loadAt_87 hf (fun q87 e87 hf => ?_)
      have hq87 : zI_Works q87 198 := by rcases e87 with rfl | rfl; exact kI_Works_3; exact kI_Works_29
      obtain ⟨hq87_0, hq87_1, hq87_2, hq87_3, hq87_4, hq87_5, hq87_6, hq87_7, hq87_8, hq87_9, hq87_10, hq87_11, hq87_12, hq87_13, hq87_14, hq87_15, hq87_16, hq87_17, hq87_18, hq87_19, hq87_20, hq87_21, hq87_22, hq87_23, hq87_24, hq87_25⟩ := id hq87
      refine z_iload_n ok dX11_loadAt_90 2 rfl ?_
      refine z_iload ok dX11_loadAt_91 0 rfl ?_
      refine z_call hf (fun r93 h93 hf => ?_)
      refine z_cV (As := [.int x1, .int v63]) (rest := [.int x2, .int x4, .ref (X.ad 73), .ref (X.ad q73)]) (w := q87) ok hq87_0 zc_10 (c_Works_needs hq87 h93) rfl ⟨ml_11_237, w_Works_needs⟩ hy_Works_needs ⟨rfl, rfl⟩ ⟨Nat.le_of_ble_eq_true rfl, Nat.le_of_ble_eq_true rfl⟩ ⟨Nat.zero_le _, Nat.zero_le _⟩ rfl (Nat.le_of_ble_eq_true rfl) dX11_loadAt_93 ?_
      refine z_iadd ok dX11_loadAt_96 ?_
      refine z_call hf (fun r97 h97 hf => ?_)
      refine z_cV (As := [.ref (X.ad 73), .int x4, .int (x2 + r93)]) (rest := []) (w := q73) ok hq73_0 zc_10 (c_Works_isOpen hq73 kI_Orders_73 h97) rfl ⟨ml_11_227, w_Works_isOpen⟩ hy_Works_isOpen ⟨rfl, rfl⟩ ⟨Nat.le_of_ble_eq_true rfl, Nat.le_of_ble_eq_true rfl⟩ ⟨Nat.zero_le _, Nat.zero_le _⟩ rfl (Nat.le_of_ble_eq_true rfl) dX11_loadAt_97 ?_
      refine z_if_eq (tgt := 116) ok dX11_loadAt_100 (by decide) hf (fun _ hf => ?_) (fun _ hf => ?_)
      · refine z_iinc (w := 1) (lv' := fun v116 => [(4, .int v116), (5, .int v63), (0, .ref (X.ad 0)), (1, .int x1), (2, .int x2), (3, .int x3)]) ok dX11_loadAt_116 5 rfl (by decide) (by decide) (fun _ => rfl) hf (fun v116 hf => ?_)
        refine z_goto (tgt := 42) ok dX11_loadAt_119 (by decide) ?_
        obtain rfl := Option.some.inj hf
        exact z_sub [2, 3, 4, 5, 0] rfl hk
      · refine z_iload_n ok dX11_loadAt_103 4 rfl ?_
        refine z_aload_n ok dX11_loadAt_104 1 rfl ?_
        refine z_getm2 (p := 3) (q := 29) ok kc_0 zc_11 hin_11 3 (by decide) fl_11_23 rfl (by decide) (by decide) dX11_loadAt_105 hf (fun q105 e105 hf => ?_)
        have hq105 : zI_Works q105 198 := by rcases e105 with rfl | rfl; exact kI_Works_3; exact kI_Works_29
        obtain ⟨hq105_0, hq105_1, hq105_2, hq105_3, hq105_4, hq105_5, hq105_6, hq105_7, hq105_8, hq105_9, hq105_10, hq105_11, hq105_12, hq105_13, hq105_14, hq105_15, hq105_16, hq105_17, hq105_18, hq105_19, hq105_20, hq105_21, hq105_22, hq105_23, hq105_24, hq105_25⟩ := id hq105
        refine z_getr (q := (q105 + 15)) ok hq105_0 zc_10 hin_10 10 (by decide) fl_11_224 rfl dX11_loadAt_108 ?_
        refine z_iload ok dX11_loadAt_111 5 rfl ?_
        refine z_iald ok hq105_15 dX11_loadAt_113 hf (fun v113 hf => ?_)
        refine z_iadd ok dX11_loadAt_114 ?_
        refine z_nm hf (fun v115 hf => ?_)
        refine z_istore_n (lv' := [(3, .int v115), (5, .int v63), (0, .ref (X.ad 0)), (1, .int x1), (2, .int x2), (4, .int x4)]) ok dX11_loadAt_115 (by decide) rfl ?_
        refine z_iinc (w := 1) (lv' := fun v116 => [(4, .int v116), (3, .int v115), (5, .int v63), (0, .ref (X.ad 0)), (1, .int x1), (2, .int x2)]) ok dX11_loadAt_116 5 rfl (by decide) (by decide) (fun _ => rfl) hf (fun v116 hf => ?_)
        refine z_goto (tgt := 42) ok dX11_loadAt_119 (by decide) ?_
        obtain rfl := Option.some.inj hf
        exact z_sub [3, 4, 5, 1, 0] rfl hk
def CK_loadAt_j39 (σ : Sg) (x1 : Int32) (x2 : Int32) (x3 : Int32) : Option Int32 :=
  zlt 0 fun v40 =>
  (zit (fun (s : (Int32 × Int32)) => CK_loadAt_l42 σ x1 x2 s.1 s.2) zFU (x3, v40)).bind fun r =>
  some r.1
set_option maxRecDepth 20000 in
theorem t_CK_loadAt_j39 {X : Zx} {Q : State → Prop} {σ : Sg} {x1 : Int32} {x2 : Int32} {x3 : Int32} (ok : Zok X cX11_loadAt RX11 rm_CK_loadAt 198 6)  {out : Int32} (hf : CK_loadAt_j39 σ x1 x2 x3 = some out) (hk : ZrI cX11_loadAt X Q out σ) : ZAt X Q 0 0 39 σ [(0, .ref (X.ad 0)), (1, .int x1), (2, .int x2), (3, .int x3)] [] := by
  unfold CK_loadAt_j39 at hf
  refine z_iconst (v := 0) ok dX11_loadAt_39 (by decide) ?_
  refine z_nm hf (fun v40 hf => ?_)
  refine z_istore (lv' := [(4, .int v40), (0, .ref (X.ad 0)), (1, .int x1), (2, .int x2), (3, .int x3)]) ok dX11_loadAt_40 (by decide) rfl ?_
  refine z_call hf (fun r hr hf => ?_)
  refine z_sub [1, 2, 3, 4, 0] rfl (z_iter (fun (s : (Int32 × Int32)) => σ) (fun (s : (Int32 × Int32)) => [(0, .ref (X.ad 0)), (1, .int x1), (2, .int x2), (3, .int s.1), (4, .int s.2)]) (fun s o h1 h2 => t_CK_loadAt_l42 ok h1 h2) _ _ _ hr ?_)
  show ZAt X Q 0 0 122 σ [(3, .int r.1)] []
  refine z_iload_n ok dX11_loadAt_122 0 rfl ?_
  obtain rfl := Option.some.inj hf
  exact hk _ _ dX11_loadAt_123
def CK_loadAt (σ : Sg) (x1 : Int32) (x2 : Int32) : Option Int32 :=
  zlt 0 fun v1 =>
  (zit (fun (s : (Int32 × Int32)) => CK_loadAt_l5 σ x1 x2 s.1 s.2) zFU (v1, x1)).bind fun r =>
  CK_loadAt_j39 σ x1 x2 r.1
set_option maxRecDepth 20000 in
theorem t_CK_loadAt {X : Zx} {Q : State → Prop} {σ : Sg} {x1 : Int32} {x2 : Int32} (ok : Zok X cX11_loadAt RX11 rm_CK_loadAt 198 6)  {out : Int32} (hf : CK_loadAt σ x1 x2 = some out) (hk : ZrI cX11_loadAt X Q out σ) : ZAt X Q 0 0 0 σ [(0, .ref (X.ad 0)), (1, .int x1), (2, .int x2)] [] := by
  unfold CK_loadAt at hf
  refine z_iconst (v := 0) ok dX11_loadAt_0 (by decide) ?_
  refine z_nm hf (fun v1 hf => ?_)
  refine z_istore_n (lv' := [(3, .int v1), (0, .ref (X.ad 0)), (1, .int x1), (2, .int x2)]) ok dX11_loadAt_1 (by decide) rfl ?_
  refine z_iload_n ok dX11_loadAt_2 2 rfl ?_
  refine z_istore (lv' := [(4, .int x1), (3, .int v1), (0, .ref (X.ad 0)), (1, .int x1), (2, .int x2)]) ok dX11_loadAt_3 (by decide) rfl ?_
  refine z_call hf (fun r hr hf => ?_)
  refine z_sub [2, 3, 4, 1, 0] rfl (z_iter (fun (s : (Int32 × Int32)) => σ) (fun (s : (Int32 × Int32)) => [(0, .ref (X.ad 0)), (1, .int x1), (2, .int x2), (3, .int s.1), (4, .int s.2)]) (fun s o h1 h2 => t_CK_loadAt_l5 ok h1 h2) _ _ _ hr ?_)
  show ZAt X Q 0 0 39 σ [(0, .ref (X.ad 0)), (1, .int x1), (2, .int x2), (3, .int r.1)] []
  exact z_sub [0, 1, 2, 3] rfl (t_CK_loadAt_j39 ok hf hk)
theorem c_CK_loadAt {σ : Sg} {x1 : Int32} {x2 : Int32} {r : Int32} (h : CK_loadAt σ x1 x2 = some r) : ZcI yX11_loadAt cX11_loadAt 6 .int rm_CK_loadAt 198 (fun ad => [.ref (ad 0), .int x1, .int x2]) σ r σ :=
  zmetI pn_11 rfl (fun _ => rfl) (fun _ => Nat.le_of_ble_eq_true rfl) rfl (fun X Q ok hk => t_CK_loadAt ok h hk)
theorem dX9_wishOf_0 : decode cX9_wishOf 0 = .ok (.aload_n 0, 1) := by decide +kernel
theorem dX9_wishOf_1 : decode cX9_wishOf 1 = .ok (.getfield 21, 3) := by decide +kernel
theorem dX9_wishOf_4 : decode cX9_wishOf 4 = .ok (.iload_n 2, 1) := by decide +kernel
theorem dX9_wishOf_5 : decode cX9_wishOf 5 = .ok (.iaload, 1) := by decide +kernel
theorem dX9_wishOf_6 : decode cX9_wishOf 6 = .ok (.iconst (-1), 1) := by decide +kernel
theorem dX9_wishOf_7 : decode cX9_wishOf 7 = .ok (.if_icmp .eq 10, 3) := by decide +kernel
theorem dX9_wishOf_10 : decode cX9_wishOf 10 = .ok (.aload_n 0, 1) := by decide +kernel
theorem dX9_wishOf_11 : decode cX9_wishOf 11 = .ok (.getfield 21, 3) := by decide +kernel
theorem dX9_wishOf_14 : decode cX9_wishOf 14 = .ok (.iload_n 2, 1) := by decide +kernel
theorem dX9_wishOf_15 : decode cX9_wishOf 15 = .ok (.iaload, 1) := by decide +kernel
theorem dX9_wishOf_16 : decode cX9_wishOf 16 = .ok (.ireturn, 1) := by decide +kernel
theorem dX9_wishOf_17 : decode cX9_wishOf 17 = .ok (.aload_n 1, 1) := by decide +kernel
theorem dX9_wishOf_18 : decode cX9_wishOf 18 = .ok (.getfield 77, 3) := by decide +kernel
theorem dX9_wishOf_21 : decode cX9_wishOf 21 = .ok (.iload_n 2, 1) := by decide +kernel
theorem dX9_wishOf_22 : decode cX9_wishOf 22 = .ok (.iaload, 1) := by decide +kernel
theorem dX9_wishOf_23 : decode cX9_wishOf 23 = .ok (.aload_n 0, 1) := by decide +kernel
theorem dX9_wishOf_24 : decode cX9_wishOf 24 = .ok (.getfield 9, 3) := by decide +kernel
theorem dX9_wishOf_27 : decode cX9_wishOf 27 = .ok (.iload_n 2, 1) := by decide +kernel
theorem dX9_wishOf_28 : decode cX9_wishOf 28 = .ok (.iaload, 1) := by decide +kernel
theorem dX9_wishOf_29 : decode cX9_wishOf 29 = .ok (.isub, 1) := by decide +kernel
theorem dX9_wishOf_30 : decode cX9_wishOf 30 = .ok (.istore 4, 2) := by decide +kernel
theorem dX9_wishOf_32 : decode cX9_wishOf 32 = .ok (.aload_n 0, 1) := by decide +kernel
theorem dX9_wishOf_33 : decode cX9_wishOf 33 = .ok (.getfield 50, 3) := by decide +kernel
theorem dX9_wishOf_36 : decode cX9_wishOf 36 = .ok (.ifCond .le 15, 3) := by decide +kernel
theorem dX9_wishOf_39 : decode cX9_wishOf 39 = .ok (.iload_n 3, 1) := by decide +kernel
theorem dX9_wishOf_40 : decode cX9_wishOf 40 = .ok (.iload 4, 2) := by decide +kernel
theorem dX9_wishOf_42 : decode cX9_wishOf 42 = .ok (.aload_n 0, 1) := by decide +kernel
theorem dX9_wishOf_43 : decode cX9_wishOf 43 = .ok (.getfield 50, 3) := by decide +kernel
theorem dX9_wishOf_46 : decode cX9_wishOf 46 = .ok (.idiv, 1) := by decide +kernel
theorem dX9_wishOf_47 : decode cX9_wishOf 47 = .ok (.iadd, 1) := by decide +kernel
theorem dX9_wishOf_48 : decode cX9_wishOf 48 = .ok (.goto 4, 3) := by decide +kernel
theorem dX9_wishOf_51 : decode cX9_wishOf 51 = .ok (.iload_n 3, 1) := by decide +kernel
theorem dX9_wishOf_52 : decode cX9_wishOf 52 = .ok (.ireturn, 1) := by decide +kernel
abbrev rm_Water_wishOf : Room := { frames := 0, cells := 0, slots := 0, locals := 0 }
def Water_wishOf (σ : Sg) (w : Nat) (p1 : Nat) (x2 : Int32) (x3 : Int32) : Option Int32 :=
  zrd σ (w + 4) 8 x2 fun v5 =>
  if v5 = (-1) then (
    zrd σ (p1 + 12) 8 x2 fun v22 =>
    zrd σ (w + 1) 8 x2 fun v28 =>
    zlt (v22 - v28) fun v30 =>
    zgt σ w 2 fun v33 =>
    if v33 ≤ 0 then (
      some x3
    ) else (
      zgt σ w 2 fun v43 =>
      znz v43 <|
      some (x3 + (v30 / v43))
    )
  ) else (
    zrd σ (w + 4) 8 x2 fun v15 =>
    some v15
  )
set_option maxRecDepth 20000 in
theorem t_Water_wishOf {X : Zx} {Q : State → Prop} {σ : Sg} {w : Nat} {p1 : Nat} {x2 : Int32} {x3 : Int32} (ok : Zok X cX9_wishOf RX9 rm_Water_wishOf 198 5) (hw : zI_Water w 198) (hp1 : zI_Works p1 198) {out : Int32} (hf : Water_wishOf σ w p1 x2 x3 = some out) (hk : ZrI cX9_wishOf X Q out σ) : ZAt X Q 0 0 0 σ [(0, .ref (X.ad w)), (1, .ref (X.ad p1)), (2, .int x2), (3, .int x3)] [] := by
  unfold Water_wishOf at hf
  obtain ⟨hw_0, hw_1, hw_2, hw_3, hw_4, hw_5, hw_6, hw_7, hw_8, hw_9, hw_10, hw_11, hw_12, hw_13, hw_14, hw_15, hw_16⟩ := id hw
  obtain ⟨hp1_0, hp1_1, hp1_2, hp1_3, hp1_4, hp1_5, hp1_6, hp1_7, hp1_8, hp1_9, hp1_10, hp1_11, hp1_12, hp1_13, hp1_14, hp1_15, hp1_16, hp1_17, hp1_18, hp1_19, hp1_20, hp1_21, hp1_22, hp1_23, hp1_24, hp1_25⟩ := id hp1
  refine z_aload_n ok dX9_wishOf_0 0 rfl ?_
  refine z_getr (q := (w + 4)) ok hw_0 zc_9 hin_9 6 (by decide) fl_9_21 rfl dX9_wishOf_1 ?_
  refine z_iload_n ok dX9_wishOf_4 2 rfl ?_
  refine z_iald ok hw_4 dX9_wishOf_5 hf (fun v5 hf => ?_)
  refine z_iconst (v := (-1)) ok dX9_wishOf_6 (by decide) ?_
  refine z_icmp_eq (tgt := 17) ok dX9_wishOf_7 (by decide) hf (fun _ hf => ?_) (fun _ hf => ?_)
  · refine z_aload_n ok dX9_wishOf_17 1 rfl ?_
    refine z_getr (q := (p1 + 12)) ok hp1_0 zc_10 hin_10 6 (by decide) fl_9_77 rfl dX9_wishOf_18 ?_
    refine z_iload_n ok dX9_wishOf_21 2 rfl ?_
    refine z_iald ok hp1_12 dX9_wishOf_22 hf (fun v22 hf => ?_)
    refine z_aload_n ok dX9_wishOf_23 0 rfl ?_
    refine z_getr (q := (w + 1)) ok hw_0 zc_9 hin_9 3 (by decide) fl_9_9 rfl dX9_wishOf_24 ?_
    refine z_iload_n ok dX9_wishOf_27 2 rfl ?_
    refine z_iald ok hw_1 dX9_wishOf_28 hf (fun v28 hf => ?_)
    refine z_isub ok dX9_wishOf_29 ?_
    refine z_nm hf (fun v30 hf => ?_)
    refine z_istore (lv' := [(4, .int v30), (0, .ref (X.ad w)), (1, .ref (X.ad p1)), (2, .int x2), (3, .int x3)]) ok dX9_wishOf_30 (by decide) rfl ?_
    refine z_aload_n ok dX9_wishOf_32 1 rfl ?_
    refine z_geti ok hw_0 zc_9 hin_9 2 (by decide) fl_9_50 rfl dX9_wishOf_33 hf (fun v33 hf => ?_)
    refine z_if_le (tgt := 51) ok dX9_wishOf_36 (by decide) hf (fun _ hf => ?_) (fun _ hf => ?_)
    · refine z_iload_n ok dX9_wishOf_51 4 rfl ?_
      obtain rfl := Option.some.inj hf
      exact hk _ _ dX9_wishOf_52
    · refine z_iload_n ok dX9_wishOf_39 4 rfl ?_
      refine z_iload ok dX9_wishOf_40 0 rfl ?_
      refine z_aload_n ok dX9_wishOf_42 1 rfl ?_
      refine z_geti ok hw_0 zc_9 hin_9 2 (by decide) fl_9_50 rfl dX9_wishOf_43 hf (fun v43 hf => ?_)
      refine z_idiv ok dX9_wishOf_46 hf (fun hf => ?_)
      refine z_iadd ok dX9_wishOf_47 ?_
      refine z_goto (tgt := 52) ok dX9_wishOf_48 (by decide) ?_
      obtain rfl := Option.some.inj hf
      exact hk _ _ dX9_wishOf_52
  · refine z_aload_n ok dX9_wishOf_10 0 rfl ?_
    refine z_getr (q := (w + 4)) ok hw_0 zc_9 hin_9 6 (by decide) fl_9_21 rfl dX9_wishOf_11 ?_
    refine z_iload_n ok dX9_wishOf_14 2 rfl ?_
    refine z_iald ok hw_4 dX9_wishOf_15 hf (fun v15 hf => ?_)
    obtain rfl := Option.some.inj hf
    exact hk _ _ dX9_wishOf_16
theorem c_Water_wishOf {σ : Sg} {w : Nat} {p1 : Nat} {x2 : Int32} {x3 : Int32} (hw : zI_Water w 198) (hp1 : zI_Works p1 198) {r : Int32} (h : Water_wishOf σ w p1 x2 x3 = some r) : ZcI yX9_wishOf cX9_wishOf 5 .int rm_Water_wishOf 198 (fun ad => [.ref (ad w), .ref (ad p1), .int x2, .int x3]) σ r σ :=
  zmetI pn_9 rfl (fun _ => rfl) (fun _ => Nat.le_of_ble_eq_true rfl) rfl (fun X Q ok hk => t_Water_wishOf ok hw hp1 h hk)
theorem dX10_heldIn_0 : decode cX10_heldIn 0 = .ok (.iconst 0, 1) := by decide +kernel
theorem dX10_heldIn_1 : decode cX10_heldIn 1 = .ok (.iload_n 2, 1) := by decide +kernel
theorem dX10_heldIn_2 : decode cX10_heldIn 2 = .ok (.aload_n 0, 1) := by decide +kernel
theorem dX10_heldIn_3 : decode cX10_heldIn 3 = .ok (.getfield 17, 3) := by decide +kernel
theorem dX10_heldIn_6 : decode cX10_heldIn 6 = .ok (.bipush 6, 2) := by decide +kernel
theorem dX10_heldIn_8 : decode cX10_heldIn 8 = .ok (.aaload, 1) := by decide +kernel
theorem dX10_heldIn_9 : decode cX10_heldIn 9 = .ok (.iload_n 1, 1) := by decide +kernel
theorem dX10_heldIn_10 : decode cX10_heldIn 10 = .ok (.iaload, 1) := by decide +kernel
theorem dX10_heldIn_11 : decode cX10_heldIn 11 = .ok (.invokestatic 66, 3) := by decide +kernel
theorem dX10_heldIn_14 : decode cX10_heldIn 14 = .ok (.invokestatic 72, 3) := by decide +kernel
theorem dX10_heldIn_17 : decode cX10_heldIn 17 = .ok (.ireturn, 1) := by decide +kernel
abbrev rm_Works_heldIn : Room := { frames := 1, cells := 0, slots := 0, locals := 21 }
def Works_heldIn (σ : Sg) (w : Nat) (x1 : Int32) (x2 : Int32) : Option Int32 :=
  zrd σ (w + 9) 8 x1 fun v10 =>
  some (if 0 < (if v10 < x2 then v10 else x2) then (if v10 < x2 then v10 else x2) else 0)
set_option maxRecDepth 20000 in
theorem t_Works_heldIn {X : Zx} {Q : State → Prop} {σ : Sg} {w : Nat} {x1 : Int32} {x2 : Int32} (ok : Zok X cX10_heldIn RX10 rm_Works_heldIn 198 3) (hw : zI_Works w 198) {out : Int32} (hf : Works_heldIn σ w x1 x2 = some out) (hk : ZrI cX10_heldIn X Q out σ) : ZAt X Q 0 0 0 σ [(0, .ref (X.ad w)), (1, .int x1), (2, .int x2)] [] := by
  unfold Works_heldIn at hf
  obtain ⟨hw_0, hw_1, hw_2, hw_3, hw_4, hw_5, hw_6, hw_7, hw_8, hw_9, hw_10, hw_11, hw_12, hw_13, hw_14, hw_15, hw_16, hw_17, hw_18, hw_19, hw_20, hw_21, hw_22, hw_23, hw_24, hw_25⟩ := id hw
  refine z_iconst (v := 0) ok dX10_heldIn_0 (by decide) ?_
  refine z_iload_n ok dX10_heldIn_1 2 rfl ?_
  refine z_aload_n ok dX10_heldIn_2 0 rfl ?_
  refine z_getr (q := (w + 2)) ok hw_0 zc_10 hin_10 5 (by decide) fl_10_17 rfl dX10_heldIn_3 ?_
  refine z_bipush (v := 6) ok dX10_heldIn_6 (by decide) ?_
  refine z_aaldc (q := (w + 9)) ok hw_2 (by decide) rfl (by decide) rfl dX10_heldIn_8 ?_
  refine z_iload_n ok dX10_heldIn_9 1 rfl ?_
  refine z_iald ok hw_9 dX10_heldIn_10 hf (fun v10 hf => ?_)
  refine z_mmin ok ml_10_66 (Nat.le_of_ble_eq_true rfl) (Nat.le_of_ble_eq_true rfl) ⟨Nat.zero_le _, Nat.zero_le _⟩ dX10_heldIn_11 ?_
  refine z_mmax ok ml_10_72 (Nat.le_of_ble_eq_true rfl) (Nat.le_of_ble_eq_true rfl) ⟨Nat.zero_le _, Nat.zero_le _⟩ dX10_heldIn_14 ?_
  obtain rfl := Option.some.inj hf
  exact hk _ _ dX10_heldIn_17
theorem c_Works_heldIn {σ : Sg} {w : Nat} {x1 : Int32} {x2 : Int32} (hw : zI_Works w 198) {r : Int32} (h : Works_heldIn σ w x1 x2 = some r) : ZcI yX10_heldIn cX10_heldIn 3 .int rm_Works_heldIn 198 (fun ad => [.ref (ad w), .int x1, .int x2]) σ r σ :=
  zmetI pn_10 rfl (fun _ => rfl) (fun _ => Nat.le_of_ble_eq_true rfl) rfl (fun X Q ok hk => t_Works_heldIn ok hw h hk)
theorem dX0_flowPlace_0 : decode cX0_flowPlace 0 = .ok (.iload_n 1, 1) := by decide +kernel
theorem dX0_flowPlace_1 : decode cX0_flowPlace 1 = .ok (.bipush 40, 2) := by decide +kernel
theorem dX0_flowPlace_3 : decode cX0_flowPlace 3 = .ok (.irem, 1) := by decide +kernel
theorem dX0_flowPlace_4 : decode cX0_flowPlace 4 = .ok (.bipush 8, 2) := by decide +kernel
theorem dX0_flowPlace_6 : decode cX0_flowPlace 6 = .ok (.imul, 1) := by decide +kernel
theorem dX0_flowPlace_7 : decode cX0_flowPlace 7 = .ok (.iload_n 0, 1) := by decide +kernel
theorem dX0_flowPlace_8 : decode cX0_flowPlace 8 = .ok (.iadd, 1) := by decide +kernel
theorem dX0_flowPlace_9 : decode cX0_flowPlace 9 = .ok (.iconst 4, 1) := by decide +kernel
theorem dX0_flowPlace_10 : decode cX0_flowPlace 10 = .ok (.imul, 1) := by decide +kernel
theorem dX0_flowPlace_11 : decode cX0_flowPlace 11 = .ok (.ireturn, 1) := by decide +kernel
abbrev rm_Log_flowPlace : Room := { frames := 0, cells := 0, slots := 0, locals := 0 }
def Log_flowPlace (x0 : Int32) (x1 : Int32) : Option Int32 :=
  some ((((x1 - x1 / 40 * 40) * 8) + x0) * 4)
set_option maxRecDepth 20000 in
theorem t_Log_flowPlace {X : Zx} {Q : State → Prop} {σ : Sg} {x0 : Int32} {x1 : Int32} (ok : Zok X cX0_flowPlace RX0 rm_Log_flowPlace 198 2)  {out : Int32} (hf : Log_flowPlace x0 x1 = some out) (hk : ZrI cX0_flowPlace X Q out σ) : ZAt X Q 0 0 0 σ [(0, .int x0), (1, .int x1)] [] := by
  unfold Log_flowPlace at hf
  refine z_iload_n ok dX0_flowPlace_0 1 rfl ?_
  refine z_bipush (v := 40) ok dX0_flowPlace_1 (by decide) ?_
  refine z_iremc ok dX0_flowPlace_3 (by decide) ?_
  refine z_bipush (v := 8) ok dX0_flowPlace_4 (by decide) ?_
  refine z_imul ok dX0_flowPlace_6 ?_
  refine z_iload_n ok dX0_flowPlace_7 0 rfl ?_
  refine z_iadd ok dX0_flowPlace_8 ?_
  refine z_iconst (v := 4) ok dX0_flowPlace_9 (by decide) ?_
  refine z_imul ok dX0_flowPlace_10 ?_
  obtain rfl := Option.some.inj hf
  exact hk _ _ dX0_flowPlace_11
theorem c_Log_flowPlace {σ : Sg} {x0 : Int32} {x1 : Int32} {r : Int32} (h : Log_flowPlace x0 x1 = some r) : ZcI yX0_flowPlace cX0_flowPlace 2 .int rm_Log_flowPlace 198 (fun ad => [.int x0, .int x1]) σ r σ :=
  zmetI pn_0 rfl (fun _ => rfl) (fun _ => Nat.le_of_ble_eq_true rfl) rfl (fun X Q ok hk => t_Log_flowPlace ok h hk)
theorem dX0_flowOf_0 : decode cX0_flowOf 0 = .ok (.aload_n 0, 1) := by decide +kernel
theorem dX0_flowOf_1 : decode cX0_flowOf 1 = .ok (.getfield 15, 3) := by decide +kernel
theorem dX0_flowOf_4 : decode cX0_flowOf 4 = .ok (.iload_n 1, 1) := by decide +kernel
theorem dX0_flowOf_5 : decode cX0_flowOf 5 = .ok (.iload_n 2, 1) := by decide +kernel
theorem dX0_flowOf_6 : decode cX0_flowOf 6 = .ok (.invokestatic 41, 3) := by decide +kernel
theorem dX0_flowOf_9 : decode cX0_flowOf 9 = .ok (.iload_n 3, 1) := by decide +kernel
theorem dX0_flowOf_10 : decode cX0_flowOf 10 = .ok (.iadd, 1) := by decide +kernel
theorem dX0_flowOf_11 : decode cX0_flowOf 11 = .ok (.iaload, 1) := by decide +kernel
theorem dX0_flowOf_12 : decode cX0_flowOf 12 = .ok (.ireturn, 1) := by decide +kernel
abbrev rm_Log_flowOf : Room := { frames := 1, cells := 0, slots := 0, locals := 21 }
def Log_flowOf (σ : Sg) (w : Nat) (x1 : Int32) (x2 : Int32) (x3 : Int32) : Option Int32 :=
  (Log_flowPlace x1 x2).bind fun r6 =>
  zrd σ (w + 2) 1280 (r6 + x3) fun v11 =>
  some v11
set_option maxRecDepth 20000 in
theorem t_Log_flowOf {X : Zx} {Q : State → Prop} {σ : Sg} {w : Nat} {x1 : Int32} {x2 : Int32} {x3 : Int32} (ok : Zok X cX0_flowOf RX0 rm_Log_flowOf 198 4) (hw : zI_Log w 198) {out : Int32} (hf : Log_flowOf σ w x1 x2 x3 = some out) (hk : ZrI cX0_flowOf X Q out σ) : ZAt X Q 0 0 0 σ [(0, .ref (X.ad w)), (1, .int x1), (2, .int x2), (3, .int x3)] [] := by
  unfold Log_flowOf at hf
  obtain ⟨hw_0, hw_1, hw_2⟩ := id hw
  refine z_aload_n ok dX0_flowOf_0 0 rfl ?_
  refine z_getr (q := (w + 2)) ok hw_0 zc_0 hin_0 2 (by decide) fl_0_15 rfl dX0_flowOf_1 ?_
  refine z_iload_n ok dX0_flowOf_4 1 rfl ?_
  refine z_iload_n ok dX0_flowOf_5 2 rfl ?_
  refine z_call hf (fun r6 h6 hf => ?_)
  refine z_cS (As := [.int x1, .int x2]) (rest := [.ref (X.ad (w + 2))]) ok (c_Log_flowPlace h6) rfl ⟨ml_0_41, w_Log_flowPlace⟩ hy_Log_flowPlace ⟨rfl, rfl⟩ ⟨Nat.le_of_ble_eq_true rfl, Nat.le_of_ble_eq_true rfl⟩ ⟨Nat.zero_le _, Nat.zero_le _⟩ rfl (Nat.le_of_ble_eq_true rfl) dX0_flowOf_6 ?_
  refine z_iload_n ok dX0_flowOf_9 3 rfl ?_
  refine z_iadd ok dX0_flowOf_10 ?_
  refine z_iald ok hw_2 dX0_flowOf_11 hf (fun v11 hf => ?_)
  obtain rfl := Option.some.inj hf
  exact hk _ _ dX0_flowOf_12
theorem c_Log_flowOf {σ : Sg} {w : Nat} {x1 : Int32} {x2 : Int32} {x3 : Int32} (hw : zI_Log w 198) {r : Int32} (h : Log_flowOf σ w x1 x2 x3 = some r) : ZcI yX0_flowOf cX0_flowOf 4 .int rm_Log_flowOf 198 (fun ad => [.ref (ad w), .int x1, .int x2, .int x3]) σ r σ :=
  zmetI pn_0 rfl (fun _ => rfl) (fun _ => Nat.le_of_ble_eq_true rfl) rfl (fun X Q ok hk => t_Log_flowOf ok hw h hk)
theorem dX11_gate_0 : decode cX11_gate 0 = .ok (.aload_n 0, 1) := by decide +kernel
theorem dX11_gate_1 : decode cX11_gate 1 = .ok (.iload_n 1, 1) := by decide +kernel
theorem dX11_gate_2 : decode cX11_gate 2 = .ok (.invokevirtual 154, 3) := by decide +kernel
theorem dX11_gate_5 : decode cX11_gate 5 = .ok (.ifCond .ne 5, 3) := by decide +kernel
theorem dX11_gate_8 : decode cX11_gate 8 = .ok (.iconst (-1), 1) := by decide +kernel
theorem dX11_gate_9 : decode cX11_gate 9 = .ok (.ireturn, 1) := by decide +kernel
theorem dX11_gate_10 : decode cX11_gate 10 = .ok (.iload_n 2, 1) := by decide +kernel
theorem dX11_gate_11 : decode cX11_gate 11 = .ok (.tableswitch 182 0 5 #[37, 52, 67, 82, 123, 138], 37) := by decide +kernel
theorem dX11_gate_48 : decode cX11_gate 48 = .ok (.aload_n 0, 1) := by decide +kernel
theorem dX11_gate_49 : decode cX11_gate 49 = .ok (.getfield 37, 3) := by decide +kernel
theorem dX11_gate_52 : decode cX11_gate 52 = .ok (.getfield 126, 3) := by decide +kernel
theorem dX11_gate_55 : decode cX11_gate 55 = .ok (.getfield 198, 3) := by decide +kernel
theorem dX11_gate_58 : decode cX11_gate 58 = .ok (.iload_n 1, 1) := by decide +kernel
theorem dX11_gate_59 : decode cX11_gate 59 = .ok (.iaload, 1) := by decide +kernel
theorem dX11_gate_60 : decode cX11_gate 60 = .ok (.goto 134, 3) := by decide +kernel
theorem dX11_gate_63 : decode cX11_gate 63 = .ok (.aload_n 0, 1) := by decide +kernel
theorem dX11_gate_64 : decode cX11_gate 64 = .ok (.getfield 23, 3) := by decide +kernel
theorem dX11_gate_67 : decode cX11_gate 67 = .ok (.getfield 182, 3) := by decide +kernel
theorem dX11_gate_70 : decode cX11_gate 70 = .ok (.bipush 6, 2) := by decide +kernel
theorem dX11_gate_72 : decode cX11_gate 72 = .ok (.aaload, 1) := by decide +kernel
theorem dX11_gate_73 : decode cX11_gate 73 = .ok (.iload_n 1, 1) := by decide +kernel
theorem dX11_gate_74 : decode cX11_gate 74 = .ok (.iaload, 1) := by decide +kernel
theorem dX11_gate_75 : decode cX11_gate 75 = .ok (.goto 119, 3) := by decide +kernel
theorem dX11_gate_78 : decode cX11_gate 78 = .ok (.aload_n 0, 1) := by decide +kernel
theorem dX11_gate_79 : decode cX11_gate 79 = .ok (.getfield 23, 3) := by decide +kernel
theorem dX11_gate_82 : decode cX11_gate 82 = .ok (.getfield 182, 3) := by decide +kernel
theorem dX11_gate_85 : decode cX11_gate 85 = .ok (.bipush 7, 2) := by decide +kernel
theorem dX11_gate_87 : decode cX11_gate 87 = .ok (.aaload, 1) := by decide +kernel
theorem dX11_gate_88 : decode cX11_gate 88 = .ok (.iload_n 1, 1) := by decide +kernel
theorem dX11_gate_89 : decode cX11_gate 89 = .ok (.iaload, 1) := by decide +kernel
theorem dX11_gate_90 : decode cX11_gate 90 = .ok (.goto 104, 3) := by decide +kernel
theorem dX11_gate_93 : decode cX11_gate 93 = .ok (.aload_n 0, 1) := by decide +kernel
theorem dX11_gate_94 : decode cX11_gate 94 = .ok (.getfield 23, 3) := by decide +kernel
theorem dX11_gate_97 : decode cX11_gate 97 = .ok (.iload_n 1, 1) := by decide +kernel
theorem dX11_gate_98 : decode cX11_gate 98 = .ok (.aload_n 0, 1) := by decide +kernel
theorem dX11_gate_99 : decode cX11_gate 99 = .ok (.getfield 37, 3) := by decide +kernel
theorem dX11_gate_102 : decode cX11_gate 102 = .ok (.getfield 126, 3) := by decide +kernel
theorem dX11_gate_105 : decode cX11_gate 105 = .ok (.aload_n 0, 1) := by decide +kernel
theorem dX11_gate_106 : decode cX11_gate 106 = .ok (.getfield 23, 3) := by decide +kernel
theorem dX11_gate_109 : decode cX11_gate 109 = .ok (.iload_n 1, 1) := by decide +kernel
theorem dX11_gate_110 : decode cX11_gate 110 = .ok (.aload_n 0, 1) := by decide +kernel
theorem dX11_gate_111 : decode cX11_gate 111 = .ok (.iload_n 1, 1) := by decide +kernel
theorem dX11_gate_112 : decode cX11_gate 112 = .ok (.aload_n 0, 1) := by decide +kernel
theorem dX11_gate_113 : decode cX11_gate 113 = .ok (.getfield 37, 3) := by decide +kernel
theorem dX11_gate_116 : decode cX11_gate 116 = .ok (.getfield 126, 3) := by decide +kernel
theorem dX11_gate_119 : decode cX11_gate 119 = .ok (.getfield 130, 3) := by decide +kernel
theorem dX11_gate_122 : decode cX11_gate 122 = .ok (.invokevirtual 201, 3) := by decide +kernel
theorem dX11_gate_125 : decode cX11_gate 125 = .ok (.invokevirtual 204, 3) := by decide +kernel
theorem dX11_gate_128 : decode cX11_gate 128 = .ok (.invokevirtual 208, 3) := by decide +kernel
theorem dX11_gate_131 : decode cX11_gate 131 = .ok (.goto 63, 3) := by decide +kernel
theorem dX11_gate_134 : decode cX11_gate 134 = .ok (.aload_n 0, 1) := by decide +kernel
theorem dX11_gate_135 : decode cX11_gate 135 = .ok (.getfield 37, 3) := by decide +kernel
theorem dX11_gate_138 : decode cX11_gate 138 = .ok (.getfield 126, 3) := by decide +kernel
theorem dX11_gate_141 : decode cX11_gate 141 = .ok (.getfield 211, 3) := by decide +kernel
theorem dX11_gate_144 : decode cX11_gate 144 = .ok (.iload_n 1, 1) := by decide +kernel
theorem dX11_gate_145 : decode cX11_gate 145 = .ok (.iaload, 1) := by decide +kernel
theorem dX11_gate_146 : decode cX11_gate 146 = .ok (.goto 48, 3) := by decide +kernel
theorem dX11_gate_149 : decode cX11_gate 149 = .ok (.aload_n 0, 1) := by decide +kernel
theorem dX11_gate_150 : decode cX11_gate 150 = .ok (.getfield 37, 3) := by decide +kernel
theorem dX11_gate_153 : decode cX11_gate 153 = .ok (.getfield 126, 3) := by decide +kernel
theorem dX11_gate_156 : decode cX11_gate 156 = .ok (.getfield 130, 3) := by decide +kernel
theorem dX11_gate_159 : decode cX11_gate 159 = .ok (.ifCond .le 30, 3) := by decide +kernel
theorem dX11_gate_162 : decode cX11_gate 162 = .ok (.aload_n 0, 1) := by decide +kernel
theorem dX11_gate_163 : decode cX11_gate 163 = .ok (.getfield 37, 3) := by decide +kernel
theorem dX11_gate_166 : decode cX11_gate 166 = .ok (.getfield 141, 3) := by decide +kernel
theorem dX11_gate_169 : decode cX11_gate 169 = .ok (.iload_n 1, 1) := by decide +kernel
theorem dX11_gate_170 : decode cX11_gate 170 = .ok (.aload_n 0, 1) := by decide +kernel
theorem dX11_gate_171 : decode cX11_gate 171 = .ok (.getfield 37, 3) := by decide +kernel
theorem dX11_gate_174 : decode cX11_gate 174 = .ok (.getfield 126, 3) := by decide +kernel
theorem dX11_gate_177 : decode cX11_gate 177 = .ok (.getfield 130, 3) := by decide +kernel
theorem dX11_gate_180 : decode cX11_gate 180 = .ok (.iconst 1, 1) := by decide +kernel
theorem dX11_gate_181 : decode cX11_gate 181 = .ok (.isub, 1) := by decide +kernel
theorem dX11_gate_182 : decode cX11_gate 182 = .ok (.iconst 3, 1) := by decide +kernel
theorem dX11_gate_183 : decode cX11_gate 183 = .ok (.invokevirtual 214, 3) := by decide +kernel
theorem dX11_gate_186 : decode cX11_gate 186 = .ok (.goto 8, 3) := by decide +kernel
theorem dX11_gate_189 : decode cX11_gate 189 = .ok (.iconst 0, 1) := by decide +kernel
theorem dX11_gate_190 : decode cX11_gate 190 = .ok (.goto 4, 3) := by decide +kernel
theorem dX11_gate_193 : decode cX11_gate 193 = .ok (.iconst (-1), 1) := by decide +kernel
theorem dX11_gate_194 : decode cX11_gate 194 = .ok (.ireturn, 1) := by decide +kernel
abbrev rm_CK_gate : Room := { frames := 3, cells := 0, slots := 0, locals := 71 }
def CK_gate (σ : Sg) (x1 : Int32) (x2 : Int32) : Option Int32 :=
  (CK_isPool σ x1).bind fun r2 =>
  if (zb r2) = 0 then (
    some (-1)
  ) else (
    if x2 = 0 then (
      zrd σ 58 8 x1 fun v59 =>
      some v59
    ) else (
    if x2 = 1 then (
      zmr2 3 29 (σ 0 3) fun q64 =>
      zrd σ (q64 + 9) 8 x1 fun v74 =>
      some v74
    ) else (
    if x2 = 2 then (
      zmr2 3 29 (σ 0 3) fun q79 =>
      zrd σ (q79 + 10) 8 x1 fun v89 =>
      some v89
    ) else (
    if x2 = 3 then (
      zmr2 3 29 (σ 0 3) fun q94 =>
      zmr2 3 29 (σ 0 3) fun q106 =>
      zgt σ 56 0 fun v119 =>
      (CK_loadAt σ x1 v119).bind fun r122 =>
      (Water_wishOf σ 56 q106 x1 r122).bind fun r125 =>
      (Works_heldIn σ q94 x1 r125).bind fun r128 =>
      some r128
    ) else (
    if x2 = 4 then (
      zrd σ 60 8 x1 fun v145 =>
      some v145
    ) else (
    if x2 = 5 then (
      zgt σ 56 0 fun v156 =>
      if v156 ≤ 0 then (
        some 0
      ) else (
        zgt σ 56 0 fun v177 =>
        (Log_flowOf σ 77 x1 (v177 - 1) 3).bind fun r183 =>
        some r183
      )
    ) else (
      some (-1)
    ))))))
  )
set_option maxRecDepth 20000 in
theorem t_CK_gate {X : Zx} {Q : State → Prop} {σ : Sg} {x1 : Int32} {x2 : Int32} (ok : Zok X cX11_gate RX11 rm_CK_gate 198 3)  {out : Int32} (hf : CK_gate σ x1 x2 = some out) (hk : ZrI cX11_gate X Q out σ) : ZAt X Q 0 0 0 σ [(0, .ref (X.ad 0)), (1, .int x1), (2, .int x2)] [] := by
  unfold CK_gate at hf
  refine z_aload_n ok dX11_gate_0 0 rfl ?_
  refine z_iload_n ok dX11_gate_1 1 rfl ?_
  refine z_call hf (fun r2 h2 hf => ?_)
  refine z_cV (As := [.int x1]) (rest := []) (w := 0) ok kc_0 zc_11 (c_CK_isPool h2) rfl ⟨ml_11_154, w_CK_isPool⟩ hy_CK_isPool ⟨rfl, rfl⟩ ⟨Nat.le_of_ble_eq_true rfl, Nat.le_of_ble_eq_true rfl⟩ ⟨Nat.zero_le _, Nat.zero_le _⟩ rfl (Nat.le_of_ble_eq_true rfl) dX11_gate_2 ?_
  refine z_if_ne (tgt := 10) ok dX11_gate_5 (by decide) hf (fun _ hf => ?_) (fun _ hf => ?_)
  · refine z_iconst (v := (-1)) ok dX11_gate_8 (by decide) ?_
    obtain rfl := Option.some.inj hf
    exact hk _ _ dX11_gate_9
  · refine z_iload_n ok dX11_gate_10 2 rfl ?_
    refine z_swc (v := 0) hf (fun hf => ?_) (fun n11_0 hf => ?_)
    · refine z_tableIn (tgt := 48) ok dX11_gate_11 (by decide) (by decide) rfl (by decide) ?_
      refine z_aload_n ok dX11_gate_48 0 rfl ?_
      refine z_getr (q := 55) ok kc_0 zc_11 hin_11 8 (by decide) fl_11_37 rfl dX11_gate_49 ?_
      refine z_getr (q := 56) ok kc_55 zc_1 hin_1 0 (by decide) fl_11_126 rfl dX11_gate_52 ?_
      refine z_getr (q := 58) ok kc_56 zc_9 hin_9 4 (by decide) fl_11_198 rfl dX11_gate_55 ?_
      refine z_iload_n ok dX11_gate_58 1 rfl ?_
      refine z_iald ok kc_58 dX11_gate_59 hf (fun v59 hf => ?_)
      refine z_goto (tgt := 194) ok dX11_gate_60 (by decide) ?_
      obtain rfl := Option.some.inj hf
      exact hk _ _ dX11_gate_194
    refine z_swc (v := 1) hf (fun hf => ?_) (fun n11_1 hf => ?_)
    · refine z_tableIn (tgt := 63) ok dX11_gate_11 (by decide) (by decide) rfl (by decide) ?_
      refine z_aload_n ok dX11_gate_63 0 rfl ?_
      refine z_getm2 (p := 3) (q := 29) ok kc_0 zc_11 hin_11 3 (by decide) fl_11_23 rfl (by decide) (by decide) dX11_gate_64 hf (fun q64 e64 hf => ?_)
      have hq64 : zI_Works q64 198 := by rcases e64 with rfl | rfl; exact kI_Works_3; exact kI_Works_29
      obtain ⟨hq64_0, hq64_1, hq64_2, hq64_3, hq64_4, hq64_5, hq64_6, hq64_7, hq64_8, hq64_9, hq64_10, hq64_11, hq64_12, hq64_13, hq64_14, hq64_15, hq64_16, hq64_17, hq64_18, hq64_19, hq64_20, hq64_21, hq64_22, hq64_23, hq64_24, hq64_25⟩ := id hq64
      refine z_getr (q := (q64 + 2)) ok hq64_0 zc_10 hin_10 5 (by decide) fl_11_182 rfl dX11_gate_67 ?_
      refine z_bipush (v := 6) ok dX11_gate_70 (by decide) ?_
      refine z_aaldc (q := (q64 + 9)) ok hq64_2 (by decide) rfl (by decide) rfl dX11_gate_72 ?_
      refine z_iload_n ok dX11_gate_73 1 rfl ?_
      refine z_iald ok hq64_9 dX11_gate_74 hf (fun v74 hf => ?_)
      refine z_goto (tgt := 194) ok dX11_gate_75 (by decide) ?_
      obtain rfl := Option.some.inj hf
      exact hk _ _ dX11_gate_194
    refine z_swc (v := 2) hf (fun hf => ?_) (fun n11_2 hf => ?_)
    · refine z_tableIn (tgt := 78) ok dX11_gate_11 (by decide) (by decide) rfl (by decide) ?_
      refine z_aload_n ok dX11_gate_78 0 rfl ?_
      refine z_getm2 (p := 3) (q := 29) ok kc_0 zc_11 hin_11 3 (by decide) fl_11_23 rfl (by decide) (by decide) dX11_gate_79 hf (fun q79 e79 hf => ?_)
      have hq79 : zI_Works q79 198 := by rcases e79 with rfl | rfl; exact kI_Works_3; exact kI_Works_29
      obtain ⟨hq79_0, hq79_1, hq79_2, hq79_3, hq79_4, hq79_5, hq79_6, hq79_7, hq79_8, hq79_9, hq79_10, hq79_11, hq79_12, hq79_13, hq79_14, hq79_15, hq79_16, hq79_17, hq79_18, hq79_19, hq79_20, hq79_21, hq79_22, hq79_23, hq79_24, hq79_25⟩ := id hq79
      refine z_getr (q := (q79 + 2)) ok hq79_0 zc_10 hin_10 5 (by decide) fl_11_182 rfl dX11_gate_82 ?_
      refine z_bipush (v := 7) ok dX11_gate_85 (by decide) ?_
      refine z_aaldc (q := (q79 + 10)) ok hq79_2 (by decide) rfl (by decide) rfl dX11_gate_87 ?_
      refine z_iload_n ok dX11_gate_88 1 rfl ?_
      refine z_iald ok hq79_10 dX11_gate_89 hf (fun v89 hf => ?_)
      refine z_goto (tgt := 194) ok dX11_gate_90 (by decide) ?_
      obtain rfl := Option.some.inj hf
      exact hk _ _ dX11_gate_194
    refine z_swc (v := 3) hf (fun hf => ?_) (fun n11_3 hf => ?_)
    · refine z_tableIn (tgt := 93) ok dX11_gate_11 (by decide) (by decide) rfl (by decide) ?_
      refine z_aload_n ok dX11_gate_93 0 rfl ?_
      refine z_getm2 (p := 3) (q := 29) ok kc_0 zc_11 hin_11 3 (by decide) fl_11_23 rfl (by decide) (by decide) dX11_gate_94 hf (fun q94 e94 hf => ?_)
      have hq94 : zI_Works q94 198 := by rcases e94 with rfl | rfl; exact kI_Works_3; exact kI_Works_29
      obtain ⟨hq94_0, hq94_1, hq94_2, hq94_3, hq94_4, hq94_5, hq94_6, hq94_7, hq94_8, hq94_9, hq94_10, hq94_11, hq94_12, hq94_13, hq94_14, hq94_15, hq94_16, hq94_17, hq94_18, hq94_19, hq94_20, hq94_21, hq94_22, hq94_23, hq94_24, hq94_25⟩ := id hq94
      refine z_iload_n ok dX11_gate_97 1 rfl ?_
      refine z_aload_n ok dX11_gate_98 0 rfl ?_
      refine z_getr (q := 55) ok kc_0 zc_11 hin_11 8 (by decide) fl_11_37 rfl dX11_gate_99 ?_
      refine z_getr (q := 56) ok kc_55 zc_1 hin_1 0 (by decide) fl_11_126 rfl dX11_gate_102 ?_
      refine z_aload_n ok dX11_gate_105 0 rfl ?_
      refine z_getm2 (p := 3) (q := 29) ok kc_0 zc_11 hin_11 3 (by decide) fl_11_23 rfl (by decide) (by decide) dX11_gate_106 hf (fun q106 e106 hf => ?_)
      have hq106 : zI_Works q106 198 := by rcases e106 with rfl | rfl; exact kI_Works_3; exact kI_Works_29
      obtain ⟨hq106_0, hq106_1, hq106_2, hq106_3, hq106_4, hq106_5, hq106_6, hq106_7, hq106_8, hq106_9, hq106_10, hq106_11, hq106_12, hq106_13, hq106_14, hq106_15, hq106_16, hq106_17, hq106_18, hq106_19, hq106_20, hq106_21, hq106_22, hq106_23, hq106_24, hq106_25⟩ := id hq106
      refine z_iload_n ok dX11_gate_109 1 rfl ?_
      refine z_aload_n ok dX11_gate_110 0 rfl ?_
      refine z_iload_n ok dX11_gate_111 1 rfl ?_
      refine z_aload_n ok dX11_gate_112 0 rfl ?_
      refine z_getr (q := 55) ok kc_0 zc_11 hin_11 8 (by decide) fl_11_37 rfl dX11_gate_113 ?_
      refine z_getr (q := 56) ok kc_55 zc_1 hin_1 0 (by decide) fl_11_126 rfl dX11_gate_116 ?_
      refine z_geti ok kc_56 zc_9 hin_9 0 (by decide) fl_11_130 rfl dX11_gate_119 hf (fun v119 hf => ?_)
      refine z_call hf (fun r122 h122 hf => ?_)
      refine z_cV (As := [.int x1, .int v119]) (rest := [.int x1, .ref (X.ad q106), .ref (X.ad 56), .int x1, .ref (X.ad q94)]) (w := 0) ok kc_0 zc_11 (c_CK_loadAt h122) rfl ⟨ml_11_201, w_CK_loadAt⟩ hy_CK_loadAt ⟨rfl, rfl⟩ ⟨Nat.le_of_ble_eq_true rfl, Nat.le_of_ble_eq_true rfl⟩ ⟨Nat.zero_le _, Nat.zero_le _⟩ rfl (Nat.le_of_ble_eq_true rfl) dX11_gate_122 ?_
      refine z_call hf (fun r125 h125 hf => ?_)
      refine z_cV (As := [.ref (X.ad q106), .int x1, .int r122]) (rest := [.int x1, .ref (X.ad q94)]) (w := 56) ok kc_56 zc_9 (c_Water_wishOf kI_Water_56 hq106 h125) rfl ⟨ml_11_204, w_Water_wishOf⟩ hy_Water_wishOf ⟨rfl, rfl⟩ ⟨Nat.le_of_ble_eq_true rfl, Nat.le_of_ble_eq_true rfl⟩ ⟨Nat.zero_le _, Nat.zero_le _⟩ rfl (Nat.le_of_ble_eq_true rfl) dX11_gate_125 ?_
      refine z_call hf (fun r128 h128 hf => ?_)
      refine z_cV (As := [.int x1, .int r125]) (rest := []) (w := q94) ok hq94_0 zc_10 (c_Works_heldIn hq94 h128) rfl ⟨ml_11_208, w_Works_heldIn⟩ hy_Works_heldIn ⟨rfl, rfl⟩ ⟨Nat.le_of_ble_eq_true rfl, Nat.le_of_ble_eq_true rfl⟩ ⟨Nat.zero_le _, Nat.zero_le _⟩ rfl (Nat.le_of_ble_eq_true rfl) dX11_gate_128 ?_
      refine z_goto (tgt := 194) ok dX11_gate_131 (by decide) ?_
      obtain rfl := Option.some.inj hf
      exact hk _ _ dX11_gate_194
    refine z_swc (v := 4) hf (fun hf => ?_) (fun n11_4 hf => ?_)
    · refine z_tableIn (tgt := 134) ok dX11_gate_11 (by decide) (by decide) rfl (by decide) ?_
      refine z_aload_n ok dX11_gate_134 0 rfl ?_
      refine z_getr (q := 55) ok kc_0 zc_11 hin_11 8 (by decide) fl_11_37 rfl dX11_gate_135 ?_
      refine z_getr (q := 56) ok kc_55 zc_1 hin_1 0 (by decide) fl_11_126 rfl dX11_gate_138 ?_
      refine z_getr (q := 60) ok kc_56 zc_9 hin_9 6 (by decide) fl_11_211 rfl dX11_gate_141 ?_
      refine z_iload_n ok dX11_gate_144 1 rfl ?_
      refine z_iald ok kc_60 dX11_gate_145 hf (fun v145 hf => ?_)
      refine z_goto (tgt := 194) ok dX11_gate_146 (by decide) ?_
      obtain rfl := Option.some.inj hf
      exact hk _ _ dX11_gate_194
    refine z_swc (v := 5) hf (fun hf => ?_) (fun n11_5 hf => ?_)
    · refine z_tableIn (tgt := 149) ok dX11_gate_11 (by decide) (by decide) rfl (by decide) ?_
      refine z_aload_n ok dX11_gate_149 0 rfl ?_
      refine z_getr (q := 55) ok kc_0 zc_11 hin_11 8 (by decide) fl_11_37 rfl dX11_gate_150 ?_
      refine z_getr (q := 56) ok kc_55 zc_1 hin_1 0 (by decide) fl_11_126 rfl dX11_gate_153 ?_
      refine z_geti ok kc_56 zc_9 hin_9 0 (by decide) fl_11_130 rfl dX11_gate_156 hf (fun v156 hf => ?_)
      refine z_if_le (tgt := 189) ok dX11_gate_159 (by decide) hf (fun _ hf => ?_) (fun _ hf => ?_)
      · refine z_iconst (v := 0) ok dX11_gate_189 (by decide) ?_
        refine z_goto (tgt := 194) ok dX11_gate_190 (by decide) ?_
        obtain rfl := Option.some.inj hf
        exact hk _ _ dX11_gate_194
      · refine z_aload_n ok dX11_gate_162 0 rfl ?_
        refine z_getr (q := 55) ok kc_0 zc_11 hin_11 8 (by decide) fl_11_37 rfl dX11_gate_163 ?_
        refine z_getr (q := 77) ok kc_55 zc_1 hin_1 2 (by decide) fl_11_141 rfl dX11_gate_166 ?_
        refine z_iload_n ok dX11_gate_169 1 rfl ?_
        refine z_aload_n ok dX11_gate_170 0 rfl ?_
        refine z_getr (q := 55) ok kc_0 zc_11 hin_11 8 (by decide) fl_11_37 rfl dX11_gate_171 ?_
        refine z_getr (q := 56) ok kc_55 zc_1 hin_1 0 (by decide) fl_11_126 rfl dX11_gate_174 ?_
        refine z_geti ok kc_56 zc_9 hin_9 0 (by decide) fl_11_130 rfl dX11_gate_177 hf (fun v177 hf => ?_)
        refine z_iconst (v := 1) ok dX11_gate_180 (by decide) ?_
        refine z_isub ok dX11_gate_181 ?_
        refine z_iconst (v := 3) ok dX11_gate_182 (by decide) ?_
        refine z_call hf (fun r183 h183 hf => ?_)
        refine z_cV (As := [.int x1, .int (v177 - 1), .int 3]) (rest := []) (w := 77) ok kc_77 zc_0 (c_Log_flowOf kI_Log_77 h183) rfl ⟨ml_11_214, w_Log_flowOf⟩ hy_Log_flowOf ⟨rfl, rfl⟩ ⟨Nat.le_of_ble_eq_true rfl, Nat.le_of_ble_eq_true rfl⟩ ⟨Nat.zero_le _, Nat.zero_le _⟩ rfl (Nat.le_of_ble_eq_true rfl) dX11_gate_183 ?_
        refine z_goto (tgt := 194) ok dX11_gate_186 (by decide) ?_
        obtain rfl := Option.some.inj hf
        exact hk _ _ dX11_gate_194
    refine z_tableOut (tgt := 193) ok dX11_gate_11 (zsw_out 0 5 [0, 1, 2, 3, 4, 5] (by decide) (List.forall_mem_cons.mpr ⟨n11_0, (List.forall_mem_cons.mpr ⟨n11_1, (List.forall_mem_cons.mpr ⟨n11_2, (List.forall_mem_cons.mpr ⟨n11_3, (List.forall_mem_cons.mpr ⟨n11_4, (List.forall_mem_cons.mpr ⟨n11_5, (fun _ h => absurd h List.not_mem_nil)⟩)⟩)⟩)⟩)⟩)⟩)) (by decide) ?_
    refine z_iconst (v := (-1)) ok dX11_gate_193 (by decide) ?_
    obtain rfl := Option.some.inj hf
    exact hk _ _ dX11_gate_194
theorem c_CK_gate {σ : Sg} {x1 : Int32} {x2 : Int32} {r : Int32} (h : CK_gate σ x1 x2 = some r) : ZcI yX11_gate cX11_gate 3 .int rm_CK_gate 198 (fun ad => [.ref (ad 0), .int x1, .int x2]) σ r σ :=
  zmetI pn_11 rfl (fun _ => rfl) (fun _ => Nat.le_of_ble_eq_true rfl) rfl (fun X Q ok hk => t_CK_gate ok h hk)
theorem dX9_arrivesIn_0 : decode cX9_arrivesIn 0 = .ok (.aload_n 1, 1) := by decide +kernel
theorem dX9_arrivesIn_1 : decode cX9_arrivesIn 1 = .ok (.getfield 63, 3) := by decide +kernel
theorem dX9_arrivesIn_4 : decode cX9_arrivesIn 4 = .ok (.iconst 4, 1) := by decide +kernel
theorem dX9_arrivesIn_5 : decode cX9_arrivesIn 5 = .ok (.aaload, 1) := by decide +kernel
theorem dX9_arrivesIn_6 : decode cX9_arrivesIn 6 = .ok (.iload_n 2, 1) := by decide +kernel
theorem dX9_arrivesIn_7 : decode cX9_arrivesIn 7 = .ok (.iaload, 1) := by decide +kernel
theorem dX9_arrivesIn_8 : decode cX9_arrivesIn 8 = .ok (.istore 4, 2) := by decide +kernel
theorem dX9_arrivesIn_10 : decode cX9_arrivesIn 10 = .ok (.iload 4, 2) := by decide +kernel
theorem dX9_arrivesIn_12 : decode cX9_arrivesIn 12 = .ok (.ifCond .le 25, 3) := by decide +kernel
theorem dX9_arrivesIn_15 : decode cX9_arrivesIn 15 = .ok (.aload_n 0, 1) := by decide +kernel
theorem dX9_arrivesIn_16 : decode cX9_arrivesIn 16 = .ok (.getfield 24, 3) := by decide +kernel
theorem dX9_arrivesIn_19 : decode cX9_arrivesIn 19 = .ok (.iload_n 2, 1) := by decide +kernel
theorem dX9_arrivesIn_20 : decode cX9_arrivesIn 20 = .ok (.bipush 9, 2) := by decide +kernel
theorem dX9_arrivesIn_22 : decode cX9_arrivesIn 22 = .ok (.imul, 1) := by decide +kernel
theorem dX9_arrivesIn_23 : decode cX9_arrivesIn 23 = .ok (.aload_n 0, 1) := by decide +kernel
theorem dX9_arrivesIn_24 : decode cX9_arrivesIn 24 = .ok (.getfield 43, 3) := by decide +kernel
theorem dX9_arrivesIn_27 : decode cX9_arrivesIn 27 = .ok (.iload_n 3, 1) := by decide +kernel
theorem dX9_arrivesIn_28 : decode cX9_arrivesIn 28 = .ok (.iadd, 1) := by decide +kernel
theorem dX9_arrivesIn_29 : decode cX9_arrivesIn 29 = .ok (.iload 4, 2) := by decide +kernel
theorem dX9_arrivesIn_31 : decode cX9_arrivesIn 31 = .ok (.irem, 1) := by decide +kernel
theorem dX9_arrivesIn_32 : decode cX9_arrivesIn 32 = .ok (.iadd, 1) := by decide +kernel
theorem dX9_arrivesIn_33 : decode cX9_arrivesIn 33 = .ok (.iaload, 1) := by decide +kernel
theorem dX9_arrivesIn_34 : decode cX9_arrivesIn 34 = .ok (.goto 4, 3) := by decide +kernel
theorem dX9_arrivesIn_37 : decode cX9_arrivesIn 37 = .ok (.iconst 0, 1) := by decide +kernel
theorem dX9_arrivesIn_38 : decode cX9_arrivesIn 38 = .ok (.ireturn, 1) := by decide +kernel
abbrev rm_Water_arrivesIn : Room := { frames := 0, cells := 0, slots := 0, locals := 0 }
def Water_arrivesIn (σ : Sg) (w : Nat) (p1 : Nat) (x2 : Int32) (x3 : Int32) : Option Int32 :=
  zrd σ (p1 + 7) 8 x2 fun v7 =>
  if v7 ≤ 0 then (
    some 0
  ) else (
    zgt σ w 0 fun v24 =>
    znz v7 <|
    zrd σ (w + 5) 72 ((x2 * 9) + ((v24 + x3) - (v24 + x3) / v7 * v7)) fun v33 =>
    some v33
  )
set_option maxRecDepth 20000 in
theorem t_Water_arrivesIn {X : Zx} {Q : State → Prop} {σ : Sg} {w : Nat} {p1 : Nat} {x2 : Int32} {x3 : Int32} (ok : Zok X cX9_arrivesIn RX9 rm_Water_arrivesIn 198 5) (hw : zI_Water w 198) (hp1 : zI_Works p1 198) {out : Int32} (hf : Water_arrivesIn σ w p1 x2 x3 = some out) (hk : ZrI cX9_arrivesIn X Q out σ) : ZAt X Q 0 0 0 σ [(0, .ref (X.ad w)), (1, .ref (X.ad p1)), (2, .int x2), (3, .int x3)] [] := by
  unfold Water_arrivesIn at hf
  obtain ⟨hw_0, hw_1, hw_2, hw_3, hw_4, hw_5, hw_6, hw_7, hw_8, hw_9, hw_10, hw_11, hw_12, hw_13, hw_14, hw_15, hw_16⟩ := id hw
  obtain ⟨hp1_0, hp1_1, hp1_2, hp1_3, hp1_4, hp1_5, hp1_6, hp1_7, hp1_8, hp1_9, hp1_10, hp1_11, hp1_12, hp1_13, hp1_14, hp1_15, hp1_16, hp1_17, hp1_18, hp1_19, hp1_20, hp1_21, hp1_22, hp1_23, hp1_24, hp1_25⟩ := id hp1
  refine z_aload_n ok dX9_arrivesIn_0 1 rfl ?_
  refine z_getr (q := (p1 + 2)) ok hp1_0 zc_10 hin_10 5 (by decide) fl_9_63 rfl dX9_arrivesIn_1 ?_
  refine z_iconst (v := 4) ok dX9_arrivesIn_4 (by decide) ?_
  refine z_aaldc (q := (p1 + 7)) ok hp1_2 (by decide) rfl (by decide) rfl dX9_arrivesIn_5 ?_
  refine z_iload_n ok dX9_arrivesIn_6 2 rfl ?_
  refine z_iald ok hp1_7 dX9_arrivesIn_7 hf (fun v7 hf => ?_)
  refine z_istore (lv' := [(4, .int v7), (0, .ref (X.ad w)), (1, .ref (X.ad p1)), (2, .int x2), (3, .int x3)]) ok dX9_arrivesIn_8 (by decide) rfl ?_
  refine z_iload ok dX9_arrivesIn_10 0 rfl ?_
  refine z_if_le (tgt := 37) ok dX9_arrivesIn_12 (by decide) hf (fun _ hf => ?_) (fun _ hf => ?_)
  · refine z_iconst (v := 0) ok dX9_arrivesIn_37 (by decide) ?_
    obtain rfl := Option.some.inj hf
    exact hk _ _ dX9_arrivesIn_38
  · refine z_aload_n ok dX9_arrivesIn_15 1 rfl ?_
    refine z_getr (q := (w + 5)) ok hw_0 zc_9 hin_9 7 (by decide) fl_9_24 rfl dX9_arrivesIn_16 ?_
    refine z_iload_n ok dX9_arrivesIn_19 3 rfl ?_
    refine z_bipush (v := 9) ok dX9_arrivesIn_20 (by decide) ?_
    refine z_imul ok dX9_arrivesIn_22 ?_
    refine z_aload_n ok dX9_arrivesIn_23 1 rfl ?_
    refine z_geti ok hw_0 zc_9 hin_9 0 (by decide) fl_9_43 rfl dX9_arrivesIn_24 hf (fun v24 hf => ?_)
    refine z_iload_n ok dX9_arrivesIn_27 4 rfl ?_
    refine z_iadd ok dX9_arrivesIn_28 ?_
    refine z_iload ok dX9_arrivesIn_29 0 rfl ?_
    refine z_irem ok dX9_arrivesIn_31 hf (fun hf => ?_)
    refine z_iadd ok dX9_arrivesIn_32 ?_
    refine z_iald ok hw_5 dX9_arrivesIn_33 hf (fun v33 hf => ?_)
    refine z_goto (tgt := 38) ok dX9_arrivesIn_34 (by decide) ?_
    obtain rfl := Option.some.inj hf
    exact hk _ _ dX9_arrivesIn_38
theorem c_Water_arrivesIn {σ : Sg} {w : Nat} {p1 : Nat} {x2 : Int32} {x3 : Int32} (hw : zI_Water w 198) (hp1 : zI_Works p1 198) {r : Int32} (h : Water_arrivesIn σ w p1 x2 x3 = some r) : ZcI yX9_arrivesIn cX9_arrivesIn 5 .int rm_Water_arrivesIn 198 (fun ad => [.ref (ad w), .ref (ad p1), .int x2, .int x3]) σ r σ :=
  zmetI pn_9 rfl (fun _ => rfl) (fun _ => Nat.le_of_ble_eq_true rfl) rfl (fun X Q ok hk => t_Water_arrivesIn ok hw hp1 h hk)
theorem dX11_row_0 : decode cX11_row 0 = .ok (.aload_n 0, 1) := by decide +kernel
theorem dX11_row_1 : decode cX11_row 1 = .ok (.iload_n 1, 1) := by decide +kernel
theorem dX11_row_2 : decode cX11_row 2 = .ok (.invokevirtual 154, 3) := by decide +kernel
theorem dX11_row_5 : decode cX11_row 5 = .ok (.ifCond .eq 22, 3) := by decide +kernel
theorem dX11_row_8 : decode cX11_row 8 = .ok (.iload_n 2, 1) := by decide +kernel
theorem dX11_row_9 : decode cX11_row 9 = .ok (.ifCond .lt 18, 3) := by decide +kernel
theorem dX11_row_12 : decode cX11_row 12 = .ok (.iload_n 2, 1) := by decide +kernel
theorem dX11_row_13 : decode cX11_row 13 = .ok (.aload_n 0, 1) := by decide +kernel
theorem dX11_row_14 : decode cX11_row 14 = .ok (.getfield 23, 3) := by decide +kernel
theorem dX11_row_17 : decode cX11_row 17 = .ok (.getfield 182, 3) := by decide +kernel
theorem dX11_row_20 : decode cX11_row 20 = .ok (.iconst 4, 1) := by decide +kernel
theorem dX11_row_21 : decode cX11_row 21 = .ok (.aaload, 1) := by decide +kernel
theorem dX11_row_22 : decode cX11_row 22 = .ok (.iload_n 1, 1) := by decide +kernel
theorem dX11_row_23 : decode cX11_row 23 = .ok (.iaload, 1) := by decide +kernel
theorem dX11_row_24 : decode cX11_row 24 = .ok (.if_icmp .lt 5, 3) := by decide +kernel
theorem dX11_row_27 : decode cX11_row 27 = .ok (.iconst (-1), 1) := by decide +kernel
theorem dX11_row_28 : decode cX11_row 28 = .ok (.ireturn, 1) := by decide +kernel
theorem dX11_row_29 : decode cX11_row 29 = .ok (.aload_n 0, 1) := by decide +kernel
theorem dX11_row_30 : decode cX11_row 30 = .ok (.getfield 37, 3) := by decide +kernel
theorem dX11_row_33 : decode cX11_row 33 = .ok (.getfield 126, 3) := by decide +kernel
theorem dX11_row_36 : decode cX11_row 36 = .ok (.aload_n 0, 1) := by decide +kernel
theorem dX11_row_37 : decode cX11_row 37 = .ok (.getfield 23, 3) := by decide +kernel
theorem dX11_row_40 : decode cX11_row 40 = .ok (.iload_n 1, 1) := by decide +kernel
theorem dX11_row_41 : decode cX11_row 41 = .ok (.iload_n 2, 1) := by decide +kernel
theorem dX11_row_42 : decode cX11_row 42 = .ok (.invokevirtual 218, 3) := by decide +kernel
theorem dX11_row_45 : decode cX11_row 45 = .ok (.ireturn, 1) := by decide +kernel
abbrev rm_CK_row : Room := { frames := 1, cells := 0, slots := 0, locals := 24 }
def CK_row (σ : Sg) (x1 : Int32) (x2 : Int32) : Option Int32 :=
  (CK_isPool σ x1).bind fun r2 =>
  if (zb r2) = 0 then (
    some (-1)
  ) else (
    if x2 < 0 then (
      some (-1)
    ) else (
      zmr2 3 29 (σ 0 3) fun q14 =>
      zrd σ (q14 + 7) 8 x1 fun v23 =>
      if x2 < v23 then (
        zmr2 3 29 (σ 0 3) fun q37 =>
        (Water_arrivesIn σ 56 q37 x1 x2).bind fun r42 =>
        some r42
      ) else (
        some (-1)
      )
    )
  )
set_option maxRecDepth 20000 in
theorem t_CK_row {X : Zx} {Q : State → Prop} {σ : Sg} {x1 : Int32} {x2 : Int32} (ok : Zok X cX11_row RX11 rm_CK_row 198 3)  {out : Int32} (hf : CK_row σ x1 x2 = some out) (hk : ZrI cX11_row X Q out σ) : ZAt X Q 0 0 0 σ [(0, .ref (X.ad 0)), (1, .int x1), (2, .int x2)] [] := by
  unfold CK_row at hf
  refine z_aload_n ok dX11_row_0 0 rfl ?_
  refine z_iload_n ok dX11_row_1 1 rfl ?_
  refine z_call hf (fun r2 h2 hf => ?_)
  refine z_cV (As := [.int x1]) (rest := []) (w := 0) ok kc_0 zc_11 (c_CK_isPool h2) rfl ⟨ml_11_154, w_CK_isPool⟩ hy_CK_isPool ⟨rfl, rfl⟩ ⟨Nat.le_of_ble_eq_true rfl, Nat.le_of_ble_eq_true rfl⟩ ⟨Nat.zero_le _, Nat.zero_le _⟩ rfl (Nat.le_of_ble_eq_true rfl) dX11_row_2 ?_
  refine z_if_eq (tgt := 27) ok dX11_row_5 (by decide) hf (fun _ hf => ?_) (fun _ hf => ?_)
  · refine z_iconst (v := (-1)) ok dX11_row_27 (by decide) ?_
    obtain rfl := Option.some.inj hf
    exact hk _ _ dX11_row_28
  · refine z_iload_n ok dX11_row_8 2 rfl ?_
    refine z_if_lt (tgt := 27) ok dX11_row_9 (by decide) hf (fun _ hf => ?_) (fun _ hf => ?_)
    · refine z_iconst (v := (-1)) ok dX11_row_27 (by decide) ?_
      obtain rfl := Option.some.inj hf
      exact hk _ _ dX11_row_28
    · refine z_iload_n ok dX11_row_12 2 rfl ?_
      refine z_aload_n ok dX11_row_13 0 rfl ?_
      refine z_getm2 (p := 3) (q := 29) ok kc_0 zc_11 hin_11 3 (by decide) fl_11_23 rfl (by decide) (by decide) dX11_row_14 hf (fun q14 e14 hf => ?_)
      have hq14 : zI_Works q14 198 := by rcases e14 with rfl | rfl; exact kI_Works_3; exact kI_Works_29
      obtain ⟨hq14_0, hq14_1, hq14_2, hq14_3, hq14_4, hq14_5, hq14_6, hq14_7, hq14_8, hq14_9, hq14_10, hq14_11, hq14_12, hq14_13, hq14_14, hq14_15, hq14_16, hq14_17, hq14_18, hq14_19, hq14_20, hq14_21, hq14_22, hq14_23, hq14_24, hq14_25⟩ := id hq14
      refine z_getr (q := (q14 + 2)) ok hq14_0 zc_10 hin_10 5 (by decide) fl_11_182 rfl dX11_row_17 ?_
      refine z_iconst (v := 4) ok dX11_row_20 (by decide) ?_
      refine z_aaldc (q := (q14 + 7)) ok hq14_2 (by decide) rfl (by decide) rfl dX11_row_21 ?_
      refine z_iload_n ok dX11_row_22 1 rfl ?_
      refine z_iald ok hq14_7 dX11_row_23 hf (fun v23 hf => ?_)
      refine z_icmp_lt (tgt := 29) ok dX11_row_24 (by decide) hf (fun _ hf => ?_) (fun _ hf => ?_)
      · refine z_aload_n ok dX11_row_29 0 rfl ?_
        refine z_getr (q := 55) ok kc_0 zc_11 hin_11 8 (by decide) fl_11_37 rfl dX11_row_30 ?_
        refine z_getr (q := 56) ok kc_55 zc_1 hin_1 0 (by decide) fl_11_126 rfl dX11_row_33 ?_
        refine z_aload_n ok dX11_row_36 0 rfl ?_
        refine z_getm2 (p := 3) (q := 29) ok kc_0 zc_11 hin_11 3 (by decide) fl_11_23 rfl (by decide) (by decide) dX11_row_37 hf (fun q37 e37 hf => ?_)
        have hq37 : zI_Works q37 198 := by rcases e37 with rfl | rfl; exact kI_Works_3; exact kI_Works_29
        obtain ⟨hq37_0, hq37_1, hq37_2, hq37_3, hq37_4, hq37_5, hq37_6, hq37_7, hq37_8, hq37_9, hq37_10, hq37_11, hq37_12, hq37_13, hq37_14, hq37_15, hq37_16, hq37_17, hq37_18, hq37_19, hq37_20, hq37_21, hq37_22, hq37_23, hq37_24, hq37_25⟩ := id hq37
        refine z_iload_n ok dX11_row_40 1 rfl ?_
        refine z_iload_n ok dX11_row_41 2 rfl ?_
        refine z_call hf (fun r42 h42 hf => ?_)
        refine z_cV (As := [.ref (X.ad q37), .int x1, .int x2]) (rest := []) (w := 56) ok kc_56 zc_9 (c_Water_arrivesIn kI_Water_56 hq37 h42) rfl ⟨ml_11_218, w_Water_arrivesIn⟩ hy_Water_arrivesIn ⟨rfl, rfl⟩ ⟨Nat.le_of_ble_eq_true rfl, Nat.le_of_ble_eq_true rfl⟩ ⟨Nat.zero_le _, Nat.zero_le _⟩ rfl (Nat.le_of_ble_eq_true rfl) dX11_row_42 ?_
        obtain rfl := Option.some.inj hf
        exact hk _ _ dX11_row_45
      · refine z_iconst (v := (-1)) ok dX11_row_27 (by decide) ?_
        obtain rfl := Option.some.inj hf
        exact hk _ _ dX11_row_28
theorem c_CK_row {σ : Sg} {x1 : Int32} {x2 : Int32} {r : Int32} (h : CK_row σ x1 x2 = some r) : ZcI yX11_row cX11_row 3 .int rm_CK_row 198 (fun ad => [.ref (ad 0), .int x1, .int x2]) σ r σ :=
  zmetI pn_11 rfl (fun _ => rfl) (fun _ => Nat.le_of_ble_eq_true rfl) rfl (fun X Q ok hk => t_CK_row ok h hk)
