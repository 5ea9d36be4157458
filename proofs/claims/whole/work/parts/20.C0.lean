theorem kI_Works_29 : zI_Works 29 198 := ⟨kc_29, kc_30, kc_31, kc_32, kc_33, kc_34, kc_35, kc_36, kc_37, kc_38, kc_39, kc_40, kc_41, kc_42, kc_43, kc_44, kc_45, kc_46, kc_47, kc_48, kc_49, kc_50, kc_51, kc_52, kc_53, kc_54⟩
theorem kI_Works_3 : zI_Works 3 198 := ⟨kc_3, kc_4, kc_5, kc_6, kc_7, kc_8, kc_9, kc_10, kc_11, kc_12, kc_13, kc_14, kc_15, kc_16, kc_17, kc_18, kc_19, kc_20, kc_21, kc_22, kc_23, kc_24, kc_25, kc_26, kc_27, kc_28⟩
theorem fl_10_23 : Cond.fieldLink RX10 23 (TX10 8).1 (TX10 8).2.1 (TX10 8).2.2.1 ∈ zT := zT_of (i := 279) (by decide +kernel) rfl
theorem fl_10_35 : Cond.fieldLink RX10 35 (TX10 11).1 (TX10 11).2.1 (TX10 11).2.2.1 ∈ zT := zT_of (i := 292) (by decide +kernel) rfl
theorem fl_10_42 : Cond.fieldLink RX10 42 (TX10 12).1 (TX10 12).2.1 (TX10 12).2.2.1 ∈ zT := zT_of (i := 295) (by decide +kernel) rfl
theorem fl_10_46 : Cond.fieldLink RX10 46 (TX10 0).1 (TX10 0).2.1 (TX10 0).2.2.1 ∈ zT := zT_of (i := 245) (by decide +kernel) rfl
theorem fl_10_50 : Cond.fieldLink RX10 50 (TX10 1).1 (TX10 1).2.1 (TX10 1).2.2.1 ∈ zT := zT_of (i := 248) (by decide +kernel) rfl
theorem fl_10_53 : Cond.fieldLink RX10 53 (TX10 2).1 (TX10 2).2.1 (TX10 2).2.2.1 ∈ zT := zT_of (i := 251) (by decide +kernel) rfl
theorem fl_10_56 : Cond.fieldLink RX10 56 (TX10 3).1 (TX10 3).2.1 (TX10 3).2.2.1 ∈ zT := zT_of (i := 254) (by decide +kernel) rfl
theorem fl_10_59 : Cond.fieldLink RX10 59 (TX10 7).1 (TX10 7).2.1 (TX10 7).2.2.1 ∈ zT := zT_of (i := 274) (by decide +kernel) rfl
theorem fl_10_62 : Cond.fieldLink RX10 62 (TX3 0).1 (TX3 0).2.1 (TX3 0).2.2.1 ∈ zT := zT_of (i := 200) (by decide +kernel) rfl
theorem fl_10_65 : Cond.fieldLink RX10 65 (TX8 0).1 (TX8 0).2.1 (TX8 0).2.2.1 ∈ zT := zT_of (i := 227) (by decide +kernel) rfl
theorem fl_10_9 : Cond.fieldLink RX10 9 (TX10 4).1 (TX10 4).2.1 (TX10 4).2.2.1 ∈ zT := zT_of (i := 261) (by decide +kernel) rfl
theorem fl_11_62 : Cond.fieldLink RX11 62 (TX11 15).1 (TX11 15).2.1 (TX11 15).2.2.1 ∈ zT := zT_of (i := 589) (by decide +kernel) rfl
theorem fl_11_66 : Cond.fieldLink RX11 66 (TX11 1).1 (TX11 1).2.1 (TX11 1).2.2.1 ∈ zT := zT_of (i := 575) (by decide +kernel) rfl
theorem fl_11_9 : Cond.fieldLink RX11 9 (TX11 0).1 (TX11 0).2.1 (TX11 0).2.2.1 ∈ zT := zT_of (i := 574) (by decide +kernel) rfl
theorem fl_5_119 : Cond.fieldLink RX5 119 (TX10 1).1 (TX10 1).2.1 (TX10 1).2.2.1 ∈ zT := zT_of (i := 250) (by decide +kernel) rfl
theorem fl_5_125 : Cond.fieldLink RX5 125 (TX10 2).1 (TX10 2).2.1 (TX10 2).2.2.1 ∈ zT := zT_of (i := 253) (by decide +kernel) rfl
theorem fl_5_128 : Cond.fieldLink RX5 128 (TX10 4).1 (TX10 4).2.1 (TX10 4).2.2.1 ∈ zT := zT_of (i := 262) (by decide +kernel) rfl
theorem fl_5_148 : Cond.fieldLink RX5 148 (TX10 5).1 (TX10 5).2.1 (TX10 5).2.2.1 ∈ zT := zT_of (i := 266) (by decide +kernel) rfl
theorem fl_5_15 : Cond.fieldLink RX5 15 (TX5 1).1 (TX5 1).2.1 (TX5 1).2.2.1 ∈ zT := zT_of (i := 158) (by decide +kernel) rfl
theorem fl_5_158 : Cond.fieldLink RX5 158 (TX10 6).1 (TX10 6).2.1 (TX10 6).2.2.1 ∈ zT := zT_of (i := 272) (by decide +kernel) rfl
theorem fl_5_19 : Cond.fieldLink RX5 19 (TX5 5).1 (TX5 5).2.1 (TX5 5).2.2.1 ∈ zT := zT_of (i := 162) (by decide +kernel) rfl
theorem fl_5_231 : Cond.fieldLink RX5 231 (TX5 4).1 (TX5 4).2.1 (TX5 4).2.2.1 ∈ zT := zT_of (i := 161) (by decide +kernel) rfl
theorem fl_5_28 : Cond.fieldLink RX5 28 (TX5 2).1 (TX5 2).2.1 (TX5 2).2.2.1 ∈ zT := zT_of (i := 159) (by decide +kernel) rfl
theorem fl_5_31 : Cond.fieldLink RX5 31 (TX5 3).1 (TX5 3).2.1 (TX5 3).2.2.1 ∈ zT := zT_of (i := 160) (by decide +kernel) rfl
theorem fl_5_35 : Cond.fieldLink RX5 35 (TX5 6).1 (TX5 6).2.1 (TX5 6).2.2.1 ∈ zT := zT_of (i := 163) (by decide +kernel) rfl
theorem fl_5_38 : Cond.fieldLink RX5 38 (TX5 7).1 (TX5 7).2.1 (TX5 7).2.2.1 ∈ zT := zT_of (i := 165) (by decide +kernel) rfl
theorem fl_5_69 : Cond.fieldLink RX5 69 (TX10 3).1 (TX10 3).2.1 (TX10 3).2.2.1 ∈ zT := zT_of (i := 256) (by decide +kernel) rfl
theorem fl_5_9 : Cond.fieldLink RX5 9 (TX5 0).1 (TX5 0).2.1 (TX5 0).2.2.1 ∈ zT := zT_of (i := 157) (by decide +kernel) rfl
theorem ml_11_69 : Cond.methodLink RX11 69 yX11_refuse ∈ zT := zT_of (i := 627) (by decide +kernel) rfl
theorem ml_11_73 : Cond.methodLink RX11 73 yX11_putNumber ∈ zT := zT_of (i := 631) (by decide +kernel) rfl
theorem ml_11_77 : Cond.methodLink RX11 77 yX11_deny ∈ zT := zT_of (i := 639) (by decide +kernel) rfl
theorem ml_5_110 : Cond.methodLink RX5 110 yX5_readWord ∈ zT := zT_of (i := 668) (by decide +kernel) rfl
theorem ml_5_115 : Cond.methodLink RX5 115 yX5_readNumber ∈ zT := zT_of (i := 736) (by decide +kernel) rfl
theorem ml_5_121 : Cond.methodLink RX5 121 yX5_readSign ∈ zT := zT_of (i := 743) (by decide +kernel) rfl
theorem ml_5_132 : Cond.methodLink RX5 132 yX5_readName ∈ zT := zT_of (i := 761) (by decide +kernel) rfl
theorem ml_5_136 : Cond.methodLink RX5 136 yX5_isNew ∈ zT := zT_of (i := 772) (by decide +kernel) rfl
theorem ml_5_140 : Cond.methodLink RX5 140 yX5_askName ∈ zT := zT_of (i := 784) (by decide +kernel) rfl
theorem ml_5_144 : Cond.methodLink RX5 144 yX5_poolWord ∈ zT := zT_of (i := 788) (by decide +kernel) rfl
theorem ml_5_152 : Cond.methodLink RX5 152 yX5_leastOf ∈ zT := zT_of (i := 800) (by decide +kernel) rfl
theorem ml_5_155 : Cond.methodLink RX5 155 yX5_mostOf ∈ zT := zT_of (i := 806) (by decide +kernel) rfl
theorem ml_5_192 : Cond.methodLink RX5 192 yX10_poolOf ∈ zT := zT_of (i := 776) (by decide +kernel) rfl
theorem ml_5_200 : Cond.methodLink RX5 200 yX10_outletOf ∈ zT := zT_of (i := 780) (by decide +kernel) rfl
theorem ml_5_220 : Cond.methodLink RX5 220 yX5_standsSign ∈ zT := zT_of (i := 747) (by decide +kernel) rfl
theorem ml_5_234 : Cond.methodLink RX5 234 yX5_wordEnd ∈ zT := zT_of (i := 676) (by decide +kernel) rfl
theorem ml_5_237 : Cond.methodLink RX5 237 yX5_nameIn ∈ zT := zT_of (i := 765) (by decide +kernel) rfl
theorem ml_5_241 : Cond.methodLink RX5 241 yX5_isOwnWord ∈ zT := zT_of (i := 768) (by decide +kernel) rfl
theorem ml_5_244 : Cond.methodLink RX5 244 yX5_isDigit ∈ zT := zT_of (i := 740) (by decide +kernel) rfl
theorem ml_5_256 : Cond.methodLink RX5 256 yX5_isLetter ∈ zT := zT_of (i := 680) (by decide +kernel) rfl
theorem ml_5_41 : Cond.methodLink RX5 41 yX5_skipBlanks ∈ zT := zT_of (i := 655) (by decide +kernel) rfl
theorem ml_5_51 : Cond.methodLink RX5 51 yX5_fail ∈ zT := zT_of (i := 731) (by decide +kernel) rfl
theorem ml_5_60 : Cond.methodLink RX5 60 yX5_stands ∈ zT := zT_of (i := 672) (by decide +kernel) rfl
theorem w_Reader_askName : Cond.instanceMethod yX5_askName ∈ zT ∧ Cond.selects yX5_askName.cls yX5_askName yX5_askName ∈ zT ∧ Cond.initialized yX5_askName.cls ∈ zT ∧ Cond.code yX5_askName cX5_askName 2 none ∈ zT := ⟨zT_of (i := 786) (by decide +kernel) rfl, zT_of (i := 17) (by decide +kernel) rfl, zT_of (i := 124) (by decide +kernel) rfl, zT_of (i := 787) (by decide +kernel) rfl⟩
theorem hy_Reader_askName : yX5_askName.cls ≠ "java/lang/invoke/MethodHandle" ∧ yX5_askName.cls ≠ "java/lang/invoke/VarHandle" ∧ (parseMethodDescriptor yX5_askName.desc).map (fun d => d.parameters.length) = some 1 := by decide +kernel
theorem w_Reader_fail : Cond.instanceMethod yX5_fail ∈ zT ∧ Cond.selects yX5_fail.cls yX5_fail yX5_fail ∈ zT ∧ Cond.initialized yX5_fail.cls ∈ zT ∧ Cond.code yX5_fail cX5_fail 3 (some .boolean) ∈ zT := ⟨zT_of (i := 733) (by decide +kernel) rfl, zT_of (i := 9) (by decide +kernel) rfl, zT_of (i := 124) (by decide +kernel) rfl, zT_of (i := 734) (by decide +kernel) rfl⟩
theorem hy_Reader_fail : yX5_fail.cls ≠ "java/lang/invoke/MethodHandle" ∧ yX5_fail.cls ≠ "java/lang/invoke/VarHandle" ∧ (parseMethodDescriptor yX5_fail.desc).map (fun d => d.parameters.length) = some 2 := by decide +kernel
theorem w_Reader_isDigit : Cond.static yX5_isDigit ∈ zT ∧ Cond.initialized yX5_isDigit.cls ∈ zT ∧ Cond.code yX5_isDigit cX5_isDigit 1 (some .boolean) ∈ zT := ⟨zT_of (i := 741) (by decide +kernel) rfl, zT_of (i := 124) (by decide +kernel) rfl, zT_of (i := 742) (by decide +kernel) rfl⟩
theorem hy_Reader_isDigit : yX5_isDigit.cls ≠ "java/lang/invoke/MethodHandle" ∧ yX5_isDigit.cls ≠ "java/lang/invoke/VarHandle" ∧ (parseMethodDescriptor yX5_isDigit.desc).map (fun d => d.parameters.length) = some 1 := by decide +kernel
theorem w_Reader_isLetter : Cond.static yX5_isLetter ∈ zT ∧ Cond.initialized yX5_isLetter.cls ∈ zT ∧ Cond.code yX5_isLetter cX5_isLetter 1 (some .boolean) ∈ zT := ⟨zT_of (i := 681) (by decide +kernel) rfl, zT_of (i := 124) (by decide +kernel) rfl, zT_of (i := 682) (by decide +kernel) rfl⟩
theorem hy_Reader_isLetter : yX5_isLetter.cls ≠ "java/lang/invoke/MethodHandle" ∧ yX5_isLetter.cls ≠ "java/lang/invoke/VarHandle" ∧ (parseMethodDescriptor yX5_isLetter.desc).map (fun d => d.parameters.length) = some 1 := by decide +kernel
theorem w_Reader_isNew : Cond.instanceMethod yX5_isNew ∈ zT ∧ Cond.selects yX5_isNew.cls yX5_isNew yX5_isNew ∈ zT ∧ Cond.initialized yX5_isNew.cls ∈ zT ∧ Cond.code yX5_isNew cX5_isNew 2 (some .boolean) ∈ zT := ⟨zT_of (i := 774) (by decide +kernel) rfl, zT_of (i := 16) (by decide +kernel) rfl, zT_of (i := 124) (by decide +kernel) rfl, zT_of (i := 775) (by decide +kernel) rfl⟩
theorem hy_Reader_isNew : yX5_isNew.cls ≠ "java/lang/invoke/MethodHandle" ∧ yX5_isNew.cls ≠ "java/lang/invoke/VarHandle" ∧ (parseMethodDescriptor yX5_isNew.desc).map (fun d => d.parameters.length) = some 1 := by decide +kernel
theorem w_Reader_isOwnWord : Cond.static yX5_isOwnWord ∈ zT ∧ Cond.initialized yX5_isOwnWord.cls ∈ zT ∧ Cond.code yX5_isOwnWord cX5_isOwnWord 5 (some .boolean) ∈ zT := ⟨zT_of (i := 769) (by decide +kernel) rfl, zT_of (i := 124) (by decide +kernel) rfl, zT_of (i := 770) (by decide +kernel) rfl⟩
theorem hy_Reader_isOwnWord : yX5_isOwnWord.cls ≠ "java/lang/invoke/MethodHandle" ∧ yX5_isOwnWord.cls ≠ "java/lang/invoke/VarHandle" ∧ (parseMethodDescriptor yX5_isOwnWord.desc).map (fun d => d.parameters.length) = some 1 := by decide +kernel
theorem w_Reader_leastOf : Cond.instanceMethod yX5_leastOf ∈ zT ∧ Cond.selects yX5_leastOf.cls yX5_leastOf yX5_leastOf ∈ zT ∧ Cond.initialized yX5_leastOf.cls ∈ zT ∧ Cond.code yX5_leastOf cX5_leastOf 3 (some .int) ∈ zT := ⟨zT_of (i := 802) (by decide +kernel) rfl, zT_of (i := 18) (by decide +kernel) rfl, zT_of (i := 124) (by decide +kernel) rfl, zT_of (i := 803) (by decide +kernel) rfl⟩
theorem hy_Reader_leastOf : yX5_leastOf.cls ≠ "java/lang/invoke/MethodHandle" ∧ yX5_leastOf.cls ≠ "java/lang/invoke/VarHandle" ∧ (parseMethodDescriptor yX5_leastOf.desc).map (fun d => d.parameters.length) = some 2 := by decide +kernel
theorem w_Reader_mostOf : Cond.instanceMethod yX5_mostOf ∈ zT ∧ Cond.selects yX5_mostOf.cls yX5_mostOf yX5_mostOf ∈ zT ∧ Cond.initialized yX5_mostOf.cls ∈ zT ∧ Cond.code yX5_mostOf cX5_mostOf 3 (some .int) ∈ zT := ⟨zT_of (i := 808) (by decide +kernel) rfl, zT_of (i := 19) (by decide +kernel) rfl, zT_of (i := 124) (by decide +kernel) rfl, zT_of (i := 809) (by decide +kernel) rfl⟩
theorem hy_Reader_mostOf : yX5_mostOf.cls ≠ "java/lang/invoke/MethodHandle" ∧ yX5_mostOf.cls ≠ "java/lang/invoke/VarHandle" ∧ (parseMethodDescriptor yX5_mostOf.desc).map (fun d => d.parameters.length) = some 2 := by decide +kernel
theorem w_Reader_nameIn : Cond.static yX5_nameIn ∈ zT ∧ Cond.initialized yX5_nameIn.cls ∈ zT ∧ Cond.code yX5_nameIn cX5_nameIn 6 (some .int) ∈ zT := ⟨zT_of (i := 766) (by decide +kernel) rfl, zT_of (i := 124) (by decide +kernel) rfl, zT_of (i := 767) (by decide +kernel) rfl⟩
theorem hy_Reader_nameIn : yX5_nameIn.cls ≠ "java/lang/invoke/MethodHandle" ∧ yX5_nameIn.cls ≠ "java/lang/invoke/VarHandle" ∧ (parseMethodDescriptor yX5_nameIn.desc).map (fun d => d.parameters.length) = some 3 := by decide +kernel
theorem w_Reader_poolWord : Cond.static yX5_poolWord ∈ zT ∧ Cond.initialized yX5_poolWord.cls ∈ zT ∧ Cond.code yX5_poolWord cX5_poolWord 1 (some (.object "java/lang/String")) ∈ zT := ⟨zT_of (i := 789) (by decide +kernel) rfl, zT_of (i := 124) (by decide +kernel) rfl, zT_of (i := 790) (by decide +kernel) rfl⟩
theorem hy_Reader_poolWord : yX5_poolWord.cls ≠ "java/lang/invoke/MethodHandle" ∧ yX5_poolWord.cls ≠ "java/lang/invoke/VarHandle" ∧ (parseMethodDescriptor yX5_poolWord.desc).map (fun d => d.parameters.length) = some 1 := by decide +kernel
theorem w_Reader_readCanal : Cond.instanceMethod yX5_readCanal ∈ zT ∧ Cond.selects yX5_readCanal.cls yX5_readCanal yX5_readCanal ∈ zT ∧ Cond.initialized yX5_readCanal.cls ∈ zT ∧ Cond.code yX5_readCanal cX5_readCanal 1 (some .boolean) ∈ zT := ⟨zT_of (i := 665) (by decide +kernel) rfl, zT_of (i := 5) (by decide +kernel) rfl, zT_of (i := 124) (by decide +kernel) rfl, zT_of (i := 666) (by decide +kernel) rfl⟩
theorem hy_Reader_readCanal : yX5_readCanal.cls ≠ "java/lang/invoke/MethodHandle" ∧ yX5_readCanal.cls ≠ "java/lang/invoke/VarHandle" ∧ (parseMethodDescriptor yX5_readCanal.desc).map (fun d => d.parameters.length) = some 0 := by decide +kernel
theorem w_Reader_readKeep : Cond.instanceMethod yX5_readKeep ∈ zT ∧ Cond.selects yX5_readKeep.cls yX5_readKeep yX5_readKeep ∈ zT ∧ Cond.initialized yX5_readKeep.cls ∈ zT ∧ Cond.code yX5_readKeep cX5_readKeep 1 (some .boolean) ∈ zT := ⟨zT_of (i := 754) (by decide +kernel) rfl, zT_of (i := 13) (by decide +kernel) rfl, zT_of (i := 124) (by decide +kernel) rfl, zT_of (i := 755) (by decide +kernel) rfl⟩
theorem hy_Reader_readKeep : yX5_readKeep.cls ≠ "java/lang/invoke/MethodHandle" ∧ yX5_readKeep.cls ≠ "java/lang/invoke/VarHandle" ∧ (parseMethodDescriptor yX5_readKeep.desc).map (fun d => d.parameters.length) = some 0 := by decide +kernel
theorem w_Reader_readName : Cond.instanceMethod yX5_readName ∈ zT ∧ Cond.selects yX5_readName.cls yX5_readName yX5_readName ∈ zT ∧ Cond.initialized yX5_readName.cls ∈ zT ∧ Cond.code yX5_readName cX5_readName 3 (some .int) ∈ zT := ⟨zT_of (i := 763) (by decide +kernel) rfl, zT_of (i := 15) (by decide +kernel) rfl, zT_of (i := 124) (by decide +kernel) rfl, zT_of (i := 764) (by decide +kernel) rfl⟩
theorem hy_Reader_readName : yX5_readName.cls ≠ "java/lang/invoke/MethodHandle" ∧ yX5_readName.cls ≠ "java/lang/invoke/VarHandle" ∧ (parseMethodDescriptor yX5_readName.desc).map (fun d => d.parameters.length) = some 0 := by decide +kernel
theorem w_Reader_readNumber : Cond.instanceMethod yX5_readNumber ∈ zT ∧ Cond.selects yX5_readNumber.cls yX5_readNumber yX5_readNumber ∈ zT ∧ Cond.initialized yX5_readNumber.cls ∈ zT ∧ Cond.code yX5_readNumber cX5_readNumber 5 (some .int) ∈ zT := ⟨zT_of (i := 738) (by decide +kernel) rfl, zT_of (i := 10) (by decide +kernel) rfl, zT_of (i := 124) (by decide +kernel) rfl, zT_of (i := 739) (by decide +kernel) rfl⟩
theorem hy_Reader_readNumber : yX5_readNumber.cls ≠ "java/lang/invoke/MethodHandle" ∧ yX5_readNumber.cls ≠ "java/lang/invoke/VarHandle" ∧ (parseMethodDescriptor yX5_readNumber.desc).map (fun d => d.parameters.length) = some 2 := by decide +kernel
theorem w_Reader_readPool : Cond.instanceMethod yX5_readPool ∈ zT ∧ Cond.selects yX5_readPool.cls yX5_readPool yX5_readPool ∈ zT ∧ Cond.initialized yX5_readPool.cls ∈ zT ∧ Cond.code yX5_readPool cX5_readPool 3 (some .boolean) ∈ zT := ⟨zT_of (i := 759) (by decide +kernel) rfl, zT_of (i := 14) (by decide +kernel) rfl, zT_of (i := 124) (by decide +kernel) rfl, zT_of (i := 760) (by decide +kernel) rfl⟩
theorem hy_Reader_readPool : yX5_readPool.cls ≠ "java/lang/invoke/MethodHandle" ∧ yX5_readPool.cls ≠ "java/lang/invoke/VarHandle" ∧ (parseMethodDescriptor yX5_readPool.desc).map (fun d => d.parameters.length) = some 0 := by decide +kernel
theorem w_Reader_readSign : Cond.instanceMethod yX5_readSign ∈ zT ∧ Cond.selects yX5_readSign.cls yX5_readSign yX5_readSign ∈ zT ∧ Cond.initialized yX5_readSign.cls ∈ zT ∧ Cond.code yX5_readSign cX5_readSign 2 (some .boolean) ∈ zT := ⟨zT_of (i := 745) (by decide +kernel) rfl, zT_of (i := 11) (by decide +kernel) rfl, zT_of (i := 124) (by decide +kernel) rfl, zT_of (i := 746) (by decide +kernel) rfl⟩
theorem hy_Reader_readSign : yX5_readSign.cls ≠ "java/lang/invoke/MethodHandle" ∧ yX5_readSign.cls ≠ "java/lang/invoke/VarHandle" ∧ (parseMethodDescriptor yX5_readSign.desc).map (fun d => d.parameters.length) = some 1 := by decide +kernel
theorem w_Reader_readWord : Cond.instanceMethod yX5_readWord ∈ zT ∧ Cond.selects yX5_readWord.cls yX5_readWord yX5_readWord ∈ zT ∧ Cond.initialized yX5_readWord.cls ∈ zT ∧ Cond.code yX5_readWord cX5_readWord 2 (some .boolean) ∈ zT := ⟨zT_of (i := 670) (by decide +kernel) rfl, zT_of (i := 6) (by decide +kernel) rfl, zT_of (i := 124) (by decide +kernel) rfl, zT_of (i := 671) (by decide +kernel) rfl⟩
theorem hy_Reader_readWord : yX5_readWord.cls ≠ "java/lang/invoke/MethodHandle" ∧ yX5_readWord.cls ≠ "java/lang/invoke/VarHandle" ∧ (parseMethodDescriptor yX5_readWord.desc).map (fun d => d.parameters.length) = some 1 := by decide +kernel
theorem w_Reader_skipBlanks : Cond.instanceMethod yX5_skipBlanks ∈ zT ∧ Cond.selects yX5_skipBlanks.cls yX5_skipBlanks yX5_skipBlanks ∈ zT ∧ Cond.initialized yX5_skipBlanks.cls ∈ zT ∧ Cond.code yX5_skipBlanks cX5_skipBlanks 1 none ∈ zT := ⟨zT_of (i := 657) (by decide +kernel) rfl, zT_of (i := 3) (by decide +kernel) rfl, zT_of (i := 124) (by decide +kernel) rfl, zT_of (i := 658) (by decide +kernel) rfl⟩
theorem hy_Reader_skipBlanks : yX5_skipBlanks.cls ≠ "java/lang/invoke/MethodHandle" ∧ yX5_skipBlanks.cls ≠ "java/lang/invoke/VarHandle" ∧ (parseMethodDescriptor yX5_skipBlanks.desc).map (fun d => d.parameters.length) = some 0 := by decide +kernel
theorem w_Reader_stands : Cond.instanceMethod yX5_stands ∈ zT ∧ Cond.selects yX5_stands.cls yX5_stands yX5_stands ∈ zT ∧ Cond.initialized yX5_stands.cls ∈ zT ∧ Cond.code yX5_stands cX5_stands 3 (some .boolean) ∈ zT := ⟨zT_of (i := 674) (by decide +kernel) rfl, zT_of (i := 7) (by decide +kernel) rfl, zT_of (i := 124) (by decide +kernel) rfl, zT_of (i := 675) (by decide +kernel) rfl⟩
theorem hy_Reader_stands : yX5_stands.cls ≠ "java/lang/invoke/MethodHandle" ∧ yX5_stands.cls ≠ "java/lang/invoke/VarHandle" ∧ (parseMethodDescriptor yX5_stands.desc).map (fun d => d.parameters.length) = some 1 := by decide +kernel
theorem w_Reader_standsSign : Cond.instanceMethod yX5_standsSign ∈ zT ∧ Cond.selects yX5_standsSign.cls yX5_standsSign yX5_standsSign ∈ zT ∧ Cond.initialized yX5_standsSign.cls ∈ zT ∧ Cond.code yX5_standsSign cX5_standsSign 2 (some .boolean) ∈ zT := ⟨zT_of (i := 749) (by decide +kernel) rfl, zT_of (i := 12) (by decide +kernel) rfl, zT_of (i := 124) (by decide +kernel) rfl, zT_of (i := 750) (by decide +kernel) rfl⟩
theorem hy_Reader_standsSign : yX5_standsSign.cls ≠ "java/lang/invoke/MethodHandle" ∧ yX5_standsSign.cls ≠ "java/lang/invoke/VarHandle" ∧ (parseMethodDescriptor yX5_standsSign.desc).map (fun d => d.parameters.length) = some 1 := by decide +kernel
theorem w_Reader_wordEnd : Cond.instanceMethod yX5_wordEnd ∈ zT ∧ Cond.selects yX5_wordEnd.cls yX5_wordEnd yX5_wordEnd ∈ zT ∧ Cond.initialized yX5_wordEnd.cls ∈ zT ∧ Cond.code yX5_wordEnd cX5_wordEnd 3 (some .int) ∈ zT := ⟨zT_of (i := 678) (by decide +kernel) rfl, zT_of (i := 8) (by decide +kernel) rfl, zT_of (i := 124) (by decide +kernel) rfl, zT_of (i := 679) (by decide +kernel) rfl⟩
theorem hy_Reader_wordEnd : yX5_wordEnd.cls ≠ "java/lang/invoke/MethodHandle" ∧ yX5_wordEnd.cls ≠ "java/lang/invoke/VarHandle" ∧ (parseMethodDescriptor yX5_wordEnd.desc).map (fun d => d.parameters.length) = some 1 := by decide +kernel
theorem w_Works_clear : Cond.instanceMethod yX10_clear ∈ zT ∧ Cond.selects yX10_clear.cls yX10_clear yX10_clear ∈ zT ∧ Cond.initialized yX10_clear.cls ∈ zT ∧ Cond.code yX10_clear cX10_clear 1 none ∈ zT := ⟨zT_of (i := 652) (by decide +kernel) rfl, zT_of (i := 653) (by decide +kernel) rfl, zT_of (i := 125) (by decide +kernel) rfl, zT_of (i := 654) (by decide +kernel) rfl⟩
theorem hy_Works_clear : yX10_clear.cls ≠ "java/lang/invoke/MethodHandle" ∧ yX10_clear.cls ≠ "java/lang/invoke/VarHandle" ∧ (parseMethodDescriptor yX10_clear.desc).map (fun d => d.parameters.length) = some 0 := by decide +kernel
theorem w_Works_outletOf : Cond.instanceMethod yX10_outletOf ∈ zT ∧ Cond.selects yX10_outletOf.cls yX10_outletOf yX10_outletOf ∈ zT ∧ Cond.initialized yX10_outletOf.cls ∈ zT ∧ Cond.code yX10_outletOf cX10_outletOf 3 (some .int) ∈ zT := ⟨zT_of (i := 781) (by decide +kernel) rfl, zT_of (i := 782) (by decide +kernel) rfl, zT_of (i := 125) (by decide +kernel) rfl, zT_of (i := 783) (by decide +kernel) rfl⟩
theorem hy_Works_outletOf : yX10_outletOf.cls ≠ "java/lang/invoke/MethodHandle" ∧ yX10_outletOf.cls ≠ "java/lang/invoke/VarHandle" ∧ (parseMethodDescriptor yX10_outletOf.desc).map (fun d => d.parameters.length) = some 1 := by decide +kernel
theorem w_Works_poolOf : Cond.instanceMethod yX10_poolOf ∈ zT ∧ Cond.selects yX10_poolOf.cls yX10_poolOf yX10_poolOf ∈ zT ∧ Cond.initialized yX10_poolOf.cls ∈ zT ∧ Cond.code yX10_poolOf cX10_poolOf 3 (some .int) ∈ zT := ⟨zT_of (i := 777) (by decide +kernel) rfl, zT_of (i := 778) (by decide +kernel) rfl, zT_of (i := 125) (by decide +kernel) rfl, zT_of (i := 779) (by decide +kernel) rfl⟩
theorem hy_Works_poolOf : yX10_poolOf.cls ≠ "java/lang/invoke/MethodHandle" ∧ yX10_poolOf.cls ≠ "java/lang/invoke/VarHandle" ∧ (parseMethodDescriptor yX10_poolOf.desc).map (fun d => d.parameters.length) = some 1 := by decide +kernel
theorem w_CK_deny : Cond.instanceMethod yX11_deny ∈ zT ∧ Cond.selects yX11_deny.cls yX11_deny yX11_deny ∈ zT ∧ Cond.initialized yX11_deny.cls ∈ zT ∧ Cond.code yX11_deny cX11_deny 2 (some .boolean) ∈ zT := ⟨zT_of (i := 641) (by decide +kernel) rfl, zT_of (i := 2) (by decide +kernel) rfl, zT_of (i := 123) (by decide +kernel) rfl, zT_of (i := 642) (by decide +kernel) rfl⟩
theorem hy_CK_deny : yX11_deny.cls ≠ "java/lang/invoke/MethodHandle" ∧ yX11_deny.cls ≠ "java/lang/invoke/VarHandle" ∧ (parseMethodDescriptor yX11_deny.desc).map (fun d => d.parameters.length) = some 1 := by decide +kernel
theorem w_CK_end : Cond.instanceMethod yX11_end ∈ zT ∧ Cond.selects yX11_end.cls yX11_end yX11_end ∈ zT ∧ Cond.initialized yX11_end.cls ∈ zT ∧ Cond.code yX11_end cX11_end 2 (some .boolean) ∈ zT := ⟨zT_of (i := 636) (by decide +kernel) rfl, zT_of (i := 637) (by decide +kernel) rfl, zT_of (i := 123) (by decide +kernel) rfl, zT_of (i := 638) (by decide +kernel) rfl⟩
theorem hy_CK_end : yX11_end.cls ≠ "java/lang/invoke/MethodHandle" ∧ yX11_end.cls ≠ "java/lang/invoke/VarHandle" ∧ (parseMethodDescriptor yX11_end.desc).map (fun d => d.parameters.length) = some 1 := by decide +kernel
theorem w_CK_feed : Cond.instanceMethod yX11_feed ∈ zT ∧ Cond.selects yX11_feed.cls yX11_feed yX11_feed ∈ zT ∧ Cond.initialized yX11_feed.cls ∈ zT ∧ Cond.code yX11_feed cX11_feed 6 (some .int) ∈ zT := ⟨zT_of (i := 624) (by decide +kernel) rfl, zT_of (i := 625) (by decide +kernel) rfl, zT_of (i := 123) (by decide +kernel) rfl, zT_of (i := 626) (by decide +kernel) rfl⟩
theorem hy_CK_feed : yX11_feed.cls ≠ "java/lang/invoke/MethodHandle" ∧ yX11_feed.cls ≠ "java/lang/invoke/VarHandle" ∧ (parseMethodDescriptor yX11_feed.desc).map (fun d => d.parameters.length) = some 5 := by decide +kernel
theorem w_CK_putNumber : Cond.instanceMethod yX11_putNumber ∈ zT ∧ Cond.selects yX11_putNumber.cls yX11_putNumber yX11_putNumber ∈ zT ∧ Cond.initialized yX11_putNumber.cls ∈ zT ∧ Cond.code yX11_putNumber cX11_putNumber 3 none ∈ zT := ⟨zT_of (i := 633) (by decide +kernel) rfl, zT_of (i := 1) (by decide +kernel) rfl, zT_of (i := 123) (by decide +kernel) rfl, zT_of (i := 634) (by decide +kernel) rfl⟩
theorem hy_CK_putNumber : yX11_putNumber.cls ≠ "java/lang/invoke/MethodHandle" ∧ yX11_putNumber.cls ≠ "java/lang/invoke/VarHandle" ∧ (parseMethodDescriptor yX11_putNumber.desc).map (fun d => d.parameters.length) = some 1 := by decide +kernel
theorem w_CK_refuse : Cond.instanceMethod yX11_refuse ∈ zT ∧ Cond.selects yX11_refuse.cls yX11_refuse yX11_refuse ∈ zT ∧ Cond.initialized yX11_refuse.cls ∈ zT ∧ Cond.code yX11_refuse cX11_refuse 2 (some .int) ∈ zT := ⟨zT_of (i := 629) (by decide +kernel) rfl, zT_of (i := 0) (by decide +kernel) rfl, zT_of (i := 123) (by decide +kernel) rfl, zT_of (i := 630) (by decide +kernel) rfl⟩
theorem hy_CK_refuse : yX11_refuse.cls ≠ "java/lang/invoke/MethodHandle" ∧ yX11_refuse.cls ≠ "java/lang/invoke/VarHandle" ∧ (parseMethodDescriptor yX11_refuse.desc).map (fun d => d.parameters.length) = some 1 := by decide +kernel
theorem dX11_refuse_0 : decode cX11_refuse 0 = .ok (.aload_n 0, 1) := by decide +kernel
theorem dX11_refuse_1 : decode cX11_refuse 1 = .ok (.getfield 62, 3) := by decide +kernel
theorem dX11_refuse_4 : decode cX11_refuse 4 = .ok (.iload_n 1, 1) := by decide +kernel
theorem dX11_refuse_5 : decode cX11_refuse 5 = .ok (.dup2, 1) := by decide +kernel
theorem dX11_refuse_6 : decode cX11_refuse 6 = .ok (.iaload, 1) := by decide +kernel
theorem dX11_refuse_7 : decode cX11_refuse 7 = .ok (.iconst 1, 1) := by decide +kernel
theorem dX11_refuse_8 : decode cX11_refuse 8 = .ok (.iadd, 1) := by decide +kernel
theorem dX11_refuse_9 : decode cX11_refuse 9 = .ok (.iastore, 1) := by decide +kernel
theorem dX11_refuse_10 : decode cX11_refuse 10 = .ok (.iconst (-1), 1) := by decide +kernel
theorem dX11_refuse_11 : decode cX11_refuse 11 = .ok (.ireturn, 1) := by decide +kernel
abbrev rm_CK_refuse : Room := { frames := 0, cells := 0, slots := 0, locals := 0 }
def CK_refuse (σ : Sg) (x1 : Int32) : Option (Int32 × Sg) :=
  zrd σ 170 6 x1 fun v6 =>
  zwr σ 170 6 x1 (v6 + 1) fun σ9 =>
  some ((-1), σ9)
set_option maxRecDepth 20000 in
theorem t_CK_refuse {X : Zx} {Q : State → Prop} {σ : Sg} {x1 : Int32} (ok : Zok X cX11_refuse RX11 rm_CK_refuse 198 2)  {out : (Int32 × Sg)} (hf : CK_refuse σ x1 = some out) (hk : ZrI cX11_refuse X Q out.1 out.2) : ZAt X Q 0 0 0 σ [(0, .ref (X.ad 0)), (1, .int x1)] [] := by
  unfold CK_refuse at hf
  refine z_aload_n ok dX11_refuse_0 0 rfl ?_
  refine z_getr (q := 170) ok kc_0 zc_11 hin_11 15 (by decide) fl_11_62 rfl dX11_refuse_1 ?_
  refine z_iload_n ok dX11_refuse_4 1 rfl ?_
  refine z_dup2 ok dX11_refuse_5 rfl rfl ?_
  refine z_iald ok kc_170 dX11_refuse_6 hf (fun v6 hf => ?_)
  refine z_iconst (v := 1) ok dX11_refuse_7 (by decide) ?_
  refine z_iadd ok dX11_refuse_8 ?_
  refine z_iast ok kc_170 dX11_refuse_9 hf (fun σ9 hf => ?_)
  refine z_iconst (v := (-1)) ok dX11_refuse_10 (by decide) ?_
  obtain rfl := Option.some.inj hf
  exact hk _ _ dX11_refuse_11
theorem c_CK_refuse {σ : Sg} {x1 : Int32} {r : (Int32 × Sg)} (h : CK_refuse σ x1 = some r) : ZcI yX11_refuse cX11_refuse 2 .int rm_CK_refuse 198 (fun ad => [.ref (ad 0), .int x1]) σ r.1 r.2 :=
  zmetI pn_11 rfl (fun _ => rfl) (fun _ => Nat.le_of_ble_eq_true rfl) rfl (fun X Q ok hk => t_CK_refuse ok h hk)
theorem dX11_putNumber_0 : decode cX11_putNumber 0 = .ok (.bipush 24, 2) := by decide +kernel
theorem dX11_putNumber_2 : decode cX11_putNumber 2 = .ok (.istore_n 2, 1) := by decide +kernel
theorem dX11_putNumber_3 : decode cX11_putNumber 3 = .ok (.iload_n 2, 1) := by decide +kernel
theorem dX11_putNumber_4 : decode cX11_putNumber 4 = .ok (.ifCond .lt 42, 3) := by decide +kernel
theorem dX11_putNumber_7 : decode cX11_putNumber 7 = .ok (.aload_n 0, 1) := by decide +kernel
theorem dX11_putNumber_8 : decode cX11_putNumber 8 = .ok (.getfield 66, 3) := by decide +kernel
theorem dX11_putNumber_11 : decode cX11_putNumber 11 = .ok (.sipush 1600, 3) := by decide +kernel
theorem dX11_putNumber_14 : decode cX11_putNumber 14 = .ok (.if_icmp .ge 32, 3) := by decide +kernel
theorem dX11_putNumber_17 : decode cX11_putNumber 17 = .ok (.aload_n 0, 1) := by decide +kernel
theorem dX11_putNumber_18 : decode cX11_putNumber 18 = .ok (.getfield 9, 3) := by decide +kernel
theorem dX11_putNumber_21 : decode cX11_putNumber 21 = .ok (.aload_n 0, 1) := by decide +kernel
theorem dX11_putNumber_22 : decode cX11_putNumber 22 = .ok (.getfield 66, 3) := by decide +kernel
theorem dX11_putNumber_25 : decode cX11_putNumber 25 = .ok (.iload_n 1, 1) := by decide +kernel
theorem dX11_putNumber_26 : decode cX11_putNumber 26 = .ok (.iload_n 2, 1) := by decide +kernel
theorem dX11_putNumber_27 : decode cX11_putNumber 27 = .ok (.ishr, 1) := by decide +kernel
theorem dX11_putNumber_28 : decode cX11_putNumber 28 = .ok (.i2b, 1) := by decide +kernel
theorem dX11_putNumber_29 : decode cX11_putNumber 29 = .ok (.bastore, 1) := by decide +kernel
theorem dX11_putNumber_30 : decode cX11_putNumber 30 = .ok (.aload_n 0, 1) := by decide +kernel
theorem dX11_putNumber_31 : decode cX11_putNumber 31 = .ok (.dup, 1) := by decide +kernel
theorem dX11_putNumber_32 : decode cX11_putNumber 32 = .ok (.getfield 66, 3) := by decide +kernel
theorem dX11_putNumber_35 : decode cX11_putNumber 35 = .ok (.iconst 1, 1) := by decide +kernel
theorem dX11_putNumber_36 : decode cX11_putNumber 36 = .ok (.iadd, 1) := by decide +kernel
theorem dX11_putNumber_37 : decode cX11_putNumber 37 = .ok (.putfield 66, 3) := by decide +kernel
theorem dX11_putNumber_40 : decode cX11_putNumber 40 = .ok (.iinc 2 (-8), 3) := by decide +kernel
theorem dX11_putNumber_43 : decode cX11_putNumber 43 = .ok (.goto (-40), 3) := by decide +kernel
theorem dX11_putNumber_46 : decode cX11_putNumber 46 = .ok (.return_, 1) := by decide +kernel
abbrev rm_CK_putNumber : Room := { frames := 0, cells := 0, slots := 0, locals := 0 }
def CK_putNumber_l3 (σ : Sg) (x1 : Int32) (x2 : Int32) : Option ((Sg × Int32) ⊕ (Sg × Int32)) :=
  if x2 < 0 then (
    some (.inr (σ, x2))
  ) else (
    zgt σ 0 1 fun v8 =>
    if 1600 ≤ v8 then (
      some (.inr (σ, x2))
    ) else (
      zgt σ 0 1 fun v22 =>
      zwr σ 1 1600 v22 (vp_nar .byte ((Int32.toInt8 (x1 >>> (x2 &&& 31))).toInt32)) fun σ29 =>
      zgt σ29 0 1 fun v32 =>
      zpt σ29 0 1 (v32 + 1) fun σ37 =>
      zlt (x2 + (-8)) fun v40 =>
      some (.inl (σ37, v40))
    )
  )
set_option maxRecDepth 20000 in
theorem t_CK_putNumber_l3 {X : Zx} {Q : State → Prop} {σ : Sg} {x1 : Int32} {x2 : Int32} (ok : Zok X cX11_putNumber RX11 rm_CK_putNumber 198 3)  {out : ((Sg × Int32) ⊕ (Sg × Int32))} (hf : CK_putNumber_l3 σ x1 x2 = some out) (hk : zout (fun (s : (Sg × Int32)) => ZAt X Q 0 0 3 s.1 [(0, .ref (X.ad 0)), (1, .int x1), (2, .int s.2)] []) (fun (s : (Sg × Int32)) => ZAt X Q 0 0 46 s.1 [] []) out) : ZAt X Q 0 0 3 σ [(0, .ref (X.ad 0)), (1, .int x1), (2, .int x2)] [] := by
  unfold CK_putNumber_l3 at hf
  refine z_iload_n ok dX11_putNumber_3 2 rfl ?_
  refine z_if_lt (tgt := 46) ok dX11_putNumber_4 (by decide) hf (fun _ hf => ?_) (fun _ hf => ?_)
  · obtain rfl := Option.some.inj hf
    exact z_sub [] rfl hk
  · refine z_aload_n ok dX11_putNumber_7 0 rfl ?_
    refine z_geti ok kc_0 zc_11 hin_11 1 (by decide) fl_11_66 rfl dX11_putNumber_8 hf (fun v8 hf => ?_)
    refine z_sipush (v := 1600) ok dX11_putNumber_11 (by decide) ?_
    refine z_icmp_ge (tgt := 46) ok dX11_putNumber_14 (by decide) hf (fun _ hf => ?_) (fun _ hf => ?_)
    · obtain rfl := Option.some.inj hf
      exact z_sub [] rfl hk
    · refine z_aload_n ok dX11_putNumber_17 0 rfl ?_
      refine z_getr (q := 1) ok kc_0 zc_11 hin_11 0 (by decide) fl_11_9 rfl dX11_putNumber_18 ?_
      refine z_aload_n ok dX11_putNumber_21 0 rfl ?_
      refine z_geti ok kc_0 zc_11 hin_11 1 (by decide) fl_11_66 rfl dX11_putNumber_22 hf (fun v22 hf => ?_)
      refine z_iload_n ok dX11_putNumber_25 1 rfl ?_
      refine z_iload_n ok dX11_putNumber_26 2 rfl ?_
      refine z_ishr ok dX11_putNumber_27 ?_
      refine z_i2b ok dX11_putNumber_28 ?_
      refine z_bast ok kc_1 dX11_putNumber_29 hf (fun σ29 hf => ?_)
      refine z_aload_n ok dX11_putNumber_30 0 rfl ?_
      refine z_dup ok dX11_putNumber_31 rfl ?_
      refine z_geti ok kc_0 zc_11 hin_11 1 (by decide) fl_11_66 rfl dX11_putNumber_32 hf (fun v32 hf => ?_)
      refine z_iconst (v := 1) ok dX11_putNumber_35 (by decide) ?_
      refine z_iadd ok dX11_putNumber_36 ?_
      refine z_puti ok kc_0 zc_11 hin_11 tyX11 tyX11_ok nmX11 1 (by decide) fl_11_66 rfl rfl (tyX11_ok 1 (by decide)) dX11_putNumber_37 hf (fun σ37 hf => ?_)
      refine z_iinc (w := (-8)) (lv' := fun v40 => [(2, .int v40), (0, .ref (X.ad 0)), (1, .int x1)]) ok dX11_putNumber_40 2 rfl (by decide) (by decide) (fun _ => rfl) hf (fun v40 hf => ?_)
      refine z_goto (tgt := 3) ok dX11_putNumber_43 (by decide) ?_
      obtain rfl := Option.some.inj hf
      exact z_sub [1, 2, 0] rfl hk
def CK_putNumber (σ : Sg) (x1 : Int32) : Option Sg :=
  zlt 24 fun v2 =>
  (zit (fun (s : (Sg × Int32)) => CK_putNumber_l3 s.1 x1 s.2) zFU (σ, v2)).bind fun r =>
  some r.1
set_option maxRecDepth 20000 in
theorem t_CK_putNumber {X : Zx} {Q : State → Prop} {σ : Sg} {x1 : Int32} (ok : Zok X cX11_putNumber RX11 rm_CK_putNumber 198 3)  {out : Sg} (hf : CK_putNumber σ x1 = some out) (hk : ZrV cX11_putNumber X Q out) : ZAt X Q 0 0 0 σ [(0, .ref (X.ad 0)), (1, .int x1)] [] := by
  unfold CK_putNumber at hf
  refine z_bipush (v := 24) ok dX11_putNumber_0 (by decide) ?_
  refine z_nm hf (fun v2 hf => ?_)
  refine z_istore_n (lv' := [(2, .int v2), (0, .ref (X.ad 0)), (1, .int x1)]) ok dX11_putNumber_2 (by decide) rfl ?_
  refine z_call hf (fun r hr hf => ?_)
  refine z_sub [1, 2, 0] rfl (z_iter (fun (s : (Sg × Int32)) => s.1) (fun (s : (Sg × Int32)) => [(0, .ref (X.ad 0)), (1, .int x1), (2, .int s.2)]) (fun s o h1 h2 => t_CK_putNumber_l3 ok h1 h2) _ _ _ hr ?_)
  show ZAt X Q 0 0 46 r.1 [] []
  obtain rfl := Option.some.inj hf
  exact hk _ _ dX11_putNumber_46
theorem c_CK_putNumber {σ : Sg} {x1 : Int32} {r : Sg} (h : CK_putNumber σ x1 = some r) : ZcV yX11_putNumber cX11_putNumber 3 rm_CK_putNumber 198 (fun ad => [.ref (ad 0), .int x1]) σ r :=
  zmetV pn_11 rfl (fun _ => rfl) (fun _ => Nat.le_of_ble_eq_true rfl) (fun X Q ok hk => t_CK_putNumber ok h hk)
theorem dX11_feed_0 : decode cX11_feed 0 = .ok (.aload_n 0, 1) := by decide +kernel
theorem dX11_feed_1 : decode cX11_feed 1 = .ok (.getfield 66, 3) := by decide +kernel
theorem dX11_feed_4 : decode cX11_feed 4 = .ok (.bipush 20, 2) := by decide +kernel
theorem dX11_feed_6 : decode cX11_feed 6 = .ok (.iadd, 1) := by decide +kernel
theorem dX11_feed_7 : decode cX11_feed 7 = .ok (.sipush 1600, 3) := by decide +kernel
theorem dX11_feed_10 : decode cX11_feed 10 = .ok (.if_icmp .le 9, 3) := by decide +kernel
theorem dX11_feed_13 : decode cX11_feed 13 = .ok (.aload_n 0, 1) := by decide +kernel
theorem dX11_feed_14 : decode cX11_feed 14 = .ok (.iconst 0, 1) := by decide +kernel
theorem dX11_feed_15 : decode cX11_feed 15 = .ok (.invokevirtual 69, 3) := by decide +kernel
theorem dX11_feed_18 : decode cX11_feed 18 = .ok (.ireturn, 1) := by decide +kernel
theorem dX11_feed_19 : decode cX11_feed 19 = .ok (.aload_n 0, 1) := by decide +kernel
theorem dX11_feed_20 : decode cX11_feed 20 = .ok (.iload_n 1, 1) := by decide +kernel
theorem dX11_feed_21 : decode cX11_feed 21 = .ok (.invokevirtual 73, 3) := by decide +kernel
theorem dX11_feed_24 : decode cX11_feed 24 = .ok (.aload_n 0, 1) := by decide +kernel
theorem dX11_feed_25 : decode cX11_feed 25 = .ok (.iload_n 2, 1) := by decide +kernel
theorem dX11_feed_26 : decode cX11_feed 26 = .ok (.invokevirtual 73, 3) := by decide +kernel
theorem dX11_feed_29 : decode cX11_feed 29 = .ok (.aload_n 0, 1) := by decide +kernel
theorem dX11_feed_30 : decode cX11_feed 30 = .ok (.iload_n 3, 1) := by decide +kernel
theorem dX11_feed_31 : decode cX11_feed 31 = .ok (.invokevirtual 73, 3) := by decide +kernel
theorem dX11_feed_34 : decode cX11_feed 34 = .ok (.aload_n 0, 1) := by decide +kernel
theorem dX11_feed_35 : decode cX11_feed 35 = .ok (.iload 4, 2) := by decide +kernel
theorem dX11_feed_37 : decode cX11_feed 37 = .ok (.invokevirtual 73, 3) := by decide +kernel
theorem dX11_feed_40 : decode cX11_feed 40 = .ok (.aload_n 0, 1) := by decide +kernel
theorem dX11_feed_41 : decode cX11_feed 41 = .ok (.iload 5, 2) := by decide +kernel
theorem dX11_feed_43 : decode cX11_feed 43 = .ok (.invokevirtual 73, 3) := by decide +kernel
theorem dX11_feed_46 : decode cX11_feed 46 = .ok (.aload_n 0, 1) := by decide +kernel
theorem dX11_feed_47 : decode cX11_feed 47 = .ok (.getfield 66, 3) := by decide +kernel
theorem dX11_feed_50 : decode cX11_feed 50 = .ok (.ireturn, 1) := by decide +kernel
abbrev rm_CK_feed : Room := { frames := 1, cells := 0, slots := 0, locals := 22 }
def CK_feed (σ : Sg) (x1 : Int32) (x2 : Int32) (x3 : Int32) (x4 : Int32) (x5 : Int32) : Option (Int32 × Sg) :=
  zgt σ 0 1 fun v1 =>
  if (v1 + 20) ≤ 1600 then (
    (CK_putNumber σ x1).bind fun r21 =>
    (CK_putNumber r21 x2).bind fun r26 =>
    (CK_putNumber r26 x3).bind fun r31 =>
    (CK_putNumber r31 x4).bind fun r37 =>
    (CK_putNumber r37 x5).bind fun r43 =>
    zgt r43 0 1 fun v47 =>
    some (v47, r43)
  ) else (
    (CK_refuse σ 0).bind fun r15 =>
    some (r15.1, r15.2)
  )
set_option maxRecDepth 20000 in
theorem t_CK_feed {X : Zx} {Q : State → Prop} {σ : Sg} {x1 : Int32} {x2 : Int32} {x3 : Int32} {x4 : Int32} {x5 : Int32} (ok : Zok X cX11_feed RX11 rm_CK_feed 198 6)  {out : (Int32 × Sg)} (hf : CK_feed σ x1 x2 x3 x4 x5 = some out) (hk : ZrI cX11_feed X Q out.1 out.2) : ZAt X Q 0 0 0 σ [(0, .ref (X.ad 0)), (1, .int x1), (2, .int x2), (3, .int x3), (4, .int x4), (5, .int x5)] [] := by
  unfold CK_feed at hf
  refine z_aload_n ok dX11_feed_0 0 rfl ?_
  refine z_geti ok kc_0 zc_11 hin_11 1 (by decide) fl_11_66 rfl dX11_feed_1 hf (fun v1 hf => ?_)
  refine z_bipush (v := 20) ok dX11_feed_4 (by decide) ?_
  refine z_iadd ok dX11_feed_6 ?_
  refine z_sipush (v := 1600) ok dX11_feed_7 (by decide) ?_
  refine z_icmp_le (tgt := 19) ok dX11_feed_10 (by decide) hf (fun _ hf => ?_) (fun _ hf => ?_)
  · refine z_aload_n ok dX11_feed_19 0 rfl ?_
    refine z_iload_n ok dX11_feed_20 1 rfl ?_
    refine z_call hf (fun r21 h21 hf => ?_)
    refine z_cVv (As := [.int x1]) (rest := []) (w := 0) ok kc_0 zc_11 (c_CK_putNumber h21) rfl ⟨ml_11_73, w_CK_putNumber⟩ hy_CK_putNumber ⟨rfl, rfl⟩ ⟨Nat.le_of_ble_eq_true rfl, Nat.le_of_ble_eq_true rfl⟩ ⟨Nat.zero_le _, Nat.zero_le _⟩ rfl (Nat.le_of_ble_eq_true rfl) dX11_feed_21 ?_
    refine z_aload_n ok dX11_feed_24 0 rfl ?_
    refine z_iload_n ok dX11_feed_25 2 rfl ?_
    refine z_call hf (fun r26 h26 hf => ?_)
    refine z_cVv (As := [.int x2]) (rest := []) (w := 0) ok kc_0 zc_11 (c_CK_putNumber h26) rfl ⟨ml_11_73, w_CK_putNumber⟩ hy_CK_putNumber ⟨rfl, rfl⟩ ⟨Nat.le_of_ble_eq_true rfl, Nat.le_of_ble_eq_true rfl⟩ ⟨Nat.zero_le _, Nat.zero_le _⟩ rfl (Nat.le_of_ble_eq_true rfl) dX11_feed_26 ?_
    refine z_aload_n ok dX11_feed_29 0 rfl ?_
    refine z_iload_n ok dX11_feed_30 3 rfl ?_
    refine z_call hf (fun r31 h31 hf => ?_)
    refine z_cVv (As := [.int x3]) (rest := []) (w := 0) ok kc_0 zc_11 (c_CK_putNumber h31) rfl ⟨ml_11_73, w_CK_putNumber⟩ hy_CK_putNumber ⟨rfl, rfl⟩ ⟨Nat.le_of_ble_eq_true rfl, Nat.le_of_ble_eq_true rfl⟩ ⟨Nat.zero_le _, Nat.zero_le _⟩ rfl (Nat.le_of_ble_eq_true rfl) dX11_feed_31 ?_
    refine z_aload_n ok dX11_feed_34 0 rfl ?_
    refine z_iload ok dX11_feed_35 4 rfl ?_
    refine z_call hf (fun r37 h37 hf => ?_)
    refine z_cVv (As := [.int x4]) (rest := []) (w := 0) ok kc_0 zc_11 (c_CK_putNumber h37) rfl ⟨ml_11_73, w_CK_putNumber⟩ hy_CK_putNumber ⟨rfl, rfl⟩ ⟨Nat.le_of_ble_eq_true rfl, Nat.le_of_ble_eq_true rfl⟩ ⟨Nat.zero_le _, Nat.zero_le _⟩ rfl (Nat.le_of_ble_eq_true rfl) dX11_feed_37 ?_
    refine z_aload_n ok dX11_feed_40 0 rfl ?_
    refine z_iload ok dX11_feed_41 5 rfl ?_
    refine z_call hf (fun r43 h43 hf => ?_)
    refine z_cVv (As := [.int x5]) (rest := []) (w := 0) ok kc_0 zc_11 (c_CK_putNumber h43) rfl ⟨ml_11_73, w_CK_putNumber⟩ hy_CK_putNumber ⟨rfl, rfl⟩ ⟨Nat.le_of_ble_eq_true rfl, Nat.le_of_ble_eq_true rfl⟩ ⟨Nat.zero_le _, Nat.zero_le _⟩ rfl (Nat.le_of_ble_eq_true rfl) dX11_feed_43 ?_
    refine z_aload_n ok dX11_feed_46 0 rfl ?_
    refine z_geti ok kc_0 zc_11 hin_11 1 (by decide) fl_11_66 rfl dX11_feed_47 hf (fun v47 hf => ?_)
    obtain rfl := Option.some.inj hf
    exact hk _ _ dX11_feed_50
  · refine z_aload_n ok dX11_feed_13 0 rfl ?_
    refine z_iconst (v := 0) ok dX11_feed_14 (by decide) ?_
    refine z_call hf (fun r15 h15 hf => ?_)
    refine z_cV (As := [.int 0]) (rest := []) (w := 0) ok kc_0 zc_11 (c_CK_refuse h15) rfl ⟨ml_11_69, w_CK_refuse⟩ hy_CK_refuse ⟨rfl, rfl⟩ ⟨Nat.le_of_ble_eq_true rfl, Nat.le_of_ble_eq_true rfl⟩ ⟨Nat.zero_le _, Nat.zero_le _⟩ rfl (Nat.le_of_ble_eq_true rfl) dX11_feed_15 ?_
    obtain rfl := Option.some.inj hf
    exact hk _ _ dX11_feed_18
theorem c_CK_feed {σ : Sg} {x1 : Int32} {x2 : Int32} {x3 : Int32} {x4 : Int32} {x5 : Int32} {r : (Int32 × Sg)} (h : CK_feed σ x1 x2 x3 x4 x5 = some r) : ZcI yX11_feed cX11_feed 6 .int rm_CK_feed 198 (fun ad => [.ref (ad 0), .int x1, .int x2, .int x3, .int x4, .int x5]) σ r.1 r.2 :=
  zmetI pn_11 rfl (fun _ => rfl) (fun _ => Nat.le_of_ble_eq_true rfl) rfl (fun X Q ok hk => t_CK_feed ok h hk)
theorem dX11_deny_0 : decode cX11_deny 0 = .ok (.aload_n 0, 1) := by decide +kernel
theorem dX11_deny_1 : decode cX11_deny 1 = .ok (.getfield 62, 3) := by decide +kernel
theorem dX11_deny_4 : decode cX11_deny 4 = .ok (.iload_n 1, 1) := by decide +kernel
theorem dX11_deny_5 : decode cX11_deny 5 = .ok (.dup2, 1) := by decide +kernel
theorem dX11_deny_6 : decode cX11_deny 6 = .ok (.iaload, 1) := by decide +kernel
theorem dX11_deny_7 : decode cX11_deny 7 = .ok (.iconst 1, 1) := by decide +kernel
theorem dX11_deny_8 : decode cX11_deny 8 = .ok (.iadd, 1) := by decide +kernel
theorem dX11_deny_9 : decode cX11_deny 9 = .ok (.iastore, 1) := by decide +kernel
theorem dX11_deny_10 : decode cX11_deny 10 = .ok (.iconst 0, 1) := by decide +kernel
theorem dX11_deny_11 : decode cX11_deny 11 = .ok (.ireturn, 1) := by decide +kernel
abbrev rm_CK_deny : Room := { frames := 0, cells := 0, slots := 0, locals := 0 }
def CK_deny (σ : Sg) (x1 : Int32) : Option (Bool × Sg) :=
  zrd σ 170 6 x1 fun v6 =>
  zwr σ 170 6 x1 (v6 + 1) fun σ9 =>
  some (false, σ9)
set_option maxRecDepth 20000 in
theorem t_CK_deny {X : Zx} {Q : State → Prop} {σ : Sg} {x1 : Int32} (ok : Zok X cX11_deny RX11 rm_CK_deny 198 2)  {out : (Bool × Sg)} (hf : CK_deny σ x1 = some out) (hk : ZrI cX11_deny X Q (zb out.1) out.2) : ZAt X Q 0 0 0 σ [(0, .ref (X.ad 0)), (1, .int x1)] [] := by
  unfold CK_deny at hf
  refine z_aload_n ok dX11_deny_0 0 rfl ?_
  refine z_getr (q := 170) ok kc_0 zc_11 hin_11 15 (by decide) fl_11_62 rfl dX11_deny_1 ?_
  refine z_iload_n ok dX11_deny_4 1 rfl ?_
  refine z_dup2 ok dX11_deny_5 rfl rfl ?_
  refine z_iald ok kc_170 dX11_deny_6 hf (fun v6 hf => ?_)
  refine z_iconst (v := 1) ok dX11_deny_7 (by decide) ?_
  refine z_iadd ok dX11_deny_8 ?_
  refine z_iast ok kc_170 dX11_deny_9 hf (fun σ9 hf => ?_)
  refine z_iconst (v := 0) ok dX11_deny_10 (by decide) ?_
  obtain rfl := Option.some.inj hf
  exact hk _ _ dX11_deny_11
theorem c_CK_deny {σ : Sg} {x1 : Int32} {r : (Bool × Sg)} (h : CK_deny σ x1 = some r) : ZcI yX11_deny cX11_deny 2 .boolean rm_CK_deny 198 (fun ad => [.ref (ad 0), .int x1]) σ (zb r.1) r.2 :=
  zmetI pn_11 rfl (fun _ => rfl) (fun _ => Nat.le_of_ble_eq_true rfl) (zb_nar _) (fun X Q ok hk => t_CK_deny ok h hk)
theorem dX11_end_0 : decode cX11_end 0 = .ok (.iload_n 1, 1) := by decide +kernel
theorem dX11_end_1 : decode cX11_end 1 = .ok (.ifCond .lt 11, 3) := by decide +kernel
theorem dX11_end_4 : decode cX11_end 4 = .ok (.iload_n 1, 1) := by decide +kernel
theorem dX11_end_5 : decode cX11_end 5 = .ok (.aload_n 0, 1) := by decide +kernel
theorem dX11_end_6 : decode cX11_end 6 = .ok (.getfield 66, 3) := by decide +kernel
theorem dX11_end_9 : decode cX11_end 9 = .ok (.if_icmp .le 9, 3) := by decide +kernel
theorem dX11_end_12 : decode cX11_end 12 = .ok (.aload_n 0, 1) := by decide +kernel
theorem dX11_end_13 : decode cX11_end 13 = .ok (.iconst 0, 1) := by decide +kernel
theorem dX11_end_14 : decode cX11_end 14 = .ok (.invokevirtual 77, 3) := by decide +kernel
theorem dX11_end_17 : decode cX11_end 17 = .ok (.ireturn, 1) := by decide +kernel
theorem dX11_end_18 : decode cX11_end 18 = .ok (.aload_n 0, 1) := by decide +kernel
theorem dX11_end_19 : decode cX11_end 19 = .ok (.iload_n 1, 1) := by decide +kernel
theorem dX11_end_20 : decode cX11_end 20 = .ok (.putfield 66, 3) := by decide +kernel
theorem dX11_end_23 : decode cX11_end 23 = .ok (.iconst 1, 1) := by decide +kernel
theorem dX11_end_24 : decode cX11_end 24 = .ok (.ireturn, 1) := by decide +kernel
abbrev rm_CK_end : Room := { frames := 1, cells := 0, slots := 0, locals := 21 }
def CK_end (σ : Sg) (x1 : Int32) : Option (Bool × Sg) :=
  if x1 < 0 then (
    (CK_deny σ 0).bind fun r14 =>
    some (r14.1, r14.2)
  ) else (
    zgt σ 0 1 fun v6 =>
    if x1 ≤ v6 then (
      zpt σ 0 1 x1 fun σ20 =>
      some (true, σ20)
    ) else (
      (CK_deny σ 0).bind fun r14 =>
      some (r14.1, r14.2)
    )
  )
set_option maxRecDepth 20000 in
theorem t_CK_end {X : Zx} {Q : State → Prop} {σ : Sg} {x1 : Int32} (ok : Zok X cX11_end RX11 rm_CK_end 198 2)  {out : (Bool × Sg)} (hf : CK_end σ x1 = some out) (hk : ZrI cX11_end X Q (zb out.1) out.2) : ZAt X Q 0 0 0 σ [(0, .ref (X.ad 0)), (1, .int x1)] [] := by
  unfold CK_end at hf
  refine z_iload_n ok dX11_end_0 1 rfl ?_
  refine z_if_lt (tgt := 12) ok dX11_end_1 (by decide) hf (fun _ hf => ?_) (fun _ hf => ?_)
  · refine z_aload_n ok dX11_end_12 0 rfl ?_
    refine z_iconst (v := 0) ok dX11_end_13 (by decide) ?_
    refine z_call hf (fun r14 h14 hf => ?_)
    refine z_cV (As := [.int 0]) (rest := []) (w := 0) ok kc_0 zc_11 (c_CK_deny h14) rfl ⟨ml_11_77, w_CK_deny⟩ hy_CK_deny ⟨rfl, rfl⟩ ⟨Nat.le_of_ble_eq_true rfl, Nat.le_of_ble_eq_true rfl⟩ ⟨Nat.zero_le _, Nat.zero_le _⟩ rfl (Nat.le_of_ble_eq_true rfl) dX11_end_14 ?_
    obtain rfl := Option.some.inj hf
    exact hk _ _ dX11_end_17
  · refine z_iload_n ok dX11_end_4 1 rfl ?_
    refine z_aload_n ok dX11_end_5 0 rfl ?_
    refine z_geti ok kc_0 zc_11 hin_11 1 (by decide) fl_11_66 rfl dX11_end_6 hf (fun v6 hf => ?_)
    refine z_icmp_le (tgt := 18) ok dX11_end_9 (by decide) hf (fun _ hf => ?_) (fun _ hf => ?_)
    · refine z_aload_n ok dX11_end_18 0 rfl ?_
      refine z_iload_n ok dX11_end_19 1 rfl ?_
      refine z_puti ok kc_0 zc_11 hin_11 tyX11 tyX11_ok nmX11 1 (by decide) fl_11_66 rfl rfl (tyX11_ok 1 (by decide)) dX11_end_20 hf (fun σ20 hf => ?_)
      refine z_iconst (v := 1) ok dX11_end_23 (by decide) ?_
      obtain rfl := Option.some.inj hf
      exact hk _ _ dX11_end_24
    · refine z_aload_n ok dX11_end_12 0 rfl ?_
      refine z_iconst (v := 0) ok dX11_end_13 (by decide) ?_
      refine z_call hf (fun r14 h14 hf => ?_)
      refine z_cV (As := [.int 0]) (rest := []) (w := 0) ok kc_0 zc_11 (c_CK_deny h14) rfl ⟨ml_11_77, w_CK_deny⟩ hy_CK_deny ⟨rfl, rfl⟩ ⟨Nat.le_of_ble_eq_true rfl, Nat.le_of_ble_eq_true rfl⟩ ⟨Nat.zero_le _, Nat.zero_le _⟩ rfl (Nat.le_of_ble_eq_true rfl) dX11_end_14 ?_
      obtain rfl := Option.some.inj hf
      exact hk _ _ dX11_end_17
theorem c_CK_end {σ : Sg} {x1 : Int32} {r : (Bool × Sg)} (h : CK_end σ x1 = some r) : ZcI yX11_end cX11_end 2 .boolean rm_CK_end 198 (fun ad => [.ref (ad 0), .int x1]) σ (zb r.1) r.2 :=
  zmetI pn_11 rfl (fun _ => rfl) (fun _ => Nat.le_of_ble_eq_true rfl) (zb_nar _) (fun X Q ok hk => t_CK_end ok h hk)
theorem dX10_clear_0 : decode cX10_clear 0 = .ok (.aload_n 0, 1) := by decide +kernel
theorem dX10_clear_1 : decode cX10_clear 1 = .ok (.iconst 0, 1) := by decide +kernel
theorem dX10_clear_2 : decode cX10_clear 2 = .ok (.putfield 46, 3) := by decide +kernel
theorem dX10_clear_5 : decode cX10_clear 5 = .ok (.aload_n 0, 1) := by decide +kernel
theorem dX10_clear_6 : decode cX10_clear 6 = .ok (.iconst 0, 1) := by decide +kernel
theorem dX10_clear_7 : decode cX10_clear 7 = .ok (.putfield 50, 3) := by decide +kernel
theorem dX10_clear_10 : decode cX10_clear 10 = .ok (.aload_n 0, 1) := by decide +kernel
theorem dX10_clear_11 : decode cX10_clear 11 = .ok (.iconst 4, 1) := by decide +kernel
theorem dX10_clear_12 : decode cX10_clear 12 = .ok (.putfield 53, 3) := by decide +kernel
theorem dX10_clear_15 : decode cX10_clear 15 = .ok (.aload_n 0, 1) := by decide +kernel
theorem dX10_clear_16 : decode cX10_clear 16 = .ok (.iconst 0, 1) := by decide +kernel
theorem dX10_clear_17 : decode cX10_clear 17 = .ok (.putfield 56, 3) := by decide +kernel
theorem dX10_clear_20 : decode cX10_clear 20 = .ok (.aload_n 0, 1) := by decide +kernel
theorem dX10_clear_21 : decode cX10_clear 21 = .ok (.iconst 0, 1) := by decide +kernel
theorem dX10_clear_22 : decode cX10_clear 22 = .ok (.putfield 59, 3) := by decide +kernel
theorem dX10_clear_25 : decode cX10_clear 25 = .ok (.aload_n 0, 1) := by decide +kernel
theorem dX10_clear_26 : decode cX10_clear 26 = .ok (.getfield 35, 3) := by decide +kernel
theorem dX10_clear_29 : decode cX10_clear 29 = .ok (.iconst 0, 1) := by decide +kernel
theorem dX10_clear_30 : decode cX10_clear 30 = .ok (.putfield 62, 3) := by decide +kernel
theorem dX10_clear_33 : decode cX10_clear 33 = .ok (.aload_n 0, 1) := by decide +kernel
theorem dX10_clear_34 : decode cX10_clear 34 = .ok (.getfield 42, 3) := by decide +kernel
theorem dX10_clear_37 : decode cX10_clear 37 = .ok (.iconst 0, 1) := by decide +kernel
theorem dX10_clear_38 : decode cX10_clear 38 = .ok (.putfield 65, 3) := by decide +kernel
theorem dX10_clear_41 : decode cX10_clear 41 = .ok (.return_, 1) := by decide +kernel
abbrev rm_Works_clear : Room := { frames := 0, cells := 0, slots := 0, locals := 0 }
def Works_clear (σ : Sg) (w : Nat) : Option Sg :=
  zpt σ w 0 0 fun σ2 =>
  zpt σ2 w 1 0 fun σ7 =>
  zpt σ7 w 2 4 fun σ12 =>
  zpt σ12 w 3 0 fun σ17 =>
  zpt σ17 w 7 0 fun σ22 =>
  zpt σ22 (w + 16) 0 0 fun σ30 =>
  zpt σ30 (w + 20) 0 0 fun σ38 =>
  some σ38
set_option maxRecDepth 20000 in
theorem t_Works_clear {X : Zx} {Q : State → Prop} {σ : Sg} {w : Nat} (ok : Zok X cX10_clear RX10 rm_Works_clear 198 1) (hw : zI_Works w 198) {out : Sg} (hf : Works_clear σ w = some out) (hk : ZrV cX10_clear X Q out) : ZAt X Q 0 0 0 σ [(0, .ref (X.ad w))] [] := by
  unfold Works_clear at hf
  obtain ⟨hw_0, hw_1, hw_2, hw_3, hw_4, hw_5, hw_6, hw_7, hw_8, hw_9, hw_10, hw_11, hw_12, hw_13, hw_14, hw_15, hw_16, hw_17, hw_18, hw_19, hw_20, hw_21, hw_22, hw_23, hw_24, hw_25⟩ := id hw
  refine z_aload_n ok dX10_clear_0 0 rfl ?_
  refine z_iconst (v := 0) ok dX10_clear_1 (by decide) ?_
  refine z_puti ok hw_0 zc_10 hin_10 tyX10 tyX10_ok nmX10 0 (by decide) fl_10_46 rfl rfl (tyX10_ok 0 (by decide)) dX10_clear_2 hf (fun σ2 hf => ?_)
  refine z_aload_n ok dX10_clear_5 0 rfl ?_
  refine z_iconst (v := 0) ok dX10_clear_6 (by decide) ?_
  refine z_puti ok hw_0 zc_10 hin_10 tyX10 tyX10_ok nmX10 1 (by decide) fl_10_50 rfl rfl (tyX10_ok 1 (by decide)) dX10_clear_7 hf (fun σ7 hf => ?_)
  refine z_aload_n ok dX10_clear_10 0 rfl ?_
  refine z_iconst (v := 4) ok dX10_clear_11 (by decide) ?_
  refine z_puti ok hw_0 zc_10 hin_10 tyX10 tyX10_ok nmX10 2 (by decide) fl_10_53 rfl rfl (tyX10_ok 2 (by decide)) dX10_clear_12 hf (fun σ12 hf => ?_)
  refine z_aload_n ok dX10_clear_15 0 rfl ?_
  refine z_iconst (v := 0) ok dX10_clear_16 (by decide) ?_
  refine z_puti ok hw_0 zc_10 hin_10 tyX10 tyX10_ok nmX10 3 (by decide) fl_10_56 rfl rfl (tyX10_ok 3 (by decide)) dX10_clear_17 hf (fun σ17 hf => ?_)
  refine z_aload_n ok dX10_clear_20 0 rfl ?_
  refine z_iconst (v := 0) ok dX10_clear_21 (by decide) ?_
  refine z_puti ok hw_0 zc_10 hin_10 tyX10 tyX10_ok nmX10 7 (by decide) fl_10_59 rfl rfl (tyX10_ok 7 (by decide)) dX10_clear_22 hf (fun σ22 hf => ?_)
  refine z_aload_n ok dX10_clear_25 0 rfl ?_
  refine z_getr (q := (w + 16)) ok hw_0 zc_10 hin_10 11 (by decide) fl_10_35 rfl dX10_clear_26 ?_
  refine z_iconst (v := 0) ok dX10_clear_29 (by decide) ?_
  refine z_puti ok hw_16 zc_3 hin_3 tyX3 tyX3_ok nmX3 0 (by decide) fl_10_62 rfl rfl (tyX3_ok 0 (by decide)) dX10_clear_30 hf (fun σ30 hf => ?_)
  refine z_aload_n ok dX10_clear_33 0 rfl ?_
  refine z_getr (q := (w + 20)) ok hw_0 zc_10 hin_10 12 (by decide) fl_10_42 rfl dX10_clear_34 ?_
  refine z_iconst (v := 0) ok dX10_clear_37 (by decide) ?_
  refine z_puti ok hw_20 zc_8 hin_8 tyX8 tyX8_ok nmX8 0 (by decide) fl_10_65 rfl rfl (tyX8_ok 0 (by decide)) dX10_clear_38 hf (fun σ38 hf => ?_)
  obtain rfl := Option.some.inj hf
  exact hk _ _ dX10_clear_41
theorem c_Works_clear {σ : Sg} {w : Nat} (hw : zI_Works w 198) {r : Sg} (h : Works_clear σ w = some r) : ZcV yX10_clear cX10_clear 1 rm_Works_clear 198 (fun ad => [.ref (ad w)]) σ r :=
  zmetV pn_10 rfl (fun _ => rfl) (fun _ => Nat.le_of_ble_eq_true rfl) (fun X Q ok hk => t_Works_clear ok hw h hk)
theorem dX5_skipBlanks_0 : decode cX5_skipBlanks 0 = .ok (.aload_n 0, 1) := by decide +kernel
theorem dX5_skipBlanks_1 : decode cX5_skipBlanks 1 = .ok (.getfield 28, 3) := by decide +kernel
theorem dX5_skipBlanks_4 : decode cX5_skipBlanks 4 = .ok (.aload_n 0, 1) := by decide +kernel
theorem dX5_skipBlanks_5 : decode cX5_skipBlanks 5 = .ok (.getfield 15, 3) := by decide +kernel
theorem dX5_skipBlanks_8 : decode cX5_skipBlanks 8 = .ok (.if_icmp .ge 49, 3) := by decide +kernel
theorem dX5_skipBlanks_11 : decode cX5_skipBlanks 11 = .ok (.aload_n 0, 1) := by decide +kernel
theorem dX5_skipBlanks_12 : decode cX5_skipBlanks 12 = .ok (.getfield 9, 3) := by decide +kernel
theorem dX5_skipBlanks_15 : decode cX5_skipBlanks 15 = .ok (.aload_n 0, 1) := by decide +kernel
theorem dX5_skipBlanks_16 : decode cX5_skipBlanks 16 = .ok (.getfield 28, 3) := by decide +kernel
theorem dX5_skipBlanks_19 : decode cX5_skipBlanks 19 = .ok (.baload, 1) := by decide +kernel
theorem dX5_skipBlanks_20 : decode cX5_skipBlanks 20 = .ok (.bipush 10, 2) := by decide +kernel
theorem dX5_skipBlanks_22 : decode cX5_skipBlanks 22 = .ok (.if_icmp .eq 17, 3) := by decide +kernel
theorem dX5_skipBlanks_25 : decode cX5_skipBlanks 25 = .ok (.aload_n 0, 1) := by decide +kernel
theorem dX5_skipBlanks_26 : decode cX5_skipBlanks 26 = .ok (.getfield 9, 3) := by decide +kernel
theorem dX5_skipBlanks_29 : decode cX5_skipBlanks 29 = .ok (.aload_n 0, 1) := by decide +kernel
theorem dX5_skipBlanks_30 : decode cX5_skipBlanks 30 = .ok (.getfield 28, 3) := by decide +kernel
theorem dX5_skipBlanks_33 : decode cX5_skipBlanks 33 = .ok (.baload, 1) := by decide +kernel
theorem dX5_skipBlanks_34 : decode cX5_skipBlanks 34 = .ok (.bipush 32, 2) := by decide +kernel
theorem dX5_skipBlanks_36 : decode cX5_skipBlanks 36 = .ok (.if_icmp .ne 21, 3) := by decide +kernel
theorem dX5_skipBlanks_39 : decode cX5_skipBlanks 39 = .ok (.aload_n 0, 1) := by decide +kernel
theorem dX5_skipBlanks_40 : decode cX5_skipBlanks 40 = .ok (.dup, 1) := by decide +kernel
theorem dX5_skipBlanks_41 : decode cX5_skipBlanks 41 = .ok (.getfield 28, 3) := by decide +kernel
theorem dX5_skipBlanks_44 : decode cX5_skipBlanks 44 = .ok (.iconst 1, 1) := by decide +kernel
theorem dX5_skipBlanks_45 : decode cX5_skipBlanks 45 = .ok (.iadd, 1) := by decide +kernel
theorem dX5_skipBlanks_46 : decode cX5_skipBlanks 46 = .ok (.putfield 28, 3) := by decide +kernel
theorem dX5_skipBlanks_49 : decode cX5_skipBlanks 49 = .ok (.aload_n 0, 1) := by decide +kernel
theorem dX5_skipBlanks_50 : decode cX5_skipBlanks 50 = .ok (.iconst 0, 1) := by decide +kernel
theorem dX5_skipBlanks_51 : decode cX5_skipBlanks 51 = .ok (.putfield 31, 3) := by decide +kernel
theorem dX5_skipBlanks_54 : decode cX5_skipBlanks 54 = .ok (.goto (-54), 3) := by decide +kernel
theorem dX5_skipBlanks_57 : decode cX5_skipBlanks 57 = .ok (.return_, 1) := by decide +kernel
abbrev rm_Reader_skipBlanks : Room := { frames := 0, cells := 0, slots := 0, locals := 0 }
def Reader_skipBlanks_l0 (σ : Sg)  : Option (Sg ⊕ Sg) :=
  zgt σ 2 2 fun v1 =>
  zgt σ 2 1 fun v5 =>
  if v5 ≤ v1 then (
    some (.inr σ)
  ) else (
    zmr1 1 (σ 2 0) <|
    zgt σ 2 2 fun v16 =>
    zrd σ 1 1600 v16 fun v19 =>
    if v19 = 10 then (
      zgt σ 2 2 fun v41 =>
      zpt σ 2 2 (v41 + 1) fun σ46 =>
      zbo 0 <| zpt σ46 2 3 0 fun σ51 =>
      some (.inl σ51)
    ) else (
      zmr1 1 (σ 2 0) <|
      zgt σ 2 2 fun v30 =>
      zrd σ 1 1600 v30 fun v33 =>
      if v33 = 32 then (
        zgt σ 2 2 fun v41 =>
        zpt σ 2 2 (v41 + 1) fun σ46 =>
        zbo 0 <| zpt σ46 2 3 0 fun σ51 =>
        some (.inl σ51)
      ) else (
        some (.inr σ)
      )
    )
  )
set_option maxRecDepth 20000 in
theorem t_Reader_skipBlanks_l0 {X : Zx} {Q : State → Prop} {σ : Sg}  (ok : Zok X cX5_skipBlanks RX5 rm_Reader_skipBlanks 198 1)  {out : (Sg ⊕ Sg)} (hf : Reader_skipBlanks_l0 σ = some out) (hk : zout (fun (s : Sg) => ZAt X Q 0 0 0 s [(0, .ref (X.ad 2))] []) (fun (s : Sg) => ZAt X Q 0 0 57 s [] []) out) : ZAt X Q 0 0 0 σ [(0, .ref (X.ad 2))] [] := by
  unfold Reader_skipBlanks_l0 at hf
  refine z_aload_n ok dX5_skipBlanks_0 0 rfl ?_
  refine z_geti ok kc_2 zc_5 hin_5 2 (by decide) fl_5_28 rfl dX5_skipBlanks_1 hf (fun v1 hf => ?_)
  refine z_aload_n ok dX5_skipBlanks_4 0 rfl ?_
  refine z_geti ok kc_2 zc_5 hin_5 1 (by decide) fl_5_15 rfl dX5_skipBlanks_5 hf (fun v5 hf => ?_)
  refine z_icmp_ge (tgt := 57) ok dX5_skipBlanks_8 (by decide) hf (fun _ hf => ?_) (fun _ hf => ?_)
  · obtain rfl := Option.some.inj hf
    exact z_sub [] rfl hk
  · refine z_aload_n ok dX5_skipBlanks_11 0 rfl ?_
    refine z_getm1 (p := 1) ok kc_2 zc_5 hin_5 0 (by decide) fl_5_9 rfl (by decide) dX5_skipBlanks_12 hf (fun hf => ?_)
    refine z_aload_n ok dX5_skipBlanks_15 0 rfl ?_
    refine z_geti ok kc_2 zc_5 hin_5 2 (by decide) fl_5_28 rfl dX5_skipBlanks_16 hf (fun v16 hf => ?_)
    refine z_bald ok kc_1 dX5_skipBlanks_19 hf (fun v19 hf => ?_)
    refine z_bipush (v := 10) ok dX5_skipBlanks_20 (by decide) ?_
    refine z_icmp_eq (tgt := 39) ok dX5_skipBlanks_22 (by decide) hf (fun _ hf => ?_) (fun _ hf => ?_)
    · refine z_aload_n ok dX5_skipBlanks_39 0 rfl ?_
      refine z_dup ok dX5_skipBlanks_40 rfl ?_
      refine z_geti ok kc_2 zc_5 hin_5 2 (by decide) fl_5_28 rfl dX5_skipBlanks_41 hf (fun v41 hf => ?_)
      refine z_iconst (v := 1) ok dX5_skipBlanks_44 (by decide) ?_
      refine z_iadd ok dX5_skipBlanks_45 ?_
      refine z_puti ok kc_2 zc_5 hin_5 tyX5 tyX5_ok nmX5 2 (by decide) fl_5_28 rfl rfl (tyX5_ok 2 (by decide)) dX5_skipBlanks_46 hf (fun σ46 hf => ?_)
      refine z_aload_n ok dX5_skipBlanks_49 0 rfl ?_
      refine z_iconst (v := 0) ok dX5_skipBlanks_50 (by decide) ?_
      refine z_putz ok kc_2 zc_5 hin_5 tyX5 tyX5_ok nmX5 3 (by decide) fl_5_31 rfl rfl (tyX5_ok 3 (by decide)) dX5_skipBlanks_51 hf (fun σ51 hf => ?_)
      refine z_goto (tgt := 0) ok dX5_skipBlanks_54 (by decide) ?_
      obtain rfl := Option.some.inj hf
      exact z_sub [0] rfl hk
    · refine z_aload_n ok dX5_skipBlanks_25 0 rfl ?_
      refine z_getm1 (p := 1) ok kc_2 zc_5 hin_5 0 (by decide) fl_5_9 rfl (by decide) dX5_skipBlanks_26 hf (fun hf => ?_)
      refine z_aload_n ok dX5_skipBlanks_29 0 rfl ?_
      refine z_geti ok kc_2 zc_5 hin_5 2 (by decide) fl_5_28 rfl dX5_skipBlanks_30 hf (fun v30 hf => ?_)
      refine z_bald ok kc_1 dX5_skipBlanks_33 hf (fun v33 hf => ?_)
      refine z_bipush (v := 32) ok dX5_skipBlanks_34 (by decide) ?_
      refine z_icmp_ne (tgt := 57) ok dX5_skipBlanks_36 (by decide) hf (fun _ hf => ?_) (fun _ hf => ?_)
      · refine z_aload_n ok dX5_skipBlanks_39 0 rfl ?_
        refine z_dup ok dX5_skipBlanks_40 rfl ?_
        refine z_geti ok kc_2 zc_5 hin_5 2 (by decide) fl_5_28 rfl dX5_skipBlanks_41 hf (fun v41 hf => ?_)
        refine z_iconst (v := 1) ok dX5_skipBlanks_44 (by decide) ?_
        refine z_iadd ok dX5_skipBlanks_45 ?_
        refine z_puti ok kc_2 zc_5 hin_5 tyX5 tyX5_ok nmX5 2 (by decide) fl_5_28 rfl rfl (tyX5_ok 2 (by decide)) dX5_skipBlanks_46 hf (fun σ46 hf => ?_)
        refine z_aload_n ok dX5_skipBlanks_49 0 rfl ?_
        refine z_iconst (v := 0) ok dX5_skipBlanks_50 (by decide) ?_
        refine z_putz ok kc_2 zc_5 hin_5 tyX5 tyX5_ok nmX5 3 (by decide) fl_5_31 rfl rfl (tyX5_ok 3 (by decide)) dX5_skipBlanks_51 hf (fun σ51 hf => ?_)
        refine z_goto (tgt := 0) ok dX5_skipBlanks_54 (by decide) ?_
        obtain rfl := Option.some.inj hf
        exact z_sub [0] rfl hk
      · obtain rfl := Option.some.inj hf
        exact z_sub [] rfl hk
def Reader_skipBlanks_j39 (σ : Sg)  : Option Sg :=
  zgt σ 2 2 fun v41 =>
  zpt σ 2 2 (v41 + 1) fun σ46 =>
  zbo 0 <| zpt σ46 2 3 0 fun σ51 =>
  (zit (fun (s : Sg) => Reader_skipBlanks_l0 s) zFU σ51).bind fun r =>
  some r
set_option maxRecDepth 20000 in
theorem t_Reader_skipBlanks_j39 {X : Zx} {Q : State → Prop} {σ : Sg}  (ok : Zok X cX5_skipBlanks RX5 rm_Reader_skipBlanks 198 1)  {out : Sg} (hf : Reader_skipBlanks_j39 σ = some out) (hk : ZrV cX5_skipBlanks X Q out) : ZAt X Q 0 0 39 σ [(0, .ref (X.ad 2))] [] := by
  unfold Reader_skipBlanks_j39 at hf
  refine z_aload_n ok dX5_skipBlanks_39 0 rfl ?_
  refine z_dup ok dX5_skipBlanks_40 rfl ?_
  refine z_geti ok kc_2 zc_5 hin_5 2 (by decide) fl_5_28 rfl dX5_skipBlanks_41 hf (fun v41 hf => ?_)
  refine z_iconst (v := 1) ok dX5_skipBlanks_44 (by decide) ?_
  refine z_iadd ok dX5_skipBlanks_45 ?_
  refine z_puti ok kc_2 zc_5 hin_5 tyX5 tyX5_ok nmX5 2 (by decide) fl_5_28 rfl rfl (tyX5_ok 2 (by decide)) dX5_skipBlanks_46 hf (fun σ46 hf => ?_)
  refine z_aload_n ok dX5_skipBlanks_49 0 rfl ?_
  refine z_iconst (v := 0) ok dX5_skipBlanks_50 (by decide) ?_
  refine z_putz ok kc_2 zc_5 hin_5 tyX5 tyX5_ok nmX5 3 (by decide) fl_5_31 rfl rfl (tyX5_ok 3 (by decide)) dX5_skipBlanks_51 hf (fun σ51 hf => ?_)
  refine z_goto (tgt := 0) ok dX5_skipBlanks_54 (by decide) ?_
  refine z_call hf (fun r hr hf => ?_)
  refine z_sub [0] rfl (z_iter (fun (s : Sg) => s) (fun (s : Sg) => [(0, .ref (X.ad 2))]) (fun s o h1 h2 => t_Reader_skipBlanks_l0 ok h1 h2) _ _ _ hr ?_)
  show ZAt X Q 0 0 57 r [] []
  obtain rfl := Option.some.inj hf
  exact hk _ _ dX5_skipBlanks_57
def Reader_skipBlanks (σ : Sg)  : Option Sg :=
  zgt σ 2 2 fun v1 =>
  zgt σ 2 1 fun v5 =>
  if v5 ≤ v1 then (
    some σ
  ) else (
    zmr1 1 (σ 2 0) <|
    zgt σ 2 2 fun v16 =>
    zrd σ 1 1600 v16 fun v19 =>
    if v19 = 10 then (
      Reader_skipBlanks_j39 σ
    ) else (
      zmr1 1 (σ 2 0) <|
      zgt σ 2 2 fun v30 =>
      zrd σ 1 1600 v30 fun v33 =>
      if v33 = 32 then (
        Reader_skipBlanks_j39 σ
      ) else (
        some σ
      )
    )
  )
set_option maxRecDepth 20000 in
theorem t_Reader_skipBlanks {X : Zx} {Q : State → Prop} {σ : Sg}  (ok : Zok X cX5_skipBlanks RX5 rm_Reader_skipBlanks 198 1)  {out : Sg} (hf : Reader_skipBlanks σ = some out) (hk : ZrV cX5_skipBlanks X Q out) : ZAt X Q 0 0 0 σ [(0, .ref (X.ad 2))] [] := by
  unfold Reader_skipBlanks at hf
  refine z_aload_n ok dX5_skipBlanks_0 0 rfl ?_
  refine z_geti ok kc_2 zc_5 hin_5 2 (by decide) fl_5_28 rfl dX5_skipBlanks_1 hf (fun v1 hf => ?_)
  refine z_aload_n ok dX5_skipBlanks_4 0 rfl ?_
  refine z_geti ok kc_2 zc_5 hin_5 1 (by decide) fl_5_15 rfl dX5_skipBlanks_5 hf (fun v5 hf => ?_)
  refine z_icmp_ge (tgt := 57) ok dX5_skipBlanks_8 (by decide) hf (fun _ hf => ?_) (fun _ hf => ?_)
  · obtain rfl := Option.some.inj hf
    exact hk _ _ dX5_skipBlanks_57
  · refine z_aload_n ok dX5_skipBlanks_11 0 rfl ?_
    refine z_getm1 (p := 1) ok kc_2 zc_5 hin_5 0 (by decide) fl_5_9 rfl (by decide) dX5_skipBlanks_12 hf (fun hf => ?_)
    refine z_aload_n ok dX5_skipBlanks_15 0 rfl ?_
    refine z_geti ok kc_2 zc_5 hin_5 2 (by decide) fl_5_28 rfl dX5_skipBlanks_16 hf (fun v16 hf => ?_)
    refine z_bald ok kc_1 dX5_skipBlanks_19 hf (fun v19 hf => ?_)
    refine z_bipush (v := 10) ok dX5_skipBlanks_20 (by decide) ?_
    refine z_icmp_eq (tgt := 39) ok dX5_skipBlanks_22 (by decide) hf (fun _ hf => ?_) (fun _ hf => ?_)
    · exact z_sub [0] rfl (t_Reader_skipBlanks_j39 ok hf hk)
    · refine z_aload_n ok dX5_skipBlanks_25 0 rfl ?_
      refine z_getm1 (p := 1) ok kc_2 zc_5 hin_5 0 (by decide) fl_5_9 rfl (by decide) dX5_skipBlanks_26 hf (fun hf => ?_)
      refine z_aload_n ok dX5_skipBlanks_29 0 rfl ?_
      refine z_geti ok kc_2 zc_5 hin_5 2 (by decide) fl_5_28 rfl dX5_skipBlanks_30 hf (fun v30 hf => ?_)
      refine z_bald ok kc_1 dX5_skipBlanks_33 hf (fun v33 hf => ?_)
      refine z_bipush (v := 32) ok dX5_skipBlanks_34 (by decide) ?_
      refine z_icmp_ne (tgt := 57) ok dX5_skipBlanks_36 (by decide) hf (fun _ hf => ?_) (fun _ hf => ?_)
      · exact z_sub [0] rfl (t_Reader_skipBlanks_j39 ok hf hk)
      · obtain rfl := Option.some.inj hf
        exact hk _ _ dX5_skipBlanks_57
theorem c_Reader_skipBlanks {σ : Sg} {r : Sg} (h : Reader_skipBlanks σ = some r) : ZcV yX5_skipBlanks cX5_skipBlanks 1 rm_Reader_skipBlanks 198 (fun ad => [.ref (ad 2)]) σ r :=
  zmetV pn_5 rfl (fun _ => rfl) (fun _ => Nat.le_of_ble_eq_true rfl) (fun X Q ok hk => t_Reader_skipBlanks ok h hk)
theorem dX5_isLetter_0 : decode cX5_isLetter 0 = .ok (.iload_n 0, 1) := by decide +kernel
theorem dX5_isLetter_1 : decode cX5_isLetter 1 = .ok (.bipush 97, 2) := by decide +kernel
theorem dX5_isLetter_3 : decode cX5_isLetter 3 = .ok (.if_icmp .lt 13, 3) := by decide +kernel
theorem dX5_isLetter_6 : decode cX5_isLetter 6 = .ok (.iload_n 0, 1) := by decide +kernel
theorem dX5_isLetter_7 : decode cX5_isLetter 7 = .ok (.bipush 122, 2) := by decide +kernel
theorem dX5_isLetter_9 : decode cX5_isLetter 9 = .ok (.if_icmp .gt 7, 3) := by decide +kernel
theorem dX5_isLetter_12 : decode cX5_isLetter 12 = .ok (.iconst 1, 1) := by decide +kernel
theorem dX5_isLetter_13 : decode cX5_isLetter 13 = .ok (.goto 4, 3) := by decide +kernel
theorem dX5_isLetter_16 : decode cX5_isLetter 16 = .ok (.iconst 0, 1) := by decide +kernel
theorem dX5_isLetter_17 : decode cX5_isLetter 17 = .ok (.ireturn, 1) := by decide +kernel
abbrev rm_Reader_isLetter : Room := { frames := 0, cells := 0, slots := 0, locals := 0 }
def Reader_isLetter (x0 : Int32) : Option Bool :=
  if x0 < 97 then (
    some false
  ) else (
    if 122 < x0 then (
      some false
    ) else (
      some true
    )
  )
set_option maxRecDepth 20000 in
theorem t_Reader_isLetter {X : Zx} {Q : State → Prop} {σ : Sg} {x0 : Int32} (ok : Zok X cX5_isLetter RX5 rm_Reader_isLetter 198 1)  {out : Bool} (hf : Reader_isLetter x0 = some out) (hk : ZrI cX5_isLetter X Q (zb out) σ) : ZAt X Q 0 0 0 σ [(0, .int x0)] [] := by
  unfold Reader_isLetter at hf
  refine z_iload_n ok dX5_isLetter_0 0 rfl ?_
  refine z_bipush (v := 97) ok dX5_isLetter_1 (by decide) ?_
  refine z_icmp_lt (tgt := 16) ok dX5_isLetter_3 (by decide) hf (fun _ hf => ?_) (fun _ hf => ?_)
  · refine z_iconst (v := 0) ok dX5_isLetter_16 (by decide) ?_
    obtain rfl := Option.some.inj hf
    exact hk _ _ dX5_isLetter_17
  · refine z_iload_n ok dX5_isLetter_6 0 rfl ?_
    refine z_bipush (v := 122) ok dX5_isLetter_7 (by decide) ?_
    refine z_icmp_gt (tgt := 16) ok dX5_isLetter_9 (by decide) hf (fun _ hf => ?_) (fun _ hf => ?_)
    · refine z_iconst (v := 0) ok dX5_isLetter_16 (by decide) ?_
      obtain rfl := Option.some.inj hf
      exact hk _ _ dX5_isLetter_17
    · refine z_iconst (v := 1) ok dX5_isLetter_12 (by decide) ?_
      refine z_goto (tgt := 17) ok dX5_isLetter_13 (by decide) ?_
      obtain rfl := Option.some.inj hf
      exact hk _ _ dX5_isLetter_17
theorem c_Reader_isLetter {σ : Sg} {x0 : Int32} {r : Bool} (h : Reader_isLetter x0 = some r) : ZcI yX5_isLetter cX5_isLetter 1 .boolean rm_Reader_isLetter 198 (fun ad => [.int x0]) σ (zb r) σ :=
  zmetI pn_5 rfl (fun _ => rfl) (fun _ => Nat.le_of_ble_eq_true rfl) (zb_nar _) (fun X Q ok hk => t_Reader_isLetter ok h hk)
theorem dX5_wordEnd_0 : decode cX5_wordEnd 0 = .ok (.iload_n 1, 1) := by decide +kernel
theorem dX5_wordEnd_1 : decode cX5_wordEnd 1 = .ok (.istore_n 2, 1) := by decide +kernel
theorem dX5_wordEnd_2 : decode cX5_wordEnd 2 = .ok (.iload_n 2, 1) := by decide +kernel
theorem dX5_wordEnd_3 : decode cX5_wordEnd 3 = .ok (.aload_n 0, 1) := by decide +kernel
theorem dX5_wordEnd_4 : decode cX5_wordEnd 4 = .ok (.getfield 15, 3) := by decide +kernel
theorem dX5_wordEnd_7 : decode cX5_wordEnd 7 = .ok (.if_icmp .ge 21, 3) := by decide +kernel
theorem dX5_wordEnd_10 : decode cX5_wordEnd 10 = .ok (.aload_n 0, 1) := by decide +kernel
theorem dX5_wordEnd_11 : decode cX5_wordEnd 11 = .ok (.getfield 9, 3) := by decide +kernel
theorem dX5_wordEnd_14 : decode cX5_wordEnd 14 = .ok (.iload_n 2, 1) := by decide +kernel
theorem dX5_wordEnd_15 : decode cX5_wordEnd 15 = .ok (.baload, 1) := by decide +kernel
theorem dX5_wordEnd_16 : decode cX5_wordEnd 16 = .ok (.invokestatic 256, 3) := by decide +kernel
theorem dX5_wordEnd_19 : decode cX5_wordEnd 19 = .ok (.ifCond .eq 9, 3) := by decide +kernel
theorem dX5_wordEnd_22 : decode cX5_wordEnd 22 = .ok (.iinc 2 1, 3) := by decide +kernel
theorem dX5_wordEnd_25 : decode cX5_wordEnd 25 = .ok (.goto (-23), 3) := by decide +kernel
theorem dX5_wordEnd_28 : decode cX5_wordEnd 28 = .ok (.iload_n 2, 1) := by decide +kernel
theorem dX5_wordEnd_29 : decode cX5_wordEnd 29 = .ok (.ireturn, 1) := by decide +kernel
abbrev rm_Reader_wordEnd : Room := { frames := 1, cells := 0, slots := 0, locals := 20 }
def Reader_wordEnd_l2 (σ : Sg) (x2 : Int32) : Option (Int32 ⊕ Int32) :=
  zgt σ 2 1 fun v4 =>
  if v4 ≤ x2 then (
    some (.inr x2)
  ) else (
    zmr1 1 (σ 2 0) <|
    zrd σ 1 1600 x2 fun v15 =>
    (Reader_isLetter v15).bind fun r16 =>
    if (zb r16) = 0 then (
      some (.inr x2)
    ) else (
      zlt (x2 + 1) fun v22 =>
      some (.inl v22)
    )
  )
set_option maxRecDepth 20000 in
theorem t_Reader_wordEnd_l2 {X : Zx} {Q : State → Prop} {σ : Sg} {x2 : Int32} (ok : Zok X cX5_wordEnd RX5 rm_Reader_wordEnd 198 3)  {out : (Int32 ⊕ Int32)} (hf : Reader_wordEnd_l2 σ x2 = some out) (hk : zout (fun (s : Int32) => ZAt X Q 0 0 2 σ [(0, .ref (X.ad 2)), (2, .int s)] []) (fun (s : Int32) => ZAt X Q 0 0 28 σ [(2, .int s)] []) out) : ZAt X Q 0 0 2 σ [(0, .ref (X.ad 2)), (2, .int x2)] [] := by
  unfold Reader_wordEnd_l2 at hf
  refine z_iload_n ok dX5_wordEnd_2 1 rfl ?_
  refine z_aload_n ok dX5_wordEnd_3 0 rfl ?_
  refine z_geti ok kc_2 zc_5 hin_5 1 (by decide) fl_5_15 rfl dX5_wordEnd_4 hf (fun v4 hf => ?_)
  refine z_icmp_ge (tgt := 28) ok dX5_wordEnd_7 (by decide) hf (fun _ hf => ?_) (fun _ hf => ?_)
  · obtain rfl := Option.some.inj hf
    exact z_sub [1] rfl hk
  · refine z_aload_n ok dX5_wordEnd_10 0 rfl ?_
    refine z_getm1 (p := 1) ok kc_2 zc_5 hin_5 0 (by decide) fl_5_9 rfl (by decide) dX5_wordEnd_11 hf (fun hf => ?_)
    refine z_iload_n ok dX5_wordEnd_14 1 rfl ?_
    refine z_bald ok kc_1 dX5_wordEnd_15 hf (fun v15 hf => ?_)
    refine z_call hf (fun r16 h16 hf => ?_)
    refine z_cS (As := [.int v15]) (rest := []) ok (c_Reader_isLetter h16) rfl ⟨ml_5_256, w_Reader_isLetter⟩ hy_Reader_isLetter ⟨rfl, rfl⟩ ⟨Nat.le_of_ble_eq_true rfl, Nat.le_of_ble_eq_true rfl⟩ ⟨Nat.zero_le _, Nat.zero_le _⟩ rfl (Nat.le_of_ble_eq_true rfl) dX5_wordEnd_16 ?_
    refine z_if_eq (tgt := 28) ok dX5_wordEnd_19 (by decide) hf (fun _ hf => ?_) (fun _ hf => ?_)
    · obtain rfl := Option.some.inj hf
      exact z_sub [1] rfl hk
    · refine z_iinc (w := 1) (lv' := fun v22 => [(2, .int v22), (0, .ref (X.ad 2))]) ok dX5_wordEnd_22 1 rfl (by decide) (by decide) (fun _ => rfl) hf (fun v22 hf => ?_)
      refine z_goto (tgt := 2) ok dX5_wordEnd_25 (by decide) ?_
      obtain rfl := Option.some.inj hf
      exact z_sub [1, 0] rfl hk
def Reader_wordEnd (σ : Sg) (x1 : Int32) : Option Int32 :=
  (zit (fun (s : Int32) => Reader_wordEnd_l2 σ s) zFU x1).bind fun r =>
  some r
set_option maxRecDepth 20000 in
theorem t_Reader_wordEnd {X : Zx} {Q : State → Prop} {σ : Sg} {x1 : Int32} (ok : Zok X cX5_wordEnd RX5 rm_Reader_wordEnd 198 3)  {out : Int32} (hf : Reader_wordEnd σ x1 = some out) (hk : ZrI cX5_wordEnd X Q out σ) : ZAt X Q 0 0 0 σ [(0, .ref (X.ad 2)), (1, .int x1)] [] := by
  unfold Reader_wordEnd at hf
  refine z_iload_n ok dX5_wordEnd_0 1 rfl ?_
  refine z_istore_n (lv' := [(2, .int x1), (0, .ref (X.ad 2)), (1, .int x1)]) ok dX5_wordEnd_1 (by decide) rfl ?_
  refine z_call hf (fun r hr hf => ?_)
  refine z_sub [1, 0] rfl (z_iter (fun (s : Int32) => σ) (fun (s : Int32) => [(0, .ref (X.ad 2)), (2, .int s)]) (fun s o h1 h2 => t_Reader_wordEnd_l2 ok h1 h2) _ _ _ hr ?_)
  show ZAt X Q 0 0 28 σ [(2, .int r)] []
  refine z_iload_n ok dX5_wordEnd_28 0 rfl ?_
  obtain rfl := Option.some.inj hf
  exact hk _ _ dX5_wordEnd_29
theorem c_Reader_wordEnd {σ : Sg} {x1 : Int32} {r : Int32} (h : Reader_wordEnd σ x1 = some r) : ZcI yX5_wordEnd cX5_wordEnd 3 .int rm_Reader_wordEnd 198 (fun ad => [.ref (ad 2), .int x1]) σ r σ :=
  zmetI pn_5 rfl (fun _ => rfl) (fun _ => Nat.le_of_ble_eq_true rfl) rfl (fun X Q ok hk => t_Reader_wordEnd ok h hk)
theorem dX5_stands_0 : decode cX5_stands 0 = .ok (.aload_n 0, 1) := by decide +kernel
theorem dX5_stands_1 : decode cX5_stands 1 = .ok (.aload_n 0, 1) := by decide +kernel
theorem dX5_stands_2 : decode cX5_stands 2 = .ok (.getfield 28, 3) := by decide +kernel
theorem dX5_stands_5 : decode cX5_stands 5 = .ok (.invokevirtual 234, 3) := by decide +kernel
theorem dX5_stands_8 : decode cX5_stands 8 = .ok (.aload_n 0, 1) := by decide +kernel
theorem dX5_stands_9 : decode cX5_stands 9 = .ok (.getfield 28, 3) := by decide +kernel
theorem dX5_stands_12 : decode cX5_stands 12 = .ok (.aload_n 1, 1) := by decide +kernel
theorem dX5_stands_13 : decode cX5_stands 13 = .ok (.invokevirtual 248, 3) := by decide +kernel
theorem dX5_stands_16 : decode cX5_stands 16 = .ok (.iadd, 1) := by decide +kernel
theorem dX5_stands_17 : decode cX5_stands 17 = .ok (.if_icmp .eq 5, 3) := by decide +kernel
theorem dX5_stands_20 : decode cX5_stands 20 = .ok (.iconst 0, 1) := by decide +kernel
theorem dX5_stands_21 : decode cX5_stands 21 = .ok (.ireturn, 1) := by decide +kernel
theorem dX5_stands_22 : decode cX5_stands 22 = .ok (.iconst 0, 1) := by decide +kernel
theorem dX5_stands_23 : decode cX5_stands 23 = .ok (.istore_n 2, 1) := by decide +kernel
theorem dX5_stands_24 : decode cX5_stands 24 = .ok (.iload_n 2, 1) := by decide +kernel
theorem dX5_stands_25 : decode cX5_stands 25 = .ok (.aload_n 1, 1) := by decide +kernel
theorem dX5_stands_26 : decode cX5_stands 26 = .ok (.invokevirtual 248, 3) := by decide +kernel
theorem dX5_stands_29 : decode cX5_stands 29 = .ok (.if_icmp .ge 30, 3) := by decide +kernel
theorem dX5_stands_32 : decode cX5_stands 32 = .ok (.aload_n 0, 1) := by decide +kernel
theorem dX5_stands_33 : decode cX5_stands 33 = .ok (.getfield 9, 3) := by decide +kernel
theorem dX5_stands_36 : decode cX5_stands 36 = .ok (.aload_n 0, 1) := by decide +kernel
theorem dX5_stands_37 : decode cX5_stands 37 = .ok (.getfield 28, 3) := by decide +kernel
theorem dX5_stands_40 : decode cX5_stands 40 = .ok (.iload_n 2, 1) := by decide +kernel
theorem dX5_stands_41 : decode cX5_stands 41 = .ok (.iadd, 1) := by decide +kernel
theorem dX5_stands_42 : decode cX5_stands 42 = .ok (.baload, 1) := by decide +kernel
theorem dX5_stands_43 : decode cX5_stands 43 = .ok (.aload_n 1, 1) := by decide +kernel
theorem dX5_stands_44 : decode cX5_stands 44 = .ok (.iload_n 2, 1) := by decide +kernel
theorem dX5_stands_45 : decode cX5_stands 45 = .ok (.invokevirtual 252, 3) := by decide +kernel
theorem dX5_stands_48 : decode cX5_stands 48 = .ok (.if_icmp .eq 5, 3) := by decide +kernel
theorem dX5_stands_51 : decode cX5_stands 51 = .ok (.iconst 0, 1) := by decide +kernel
theorem dX5_stands_52 : decode cX5_stands 52 = .ok (.ireturn, 1) := by decide +kernel
theorem dX5_stands_53 : decode cX5_stands 53 = .ok (.iinc 2 1, 3) := by decide +kernel
theorem dX5_stands_56 : decode cX5_stands 56 = .ok (.goto (-32), 3) := by decide +kernel
theorem dX5_stands_59 : decode cX5_stands 59 = .ok (.iconst 1, 1) := by decide +kernel
theorem dX5_stands_60 : decode cX5_stands 60 = .ok (.ireturn, 1) := by decide +kernel
abbrev rm_Reader_stands : Room := { frames := 4, cells := 0, slots := 0, locals := 85 }
def Reader_stands_l24 (σ : Sg) (k1 : Nat) (x2 : Int32) : Option (Int32 ⊕ (Bool ⊕ Int32)) :=
  if (zSL k1) ≤ x2 then (
    some (.inr (.inr x2))
  ) else (
    zmr1 1 (σ 2 0) <|
    zgt σ 2 2 fun v37 =>
    zrd σ 1 1600 (v37 + x2) fun v42 =>
    zsc k1 x2 fun v45 =>
    if v42 = v45 then (
      zlt (x2 + 1) fun v53 =>
      some (.inl v53)
    ) else (
      some (.inr (.inl false))
    )
  )
set_option maxRecDepth 20000 in
theorem t_Reader_stands_l24 {X : Zx} {Q : State → Prop} {σ : Sg} {k1 : Nat} {x2 : Int32} (ok : Zok X cX5_stands RX5 rm_Reader_stands 198 3) (hk1 : k1 < 21) {out : (Int32 ⊕ (Bool ⊕ Int32))} (hf : Reader_stands_l24 σ k1 x2 = some out) (hk : zout (fun (s : Int32) => ZAt X Q 0 0 24 σ [(0, .ref (X.ad 2)), (1, .ref (X.ad (1000000 + k1))), (2, .int s)] []) (zout (fun (r : Bool) => ZrI cX5_stands X Q (zb r) σ) (fun (s : Int32) => ZAt X Q 0 0 59 σ [] [])) out) : ZAt X Q 0 0 24 σ [(0, .ref (X.ad 2)), (1, .ref (X.ad (1000000 + k1))), (2, .int x2)] [] := by
  unfold Reader_stands_l24 at hf
  refine z_iload_n ok dX5_stands_24 2 rfl ?_
  refine z_aload_n ok dX5_stands_25 1 rfl ?_
  refine z_strlen ok hk1 ⟨Nat.le_of_ble_eq_true rfl, Nat.le_of_ble_eq_true rfl⟩ ⟨Nat.zero_le _, Nat.zero_le _⟩ (Nat.le_of_ble_eq_true rfl) dX5_stands_26 ?_
  refine z_icmp_ge (tgt := 59) ok dX5_stands_29 (by decide) hf (fun _ hf => ?_) (fun _ hf => ?_)
  · obtain rfl := Option.some.inj hf
    exact z_sub [] rfl hk
  · refine z_aload_n ok dX5_stands_32 0 rfl ?_
    refine z_getm1 (p := 1) ok kc_2 zc_5 hin_5 0 (by decide) fl_5_9 rfl (by decide) dX5_stands_33 hf (fun hf => ?_)
    refine z_aload_n ok dX5_stands_36 0 rfl ?_
    refine z_geti ok kc_2 zc_5 hin_5 2 (by decide) fl_5_28 rfl dX5_stands_37 hf (fun v37 hf => ?_)
    refine z_iload_n ok dX5_stands_40 2 rfl ?_
    refine z_iadd ok dX5_stands_41 ?_
    refine z_bald ok kc_1 dX5_stands_42 hf (fun v42 hf => ?_)
    refine z_aload_n ok dX5_stands_43 1 rfl ?_
    refine z_iload_n ok dX5_stands_44 2 rfl ?_
    refine z_char ok hk1 ⟨Nat.le_of_ble_eq_true rfl, Nat.le_of_ble_eq_true rfl⟩ ⟨Nat.zero_le _, Nat.zero_le _⟩ (Nat.le_of_ble_eq_true rfl) dX5_stands_45 hf (fun v45 hf => ?_)
    refine z_icmp_eq (tgt := 53) ok dX5_stands_48 (by decide) hf (fun _ hf => ?_) (fun _ hf => ?_)
    · refine z_iinc (w := 1) (lv' := fun v53 => [(2, .int v53), (0, .ref (X.ad 2)), (1, .ref (X.ad (1000000 + k1)))]) ok dX5_stands_53 2 rfl (by decide) (by decide) (fun _ => rfl) hf (fun v53 hf => ?_)
      refine z_goto (tgt := 24) ok dX5_stands_56 (by decide) ?_
      obtain rfl := Option.some.inj hf
      exact z_sub [1, 2, 0] rfl hk
    · refine z_iconst (v := 0) ok dX5_stands_51 (by decide) ?_
      obtain rfl := Option.some.inj hf
      exact hk _ _ dX5_stands_52
def Reader_stands (σ : Sg) (k1 : Nat) : Option Bool :=
  zgt σ 2 2 fun v2 =>
  (Reader_wordEnd σ v2).bind fun r5 =>
  zgt σ 2 2 fun v9 =>
  if r5 = (v9 + (zSL k1)) then (
    zlt 0 fun v23 =>
    (zit (fun (s : Int32) => Reader_stands_l24 σ k1 s) zFU v23).bind fun r => r.elim (fun r =>
    some r
    ) (fun r =>
    some true
    )
  ) else (
    some false
  )
set_option maxRecDepth 20000 in
theorem t_Reader_stands {X : Zx} {Q : State → Prop} {σ : Sg} {k1 : Nat} (ok : Zok X cX5_stands RX5 rm_Reader_stands 198 3) (hk1 : k1 < 21) {out : Bool} (hf : Reader_stands σ k1 = some out) (hk : ZrI cX5_stands X Q (zb out) σ) : ZAt X Q 0 0 0 σ [(0, .ref (X.ad 2)), (1, .ref (X.ad (1000000 + k1)))] [] := by
  unfold Reader_stands at hf
  refine z_aload_n ok dX5_stands_0 0 rfl ?_
  refine z_aload_n ok dX5_stands_1 0 rfl ?_
  refine z_geti ok kc_2 zc_5 hin_5 2 (by decide) fl_5_28 rfl dX5_stands_2 hf (fun v2 hf => ?_)
  refine z_call hf (fun r5 h5 hf => ?_)
  refine z_cV (As := [.int v2]) (rest := []) (w := 2) ok kc_2 zc_5 (c_Reader_wordEnd h5) rfl ⟨ml_5_234, w_Reader_wordEnd⟩ hy_Reader_wordEnd ⟨rfl, rfl⟩ ⟨Nat.le_of_ble_eq_true rfl, Nat.le_of_ble_eq_true rfl⟩ ⟨Nat.zero_le _, Nat.zero_le _⟩ rfl (Nat.le_of_ble_eq_true rfl) dX5_stands_5 ?_
  refine z_aload_n ok dX5_stands_8 0 rfl ?_
  refine z_geti ok kc_2 zc_5 hin_5 2 (by decide) fl_5_28 rfl dX5_stands_9 hf (fun v9 hf => ?_)
  refine z_aload_n ok dX5_stands_12 1 rfl ?_
  refine z_strlen ok hk1 ⟨Nat.le_of_ble_eq_true rfl, Nat.le_of_ble_eq_true rfl⟩ ⟨Nat.zero_le _, Nat.zero_le _⟩ (Nat.le_of_ble_eq_true rfl) dX5_stands_13 ?_
  refine z_iadd ok dX5_stands_16 ?_
  refine z_icmp_eq (tgt := 22) ok dX5_stands_17 (by decide) hf (fun _ hf => ?_) (fun _ hf => ?_)
  · refine z_iconst (v := 0) ok dX5_stands_22 (by decide) ?_
    refine z_nm hf (fun v23 hf => ?_)
    refine z_istore_n (lv' := [(2, .int v23), (0, .ref (X.ad 2)), (1, .ref (X.ad (1000000 + k1)))]) ok dX5_stands_23 (by decide) rfl ?_
    refine z_call hf (fun r hr hf => ?_)
    refine z_sub [1, 2, 0] rfl (z_iter (fun (s : Int32) => σ) (fun (s : Int32) => [(0, .ref (X.ad 2)), (1, .ref (X.ad (1000000 + k1))), (2, .int s)]) (fun s o h1 h2 => t_Reader_stands_l24 ok hk1 h1 h2) _ _ _ hr ?_)
    cases r with
    | inl r =>
      obtain rfl := Option.some.inj hf
      exact hk
    | inr r =>
      simp only [Sum.elim_inr] at hf
      show ZAt X Q 0 0 59 σ [] []
      refine z_iconst (v := 1) ok dX5_stands_59 (by decide) ?_
      obtain rfl := Option.some.inj hf
      exact hk _ _ dX5_stands_60
  · refine z_iconst (v := 0) ok dX5_stands_20 (by decide) ?_
    obtain rfl := Option.some.inj hf
    exact hk _ _ dX5_stands_21
theorem c_Reader_stands {σ : Sg} {k1 : Nat} (hk1 : k1 < 21) {r : Bool} (h : Reader_stands σ k1 = some r) : ZcI yX5_stands cX5_stands 3 .boolean rm_Reader_stands 198 (fun ad => [.ref (ad 2), .ref (ad (1000000 + k1))]) σ (zb r) σ :=
  zmetI pn_5 rfl (fun _ => rfl) (fun _ => Nat.le_of_ble_eq_true rfl) (zb_nar _) (fun X Q ok hk => t_Reader_stands ok hk1 h hk)
theorem dX5_fail_0 : decode cX5_fail 0 = .ok (.aload_n 0, 1) := by decide +kernel
theorem dX5_fail_1 : decode cX5_fail 1 = .ok (.iload_n 1, 1) := by decide +kernel
theorem dX5_fail_2 : decode cX5_fail 2 = .ok (.putfield 35, 3) := by decide +kernel
theorem dX5_fail_5 : decode cX5_fail 5 = .ok (.aload_n 0, 1) := by decide +kernel
theorem dX5_fail_6 : decode cX5_fail 6 = .ok (.iload_n 2, 1) := by decide +kernel
theorem dX5_fail_7 : decode cX5_fail 7 = .ok (.putfield 38, 3) := by decide +kernel
theorem dX5_fail_10 : decode cX5_fail 10 = .ok (.iconst 0, 1) := by decide +kernel
theorem dX5_fail_11 : decode cX5_fail 11 = .ok (.ireturn, 1) := by decide +kernel
abbrev rm_Reader_fail : Room := { frames := 0, cells := 0, slots := 0, locals := 0 }
def Reader_fail (σ : Sg) (x1 : Int32) (x2 : Int32) : Option (Bool × Sg) :=
  zpt σ 2 6 x1 fun σ2 =>
  zpt σ2 2 7 x2 fun σ7 =>
  some (false, σ7)
set_option maxRecDepth 20000 in
theorem t_Reader_fail {X : Zx} {Q : State → Prop} {σ : Sg} {x1 : Int32} {x2 : Int32} (ok : Zok X cX5_fail RX5 rm_Reader_fail 198 3)  {out : (Bool × Sg)} (hf : Reader_fail σ x1 x2 = some out) (hk : ZrI cX5_fail X Q (zb out.1) out.2) : ZAt X Q 0 0 0 σ [(0, .ref (X.ad 2)), (1, .int x1), (2, .int x2)] [] := by
  unfold Reader_fail at hf
  refine z_aload_n ok dX5_fail_0 0 rfl ?_
  refine z_iload_n ok dX5_fail_1 1 rfl ?_
  refine z_puti ok kc_2 zc_5 hin_5 tyX5 tyX5_ok nmX5 6 (by decide) fl_5_35 rfl rfl (tyX5_ok 6 (by decide)) dX5_fail_2 hf (fun σ2 hf => ?_)
  refine z_aload_n ok dX5_fail_5 0 rfl ?_
  refine z_iload_n ok dX5_fail_6 2 rfl ?_
  refine z_puti ok kc_2 zc_5 hin_5 tyX5 tyX5_ok nmX5 7 (by decide) fl_5_38 rfl rfl (tyX5_ok 7 (by decide)) dX5_fail_7 hf (fun σ7 hf => ?_)
  refine z_iconst (v := 0) ok dX5_fail_10 (by decide) ?_
  obtain rfl := Option.some.inj hf
  exact hk _ _ dX5_fail_11
theorem c_Reader_fail {σ : Sg} {x1 : Int32} {x2 : Int32} {r : (Bool × Sg)} (h : Reader_fail σ x1 x2 = some r) : ZcI yX5_fail cX5_fail 3 .boolean rm_Reader_fail 198 (fun ad => [.ref (ad 2), .int x1, .int x2]) σ (zb r.1) r.2 :=
  zmetI pn_5 rfl (fun _ => rfl) (fun _ => Nat.le_of_ble_eq_true rfl) (zb_nar _) (fun X Q ok hk => t_Reader_fail ok h hk)
theorem dX5_readWord_0 : decode cX5_readWord 0 = .ok (.aload_n 0, 1) := by decide +kernel
theorem dX5_readWord_1 : decode cX5_readWord 1 = .ok (.invokevirtual 41, 3) := by decide +kernel
theorem dX5_readWord_4 : decode cX5_readWord 4 = .ok (.aload_n 0, 1) := by decide +kernel
theorem dX5_readWord_5 : decode cX5_readWord 5 = .ok (.getfield 31, 3) := by decide +kernel
theorem dX5_readWord_8 : decode cX5_readWord 8 = .ok (.ifCond .ne 11, 3) := by decide +kernel
theorem dX5_readWord_11 : decode cX5_readWord 11 = .ok (.aload_n 0, 1) := by decide +kernel
theorem dX5_readWord_12 : decode cX5_readWord 12 = .ok (.aload_n 1, 1) := by decide +kernel
theorem dX5_readWord_13 : decode cX5_readWord 13 = .ok (.invokevirtual 60, 3) := by decide +kernel
theorem dX5_readWord_16 : decode cX5_readWord 16 = .ok (.ifCond .ne 13, 3) := by decide +kernel
theorem dX5_readWord_19 : decode cX5_readWord 19 = .ok (.aload_n 0, 1) := by decide +kernel
theorem dX5_readWord_20 : decode cX5_readWord 20 = .ok (.iconst 1, 1) := by decide +kernel
theorem dX5_readWord_21 : decode cX5_readWord 21 = .ok (.aload_n 0, 1) := by decide +kernel
theorem dX5_readWord_22 : decode cX5_readWord 22 = .ok (.getfield 28, 3) := by decide +kernel
theorem dX5_readWord_25 : decode cX5_readWord 25 = .ok (.invokevirtual 51, 3) := by decide +kernel
theorem dX5_readWord_28 : decode cX5_readWord 28 = .ok (.ireturn, 1) := by decide +kernel
theorem dX5_readWord_29 : decode cX5_readWord 29 = .ok (.aload_n 0, 1) := by decide +kernel
theorem dX5_readWord_30 : decode cX5_readWord 30 = .ok (.dup, 1) := by decide +kernel
theorem dX5_readWord_31 : decode cX5_readWord 31 = .ok (.getfield 28, 3) := by decide +kernel
theorem dX5_readWord_34 : decode cX5_readWord 34 = .ok (.aload_n 1, 1) := by decide +kernel
theorem dX5_readWord_35 : decode cX5_readWord 35 = .ok (.invokevirtual 248, 3) := by decide +kernel
theorem dX5_readWord_38 : decode cX5_readWord 38 = .ok (.iadd, 1) := by decide +kernel
theorem dX5_readWord_39 : decode cX5_readWord 39 = .ok (.putfield 28, 3) := by decide +kernel
theorem dX5_readWord_42 : decode cX5_readWord 42 = .ok (.aload_n 0, 1) := by decide +kernel
theorem dX5_readWord_43 : decode cX5_readWord 43 = .ok (.iconst 1, 1) := by decide +kernel
theorem dX5_readWord_44 : decode cX5_readWord 44 = .ok (.putfield 31, 3) := by decide +kernel
theorem dX5_readWord_47 : decode cX5_readWord 47 = .ok (.iconst 1, 1) := by decide +kernel
theorem dX5_readWord_48 : decode cX5_readWord 48 = .ok (.ireturn, 1) := by decide +kernel
abbrev rm_Reader_readWord : Room := { frames := 5, cells := 0, slots := 0, locals := 107 }
def Reader_readWord (σ : Sg) (k1 : Nat) : Option (Bool × Sg) :=
  (Reader_skipBlanks σ).bind fun r1 =>
  zgt r1 2 3 fun v5 =>
  if v5 = 0 then (
    (Reader_stands r1 k1).bind fun r13 =>
    if (zb r13) = 0 then (
      zgt r1 2 2 fun v22 =>
      (Reader_fail r1 1 v22).bind fun r25 =>
      some (r25.1, r25.2)
    ) else (
      zgt r1 2 2 fun v31 =>
      zpt r1 2 2 (v31 + (zSL k1)) fun σ39 =>
      zbo 1 <| zpt σ39 2 3 1 fun σ44 =>
      some (true, σ44)
    )
  ) else (
    zgt r1 2 2 fun v22 =>
    (Reader_fail r1 1 v22).bind fun r25 =>
    some (r25.1, r25.2)
  )
set_option maxRecDepth 20000 in
theorem t_Reader_readWord {X : Zx} {Q : State → Prop} {σ : Sg} {k1 : Nat} (ok : Zok X cX5_readWord RX5 rm_Reader_readWord 198 2) (hk1 : k1 < 21) {out : (Bool × Sg)} (hf : Reader_readWord σ k1 = some out) (hk : ZrI cX5_readWord X Q (zb out.1) out.2) : ZAt X Q 0 0 0 σ [(0, .ref (X.ad 2)), (1, .ref (X.ad (1000000 + k1)))] [] := by
  unfold Reader_readWord at hf
  refine z_aload_n ok dX5_readWord_0 0 rfl ?_
  refine z_call hf (fun r1 h1 hf => ?_)
  refine z_cVv (As := []) (rest := []) (w := 2) ok kc_2 zc_5 (c_Reader_skipBlanks h1) rfl ⟨ml_5_41, w_Reader_skipBlanks⟩ hy_Reader_skipBlanks ⟨rfl, rfl⟩ ⟨Nat.le_of_ble_eq_true rfl, Nat.le_of_ble_eq_true rfl⟩ ⟨Nat.zero_le _, Nat.zero_le _⟩ rfl (Nat.le_of_ble_eq_true rfl) dX5_readWord_1 ?_
  refine z_aload_n ok dX5_readWord_4 0 rfl ?_
  refine z_geti ok kc_2 zc_5 hin_5 3 (by decide) fl_5_31 rfl dX5_readWord_5 hf (fun v5 hf => ?_)
  refine z_if_ne (tgt := 19) ok dX5_readWord_8 (by decide) hf (fun _ hf => ?_) (fun _ hf => ?_)
  · refine z_aload_n ok dX5_readWord_11 0 rfl ?_
    refine z_aload_n ok dX5_readWord_12 1 rfl ?_
    refine z_call hf (fun r13 h13 hf => ?_)
    refine z_cV (As := [.ref (X.ad (1000000 + k1))]) (rest := []) (w := 2) ok kc_2 zc_5 (c_Reader_stands hk1 h13) rfl ⟨ml_5_60, w_Reader_stands⟩ hy_Reader_stands ⟨rfl, rfl⟩ ⟨Nat.le_of_ble_eq_true rfl, Nat.le_of_ble_eq_true rfl⟩ ⟨Nat.zero_le _, Nat.zero_le _⟩ rfl (Nat.le_of_ble_eq_true rfl) dX5_readWord_13 ?_
    refine z_if_ne (tgt := 29) ok dX5_readWord_16 (by decide) hf (fun _ hf => ?_) (fun _ hf => ?_)
    · refine z_aload_n ok dX5_readWord_19 0 rfl ?_
      refine z_iconst (v := 1) ok dX5_readWord_20 (by decide) ?_
      refine z_aload_n ok dX5_readWord_21 0 rfl ?_
      refine z_geti ok kc_2 zc_5 hin_5 2 (by decide) fl_5_28 rfl dX5_readWord_22 hf (fun v22 hf => ?_)
      refine z_call hf (fun r25 h25 hf => ?_)
      refine z_cV (As := [.int 1, .int v22]) (rest := []) (w := 2) ok kc_2 zc_5 (c_Reader_fail h25) rfl ⟨ml_5_51, w_Reader_fail⟩ hy_Reader_fail ⟨rfl, rfl⟩ ⟨Nat.le_of_ble_eq_true rfl, Nat.le_of_ble_eq_true rfl⟩ ⟨Nat.zero_le _, Nat.zero_le _⟩ rfl (Nat.le_of_ble_eq_true rfl) dX5_readWord_25 ?_
      obtain rfl := Option.some.inj hf
      exact hk _ _ dX5_readWord_28
    · refine z_aload_n ok dX5_readWord_29 0 rfl ?_
      refine z_dup ok dX5_readWord_30 rfl ?_
      refine z_geti ok kc_2 zc_5 hin_5 2 (by decide) fl_5_28 rfl dX5_readWord_31 hf (fun v31 hf => ?_)
      refine z_aload_n ok dX5_readWord_34 1 rfl ?_
      refine z_strlen ok hk1 ⟨Nat.le_of_ble_eq_true rfl, Nat.le_of_ble_eq_true rfl⟩ ⟨Nat.zero_le _, Nat.zero_le _⟩ (Nat.le_of_ble_eq_true rfl) dX5_readWord_35 ?_
      refine z_iadd ok dX5_readWord_38 ?_
      refine z_puti ok kc_2 zc_5 hin_5 tyX5 tyX5_ok nmX5 2 (by decide) fl_5_28 rfl rfl (tyX5_ok 2 (by decide)) dX5_readWord_39 hf (fun σ39 hf => ?_)
      refine z_aload_n ok dX5_readWord_42 0 rfl ?_
      refine z_iconst (v := 1) ok dX5_readWord_43 (by decide) ?_
      refine z_putz ok kc_2 zc_5 hin_5 tyX5 tyX5_ok nmX5 3 (by decide) fl_5_31 rfl rfl (tyX5_ok 3 (by decide)) dX5_readWord_44 hf (fun σ44 hf => ?_)
      refine z_iconst (v := 1) ok dX5_readWord_47 (by decide) ?_
      obtain rfl := Option.some.inj hf
      exact hk _ _ dX5_readWord_48
  · refine z_aload_n ok dX5_readWord_19 0 rfl ?_
    refine z_iconst (v := 1) ok dX5_readWord_20 (by decide) ?_
    refine z_aload_n ok dX5_readWord_21 0 rfl ?_
    refine z_geti ok kc_2 zc_5 hin_5 2 (by decide) fl_5_28 rfl dX5_readWord_22 hf (fun v22 hf => ?_)
    refine z_call hf (fun r25 h25 hf => ?_)
    refine z_cV (As := [.int 1, .int v22]) (rest := []) (w := 2) ok kc_2 zc_5 (c_Reader_fail h25) rfl ⟨ml_5_51, w_Reader_fail⟩ hy_Reader_fail ⟨rfl, rfl⟩ ⟨Nat.le_of_ble_eq_true rfl, Nat.le_of_ble_eq_true rfl⟩ ⟨Nat.zero_le _, Nat.zero_le _⟩ rfl (Nat.le_of_ble_eq_true rfl) dX5_readWord_25 ?_
    obtain rfl := Option.some.inj hf
    exact hk _ _ dX5_readWord_28
theorem c_Reader_readWord {σ : Sg} {k1 : Nat} (hk1 : k1 < 21) {r : (Bool × Sg)} (h : Reader_readWord σ k1 = some r) : ZcI yX5_readWord cX5_readWord 2 .boolean rm_Reader_readWord 198 (fun ad => [.ref (ad 2), .ref (ad (1000000 + k1))]) σ (zb r.1) r.2 :=
  zmetI pn_5 rfl (fun _ => rfl) (fun _ => Nat.le_of_ble_eq_true rfl) (zb_nar _) (fun X Q ok hk => t_Reader_readWord ok hk1 h hk)
theorem dX5_isDigit_0 : decode cX5_isDigit 0 = .ok (.iload_n 0, 1) := by decide +kernel
theorem dX5_isDigit_1 : decode cX5_isDigit 1 = .ok (.bipush 48, 2) := by decide +kernel
theorem dX5_isDigit_3 : decode cX5_isDigit 3 = .ok (.if_icmp .lt 13, 3) := by decide +kernel
theorem dX5_isDigit_6 : decode cX5_isDigit 6 = .ok (.iload_n 0, 1) := by decide +kernel
theorem dX5_isDigit_7 : decode cX5_isDigit 7 = .ok (.bipush 57, 2) := by decide +kernel
theorem dX5_isDigit_9 : decode cX5_isDigit 9 = .ok (.if_icmp .gt 7, 3) := by decide +kernel
theorem dX5_isDigit_12 : decode cX5_isDigit 12 = .ok (.iconst 1, 1) := by decide +kernel
theorem dX5_isDigit_13 : decode cX5_isDigit 13 = .ok (.goto 4, 3) := by decide +kernel
theorem dX5_isDigit_16 : decode cX5_isDigit 16 = .ok (.iconst 0, 1) := by decide +kernel
theorem dX5_isDigit_17 : decode cX5_isDigit 17 = .ok (.ireturn, 1) := by decide +kernel
abbrev rm_Reader_isDigit : Room := { frames := 0, cells := 0, slots := 0, locals := 0 }
def Reader_isDigit (x0 : Int32) : Option Bool :=
  if x0 < 48 then (
    some false
  ) else (
    if 57 < x0 then (
      some false
    ) else (
      some true
    )
  )
set_option maxRecDepth 20000 in
theorem t_Reader_isDigit {X : Zx} {Q : State → Prop} {σ : Sg} {x0 : Int32} (ok : Zok X cX5_isDigit RX5 rm_Reader_isDigit 198 1)  {out : Bool} (hf : Reader_isDigit x0 = some out) (hk : ZrI cX5_isDigit X Q (zb out) σ) : ZAt X Q 0 0 0 σ [(0, .int x0)] [] := by
  unfold Reader_isDigit at hf
  refine z_iload_n ok dX5_isDigit_0 0 rfl ?_
  refine z_bipush (v := 48) ok dX5_isDigit_1 (by decide) ?_
  refine z_icmp_lt (tgt := 16) ok dX5_isDigit_3 (by decide) hf (fun _ hf => ?_) (fun _ hf => ?_)
  · refine z_iconst (v := 0) ok dX5_isDigit_16 (by decide) ?_
    obtain rfl := Option.some.inj hf
    exact hk _ _ dX5_isDigit_17
  · refine z_iload_n ok dX5_isDigit_6 0 rfl ?_
    refine z_bipush (v := 57) ok dX5_isDigit_7 (by decide) ?_
    refine z_icmp_gt (tgt := 16) ok dX5_isDigit_9 (by decide) hf (fun _ hf => ?_) (fun _ hf => ?_)
    · refine z_iconst (v := 0) ok dX5_isDigit_16 (by decide) ?_
      obtain rfl := Option.some.inj hf
      exact hk _ _ dX5_isDigit_17
    · refine z_iconst (v := 1) ok dX5_isDigit_12 (by decide) ?_
      refine z_goto (tgt := 17) ok dX5_isDigit_13 (by decide) ?_
      obtain rfl := Option.some.inj hf
      exact hk _ _ dX5_isDigit_17
theorem c_Reader_isDigit {σ : Sg} {x0 : Int32} {r : Bool} (h : Reader_isDigit x0 = some r) : ZcI yX5_isDigit cX5_isDigit 1 .boolean rm_Reader_isDigit 198 (fun ad => [.int x0]) σ (zb r) σ :=
  zmetI pn_5 rfl (fun _ => rfl) (fun _ => Nat.le_of_ble_eq_true rfl) (zb_nar _) (fun X Q ok hk => t_Reader_isDigit ok h hk)
theorem dX5_readNumber_0 : decode cX5_readNumber 0 = .ok (.aload_n 0, 1) := by decide +kernel
theorem dX5_readNumber_1 : decode cX5_readNumber 1 = .ok (.invokevirtual 41, 3) := by decide +kernel
theorem dX5_readNumber_4 : decode cX5_readNumber 4 = .ok (.aload_n 0, 1) := by decide +kernel
theorem dX5_readNumber_5 : decode cX5_readNumber 5 = .ok (.getfield 28, 3) := by decide +kernel
theorem dX5_readNumber_8 : decode cX5_readNumber 8 = .ok (.istore_n 3, 1) := by decide +kernel
theorem dX5_readNumber_9 : decode cX5_readNumber 9 = .ok (.iconst 0, 1) := by decide +kernel
theorem dX5_readNumber_10 : decode cX5_readNumber 10 = .ok (.istore 4, 2) := by decide +kernel
theorem dX5_readNumber_12 : decode cX5_readNumber 12 = .ok (.iload_n 3, 1) := by decide +kernel
theorem dX5_readNumber_13 : decode cX5_readNumber 13 = .ok (.aload_n 0, 1) := by decide +kernel
theorem dX5_readNumber_14 : decode cX5_readNumber 14 = .ok (.getfield 15, 3) := by decide +kernel
theorem dX5_readNumber_17 : decode cX5_readNumber 17 = .ok (.if_icmp .ge 48, 3) := by decide +kernel
theorem dX5_readNumber_20 : decode cX5_readNumber 20 = .ok (.iload_n 3, 1) := by decide +kernel
theorem dX5_readNumber_21 : decode cX5_readNumber 21 = .ok (.aload_n 0, 1) := by decide +kernel
theorem dX5_readNumber_22 : decode cX5_readNumber 22 = .ok (.getfield 28, 3) := by decide +kernel
theorem dX5_readNumber_25 : decode cX5_readNumber 25 = .ok (.iconst 4, 1) := by decide +kernel
theorem dX5_readNumber_26 : decode cX5_readNumber 26 = .ok (.iadd, 1) := by decide +kernel
theorem dX5_readNumber_27 : decode cX5_readNumber 27 = .ok (.if_icmp .ge 38, 3) := by decide +kernel
theorem dX5_readNumber_30 : decode cX5_readNumber 30 = .ok (.aload_n 0, 1) := by decide +kernel
theorem dX5_readNumber_31 : decode cX5_readNumber 31 = .ok (.getfield 9, 3) := by decide +kernel
theorem dX5_readNumber_34 : decode cX5_readNumber 34 = .ok (.iload_n 3, 1) := by decide +kernel
theorem dX5_readNumber_35 : decode cX5_readNumber 35 = .ok (.baload, 1) := by decide +kernel
theorem dX5_readNumber_36 : decode cX5_readNumber 36 = .ok (.invokestatic 244, 3) := by decide +kernel
theorem dX5_readNumber_39 : decode cX5_readNumber 39 = .ok (.ifCond .eq 26, 3) := by decide +kernel
theorem dX5_readNumber_42 : decode cX5_readNumber 42 = .ok (.iload 4, 2) := by decide +kernel
theorem dX5_readNumber_44 : decode cX5_readNumber 44 = .ok (.bipush 10, 2) := by decide +kernel
theorem dX5_readNumber_46 : decode cX5_readNumber 46 = .ok (.imul, 1) := by decide +kernel
theorem dX5_readNumber_47 : decode cX5_readNumber 47 = .ok (.aload_n 0, 1) := by decide +kernel
theorem dX5_readNumber_48 : decode cX5_readNumber 48 = .ok (.getfield 9, 3) := by decide +kernel
theorem dX5_readNumber_51 : decode cX5_readNumber 51 = .ok (.iload_n 3, 1) := by decide +kernel
theorem dX5_readNumber_52 : decode cX5_readNumber 52 = .ok (.baload, 1) := by decide +kernel
theorem dX5_readNumber_53 : decode cX5_readNumber 53 = .ok (.bipush 48, 2) := by decide +kernel
theorem dX5_readNumber_55 : decode cX5_readNumber 55 = .ok (.isub, 1) := by decide +kernel
theorem dX5_readNumber_56 : decode cX5_readNumber 56 = .ok (.iadd, 1) := by decide +kernel
theorem dX5_readNumber_57 : decode cX5_readNumber 57 = .ok (.istore 4, 2) := by decide +kernel
theorem dX5_readNumber_59 : decode cX5_readNumber 59 = .ok (.iinc 3 1, 3) := by decide +kernel
theorem dX5_readNumber_62 : decode cX5_readNumber 62 = .ok (.goto (-50), 3) := by decide +kernel
theorem dX5_readNumber_65 : decode cX5_readNumber 65 = .ok (.aload_n 0, 1) := by decide +kernel
theorem dX5_readNumber_66 : decode cX5_readNumber 66 = .ok (.getfield 31, 3) := by decide +kernel
theorem dX5_readNumber_69 : decode cX5_readNumber 69 = .ok (.ifCond .ne 11, 3) := by decide +kernel
theorem dX5_readNumber_72 : decode cX5_readNumber 72 = .ok (.iload_n 3, 1) := by decide +kernel
theorem dX5_readNumber_73 : decode cX5_readNumber 73 = .ok (.aload_n 0, 1) := by decide +kernel
theorem dX5_readNumber_74 : decode cX5_readNumber 74 = .ok (.getfield 28, 3) := by decide +kernel
theorem dX5_readNumber_77 : decode cX5_readNumber 77 = .ok (.if_icmp .ne 16, 3) := by decide +kernel
theorem dX5_readNumber_80 : decode cX5_readNumber 80 = .ok (.aload_n 0, 1) := by decide +kernel
theorem dX5_readNumber_81 : decode cX5_readNumber 81 = .ok (.iconst 1, 1) := by decide +kernel
theorem dX5_readNumber_82 : decode cX5_readNumber 82 = .ok (.aload_n 0, 1) := by decide +kernel
theorem dX5_readNumber_83 : decode cX5_readNumber 83 = .ok (.getfield 28, 3) := by decide +kernel
theorem dX5_readNumber_86 : decode cX5_readNumber 86 = .ok (.invokevirtual 51, 3) := by decide +kernel
theorem dX5_readNumber_89 : decode cX5_readNumber 89 = .ok (.pop, 1) := by decide +kernel
theorem dX5_readNumber_90 : decode cX5_readNumber 90 = .ok (.goto 65, 3) := by decide +kernel
theorem dX5_readNumber_93 : decode cX5_readNumber 93 = .ok (.iload_n 3, 1) := by decide +kernel
theorem dX5_readNumber_94 : decode cX5_readNumber 94 = .ok (.aload_n 0, 1) := by decide +kernel
theorem dX5_readNumber_95 : decode cX5_readNumber 95 = .ok (.getfield 28, 3) := by decide +kernel
theorem dX5_readNumber_98 : decode cX5_readNumber 98 = .ok (.iconst 4, 1) := by decide +kernel
theorem dX5_readNumber_99 : decode cX5_readNumber 99 = .ok (.iadd, 1) := by decide +kernel
theorem dX5_readNumber_100 : decode cX5_readNumber 100 = .ok (.if_icmp .ne 33, 3) := by decide +kernel
theorem dX5_readNumber_103 : decode cX5_readNumber 103 = .ok (.iload_n 3, 1) := by decide +kernel
theorem dX5_readNumber_104 : decode cX5_readNumber 104 = .ok (.aload_n 0, 1) := by decide +kernel
theorem dX5_readNumber_105 : decode cX5_readNumber 105 = .ok (.getfield 15, 3) := by decide +kernel
theorem dX5_readNumber_108 : decode cX5_readNumber 108 = .ok (.if_icmp .ge 25, 3) := by decide +kernel
theorem dX5_readNumber_111 : decode cX5_readNumber 111 = .ok (.aload_n 0, 1) := by decide +kernel
theorem dX5_readNumber_112 : decode cX5_readNumber 112 = .ok (.getfield 9, 3) := by decide +kernel
theorem dX5_readNumber_115 : decode cX5_readNumber 115 = .ok (.iload_n 3, 1) := by decide +kernel
theorem dX5_readNumber_116 : decode cX5_readNumber 116 = .ok (.baload, 1) := by decide +kernel
theorem dX5_readNumber_117 : decode cX5_readNumber 117 = .ok (.invokestatic 244, 3) := by decide +kernel
theorem dX5_readNumber_120 : decode cX5_readNumber 120 = .ok (.ifCond .eq 13, 3) := by decide +kernel
theorem dX5_readNumber_123 : decode cX5_readNumber 123 = .ok (.aload_n 0, 1) := by decide +kernel
theorem dX5_readNumber_124 : decode cX5_readNumber 124 = .ok (.iconst 1, 1) := by decide +kernel
theorem dX5_readNumber_125 : decode cX5_readNumber 125 = .ok (.iload_n 3, 1) := by decide +kernel
theorem dX5_readNumber_126 : decode cX5_readNumber 126 = .ok (.invokevirtual 51, 3) := by decide +kernel
theorem dX5_readNumber_129 : decode cX5_readNumber 129 = .ok (.pop, 1) := by decide +kernel
theorem dX5_readNumber_130 : decode cX5_readNumber 130 = .ok (.goto 25, 3) := by decide +kernel
theorem dX5_readNumber_133 : decode cX5_readNumber 133 = .ok (.iload 4, 2) := by decide +kernel
theorem dX5_readNumber_135 : decode cX5_readNumber 135 = .ok (.iload_n 1, 1) := by decide +kernel
theorem dX5_readNumber_136 : decode cX5_readNumber 136 = .ok (.if_icmp .lt 9, 3) := by decide +kernel
theorem dX5_readNumber_139 : decode cX5_readNumber 139 = .ok (.iload 4, 2) := by decide +kernel
theorem dX5_readNumber_141 : decode cX5_readNumber 141 = .ok (.iload_n 2, 1) := by decide +kernel
theorem dX5_readNumber_142 : decode cX5_readNumber 142 = .ok (.if_icmp .le 13, 3) := by decide +kernel
theorem dX5_readNumber_145 : decode cX5_readNumber 145 = .ok (.aload_n 0, 1) := by decide +kernel
theorem dX5_readNumber_146 : decode cX5_readNumber 146 = .ok (.iconst 2, 1) := by decide +kernel
theorem dX5_readNumber_147 : decode cX5_readNumber 147 = .ok (.aload_n 0, 1) := by decide +kernel
theorem dX5_readNumber_148 : decode cX5_readNumber 148 = .ok (.getfield 28, 3) := by decide +kernel
theorem dX5_readNumber_151 : decode cX5_readNumber 151 = .ok (.invokevirtual 51, 3) := by decide +kernel
theorem dX5_readNumber_154 : decode cX5_readNumber 154 = .ok (.pop, 1) := by decide +kernel
theorem dX5_readNumber_155 : decode cX5_readNumber 155 = .ok (.aload_n 0, 1) := by decide +kernel
theorem dX5_readNumber_156 : decode cX5_readNumber 156 = .ok (.iload_n 3, 1) := by decide +kernel
theorem dX5_readNumber_157 : decode cX5_readNumber 157 = .ok (.putfield 28, 3) := by decide +kernel
theorem dX5_readNumber_160 : decode cX5_readNumber 160 = .ok (.aload_n 0, 1) := by decide +kernel
theorem dX5_readNumber_161 : decode cX5_readNumber 161 = .ok (.iconst 1, 1) := by decide +kernel
theorem dX5_readNumber_162 : decode cX5_readNumber 162 = .ok (.putfield 31, 3) := by decide +kernel
theorem dX5_readNumber_165 : decode cX5_readNumber 165 = .ok (.iload 4, 2) := by decide +kernel
theorem dX5_readNumber_167 : decode cX5_readNumber 167 = .ok (.ireturn, 1) := by decide +kernel
abbrev rm_Reader_readNumber : Room := { frames := 1, cells := 0, slots := 0, locals := 22 }
def Reader_readNumber_l12 (σ : Sg) (x1 : Int32) (x2 : Int32) (x3 : Int32) (x4 : Int32) : Option ((Int32 × Int32) ⊕ (Int32 × Int32)) :=
  zgt σ 2 1 fun v14 =>
  if v14 ≤ x3 then (
    some (.inr (x3, x4))
  ) else (
    zgt σ 2 2 fun v22 =>
    if (v22 + 4) ≤ x3 then (
      some (.inr (x3, x4))
    ) else (
      zmr1 1 (σ 2 0) <|
      zrd σ 1 1600 x3 fun v35 =>
      (Reader_isDigit v35).bind fun r36 =>
      if (zb r36) = 0 then (
        some (.inr (x3, x4))
      ) else (
        zmr1 1 (σ 2 0) <|
        zrd σ 1 1600 x3 fun v52 =>
        zlt ((x4 * 10) + (v52 - 48)) fun v57 =>
        zlt (x3 + 1) fun v59 =>
        some (.inl (v59, v57))
      )
    )
  )
set_option maxRecDepth 20000 in
theorem t_Reader_readNumber_l12 {X : Zx} {Q : State → Prop} {σ : Sg} {x1 : Int32} {x2 : Int32} {x3 : Int32} {x4 : Int32} (ok : Zok X cX5_readNumber RX5 rm_Reader_readNumber 198 5)  {out : ((Int32 × Int32) ⊕ (Int32 × Int32))} (hf : Reader_readNumber_l12 σ x1 x2 x3 x4 = some out) (hk : zout (fun (s : (Int32 × Int32)) => ZAt X Q 0 0 12 σ [(0, .ref (X.ad 2)), (1, .int x1), (2, .int x2), (3, .int s.1), (4, .int s.2)] []) (fun (s : (Int32 × Int32)) => ZAt X Q 0 0 65 σ [(0, .ref (X.ad 2)), (1, .int x1), (2, .int x2), (3, .int s.1), (4, .int s.2)] []) out) : ZAt X Q 0 0 12 σ [(0, .ref (X.ad 2)), (1, .int x1), (2, .int x2), (3, .int x3), (4, .int x4)] [] := by
  unfold Reader_readNumber_l12 at hf
  refine z_iload_n ok dX5_readNumber_12 3 rfl ?_
  refine z_aload_n ok dX5_readNumber_13 0 rfl ?_
  refine z_geti ok kc_2 zc_5 hin_5 1 (by decide) fl_5_15 rfl dX5_readNumber_14 hf (fun v14 hf => ?_)
  refine z_icmp_ge (tgt := 65) ok dX5_readNumber_17 (by decide) hf (fun _ hf => ?_) (fun _ hf => ?_)
  · obtain rfl := Option.some.inj hf
    exact z_sub [0, 1, 2, 3, 4] rfl hk
  · refine z_iload_n ok dX5_readNumber_20 3 rfl ?_
    refine z_aload_n ok dX5_readNumber_21 0 rfl ?_
    refine z_geti ok kc_2 zc_5 hin_5 2 (by decide) fl_5_28 rfl dX5_readNumber_22 hf (fun v22 hf => ?_)
    refine z_iconst (v := 4) ok dX5_readNumber_25 (by decide) ?_
    refine z_iadd ok dX5_readNumber_26 ?_
    refine z_icmp_ge (tgt := 65) ok dX5_readNumber_27 (by decide) hf (fun _ hf => ?_) (fun _ hf => ?_)
    · obtain rfl := Option.some.inj hf
      exact z_sub [0, 1, 2, 3, 4] rfl hk
    · refine z_aload_n ok dX5_readNumber_30 0 rfl ?_
      refine z_getm1 (p := 1) ok kc_2 zc_5 hin_5 0 (by decide) fl_5_9 rfl (by decide) dX5_readNumber_31 hf (fun hf => ?_)
      refine z_iload_n ok dX5_readNumber_34 3 rfl ?_
      refine z_bald ok kc_1 dX5_readNumber_35 hf (fun v35 hf => ?_)
      refine z_call hf (fun r36 h36 hf => ?_)
      refine z_cS (As := [.int v35]) (rest := []) ok (c_Reader_isDigit h36) rfl ⟨ml_5_244, w_Reader_isDigit⟩ hy_Reader_isDigit ⟨rfl, rfl⟩ ⟨Nat.le_of_ble_eq_true rfl, Nat.le_of_ble_eq_true rfl⟩ ⟨Nat.zero_le _, Nat.zero_le _⟩ rfl (Nat.le_of_ble_eq_true rfl) dX5_readNumber_36 ?_
      refine z_if_eq (tgt := 65) ok dX5_readNumber_39 (by decide) hf (fun _ hf => ?_) (fun _ hf => ?_)
      · obtain rfl := Option.some.inj hf
        exact z_sub [0, 1, 2, 3, 4] rfl hk
      · refine z_iload ok dX5_readNumber_42 4 rfl ?_
        refine z_bipush (v := 10) ok dX5_readNumber_44 (by decide) ?_
        refine z_imul ok dX5_readNumber_46 ?_
        refine z_aload_n ok dX5_readNumber_47 0 rfl ?_
        refine z_getm1 (p := 1) ok kc_2 zc_5 hin_5 0 (by decide) fl_5_9 rfl (by decide) dX5_readNumber_48 hf (fun hf => ?_)
        refine z_iload_n ok dX5_readNumber_51 3 rfl ?_
        refine z_bald ok kc_1 dX5_readNumber_52 hf (fun v52 hf => ?_)
        refine z_bipush (v := 48) ok dX5_readNumber_53 (by decide) ?_
        refine z_isub ok dX5_readNumber_55 ?_
        refine z_iadd ok dX5_readNumber_56 ?_
        refine z_nm hf (fun v57 hf => ?_)
        refine z_istore (lv' := [(4, .int v57), (0, .ref (X.ad 2)), (1, .int x1), (2, .int x2), (3, .int x3)]) ok dX5_readNumber_57 (by decide) rfl ?_
        refine z_iinc (w := 1) (lv' := fun v59 => [(3, .int v59), (4, .int v57), (0, .ref (X.ad 2)), (1, .int x1), (2, .int x2)]) ok dX5_readNumber_59 4 rfl (by decide) (by decide) (fun _ => rfl) hf (fun v59 hf => ?_)
        refine z_goto (tgt := 12) ok dX5_readNumber_62 (by decide) ?_
        obtain rfl := Option.some.inj hf
        exact z_sub [2, 3, 4, 0, 1] rfl hk
def Reader_readNumber_j80 (σ : Sg) (x3 : Int32) (x4 : Int32) : Option (Int32 × Sg) :=
  zgt σ 2 2 fun v83 =>
  (Reader_fail σ 1 v83).bind fun r86 =>
  zpt r86.2 2 2 x3 fun σ157 =>
  zbo 1 <| zpt σ157 2 3 1 fun σ162 =>
  some (x4, σ162)
set_option maxRecDepth 20000 in
theorem t_Reader_readNumber_j80 {X : Zx} {Q : State → Prop} {σ : Sg} {x3 : Int32} {x4 : Int32} (ok : Zok X cX5_readNumber RX5 rm_Reader_readNumber 198 5)  {out : (Int32 × Sg)} (hf : Reader_readNumber_j80 σ x3 x4 = some out) (hk : ZrI cX5_readNumber X Q out.1 out.2) : ZAt X Q 0 0 80 σ [(0, .ref (X.ad 2)), (3, .int x3), (4, .int x4)] [] := by
  unfold Reader_readNumber_j80 at hf
  refine z_aload_n ok dX5_readNumber_80 0 rfl ?_
  refine z_iconst (v := 1) ok dX5_readNumber_81 (by decide) ?_
  refine z_aload_n ok dX5_readNumber_82 0 rfl ?_
  refine z_geti ok kc_2 zc_5 hin_5 2 (by decide) fl_5_28 rfl dX5_readNumber_83 hf (fun v83 hf => ?_)
  refine z_call hf (fun r86 h86 hf => ?_)
  refine z_cV (As := [.int 1, .int v83]) (rest := []) (w := 2) ok kc_2 zc_5 (c_Reader_fail h86) rfl ⟨ml_5_51, w_Reader_fail⟩ hy_Reader_fail ⟨rfl, rfl⟩ ⟨Nat.le_of_ble_eq_true rfl, Nat.le_of_ble_eq_true rfl⟩ ⟨Nat.zero_le _, Nat.zero_le _⟩ rfl (Nat.le_of_ble_eq_true rfl) dX5_readNumber_86 ?_
  refine z_pop ok dX5_readNumber_89 rfl ?_
  refine z_goto (tgt := 155) ok dX5_readNumber_90 (by decide) ?_
  refine z_aload_n ok dX5_readNumber_155 0 rfl ?_
  refine z_iload_n ok dX5_readNumber_156 1 rfl ?_
  refine z_puti ok kc_2 zc_5 hin_5 tyX5 tyX5_ok nmX5 2 (by decide) fl_5_28 rfl rfl (tyX5_ok 2 (by decide)) dX5_readNumber_157 hf (fun σ157 hf => ?_)
  refine z_aload_n ok dX5_readNumber_160 0 rfl ?_
  refine z_iconst (v := 1) ok dX5_readNumber_161 (by decide) ?_
  refine z_putz ok kc_2 zc_5 hin_5 tyX5 tyX5_ok nmX5 3 (by decide) fl_5_31 rfl rfl (tyX5_ok 3 (by decide)) dX5_readNumber_162 hf (fun σ162 hf => ?_)
  refine z_iload ok dX5_readNumber_165 2 rfl ?_
  obtain rfl := Option.some.inj hf
  exact hk _ _ dX5_readNumber_167
def Reader_readNumber_j145 (σ : Sg) (x3 : Int32) (x4 : Int32) : Option (Int32 × Sg) :=
  zgt σ 2 2 fun v148 =>
  (Reader_fail σ 2 v148).bind fun r151 =>
  zpt r151.2 2 2 x3 fun σ157 =>
  zbo 1 <| zpt σ157 2 3 1 fun σ162 =>
  some (x4, σ162)
set_option maxRecDepth 20000 in
theorem t_Reader_readNumber_j145 {X : Zx} {Q : State → Prop} {σ : Sg} {x3 : Int32} {x4 : Int32} (ok : Zok X cX5_readNumber RX5 rm_Reader_readNumber 198 5)  {out : (Int32 × Sg)} (hf : Reader_readNumber_j145 σ x3 x4 = some out) (hk : ZrI cX5_readNumber X Q out.1 out.2) : ZAt X Q 0 0 145 σ [(0, .ref (X.ad 2)), (3, .int x3), (4, .int x4)] [] := by
  unfold Reader_readNumber_j145 at hf
  refine z_aload_n ok dX5_readNumber_145 0 rfl ?_
  refine z_iconst (v := 2) ok dX5_readNumber_146 (by decide) ?_
  refine z_aload_n ok dX5_readNumber_147 0 rfl ?_
  refine z_geti ok kc_2 zc_5 hin_5 2 (by decide) fl_5_28 rfl dX5_readNumber_148 hf (fun v148 hf => ?_)
  refine z_call hf (fun r151 h151 hf => ?_)
  refine z_cV (As := [.int 2, .int v148]) (rest := []) (w := 2) ok kc_2 zc_5 (c_Reader_fail h151) rfl ⟨ml_5_51, w_Reader_fail⟩ hy_Reader_fail ⟨rfl, rfl⟩ ⟨Nat.le_of_ble_eq_true rfl, Nat.le_of_ble_eq_true rfl⟩ ⟨Nat.zero_le _, Nat.zero_le _⟩ rfl (Nat.le_of_ble_eq_true rfl) dX5_readNumber_151 ?_
  refine z_pop ok dX5_readNumber_154 rfl ?_
  refine z_aload_n ok dX5_readNumber_155 0 rfl ?_
  refine z_iload_n ok dX5_readNumber_156 1 rfl ?_
  refine z_puti ok kc_2 zc_5 hin_5 tyX5 tyX5_ok nmX5 2 (by decide) fl_5_28 rfl rfl (tyX5_ok 2 (by decide)) dX5_readNumber_157 hf (fun σ157 hf => ?_)
  refine z_aload_n ok dX5_readNumber_160 0 rfl ?_
  refine z_iconst (v := 1) ok dX5_readNumber_161 (by decide) ?_
  refine z_putz ok kc_2 zc_5 hin_5 tyX5 tyX5_ok nmX5 3 (by decide) fl_5_31 rfl rfl (tyX5_ok 3 (by decide)) dX5_readNumber_162 hf (fun σ162 hf => ?_)
  refine z_iload ok dX5_readNumber_165 2 rfl ?_
  obtain rfl := Option.some.inj hf
  exact hk _ _ dX5_readNumber_167
def Reader_readNumber_j133 (σ : Sg) (x1 : Int32) (x2 : Int32) (x3 : Int32) (x4 : Int32) : Option (Int32 × Sg) :=
  if x4 < x1 then (
    Reader_readNumber_j145 σ x3 x4
  ) else (
    if x4 ≤ x2 then (
      zpt σ 2 2 x3 fun σ157 =>
      zbo 1 <| zpt σ157 2 3 1 fun σ162 =>
      some (x4, σ162)
    ) else (
      Reader_readNumber_j145 σ x3 x4
    )
  )
set_option maxRecDepth 20000 in
theorem t_Reader_readNumber_j133 {X : Zx} {Q : State → Prop} {σ : Sg} {x1 : Int32} {x2 : Int32} {x3 : Int32} {x4 : Int32} (ok : Zok X cX5_readNumber RX5 rm_Reader_readNumber 198 5)  {out : (Int32 × Sg)} (hf : Reader_readNumber_j133 σ x1 x2 x3 x4 = some out) (hk : ZrI cX5_readNumber X Q out.1 out.2) : ZAt X Q 0 0 133 σ [(0, .ref (X.ad 2)), (1, .int x1), (2, .int x2), (3, .int x3), (4, .int x4)] [] := by
  unfold Reader_readNumber_j133 at hf
  refine z_iload ok dX5_readNumber_133 4 rfl ?_
  refine z_iload_n ok dX5_readNumber_135 1 rfl ?_
  refine z_icmp_lt (tgt := 145) ok dX5_readNumber_136 (by decide) hf (fun _ hf => ?_) (fun _ hf => ?_)
  · exact z_sub [0, 3, 4] rfl (t_Reader_readNumber_j145 ok hf hk)
  · refine z_iload ok dX5_readNumber_139 4 rfl ?_
    refine z_iload_n ok dX5_readNumber_141 2 rfl ?_
    refine z_icmp_le (tgt := 155) ok dX5_readNumber_142 (by decide) hf (fun _ hf => ?_) (fun _ hf => ?_)
    · refine z_aload_n ok dX5_readNumber_155 0 rfl ?_
      refine z_iload_n ok dX5_readNumber_156 3 rfl ?_
      refine z_puti ok kc_2 zc_5 hin_5 tyX5 tyX5_ok nmX5 2 (by decide) fl_5_28 rfl rfl (tyX5_ok 2 (by decide)) dX5_readNumber_157 hf (fun σ157 hf => ?_)
      refine z_aload_n ok dX5_readNumber_160 0 rfl ?_
      refine z_iconst (v := 1) ok dX5_readNumber_161 (by decide) ?_
      refine z_putz ok kc_2 zc_5 hin_5 tyX5 tyX5_ok nmX5 3 (by decide) fl_5_31 rfl rfl (tyX5_ok 3 (by decide)) dX5_readNumber_162 hf (fun σ162 hf => ?_)
      refine z_iload ok dX5_readNumber_165 4 rfl ?_
      obtain rfl := Option.some.inj hf
      exact hk _ _ dX5_readNumber_167
    · exact z_sub [0, 3, 4] rfl (t_Reader_readNumber_j145 ok hf hk)
def Reader_readNumber_j65 (σ : Sg) (x1 : Int32) (x2 : Int32) (x3 : Int32) (x4 : Int32) : Option (Int32 × Sg) :=
  zgt σ 2 3 fun v66 =>
  if v66 = 0 then (
    zgt σ 2 2 fun v74 =>
    if x3 = v74 then (
      Reader_readNumber_j80 σ x3 x4
    ) else (
      zgt σ 2 2 fun v95 =>
      if x3 = (v95 + 4) then (
        zgt σ 2 1 fun v105 =>
        if v105 ≤ x3 then (
          Reader_readNumber_j133 σ x1 x2 x3 x4
        ) else (
          zmr1 1 (σ 2 0) <|
          zrd σ 1 1600 x3 fun v116 =>
          (Reader_isDigit v116).bind fun r117 =>
          if (zb r117) = 0 then (
            Reader_readNumber_j133 σ x1 x2 x3 x4
          ) else (
            (Reader_fail σ 1 x3).bind fun r126 =>
            zpt r126.2 2 2 x3 fun σ157 =>
            zbo 1 <| zpt σ157 2 3 1 fun σ162 =>
            some (x4, σ162)
          )
        )
      ) else (
        Reader_readNumber_j133 σ x1 x2 x3 x4
      )
    )
  ) else (
    Reader_readNumber_j80 σ x3 x4
  )
set_option maxRecDepth 20000 in
theorem t_Reader_readNumber_j65 {X : Zx} {Q : State → Prop} {σ : Sg} {x1 : Int32} {x2 : Int32} {x3 : Int32} {x4 : Int32} (ok : Zok X cX5_readNumber RX5 rm_Reader_readNumber 198 5)  {out : (Int32 × Sg)} (hf : Reader_readNumber_j65 σ x1 x2 x3 x4 = some out) (hk : ZrI cX5_readNumber X Q out.1 out.2) : ZAt X Q 0 0 65 σ [(0, .ref (X.ad 2)), (1, .int x1), (2, .int x2), (3, .int x3), (4, .int x4)] [] := by
  unfold Reader_readNumber_j65 at hf
  refine z_aload_n ok dX5_readNumber_65 0 rfl ?_
  refine z_geti ok kc_2 zc_5 hin_5 3 (by decide) fl_5_31 rfl dX5_readNumber_66 hf (fun v66 hf => ?_)
  refine z_if_ne (tgt := 80) ok dX5_readNumber_69 (by decide) hf (fun _ hf => ?_) (fun _ hf => ?_)
  · refine z_iload_n ok dX5_readNumber_72 3 rfl ?_
    refine z_aload_n ok dX5_readNumber_73 0 rfl ?_
    refine z_geti ok kc_2 zc_5 hin_5 2 (by decide) fl_5_28 rfl dX5_readNumber_74 hf (fun v74 hf => ?_)
    refine z_icmp_ne (tgt := 93) ok dX5_readNumber_77 (by decide) hf (fun _ hf => ?_) (fun _ hf => ?_)
    · exact z_sub [0, 3, 4] rfl (t_Reader_readNumber_j80 ok hf hk)
    · refine z_iload_n ok dX5_readNumber_93 3 rfl ?_
      refine z_aload_n ok dX5_readNumber_94 0 rfl ?_
      refine z_geti ok kc_2 zc_5 hin_5 2 (by decide) fl_5_28 rfl dX5_readNumber_95 hf (fun v95 hf => ?_)
      refine z_iconst (v := 4) ok dX5_readNumber_98 (by decide) ?_
      refine z_iadd ok dX5_readNumber_99 ?_
      refine z_icmp_ne (tgt := 133) ok dX5_readNumber_100 (by decide) hf (fun _ hf => ?_) (fun _ hf => ?_)
      · refine z_iload_n ok dX5_readNumber_103 3 rfl ?_
        refine z_aload_n ok dX5_readNumber_104 0 rfl ?_
        refine z_geti ok kc_2 zc_5 hin_5 1 (by decide) fl_5_15 rfl dX5_readNumber_105 hf (fun v105 hf => ?_)
        refine z_icmp_ge (tgt := 133) ok dX5_readNumber_108 (by decide) hf (fun _ hf => ?_) (fun _ hf => ?_)
        · exact z_sub [0, 1, 2, 3, 4] rfl (t_Reader_readNumber_j133 ok hf hk)
        · refine z_aload_n ok dX5_readNumber_111 0 rfl ?_
          refine z_getm1 (p := 1) ok kc_2 zc_5 hin_5 0 (by decide) fl_5_9 rfl (by decide) dX5_readNumber_112 hf (fun hf => ?_)
          refine z_iload_n ok dX5_readNumber_115 3 rfl ?_
          refine z_bald ok kc_1 dX5_readNumber_116 hf (fun v116 hf => ?_)
          refine z_call hf (fun r117 h117 hf => ?_)
          refine z_cS (As := [.int v116]) (rest := []) ok (c_Reader_isDigit h117) rfl ⟨ml_5_244, w_Reader_isDigit⟩ hy_Reader_isDigit ⟨rfl, rfl⟩ ⟨Nat.le_of_ble_eq_true rfl, Nat.le_of_ble_eq_true rfl⟩ ⟨Nat.zero_le _, Nat.zero_le _⟩ rfl (Nat.le_of_ble_eq_true rfl) dX5_readNumber_117 ?_
          refine z_if_eq (tgt := 133) ok dX5_readNumber_120 (by decide) hf (fun _ hf => ?_) (fun _ hf => ?_)
          · exact z_sub [0, 1, 2, 3, 4] rfl (t_Reader_readNumber_j133 ok hf hk)
          · refine z_aload_n ok dX5_readNumber_123 0 rfl ?_
            refine z_iconst (v := 1) ok dX5_readNumber_124 (by decide) ?_
            refine z_iload_n ok dX5_readNumber_125 3 rfl ?_
            refine z_call hf (fun r126 h126 hf => ?_)
            refine z_cV (As := [.int 1, .int x3]) (rest := []) (w := 2) ok kc_2 zc_5 (c_Reader_fail h126) rfl ⟨ml_5_51, w_Reader_fail⟩ hy_Reader_fail ⟨rfl, rfl⟩ ⟨Nat.le_of_ble_eq_true rfl, Nat.le_of_ble_eq_true rfl⟩ ⟨Nat.zero_le _, Nat.zero_le _⟩ rfl (Nat.le_of_ble_eq_true rfl) dX5_readNumber_126 ?_
            refine z_pop ok dX5_readNumber_129 rfl ?_
            refine z_goto (tgt := 155) ok dX5_readNumber_130 (by decide) ?_
            refine z_aload_n ok dX5_readNumber_155 0 rfl ?_
            refine z_iload_n ok dX5_readNumber_156 3 rfl ?_
            refine z_puti ok kc_2 zc_5 hin_5 tyX5 tyX5_ok nmX5 2 (by decide) fl_5_28 rfl rfl (tyX5_ok 2 (by decide)) dX5_readNumber_157 hf (fun σ157 hf => ?_)
            refine z_aload_n ok dX5_readNumber_160 0 rfl ?_
            refine z_iconst (v := 1) ok dX5_readNumber_161 (by decide) ?_
            refine z_putz ok kc_2 zc_5 hin_5 tyX5 tyX5_ok nmX5 3 (by decide) fl_5_31 rfl rfl (tyX5_ok 3 (by decide)) dX5_readNumber_162 hf (fun σ162 hf => ?_)
            refine z_iload ok dX5_readNumber_165 4 rfl ?_
            obtain rfl := Option.some.inj hf
            exact hk _ _ dX5_readNumber_167
      · exact z_sub [0, 1, 2, 3, 4] rfl (t_Reader_readNumber_j133 ok hf hk)
  · exact z_sub [0, 3, 4] rfl (t_Reader_readNumber_j80 ok hf hk)
def Reader_readNumber (σ : Sg) (x1 : Int32) (x2 : Int32) : Option (Int32 × Sg) :=
  (Reader_skipBlanks σ).bind fun r1 =>
  zgt r1 2 2 fun v5 =>
  zlt 0 fun v10 =>
  (zit (fun (s : (Int32 × Int32)) => Reader_readNumber_l12 r1 x1 x2 s.1 s.2) zFU (v5, v10)).bind fun r =>
  Reader_readNumber_j65 r1 x1 x2 r.1 r.2
set_option maxRecDepth 20000 in
theorem t_Reader_readNumber {X : Zx} {Q : State → Prop} {σ : Sg} {x1 : Int32} {x2 : Int32} (ok : Zok X cX5_readNumber RX5 rm_Reader_readNumber 198 5)  {out : (Int32 × Sg)} (hf : Reader_readNumber σ x1 x2 = some out) (hk : ZrI cX5_readNumber X Q out.1 out.2) : ZAt X Q 0 0 0 σ [(0, .ref (X.ad 2)), (1, .int x1), (2, .int x2)] [] := by
  unfold Reader_readNumber at hf
  refine z_aload_n ok dX5_readNumber_0 0 rfl ?_
  refine z_call hf (fun r1 h1 hf => ?_)
  refine z_cVv (As := []) (rest := []) (w := 2) ok kc_2 zc_5 (c_Reader_skipBlanks h1) rfl ⟨ml_5_41, w_Reader_skipBlanks⟩ hy_Reader_skipBlanks ⟨rfl, rfl⟩ ⟨Nat.le_of_ble_eq_true rfl, Nat.le_of_ble_eq_true rfl⟩ ⟨Nat.zero_le _, Nat.zero_le _⟩ rfl (Nat.le_of_ble_eq_true rfl) dX5_readNumber_1 ?_
  refine z_aload_n ok dX5_readNumber_4 0 rfl ?_
  refine z_geti ok kc_2 zc_5 hin_5 2 (by decide) fl_5_28 rfl dX5_readNumber_5 hf (fun v5 hf => ?_)
  refine z_istore_n (lv' := [(3, .int v5), (0, .ref (X.ad 2)), (1, .int x1), (2, .int x2)]) ok dX5_readNumber_8 (by decide) rfl ?_
  refine z_iconst (v := 0) ok dX5_readNumber_9 (by decide) ?_
  refine z_nm hf (fun v10 hf => ?_)
  refine z_istore (lv' := [(4, .int v10), (3, .int v5), (0, .ref (X.ad 2)), (1, .int x1), (2, .int x2)]) ok dX5_readNumber_10 (by decide) rfl ?_
  refine z_call hf (fun r hr hf => ?_)
  refine z_sub [2, 3, 4, 1, 0] rfl (z_iter (fun (s : (Int32 × Int32)) => r1) (fun (s : (Int32 × Int32)) => [(0, .ref (X.ad 2)), (1, .int x1), (2, .int x2), (3, .int s.1), (4, .int s.2)]) (fun s o h1 h2 => t_Reader_readNumber_l12 ok h1 h2) _ _ _ hr ?_)
  show ZAt X Q 0 0 65 r1 [(0, .ref (X.ad 2)), (1, .int x1), (2, .int x2), (3, .int r.1), (4, .int r.2)] []
  exact z_sub [0, 1, 2, 3, 4] rfl (t_Reader_readNumber_j65 ok hf hk)
theorem c_Reader_readNumber {σ : Sg} {x1 : Int32} {x2 : Int32} {r : (Int32 × Sg)} (h : Reader_readNumber σ x1 x2 = some r) : ZcI yX5_readNumber cX5_readNumber 5 .int rm_Reader_readNumber 198 (fun ad => [.ref (ad 2), .int x1, .int x2]) σ r.1 r.2 :=
  zmetI pn_5 rfl (fun _ => rfl) (fun _ => Nat.le_of_ble_eq_true rfl) rfl (fun X Q ok hk => t_Reader_readNumber ok h hk)
theorem dX5_standsSign_0 : decode cX5_standsSign 0 = .ok (.aload_n 0, 1) := by decide +kernel
theorem dX5_standsSign_1 : decode cX5_standsSign 1 = .ok (.invokevirtual 41, 3) := by decide +kernel
theorem dX5_standsSign_4 : decode cX5_standsSign 4 = .ok (.aload_n 0, 1) := by decide +kernel
theorem dX5_standsSign_5 : decode cX5_standsSign 5 = .ok (.getfield 28, 3) := by decide +kernel
theorem dX5_standsSign_8 : decode cX5_standsSign 8 = .ok (.aload_n 0, 1) := by decide +kernel
theorem dX5_standsSign_9 : decode cX5_standsSign 9 = .ok (.getfield 15, 3) := by decide +kernel
theorem dX5_standsSign_12 : decode cX5_standsSign 12 = .ok (.if_icmp .ge 20, 3) := by decide +kernel
theorem dX5_standsSign_15 : decode cX5_standsSign 15 = .ok (.aload_n 0, 1) := by decide +kernel
theorem dX5_standsSign_16 : decode cX5_standsSign 16 = .ok (.getfield 9, 3) := by decide +kernel
theorem dX5_standsSign_19 : decode cX5_standsSign 19 = .ok (.aload_n 0, 1) := by decide +kernel
theorem dX5_standsSign_20 : decode cX5_standsSign 20 = .ok (.getfield 28, 3) := by decide +kernel
theorem dX5_standsSign_23 : decode cX5_standsSign 23 = .ok (.baload, 1) := by decide +kernel
theorem dX5_standsSign_24 : decode cX5_standsSign 24 = .ok (.iload_n 1, 1) := by decide +kernel
theorem dX5_standsSign_25 : decode cX5_standsSign 25 = .ok (.if_icmp .ne 7, 3) := by decide +kernel
theorem dX5_standsSign_28 : decode cX5_standsSign 28 = .ok (.iconst 1, 1) := by decide +kernel
theorem dX5_standsSign_29 : decode cX5_standsSign 29 = .ok (.goto 4, 3) := by decide +kernel
theorem dX5_standsSign_32 : decode cX5_standsSign 32 = .ok (.iconst 0, 1) := by decide +kernel
theorem dX5_standsSign_33 : decode cX5_standsSign 33 = .ok (.ireturn, 1) := by decide +kernel
abbrev rm_Reader_standsSign : Room := { frames := 1, cells := 0, slots := 0, locals := 20 }
def Reader_standsSign (σ : Sg) (x1 : Int32) : Option (Bool × Sg) :=
  (Reader_skipBlanks σ).bind fun r1 =>
  zgt r1 2 2 fun v5 =>
  zgt r1 2 1 fun v9 =>
  if v9 ≤ v5 then (
    some (false, r1)
  ) else (
    zmr1 1 (r1 2 0) <|
    zgt r1 2 2 fun v20 =>
    zrd r1 1 1600 v20 fun v23 =>
    if v23 = x1 then (
      some (true, r1)
    ) else (
      some (false, r1)
    )
  )
set_option maxRecDepth 20000 in
theorem t_Reader_standsSign {X : Zx} {Q : State → Prop} {σ : Sg} {x1 : Int32} (ok : Zok X cX5_standsSign RX5 rm_Reader_standsSign 198 2)  {out : (Bool × Sg)} (hf : Reader_standsSign σ x1 = some out) (hk : ZrI cX5_standsSign X Q (zb out.1) out.2) : ZAt X Q 0 0 0 σ [(0, .ref (X.ad 2)), (1, .int x1)] [] := by
  unfold Reader_standsSign at hf
  refine z_aload_n ok dX5_standsSign_0 0 rfl ?_
  refine z_call hf (fun r1 h1 hf => ?_)
  refine z_cVv (As := []) (rest := []) (w := 2) ok kc_2 zc_5 (c_Reader_skipBlanks h1) rfl ⟨ml_5_41, w_Reader_skipBlanks⟩ hy_Reader_skipBlanks ⟨rfl, rfl⟩ ⟨Nat.le_of_ble_eq_true rfl, Nat.le_of_ble_eq_true rfl⟩ ⟨Nat.zero_le _, Nat.zero_le _⟩ rfl (Nat.le_of_ble_eq_true rfl) dX5_standsSign_1 ?_
  refine z_aload_n ok dX5_standsSign_4 0 rfl ?_
  refine z_geti ok kc_2 zc_5 hin_5 2 (by decide) fl_5_28 rfl dX5_standsSign_5 hf (fun v5 hf => ?_)
  refine z_aload_n ok dX5_standsSign_8 0 rfl ?_
  refine z_geti ok kc_2 zc_5 hin_5 1 (by decide) fl_5_15 rfl dX5_standsSign_9 hf (fun v9 hf => ?_)
  refine z_icmp_ge (tgt := 32) ok dX5_standsSign_12 (by decide) hf (fun _ hf => ?_) (fun _ hf => ?_)
  · refine z_iconst (v := 0) ok dX5_standsSign_32 (by decide) ?_
    obtain rfl := Option.some.inj hf
    exact hk _ _ dX5_standsSign_33
  · refine z_aload_n ok dX5_standsSign_15 0 rfl ?_
    refine z_getm1 (p := 1) ok kc_2 zc_5 hin_5 0 (by decide) fl_5_9 rfl (by decide) dX5_standsSign_16 hf (fun hf => ?_)
    refine z_aload_n ok dX5_standsSign_19 0 rfl ?_
    refine z_geti ok kc_2 zc_5 hin_5 2 (by decide) fl_5_28 rfl dX5_standsSign_20 hf (fun v20 hf => ?_)
    refine z_bald ok kc_1 dX5_standsSign_23 hf (fun v23 hf => ?_)
    refine z_iload_n ok dX5_standsSign_24 1 rfl ?_
    refine z_icmp_ne (tgt := 32) ok dX5_standsSign_25 (by decide) hf (fun _ hf => ?_) (fun _ hf => ?_)
    · refine z_iconst (v := 1) ok dX5_standsSign_28 (by decide) ?_
      refine z_goto (tgt := 33) ok dX5_standsSign_29 (by decide) ?_
      obtain rfl := Option.some.inj hf
      exact hk _ _ dX5_standsSign_33
    · refine z_iconst (v := 0) ok dX5_standsSign_32 (by decide) ?_
      obtain rfl := Option.some.inj hf
      exact hk _ _ dX5_standsSign_33
theorem c_Reader_standsSign {σ : Sg} {x1 : Int32} {r : (Bool × Sg)} (h : Reader_standsSign σ x1 = some r) : ZcI yX5_standsSign cX5_standsSign 2 .boolean rm_Reader_standsSign 198 (fun ad => [.ref (ad 2), .int x1]) σ (zb r.1) r.2 :=
  zmetI pn_5 rfl (fun _ => rfl) (fun _ => Nat.le_of_ble_eq_true rfl) (zb_nar _) (fun X Q ok hk => t_Reader_standsSign ok h hk)
theorem dX5_readSign_0 : decode cX5_readSign 0 = .ok (.aload_n 0, 1) := by decide +kernel
theorem dX5_readSign_1 : decode cX5_readSign 1 = .ok (.iload_n 1, 1) := by decide +kernel
theorem dX5_readSign_2 : decode cX5_readSign 2 = .ok (.invokevirtual 220, 3) := by decide +kernel
theorem dX5_readSign_5 : decode cX5_readSign 5 = .ok (.ifCond .ne 13, 3) := by decide +kernel
theorem dX5_readSign_8 : decode cX5_readSign 8 = .ok (.aload_n 0, 1) := by decide +kernel
theorem dX5_readSign_9 : decode cX5_readSign 9 = .ok (.iconst 1, 1) := by decide +kernel
theorem dX5_readSign_10 : decode cX5_readSign 10 = .ok (.aload_n 0, 1) := by decide +kernel
theorem dX5_readSign_11 : decode cX5_readSign 11 = .ok (.getfield 28, 3) := by decide +kernel
theorem dX5_readSign_14 : decode cX5_readSign 14 = .ok (.invokevirtual 51, 3) := by decide +kernel
theorem dX5_readSign_17 : decode cX5_readSign 17 = .ok (.ireturn, 1) := by decide +kernel
theorem dX5_readSign_18 : decode cX5_readSign 18 = .ok (.aload_n 0, 1) := by decide +kernel
theorem dX5_readSign_19 : decode cX5_readSign 19 = .ok (.dup, 1) := by decide +kernel
theorem dX5_readSign_20 : decode cX5_readSign 20 = .ok (.getfield 28, 3) := by decide +kernel
theorem dX5_readSign_23 : decode cX5_readSign 23 = .ok (.iconst 1, 1) := by decide +kernel
theorem dX5_readSign_24 : decode cX5_readSign 24 = .ok (.iadd, 1) := by decide +kernel
theorem dX5_readSign_25 : decode cX5_readSign 25 = .ok (.putfield 28, 3) := by decide +kernel
theorem dX5_readSign_28 : decode cX5_readSign 28 = .ok (.aload_n 0, 1) := by decide +kernel
theorem dX5_readSign_29 : decode cX5_readSign 29 = .ok (.iconst 0, 1) := by decide +kernel
theorem dX5_readSign_30 : decode cX5_readSign 30 = .ok (.putfield 31, 3) := by decide +kernel
theorem dX5_readSign_33 : decode cX5_readSign 33 = .ok (.iconst 1, 1) := by decide +kernel
theorem dX5_readSign_34 : decode cX5_readSign 34 = .ok (.ireturn, 1) := by decide +kernel
abbrev rm_Reader_readSign : Room := { frames := 2, cells := 0, slots := 0, locals := 41 }
def Reader_readSign (σ : Sg) (x1 : Int32) : Option (Bool × Sg) :=
  (Reader_standsSign σ x1).bind fun r2 =>
  if (zb r2.1) = 0 then (
    zgt r2.2 2 2 fun v11 =>
    (Reader_fail r2.2 1 v11).bind fun r14 =>
    some (r14.1, r14.2)
  ) else (
    zgt r2.2 2 2 fun v20 =>
    zpt r2.2 2 2 (v20 + 1) fun σ25 =>
    zbo 0 <| zpt σ25 2 3 0 fun σ30 =>
    some (true, σ30)
  )
set_option maxRecDepth 20000 in
theorem t_Reader_readSign {X : Zx} {Q : State → Prop} {σ : Sg} {x1 : Int32} (ok : Zok X cX5_readSign RX5 rm_Reader_readSign 198 2)  {out : (Bool × Sg)} (hf : Reader_readSign σ x1 = some out) (hk : ZrI cX5_readSign X Q (zb out.1) out.2) : ZAt X Q 0 0 0 σ [(0, .ref (X.ad 2)), (1, .int x1)] [] := by
  unfold Reader_readSign at hf
  refine z_aload_n ok dX5_readSign_0 0 rfl ?_
  refine z_iload_n ok dX5_readSign_1 1 rfl ?_
  refine z_call hf (fun r2 h2 hf => ?_)
  refine z_cV (As := [.int x1]) (rest := []) (w := 2) ok kc_2 zc_5 (c_Reader_standsSign h2) rfl ⟨ml_5_220, w_Reader_standsSign⟩ hy_Reader_standsSign ⟨rfl, rfl⟩ ⟨Nat.le_of_ble_eq_true rfl, Nat.le_of_ble_eq_true rfl⟩ ⟨Nat.zero_le _, Nat.zero_le _⟩ rfl (Nat.le_of_ble_eq_true rfl) dX5_readSign_2 ?_
  refine z_if_ne (tgt := 18) ok dX5_readSign_5 (by decide) hf (fun _ hf => ?_) (fun _ hf => ?_)
  · refine z_aload_n ok dX5_readSign_8 0 rfl ?_
    refine z_iconst (v := 1) ok dX5_readSign_9 (by decide) ?_
    refine z_aload_n ok dX5_readSign_10 0 rfl ?_
    refine z_geti ok kc_2 zc_5 hin_5 2 (by decide) fl_5_28 rfl dX5_readSign_11 hf (fun v11 hf => ?_)
    refine z_call hf (fun r14 h14 hf => ?_)
    refine z_cV (As := [.int 1, .int v11]) (rest := []) (w := 2) ok kc_2 zc_5 (c_Reader_fail h14) rfl ⟨ml_5_51, w_Reader_fail⟩ hy_Reader_fail ⟨rfl, rfl⟩ ⟨Nat.le_of_ble_eq_true rfl, Nat.le_of_ble_eq_true rfl⟩ ⟨Nat.zero_le _, Nat.zero_le _⟩ rfl (Nat.le_of_ble_eq_true rfl) dX5_readSign_14 ?_
    obtain rfl := Option.some.inj hf
    exact hk _ _ dX5_readSign_17
  · refine z_aload_n ok dX5_readSign_18 0 rfl ?_
    refine z_dup ok dX5_readSign_19 rfl ?_
    refine z_geti ok kc_2 zc_5 hin_5 2 (by decide) fl_5_28 rfl dX5_readSign_20 hf (fun v20 hf => ?_)
    refine z_iconst (v := 1) ok dX5_readSign_23 (by decide) ?_
    refine z_iadd ok dX5_readSign_24 ?_
    refine z_puti ok kc_2 zc_5 hin_5 tyX5 tyX5_ok nmX5 2 (by decide) fl_5_28 rfl rfl (tyX5_ok 2 (by decide)) dX5_readSign_25 hf (fun σ25 hf => ?_)
    refine z_aload_n ok dX5_readSign_28 0 rfl ?_
    refine z_iconst (v := 0) ok dX5_readSign_29 (by decide) ?_
    refine z_putz ok kc_2 zc_5 hin_5 tyX5 tyX5_ok nmX5 3 (by decide) fl_5_31 rfl rfl (tyX5_ok 3 (by decide)) dX5_readSign_30 hf (fun σ30 hf => ?_)
    refine z_iconst (v := 1) ok dX5_readSign_33 (by decide) ?_
    obtain rfl := Option.some.inj hf
    exact hk _ _ dX5_readSign_34
theorem c_Reader_readSign {σ : Sg} {x1 : Int32} {r : (Bool × Sg)} (h : Reader_readSign σ x1 = some r) : ZcI yX5_readSign cX5_readSign 2 .boolean rm_Reader_readSign 198 (fun ad => [.ref (ad 2), .int x1]) σ (zb r.1) r.2 :=
  zmetI pn_5 rfl (fun _ => rfl) (fun _ => Nat.le_of_ble_eq_true rfl) (zb_nar _) (fun X Q ok hk => t_Reader_readSign ok h hk)
theorem dX5_readCanal_0 : decode cX5_readCanal 0 = .ok (.aload_n 0, 1) := by decide +kernel
theorem dX5_readCanal_1 : decode cX5_readCanal 1 = .ok (.ldc 108, 2) := by decide +kernel
theorem dX5_readCanal_3 : decode cX5_readCanal 3 = .ok (.invokevirtual 110, 3) := by decide +kernel
theorem dX5_readCanal_6 : decode cX5_readCanal 6 = .ok (.ifCond .eq 12, 3) := by decide +kernel
theorem dX5_readCanal_9 : decode cX5_readCanal 9 = .ok (.aload_n 0, 1) := by decide +kernel
theorem dX5_readCanal_10 : decode cX5_readCanal 10 = .ok (.ldc 113, 2) := by decide +kernel
theorem dX5_readCanal_12 : decode cX5_readCanal 12 = .ok (.invokevirtual 110, 3) := by decide +kernel
theorem dX5_readCanal_15 : decode cX5_readCanal 15 = .ok (.ifCond .ne 5, 3) := by decide +kernel
theorem dX5_readCanal_18 : decode cX5_readCanal 18 = .ok (.iconst 0, 1) := by decide +kernel
theorem dX5_readCanal_19 : decode cX5_readCanal 19 = .ok (.ireturn, 1) := by decide +kernel
theorem dX5_readCanal_20 : decode cX5_readCanal 20 = .ok (.aload_n 0, 1) := by decide +kernel
theorem dX5_readCanal_21 : decode cX5_readCanal 21 = .ok (.getfield 19, 3) := by decide +kernel
theorem dX5_readCanal_24 : decode cX5_readCanal 24 = .ok (.aload_n 0, 1) := by decide +kernel
theorem dX5_readCanal_25 : decode cX5_readCanal 25 = .ok (.iconst 0, 1) := by decide +kernel
theorem dX5_readCanal_26 : decode cX5_readCanal 26 = .ok (.sipush 999, 3) := by decide +kernel
theorem dX5_readCanal_29 : decode cX5_readCanal 29 = .ok (.invokevirtual 115, 3) := by decide +kernel
theorem dX5_readCanal_32 : decode cX5_readCanal 32 = .ok (.putfield 119, 3) := by decide +kernel
theorem dX5_readCanal_35 : decode cX5_readCanal 35 = .ok (.aload_n 0, 1) := by decide +kernel
theorem dX5_readCanal_36 : decode cX5_readCanal 36 = .ok (.getfield 35, 3) := by decide +kernel
theorem dX5_readCanal_39 : decode cX5_readCanal 39 = .ok (.ifCond .ne 16, 3) := by decide +kernel
theorem dX5_readCanal_42 : decode cX5_readCanal 42 = .ok (.aload_n 0, 1) := by decide +kernel
theorem dX5_readCanal_43 : decode cX5_readCanal 43 = .ok (.bipush 59, 2) := by decide +kernel
theorem dX5_readCanal_45 : decode cX5_readCanal 45 = .ok (.invokevirtual 121, 3) := by decide +kernel
theorem dX5_readCanal_48 : decode cX5_readCanal 48 = .ok (.ifCond .eq 7, 3) := by decide +kernel
theorem dX5_readCanal_51 : decode cX5_readCanal 51 = .ok (.iconst 1, 1) := by decide +kernel
theorem dX5_readCanal_52 : decode cX5_readCanal 52 = .ok (.goto 4, 3) := by decide +kernel
theorem dX5_readCanal_55 : decode cX5_readCanal 55 = .ok (.iconst 0, 1) := by decide +kernel
theorem dX5_readCanal_56 : decode cX5_readCanal 56 = .ok (.ireturn, 1) := by decide +kernel
abbrev rm_Reader_readCanal : Room := { frames := 6, cells := 0, slots := 0, locals := 128 }
def Reader_readCanal (σ : Sg)  : Option (Bool × Sg) :=
  (Reader_readWord σ 0).bind fun r3 =>
  if (zb r3.1) = 0 then (
    some (false, r3.2)
  ) else (
    (Reader_readWord r3.2 1).bind fun r12 =>
    if (zb r12.1) = 0 then (
      some (false, r12.2)
    ) else (
      zmr2 3 29 (r12.2 2 5) fun q21 =>
      (Reader_readNumber r12.2 0 999).bind fun r29 =>
      zpt r29.2 q21 1 r29.1 fun σ32 =>
      zgt σ32 2 6 fun v36 =>
      if v36 = 0 then (
        (Reader_readSign σ32 59).bind fun r45 =>
        if (zb r45.1) = 0 then (
          some (false, r45.2)
        ) else (
          some (true, r45.2)
        )
      ) else (
        some (false, σ32)
      )
    )
  )
set_option maxRecDepth 20000 in
theorem t_Reader_readCanal {X : Zx} {Q : State → Prop} {σ : Sg}  (ok : Zok X cX5_readCanal RX5 rm_Reader_readCanal 198 1)  {out : (Bool × Sg)} (hf : Reader_readCanal σ = some out) (hk : ZrI cX5_readCanal X Q (zb out.1) out.2) : ZAt X Q 0 0 0 σ [(0, .ref (X.ad 2))] [] := by
  unfold Reader_readCanal at hf
  refine z_aload_n ok dX5_readCanal_0 0 rfl ?_
  refine z_ldcS ok 0 rfl dX5_readCanal_1 ?_
  refine z_call hf (fun r3 h3 hf => ?_)
  refine z_cV (As := [.ref (X.ad (1000000 + 0))]) (rest := []) (w := 2) ok kc_2 zc_5 (c_Reader_readWord (by decide) h3) rfl ⟨ml_5_110, w_Reader_readWord⟩ hy_Reader_readWord ⟨rfl, rfl⟩ ⟨Nat.le_of_ble_eq_true rfl, Nat.le_of_ble_eq_true rfl⟩ ⟨Nat.zero_le _, Nat.zero_le _⟩ rfl (Nat.le_of_ble_eq_true rfl) dX5_readCanal_3 ?_
  refine z_if_eq (tgt := 18) ok dX5_readCanal_6 (by decide) hf (fun _ hf => ?_) (fun _ hf => ?_)
  · refine z_iconst (v := 0) ok dX5_readCanal_18 (by decide) ?_
    obtain rfl := Option.some.inj hf
    exact hk _ _ dX5_readCanal_19
  · refine z_aload_n ok dX5_readCanal_9 0 rfl ?_
    refine z_ldcS ok 1 rfl dX5_readCanal_10 ?_
    refine z_call hf (fun r12 h12 hf => ?_)
    refine z_cV (As := [.ref (X.ad (1000000 + 1))]) (rest := []) (w := 2) ok kc_2 zc_5 (c_Reader_readWord (by decide) h12) rfl ⟨ml_5_110, w_Reader_readWord⟩ hy_Reader_readWord ⟨rfl, rfl⟩ ⟨Nat.le_of_ble_eq_true rfl, Nat.le_of_ble_eq_true rfl⟩ ⟨Nat.zero_le _, Nat.zero_le _⟩ rfl (Nat.le_of_ble_eq_true rfl) dX5_readCanal_12 ?_
    refine z_if_ne (tgt := 20) ok dX5_readCanal_15 (by decide) hf (fun _ hf => ?_) (fun _ hf => ?_)
    · refine z_iconst (v := 0) ok dX5_readCanal_18 (by decide) ?_
      obtain rfl := Option.some.inj hf
      exact hk _ _ dX5_readCanal_19
    · refine z_aload_n ok dX5_readCanal_20 0 rfl ?_
      refine z_getm2 (p := 3) (q := 29) ok kc_2 zc_5 hin_5 5 (by decide) fl_5_19 rfl (by decide) (by decide) dX5_readCanal_21 hf (fun q21 e21 hf => ?_)
      have hq21 : zI_Works q21 198 := by rcases e21 with rfl | rfl; exact kI_Works_3; exact kI_Works_29
      obtain ⟨hq21_0, hq21_1, hq21_2, hq21_3, hq21_4, hq21_5, hq21_6, hq21_7, hq21_8, hq21_9, hq21_10, hq21_11, hq21_12, hq21_13, hq21_14, hq21_15, hq21_16, hq21_17, hq21_18, hq21_19, hq21_20, hq21_21, hq21_22, hq21_23, hq21_24, hq21_25⟩ := id hq21
      refine z_aload_n ok dX5_readCanal_24 0 rfl ?_
      refine z_iconst (v := 0) ok dX5_readCanal_25 (by decide) ?_
      refine z_sipush (v := 999) ok dX5_readCanal_26 (by decide) ?_
      refine z_call hf (fun r29 h29 hf => ?_)
      refine z_cV (As := [.int 0, .int 999]) (rest := [.ref (X.ad q21)]) (w := 2) ok kc_2 zc_5 (c_Reader_readNumber h29) rfl ⟨ml_5_115, w_Reader_readNumber⟩ hy_Reader_readNumber ⟨rfl, rfl⟩ ⟨Nat.le_of_ble_eq_true rfl, Nat.le_of_ble_eq_true rfl⟩ ⟨Nat.zero_le _, Nat.zero_le _⟩ rfl (Nat.le_of_ble_eq_true rfl) dX5_readCanal_29 ?_
      refine z_puti ok hq21_0 zc_10 hin_10 tyX10 tyX10_ok nmX10 1 (by decide) fl_5_119 rfl rfl (tyX10_ok 1 (by decide)) dX5_readCanal_32 hf (fun σ32 hf => ?_)
      refine z_aload_n ok dX5_readCanal_35 0 rfl ?_
      refine z_geti ok kc_2 zc_5 hin_5 6 (by decide) fl_5_35 rfl dX5_readCanal_36 hf (fun v36 hf => ?_)
      refine z_if_ne (tgt := 55) ok dX5_readCanal_39 (by decide) hf (fun _ hf => ?_) (fun _ hf => ?_)
      · refine z_aload_n ok dX5_readCanal_42 0 rfl ?_
        refine z_bipush (v := 59) ok dX5_readCanal_43 (by decide) ?_
        refine z_call hf (fun r45 h45 hf => ?_)
        refine z_cV (As := [.int 59]) (rest := []) (w := 2) ok kc_2 zc_5 (c_Reader_readSign h45) rfl ⟨ml_5_121, w_Reader_readSign⟩ hy_Reader_readSign ⟨rfl, rfl⟩ ⟨Nat.le_of_ble_eq_true rfl, Nat.le_of_ble_eq_true rfl⟩ ⟨Nat.zero_le _, Nat.zero_le _⟩ rfl (Nat.le_of_ble_eq_true rfl) dX5_readCanal_45 ?_
        refine z_if_eq (tgt := 55) ok dX5_readCanal_48 (by decide) hf (fun _ hf => ?_) (fun _ hf => ?_)
        · refine z_iconst (v := 0) ok dX5_readCanal_55 (by decide) ?_
          obtain rfl := Option.some.inj hf
          exact hk _ _ dX5_readCanal_56
        · refine z_iconst (v := 1) ok dX5_readCanal_51 (by decide) ?_
          refine z_goto (tgt := 56) ok dX5_readCanal_52 (by decide) ?_
          obtain rfl := Option.some.inj hf
          exact hk _ _ dX5_readCanal_56
      · refine z_iconst (v := 0) ok dX5_readCanal_55 (by decide) ?_
        obtain rfl := Option.some.inj hf
        exact hk _ _ dX5_readCanal_56
theorem c_Reader_readCanal {σ : Sg} {r : (Bool × Sg)} (h : Reader_readCanal σ = some r) : ZcI yX5_readCanal cX5_readCanal 1 .boolean rm_Reader_readCanal 198 (fun ad => [.ref (ad 2)]) σ (zb r.1) r.2 :=
  zmetI pn_5 rfl (fun _ => rfl) (fun _ => Nat.le_of_ble_eq_true rfl) (zb_nar _) (fun X Q ok hk => t_Reader_readCanal ok h hk)
theorem dX5_readKeep_0 : decode cX5_readKeep 0 = .ok (.aload_n 0, 1) := by decide +kernel
theorem dX5_readKeep_1 : decode cX5_readKeep 1 = .ok (.ldc 58, 2) := by decide +kernel
theorem dX5_readKeep_3 : decode cX5_readKeep 3 = .ok (.invokevirtual 110, 3) := by decide +kernel
theorem dX5_readKeep_6 : decode cX5_readKeep 6 = .ok (.ifCond .ne 5, 3) := by decide +kernel
theorem dX5_readKeep_9 : decode cX5_readKeep 9 = .ok (.iconst 0, 1) := by decide +kernel
theorem dX5_readKeep_10 : decode cX5_readKeep 10 = .ok (.ireturn, 1) := by decide +kernel
theorem dX5_readKeep_11 : decode cX5_readKeep 11 = .ok (.aload_n 0, 1) := by decide +kernel
theorem dX5_readKeep_12 : decode cX5_readKeep 12 = .ok (.getfield 19, 3) := by decide +kernel
theorem dX5_readKeep_15 : decode cX5_readKeep 15 = .ok (.aload_n 0, 1) := by decide +kernel
theorem dX5_readKeep_16 : decode cX5_readKeep 16 = .ok (.iconst 1, 1) := by decide +kernel
theorem dX5_readKeep_17 : decode cX5_readKeep 17 = .ok (.bipush 99, 2) := by decide +kernel
theorem dX5_readKeep_19 : decode cX5_readKeep 19 = .ok (.invokevirtual 115, 3) := by decide +kernel
theorem dX5_readKeep_22 : decode cX5_readKeep 22 = .ok (.putfield 125, 3) := by decide +kernel
theorem dX5_readKeep_25 : decode cX5_readKeep 25 = .ok (.aload_n 0, 1) := by decide +kernel
theorem dX5_readKeep_26 : decode cX5_readKeep 26 = .ok (.getfield 35, 3) := by decide +kernel
theorem dX5_readKeep_29 : decode cX5_readKeep 29 = .ok (.ifCond .ne 16, 3) := by decide +kernel
theorem dX5_readKeep_32 : decode cX5_readKeep 32 = .ok (.aload_n 0, 1) := by decide +kernel
theorem dX5_readKeep_33 : decode cX5_readKeep 33 = .ok (.bipush 59, 2) := by decide +kernel
theorem dX5_readKeep_35 : decode cX5_readKeep 35 = .ok (.invokevirtual 121, 3) := by decide +kernel
theorem dX5_readKeep_38 : decode cX5_readKeep 38 = .ok (.ifCond .eq 7, 3) := by decide +kernel
theorem dX5_readKeep_41 : decode cX5_readKeep 41 = .ok (.iconst 1, 1) := by decide +kernel
theorem dX5_readKeep_42 : decode cX5_readKeep 42 = .ok (.goto 4, 3) := by decide +kernel
theorem dX5_readKeep_45 : decode cX5_readKeep 45 = .ok (.iconst 0, 1) := by decide +kernel
theorem dX5_readKeep_46 : decode cX5_readKeep 46 = .ok (.ireturn, 1) := by decide +kernel
abbrev rm_Reader_readKeep : Room := { frames := 6, cells := 0, slots := 0, locals := 128 }
def Reader_readKeep (σ : Sg)  : Option (Bool × Sg) :=
  (Reader_readWord σ 2).bind fun r3 =>
  if (zb r3.1) = 0 then (
    some (false, r3.2)
  ) else (
    zmr2 3 29 (r3.2 2 5) fun q12 =>
    (Reader_readNumber r3.2 1 99).bind fun r19 =>
    zpt r19.2 q12 2 r19.1 fun σ22 =>
    zgt σ22 2 6 fun v26 =>
    if v26 = 0 then (
      (Reader_readSign σ22 59).bind fun r35 =>
      if (zb r35.1) = 0 then (
        some (false, r35.2)
      ) else (
        some (true, r35.2)
      )
    ) else (
      some (false, σ22)
    )
  )
set_option maxRecDepth 20000 in
theorem t_Reader_readKeep {X : Zx} {Q : State → Prop} {σ : Sg}  (ok : Zok X cX5_readKeep RX5 rm_Reader_readKeep 198 1)  {out : (Bool × Sg)} (hf : Reader_readKeep σ = some out) (hk : ZrI cX5_readKeep X Q (zb out.1) out.2) : ZAt X Q 0 0 0 σ [(0, .ref (X.ad 2))] [] := by
  unfold Reader_readKeep at hf
  refine z_aload_n ok dX5_readKeep_0 0 rfl ?_
  refine z_ldcS ok 2 rfl dX5_readKeep_1 ?_
  refine z_call hf (fun r3 h3 hf => ?_)
  refine z_cV (As := [.ref (X.ad (1000000 + 2))]) (rest := []) (w := 2) ok kc_2 zc_5 (c_Reader_readWord (by decide) h3) rfl ⟨ml_5_110, w_Reader_readWord⟩ hy_Reader_readWord ⟨rfl, rfl⟩ ⟨Nat.le_of_ble_eq_true rfl, Nat.le_of_ble_eq_true rfl⟩ ⟨Nat.zero_le _, Nat.zero_le _⟩ rfl (Nat.le_of_ble_eq_true rfl) dX5_readKeep_3 ?_
  refine z_if_ne (tgt := 11) ok dX5_readKeep_6 (by decide) hf (fun _ hf => ?_) (fun _ hf => ?_)
  · refine z_iconst (v := 0) ok dX5_readKeep_9 (by decide) ?_
    obtain rfl := Option.some.inj hf
    exact hk _ _ dX5_readKeep_10
  · refine z_aload_n ok dX5_readKeep_11 0 rfl ?_
    refine z_getm2 (p := 3) (q := 29) ok kc_2 zc_5 hin_5 5 (by decide) fl_5_19 rfl (by decide) (by decide) dX5_readKeep_12 hf (fun q12 e12 hf => ?_)
    have hq12 : zI_Works q12 198 := by rcases e12 with rfl | rfl; exact kI_Works_3; exact kI_Works_29
    obtain ⟨hq12_0, hq12_1, hq12_2, hq12_3, hq12_4, hq12_5, hq12_6, hq12_7, hq12_8, hq12_9, hq12_10, hq12_11, hq12_12, hq12_13, hq12_14, hq12_15, hq12_16, hq12_17, hq12_18, hq12_19, hq12_20, hq12_21, hq12_22, hq12_23, hq12_24, hq12_25⟩ := id hq12
    refine z_aload_n ok dX5_readKeep_15 0 rfl ?_
    refine z_iconst (v := 1) ok dX5_readKeep_16 (by decide) ?_
    refine z_bipush (v := 99) ok dX5_readKeep_17 (by decide) ?_
    refine z_call hf (fun r19 h19 hf => ?_)
    refine z_cV (As := [.int 1, .int 99]) (rest := [.ref (X.ad q12)]) (w := 2) ok kc_2 zc_5 (c_Reader_readNumber h19) rfl ⟨ml_5_115, w_Reader_readNumber⟩ hy_Reader_readNumber ⟨rfl, rfl⟩ ⟨Nat.le_of_ble_eq_true rfl, Nat.le_of_ble_eq_true rfl⟩ ⟨Nat.zero_le _, Nat.zero_le _⟩ rfl (Nat.le_of_ble_eq_true rfl) dX5_readKeep_19 ?_
    refine z_puti ok hq12_0 zc_10 hin_10 tyX10 tyX10_ok nmX10 2 (by decide) fl_5_125 rfl rfl (tyX10_ok 2 (by decide)) dX5_readKeep_22 hf (fun σ22 hf => ?_)
    refine z_aload_n ok dX5_readKeep_25 0 rfl ?_
    refine z_geti ok kc_2 zc_5 hin_5 6 (by decide) fl_5_35 rfl dX5_readKeep_26 hf (fun v26 hf => ?_)
    refine z_if_ne (tgt := 45) ok dX5_readKeep_29 (by decide) hf (fun _ hf => ?_) (fun _ hf => ?_)
    · refine z_aload_n ok dX5_readKeep_32 0 rfl ?_
      refine z_bipush (v := 59) ok dX5_readKeep_33 (by decide) ?_
      refine z_call hf (fun r35 h35 hf => ?_)
      refine z_cV (As := [.int 59]) (rest := []) (w := 2) ok kc_2 zc_5 (c_Reader_readSign h35) rfl ⟨ml_5_121, w_Reader_readSign⟩ hy_Reader_readSign ⟨rfl, rfl⟩ ⟨Nat.le_of_ble_eq_true rfl, Nat.le_of_ble_eq_true rfl⟩ ⟨Nat.zero_le _, Nat.zero_le _⟩ rfl (Nat.le_of_ble_eq_true rfl) dX5_readKeep_35 ?_
      refine z_if_eq (tgt := 45) ok dX5_readKeep_38 (by decide) hf (fun _ hf => ?_) (fun _ hf => ?_)
      · refine z_iconst (v := 0) ok dX5_readKeep_45 (by decide) ?_
        obtain rfl := Option.some.inj hf
        exact hk _ _ dX5_readKeep_46
      · refine z_iconst (v := 1) ok dX5_readKeep_41 (by decide) ?_
        refine z_goto (tgt := 46) ok dX5_readKeep_42 (by decide) ?_
        obtain rfl := Option.some.inj hf
        exact hk _ _ dX5_readKeep_46
    · refine z_iconst (v := 0) ok dX5_readKeep_45 (by decide) ?_
      obtain rfl := Option.some.inj hf
      exact hk _ _ dX5_readKeep_46
theorem c_Reader_readKeep {σ : Sg} {r : (Bool × Sg)} (h : Reader_readKeep σ = some r) : ZcI yX5_readKeep cX5_readKeep 1 .boolean rm_Reader_readKeep 198 (fun ad => [.ref (ad 2)]) σ (zb r.1) r.2 :=
  zmetI pn_5 rfl (fun _ => rfl) (fun _ => Nat.le_of_ble_eq_true rfl) (zb_nar _) (fun X Q ok hk => t_Reader_readKeep ok h hk)
theorem dX5_nameIn_0 : decode cX5_nameIn 0 = .ok (.iconst 0, 1) := by decide +kernel
theorem dX5_nameIn_1 : decode cX5_nameIn 1 = .ok (.istore_n 3, 1) := by decide +kernel
theorem dX5_nameIn_2 : decode cX5_nameIn 2 = .ok (.bipush 25, 2) := by decide +kernel
theorem dX5_nameIn_4 : decode cX5_nameIn 4 = .ok (.istore 4, 2) := by decide +kernel
theorem dX5_nameIn_6 : decode cX5_nameIn 6 = .ok (.iload_n 1, 1) := by decide +kernel
theorem dX5_nameIn_7 : decode cX5_nameIn 7 = .ok (.istore 5, 2) := by decide +kernel
theorem dX5_nameIn_9 : decode cX5_nameIn 9 = .ok (.iload 5, 2) := by decide +kernel
theorem dX5_nameIn_11 : decode cX5_nameIn 11 = .ok (.iload_n 2, 1) := by decide +kernel
theorem dX5_nameIn_12 : decode cX5_nameIn 12 = .ok (.if_icmp .ge 27, 3) := by decide +kernel
theorem dX5_nameIn_15 : decode cX5_nameIn 15 = .ok (.iload_n 3, 1) := by decide +kernel
theorem dX5_nameIn_16 : decode cX5_nameIn 16 = .ok (.aload_n 0, 1) := by decide +kernel
theorem dX5_nameIn_17 : decode cX5_nameIn 17 = .ok (.iload 5, 2) := by decide +kernel
theorem dX5_nameIn_19 : decode cX5_nameIn 19 = .ok (.baload, 1) := by decide +kernel
theorem dX5_nameIn_20 : decode cX5_nameIn 20 = .ok (.bipush 97, 2) := by decide +kernel
theorem dX5_nameIn_22 : decode cX5_nameIn 22 = .ok (.isub, 1) := by decide +kernel
theorem dX5_nameIn_23 : decode cX5_nameIn 23 = .ok (.iconst 1, 1) := by decide +kernel
theorem dX5_nameIn_24 : decode cX5_nameIn 24 = .ok (.iadd, 1) := by decide +kernel
theorem dX5_nameIn_25 : decode cX5_nameIn 25 = .ok (.iload 4, 2) := by decide +kernel
theorem dX5_nameIn_27 : decode cX5_nameIn 27 = .ok (.ishl, 1) := by decide +kernel
theorem dX5_nameIn_28 : decode cX5_nameIn 28 = .ok (.ior, 1) := by decide +kernel
theorem dX5_nameIn_29 : decode cX5_nameIn 29 = .ok (.istore_n 3, 1) := by decide +kernel
theorem dX5_nameIn_30 : decode cX5_nameIn 30 = .ok (.iinc 4 (-5), 3) := by decide +kernel
theorem dX5_nameIn_33 : decode cX5_nameIn 33 = .ok (.iinc 5 1, 3) := by decide +kernel
theorem dX5_nameIn_36 : decode cX5_nameIn 36 = .ok (.goto (-27), 3) := by decide +kernel
theorem dX5_nameIn_39 : decode cX5_nameIn 39 = .ok (.iload_n 3, 1) := by decide +kernel
theorem dX5_nameIn_40 : decode cX5_nameIn 40 = .ok (.ireturn, 1) := by decide +kernel
abbrev rm_Reader_nameIn : Room := { frames := 0, cells := 0, slots := 0, locals := 0 }
def Reader_nameIn_l9 (σ : Sg) (a0 : Nat) (n0 : Nat) (x2 : Int32) (x3 : Int32) (x4 : Int32) (x5 : Int32) : Option ((Int32 × Int32 × Int32) ⊕ (Int32 × Int32 × Int32)) :=
  if x2 ≤ x5 then (
    some (.inr (x3, x4, x5))
  ) else (
    zrd σ a0 n0 x5 fun v19 =>
    zlt (x3 ||| (((v19 - 97) + 1) <<< (x4 &&& 31))) fun v29 =>
    zlt (x4 + (-5)) fun v30 =>
    zlt (x5 + 1) fun v33 =>
    some (.inl (v29, v30, v33))
  )
set_option maxRecDepth 20000 in
theorem t_Reader_nameIn_l9 {X : Zx} {Q : State → Prop} {σ : Sg} {a0 : Nat} {n0 : Nat} {x2 : Int32} {x3 : Int32} {x4 : Int32} {x5 : Int32} (ok : Zok X cX5_nameIn RX5 rm_Reader_nameIn 198 6) (ha0 : zk a0 198 (.inr (1, n0, []))) {out : ((Int32 × Int32 × Int32) ⊕ (Int32 × Int32 × Int32))} (hf : Reader_nameIn_l9 σ a0 n0 x2 x3 x4 x5 = some out) (hk : zout (fun (s : (Int32 × Int32 × Int32)) => ZAt X Q 0 0 9 σ [(0, .ref (X.ad a0)), (2, .int x2), (3, .int s.1), (4, .int s.2.1), (5, .int s.2.2)] []) (fun (s : (Int32 × Int32 × Int32)) => ZAt X Q 0 0 39 σ [(3, .int s.1)] []) out) : ZAt X Q 0 0 9 σ [(0, .ref (X.ad a0)), (2, .int x2), (3, .int x3), (4, .int x4), (5, .int x5)] [] := by
  unfold Reader_nameIn_l9 at hf
  refine z_iload ok dX5_nameIn_9 4 rfl ?_
  refine z_iload_n ok dX5_nameIn_11 1 rfl ?_
  refine z_icmp_ge (tgt := 39) ok dX5_nameIn_12 (by decide) hf (fun _ hf => ?_) (fun _ hf => ?_)
  · obtain rfl := Option.some.inj hf
    exact z_sub [2] rfl hk
  · refine z_iload_n ok dX5_nameIn_15 2 rfl ?_
    refine z_aload_n ok dX5_nameIn_16 0 rfl ?_
    refine z_iload ok dX5_nameIn_17 4 rfl ?_
    refine z_bald ok ha0 dX5_nameIn_19 hf (fun v19 hf => ?_)
    refine z_bipush (v := 97) ok dX5_nameIn_20 (by decide) ?_
    refine z_isub ok dX5_nameIn_22 ?_
    refine z_iconst (v := 1) ok dX5_nameIn_23 (by decide) ?_
    refine z_iadd ok dX5_nameIn_24 ?_
    refine z_iload ok dX5_nameIn_25 3 rfl ?_
    refine z_ishl ok dX5_nameIn_27 ?_
    refine z_ior ok dX5_nameIn_28 ?_
    refine z_nm hf (fun v29 hf => ?_)
    refine z_istore_n (lv' := [(3, .int v29), (0, .ref (X.ad a0)), (2, .int x2), (4, .int x4), (5, .int x5)]) ok dX5_nameIn_29 (by decide) rfl ?_
    refine z_iinc (w := (-5)) (lv' := fun v30 => [(4, .int v30), (3, .int v29), (0, .ref (X.ad a0)), (2, .int x2), (5, .int x5)]) ok dX5_nameIn_30 3 rfl (by decide) (by decide) (fun _ => rfl) hf (fun v30 hf => ?_)
    refine z_iinc (w := 1) (lv' := fun v33 => [(5, .int v33), (4, .int v30), (3, .int v29), (0, .ref (X.ad a0)), (2, .int x2)]) ok dX5_nameIn_33 4 rfl (by decide) (by decide) (fun _ => rfl) hf (fun v33 hf => ?_)
    refine z_goto (tgt := 9) ok dX5_nameIn_36 (by decide) ?_
    obtain rfl := Option.some.inj hf
    exact z_sub [3, 4, 2, 1, 0] rfl hk
def Reader_nameIn (σ : Sg) (a0 : Nat) (n0 : Nat) (x1 : Int32) (x2 : Int32) : Option Int32 :=
  zlt 0 fun v1 =>
  zlt 25 fun v4 =>
  (zit (fun (s : (Int32 × Int32 × Int32)) => Reader_nameIn_l9 σ a0 n0 x2 s.1 s.2.1 s.2.2) zFU (v1, v4, x1)).bind fun r =>
  some r.1
set_option maxRecDepth 20000 in
theorem t_Reader_nameIn {X : Zx} {Q : State → Prop} {σ : Sg} {a0 : Nat} {n0 : Nat} {x1 : Int32} {x2 : Int32} (ok : Zok X cX5_nameIn RX5 rm_Reader_nameIn 198 6) (ha0 : zk a0 198 (.inr (1, n0, []))) {out : Int32} (hf : Reader_nameIn σ a0 n0 x1 x2 = some out) (hk : ZrI cX5_nameIn X Q out σ) : ZAt X Q 0 0 0 σ [(0, .ref (X.ad a0)), (1, .int x1), (2, .int x2)] [] := by
  unfold Reader_nameIn at hf
  refine z_iconst (v := 0) ok dX5_nameIn_0 (by decide) ?_
  refine z_nm hf (fun v1 hf => ?_)
  refine z_istore_n (lv' := [(3, .int v1), (0, .ref (X.ad a0)), (1, .int x1), (2, .int x2)]) ok dX5_nameIn_1 (by decide) rfl ?_
  refine z_bipush (v := 25) ok dX5_nameIn_2 (by decide) ?_
  refine z_nm hf (fun v4 hf => ?_)
  refine z_istore (lv' := [(4, .int v4), (3, .int v1), (0, .ref (X.ad a0)), (1, .int x1), (2, .int x2)]) ok dX5_nameIn_4 (by decide) rfl ?_
  refine z_iload_n ok dX5_nameIn_6 3 rfl ?_
  refine z_istore (lv' := [(5, .int x1), (4, .int v4), (3, .int v1), (0, .ref (X.ad a0)), (1, .int x1), (2, .int x2)]) ok dX5_nameIn_7 (by decide) rfl ?_
  refine z_call hf (fun r hr hf => ?_)
  refine z_sub [3, 5, 2, 1, 0] rfl (z_iter (fun (s : (Int32 × Int32 × Int32)) => σ) (fun (s : (Int32 × Int32 × Int32)) => [(0, .ref (X.ad a0)), (2, .int x2), (3, .int s.1), (4, .int s.2.1), (5, .int s.2.2)]) (fun s o h1 h2 => t_Reader_nameIn_l9 ok ha0 h1 h2) _ _ _ hr ?_)
  show ZAt X Q 0 0 39 σ [(3, .int r.1)] []
  refine z_iload_n ok dX5_nameIn_39 0 rfl ?_
  obtain rfl := Option.some.inj hf
  exact hk _ _ dX5_nameIn_40
theorem c_Reader_nameIn {σ : Sg} {a0 : Nat} {n0 : Nat} {x1 : Int32} {x2 : Int32} (ha0 : zk a0 198 (.inr (1, n0, []))) {r : Int32} (h : Reader_nameIn σ a0 n0 x1 x2 = some r) : ZcI yX5_nameIn cX5_nameIn 6 .int rm_Reader_nameIn 198 (fun ad => [.ref (ad a0), .int x1, .int x2]) σ r σ :=
  zmetI pn_5 rfl (fun _ => rfl) (fun _ => Nat.le_of_ble_eq_true rfl) rfl (fun X Q ok hk => t_Reader_nameIn ok ha0 h hk)
theorem dX5_isOwnWord_0 : decode cX5_isOwnWord 0 = .ok (.iconst 0, 1) := by decide +kernel
theorem dX5_isOwnWord_1 : decode cX5_isOwnWord 1 = .ok (.istore_n 1, 1) := by decide +kernel
theorem dX5_isOwnWord_2 : decode cX5_isOwnWord 2 = .ok (.bipush 25, 2) := by decide +kernel
theorem dX5_isOwnWord_4 : decode cX5_isOwnWord 4 = .ok (.istore_n 2, 1) := by decide +kernel
theorem dX5_isOwnWord_5 : decode cX5_isOwnWord 5 = .ok (.iconst 0, 1) := by decide +kernel
theorem dX5_isOwnWord_6 : decode cX5_isOwnWord 6 = .ok (.istore_n 3, 1) := by decide +kernel
theorem dX5_isOwnWord_7 : decode cX5_isOwnWord 7 = .ok (.iload_n 3, 1) := by decide +kernel
theorem dX5_isOwnWord_8 : decode cX5_isOwnWord 8 = .ok (.ldc_w 259, 3) := by decide +kernel
theorem dX5_isOwnWord_11 : decode cX5_isOwnWord 11 = .ok (.invokevirtual 248, 3) := by decide +kernel
theorem dX5_isOwnWord_14 : decode cX5_isOwnWord 14 = .ok (.if_icmp .ge 55, 3) := by decide +kernel
theorem dX5_isOwnWord_17 : decode cX5_isOwnWord 17 = .ok (.ldc_w 259, 3) := by decide +kernel
theorem dX5_isOwnWord_20 : decode cX5_isOwnWord 20 = .ok (.iload_n 3, 1) := by decide +kernel
theorem dX5_isOwnWord_21 : decode cX5_isOwnWord 21 = .ok (.invokevirtual 252, 3) := by decide +kernel
theorem dX5_isOwnWord_24 : decode cX5_isOwnWord 24 = .ok (.istore 4, 2) := by decide +kernel
theorem dX5_isOwnWord_26 : decode cX5_isOwnWord 26 = .ok (.iload 4, 2) := by decide +kernel
theorem dX5_isOwnWord_28 : decode cX5_isOwnWord 28 = .ok (.bipush 32, 2) := by decide +kernel
theorem dX5_isOwnWord_30 : decode cX5_isOwnWord 30 = .ok (.if_icmp .eq 21, 3) := by decide +kernel
theorem dX5_isOwnWord_33 : decode cX5_isOwnWord 33 = .ok (.iload_n 1, 1) := by decide +kernel
theorem dX5_isOwnWord_34 : decode cX5_isOwnWord 34 = .ok (.iload 4, 2) := by decide +kernel
theorem dX5_isOwnWord_36 : decode cX5_isOwnWord 36 = .ok (.bipush 97, 2) := by decide +kernel
theorem dX5_isOwnWord_38 : decode cX5_isOwnWord 38 = .ok (.isub, 1) := by decide +kernel
theorem dX5_isOwnWord_39 : decode cX5_isOwnWord 39 = .ok (.iconst 1, 1) := by decide +kernel
theorem dX5_isOwnWord_40 : decode cX5_isOwnWord 40 = .ok (.iadd, 1) := by decide +kernel
theorem dX5_isOwnWord_41 : decode cX5_isOwnWord 41 = .ok (.iload_n 2, 1) := by decide +kernel
theorem dX5_isOwnWord_42 : decode cX5_isOwnWord 42 = .ok (.ishl, 1) := by decide +kernel
theorem dX5_isOwnWord_43 : decode cX5_isOwnWord 43 = .ok (.ior, 1) := by decide +kernel
theorem dX5_isOwnWord_44 : decode cX5_isOwnWord 44 = .ok (.istore_n 1, 1) := by decide +kernel
theorem dX5_isOwnWord_45 : decode cX5_isOwnWord 45 = .ok (.iinc 2 (-5), 3) := by decide +kernel
theorem dX5_isOwnWord_48 : decode cX5_isOwnWord 48 = .ok (.goto 15, 3) := by decide +kernel
theorem dX5_isOwnWord_51 : decode cX5_isOwnWord 51 = .ok (.iload_n 1, 1) := by decide +kernel
theorem dX5_isOwnWord_52 : decode cX5_isOwnWord 52 = .ok (.iload_n 0, 1) := by decide +kernel
theorem dX5_isOwnWord_53 : decode cX5_isOwnWord 53 = .ok (.if_icmp .ne 5, 3) := by decide +kernel
theorem dX5_isOwnWord_56 : decode cX5_isOwnWord 56 = .ok (.iconst 1, 1) := by decide +kernel
theorem dX5_isOwnWord_57 : decode cX5_isOwnWord 57 = .ok (.ireturn, 1) := by decide +kernel
theorem dX5_isOwnWord_58 : decode cX5_isOwnWord 58 = .ok (.iconst 0, 1) := by decide +kernel
theorem dX5_isOwnWord_59 : decode cX5_isOwnWord 59 = .ok (.istore_n 1, 1) := by decide +kernel
theorem dX5_isOwnWord_60 : decode cX5_isOwnWord 60 = .ok (.bipush 25, 2) := by decide +kernel
theorem dX5_isOwnWord_62 : decode cX5_isOwnWord 62 = .ok (.istore_n 2, 1) := by decide +kernel
theorem dX5_isOwnWord_63 : decode cX5_isOwnWord 63 = .ok (.iinc 3 1, 3) := by decide +kernel
theorem dX5_isOwnWord_66 : decode cX5_isOwnWord 66 = .ok (.goto (-59), 3) := by decide +kernel
theorem dX5_isOwnWord_69 : decode cX5_isOwnWord 69 = .ok (.iconst 0, 1) := by decide +kernel
theorem dX5_isOwnWord_70 : decode cX5_isOwnWord 70 = .ok (.ireturn, 1) := by decide +kernel
abbrev rm_Reader_isOwnWord : Room := { frames := 4, cells := 0, slots := 0, locals := 85 }
def Reader_isOwnWord_l7 (x0 : Int32) (x1 : Int32) (x2 : Int32) (x3 : Int32) : Option ((Int32 × Int32 × Int32) ⊕ (Bool ⊕ (Int32 × Int32 × Int32))) :=
  if (zSL 4) ≤ x3 then (
    some (.inr (.inr (x1, x2, x3)))
  ) else (
    zsc 4 x3 fun v21 =>
    if v21 = 32 then (
      if x1 = x0 then (
        some (.inr (.inl true))
      ) else (
        zlt 0 fun v59 =>
        zlt 25 fun v62 =>
        zlt (x3 + 1) fun v63 =>
        some (.inl (v59, v62, v63))
      )
    ) else (
      zlt (x1 ||| (((v21 - 97) + 1) <<< (x2 &&& 31))) fun v44 =>
      zlt (x2 + (-5)) fun v45 =>
      zlt (x3 + 1) fun v63 =>
      some (.inl (v44, v45, v63))
    )
  )
set_option maxRecDepth 20000 in
theorem t_Reader_isOwnWord_l7 {X : Zx} {Q : State → Prop} {σ : Sg} {x0 : Int32} {x1 : Int32} {x2 : Int32} {x3 : Int32} (ok : Zok X cX5_isOwnWord RX5 rm_Reader_isOwnWord 198 5)  {out : ((Int32 × Int32 × Int32) ⊕ (Bool ⊕ (Int32 × Int32 × Int32)))} (hf : Reader_isOwnWord_l7 x0 x1 x2 x3 = some out) (hk : zout (fun (s : (Int32 × Int32 × Int32)) => ZAt X Q 0 0 7 σ [(0, .int x0), (1, .int s.1), (2, .int s.2.1), (3, .int s.2.2)] []) (zout (fun (r : Bool) => ZrI cX5_isOwnWord X Q (zb r) σ) (fun (s : (Int32 × Int32 × Int32)) => ZAt X Q 0 0 69 σ [] [])) out) : ZAt X Q 0 0 7 σ [(0, .int x0), (1, .int x1), (2, .int x2), (3, .int x3)] [] := by
  unfold Reader_isOwnWord_l7 at hf
  refine z_iload_n ok dX5_isOwnWord_7 3 rfl ?_
  refine z_ldcwS ok 4 rfl dX5_isOwnWord_8 ?_
  refine z_strlen ok (by decide) ⟨Nat.le_of_ble_eq_true rfl, Nat.le_of_ble_eq_true rfl⟩ ⟨Nat.zero_le _, Nat.zero_le _⟩ (Nat.le_of_ble_eq_true rfl) dX5_isOwnWord_11 ?_
  refine z_icmp_ge (tgt := 69) ok dX5_isOwnWord_14 (by decide) hf (fun _ hf => ?_) (fun _ hf => ?_)
  · obtain rfl := Option.some.inj hf
    exact z_sub [] rfl hk
  · refine z_ldcwS ok 4 rfl dX5_isOwnWord_17 ?_
    refine z_iload_n ok dX5_isOwnWord_20 3 rfl ?_
    refine z_char ok (by decide) ⟨Nat.le_of_ble_eq_true rfl, Nat.le_of_ble_eq_true rfl⟩ ⟨Nat.zero_le _, Nat.zero_le _⟩ (Nat.le_of_ble_eq_true rfl) dX5_isOwnWord_21 hf (fun v21 hf => ?_)
    refine z_istore (lv' := [(4, .int v21), (0, .int x0), (1, .int x1), (2, .int x2), (3, .int x3)]) ok dX5_isOwnWord_24 (by decide) rfl ?_
    refine z_iload ok dX5_isOwnWord_26 0 rfl ?_
    refine z_bipush (v := 32) ok dX5_isOwnWord_28 (by decide) ?_
    refine z_icmp_eq (tgt := 51) ok dX5_isOwnWord_30 (by decide) hf (fun _ hf => ?_) (fun _ hf => ?_)
    · refine z_iload_n ok dX5_isOwnWord_51 2 rfl ?_
      refine z_iload_n ok dX5_isOwnWord_52 1 rfl ?_
      refine z_icmp_ne (tgt := 58) ok dX5_isOwnWord_53 (by decide) hf (fun _ hf => ?_) (fun _ hf => ?_)
      · refine z_iconst (v := 1) ok dX5_isOwnWord_56 (by decide) ?_
        obtain rfl := Option.some.inj hf
        exact hk _ _ dX5_isOwnWord_57
      · refine z_iconst (v := 0) ok dX5_isOwnWord_58 (by decide) ?_
        refine z_nm hf (fun v59 hf => ?_)
        refine z_istore_n (lv' := [(1, .int v59), (4, .int v21), (0, .int x0), (2, .int x2), (3, .int x3)]) ok dX5_isOwnWord_59 (by decide) rfl ?_
        refine z_bipush (v := 25) ok dX5_isOwnWord_60 (by decide) ?_
        refine z_nm hf (fun v62 hf => ?_)
        refine z_istore_n (lv' := [(2, .int v62), (1, .int v59), (4, .int v21), (0, .int x0), (3, .int x3)]) ok dX5_isOwnWord_62 (by decide) rfl ?_
        refine z_iinc (w := 1) (lv' := fun v63 => [(3, .int v63), (2, .int v62), (1, .int v59), (4, .int v21), (0, .int x0)]) ok dX5_isOwnWord_63 4 rfl (by decide) (by decide) (fun _ => rfl) hf (fun v63 hf => ?_)
        refine z_goto (tgt := 7) ok dX5_isOwnWord_66 (by decide) ?_
        obtain rfl := Option.some.inj hf
        exact z_sub [4, 2, 1, 0] rfl hk
    · refine z_iload_n ok dX5_isOwnWord_33 2 rfl ?_
      refine z_iload ok dX5_isOwnWord_34 0 rfl ?_
      refine z_bipush (v := 97) ok dX5_isOwnWord_36 (by decide) ?_
      refine z_isub ok dX5_isOwnWord_38 ?_
      refine z_iconst (v := 1) ok dX5_isOwnWord_39 (by decide) ?_
      refine z_iadd ok dX5_isOwnWord_40 ?_
      refine z_iload_n ok dX5_isOwnWord_41 3 rfl ?_
      refine z_ishl ok dX5_isOwnWord_42 ?_
      refine z_ior ok dX5_isOwnWord_43 ?_
      refine z_nm hf (fun v44 hf => ?_)
      refine z_istore_n (lv' := [(1, .int v44), (4, .int v21), (0, .int x0), (2, .int x2), (3, .int x3)]) ok dX5_isOwnWord_44 (by decide) rfl ?_
      refine z_iinc (w := (-5)) (lv' := fun v45 => [(2, .int v45), (1, .int v44), (4, .int v21), (0, .int x0), (3, .int x3)]) ok dX5_isOwnWord_45 3 rfl (by decide) (by decide) (fun _ => rfl) hf (fun v45 hf => ?_)
      refine z_goto (tgt := 63) ok dX5_isOwnWord_48 (by decide) ?_
      refine z_iinc (w := 1) (lv' := fun v63 => [(3, .int v63), (2, .int v45), (1, .int v44), (4, .int v21), (0, .int x0)]) ok dX5_isOwnWord_63 4 rfl (by decide) (by decide) (fun _ => rfl) hf (fun v63 hf => ?_)
      refine z_goto (tgt := 7) ok dX5_isOwnWord_66 (by decide) ?_
      obtain rfl := Option.some.inj hf
      exact z_sub [4, 2, 1, 0] rfl hk
def Reader_isOwnWord (x0 : Int32) : Option Bool :=
  zlt 0 fun v1 =>
  zlt 25 fun v4 =>
  zlt 0 fun v6 =>
  (zit (fun (s : (Int32 × Int32 × Int32)) => Reader_isOwnWord_l7 x0 s.1 s.2.1 s.2.2) zFU (v1, v4, v6)).bind fun r => r.elim (fun r =>
  some r
  ) (fun r =>
  some false
  )
set_option maxRecDepth 20000 in
theorem t_Reader_isOwnWord {X : Zx} {Q : State → Prop} {σ : Sg} {x0 : Int32} (ok : Zok X cX5_isOwnWord RX5 rm_Reader_isOwnWord 198 5)  {out : Bool} (hf : Reader_isOwnWord x0 = some out) (hk : ZrI cX5_isOwnWord X Q (zb out) σ) : ZAt X Q 0 0 0 σ [(0, .int x0)] [] := by
  unfold Reader_isOwnWord at hf
  refine z_iconst (v := 0) ok dX5_isOwnWord_0 (by decide) ?_
  refine z_nm hf (fun v1 hf => ?_)
  refine z_istore_n (lv' := [(1, .int v1), (0, .int x0)]) ok dX5_isOwnWord_1 (by decide) rfl ?_
  refine z_bipush (v := 25) ok dX5_isOwnWord_2 (by decide) ?_
  refine z_nm hf (fun v4 hf => ?_)
  refine z_istore_n (lv' := [(2, .int v4), (1, .int v1), (0, .int x0)]) ok dX5_isOwnWord_4 (by decide) rfl ?_
  refine z_iconst (v := 0) ok dX5_isOwnWord_5 (by decide) ?_
  refine z_nm hf (fun v6 hf => ?_)
  refine z_istore_n (lv' := [(3, .int v6), (2, .int v4), (1, .int v1), (0, .int x0)]) ok dX5_isOwnWord_6 (by decide) rfl ?_
  refine z_call hf (fun r hr hf => ?_)
  refine z_sub [3, 2, 1, 0] rfl (z_iter (fun (s : (Int32 × Int32 × Int32)) => σ) (fun (s : (Int32 × Int32 × Int32)) => [(0, .int x0), (1, .int s.1), (2, .int s.2.1), (3, .int s.2.2)]) (fun s o h1 h2 => t_Reader_isOwnWord_l7 ok h1 h2) _ _ _ hr ?_)
  cases r with
  | inl r =>
    obtain rfl := Option.some.inj hf
    exact hk
  | inr r =>
    simp only [Sum.elim_inr] at hf
    show ZAt X Q 0 0 69 σ [] []
    refine z_iconst (v := 0) ok dX5_isOwnWord_69 (by decide) ?_
    obtain rfl := Option.some.inj hf
    exact hk _ _ dX5_isOwnWord_70
theorem c_Reader_isOwnWord {σ : Sg} {x0 : Int32} {r : Bool} (h : Reader_isOwnWord x0 = some r) : ZcI yX5_isOwnWord cX5_isOwnWord 5 .boolean rm_Reader_isOwnWord 198 (fun ad => [.int x0]) σ (zb r) σ :=
  zmetI pn_5 rfl (fun _ => rfl) (fun _ => Nat.le_of_ble_eq_true rfl) (zb_nar _) (fun X Q ok hk => t_Reader_isOwnWord ok h hk)
theorem dX5_readName_0 : decode cX5_readName 0 = .ok (.aload_n 0, 1) := by decide +kernel
theorem dX5_readName_1 : decode cX5_readName 1 = .ok (.invokevirtual 41, 3) := by decide +kernel
theorem dX5_readName_4 : decode cX5_readName 4 = .ok (.aload_n 0, 1) := by decide +kernel
theorem dX5_readName_5 : decode cX5_readName 5 = .ok (.aload_n 0, 1) := by decide +kernel
theorem dX5_readName_6 : decode cX5_readName 6 = .ok (.getfield 28, 3) := by decide +kernel
theorem dX5_readName_9 : decode cX5_readName 9 = .ok (.putfield 231, 3) := by decide +kernel
theorem dX5_readName_12 : decode cX5_readName 12 = .ok (.aload_n 0, 1) := by decide +kernel
theorem dX5_readName_13 : decode cX5_readName 13 = .ok (.aload_n 0, 1) := by decide +kernel
theorem dX5_readName_14 : decode cX5_readName 14 = .ok (.getfield 28, 3) := by decide +kernel
theorem dX5_readName_17 : decode cX5_readName 17 = .ok (.invokevirtual 234, 3) := by decide +kernel
theorem dX5_readName_20 : decode cX5_readName 20 = .ok (.istore_n 1, 1) := by decide +kernel
theorem dX5_readName_21 : decode cX5_readName 21 = .ok (.aload_n 0, 1) := by decide +kernel
theorem dX5_readName_22 : decode cX5_readName 22 = .ok (.getfield 31, 3) := by decide +kernel
theorem dX5_readName_25 : decode cX5_readName 25 = .ok (.ifCond .ne 11, 3) := by decide +kernel
theorem dX5_readName_28 : decode cX5_readName 28 = .ok (.iload_n 1, 1) := by decide +kernel
theorem dX5_readName_29 : decode cX5_readName 29 = .ok (.aload_n 0, 1) := by decide +kernel
theorem dX5_readName_30 : decode cX5_readName 30 = .ok (.getfield 28, 3) := by decide +kernel
theorem dX5_readName_33 : decode cX5_readName 33 = .ok (.if_icmp .ne 15, 3) := by decide +kernel
theorem dX5_readName_36 : decode cX5_readName 36 = .ok (.aload_n 0, 1) := by decide +kernel
theorem dX5_readName_37 : decode cX5_readName 37 = .ok (.iconst 1, 1) := by decide +kernel
theorem dX5_readName_38 : decode cX5_readName 38 = .ok (.aload_n 0, 1) := by decide +kernel
theorem dX5_readName_39 : decode cX5_readName 39 = .ok (.getfield 28, 3) := by decide +kernel
theorem dX5_readName_42 : decode cX5_readName 42 = .ok (.invokevirtual 51, 3) := by decide +kernel
theorem dX5_readName_45 : decode cX5_readName 45 = .ok (.pop, 1) := by decide +kernel
theorem dX5_readName_46 : decode cX5_readName 46 = .ok (.iconst 0, 1) := by decide +kernel
theorem dX5_readName_47 : decode cX5_readName 47 = .ok (.ireturn, 1) := by decide +kernel
theorem dX5_readName_48 : decode cX5_readName 48 = .ok (.iload_n 1, 1) := by decide +kernel
theorem dX5_readName_49 : decode cX5_readName 49 = .ok (.aload_n 0, 1) := by decide +kernel
theorem dX5_readName_50 : decode cX5_readName 50 = .ok (.getfield 28, 3) := by decide +kernel
theorem dX5_readName_53 : decode cX5_readName 53 = .ok (.isub, 1) := by decide +kernel
theorem dX5_readName_54 : decode cX5_readName 54 = .ok (.bipush 6, 2) := by decide +kernel
theorem dX5_readName_56 : decode cX5_readName 56 = .ok (.if_icmp .le 18, 3) := by decide +kernel
theorem dX5_readName_59 : decode cX5_readName 59 = .ok (.aload_n 0, 1) := by decide +kernel
theorem dX5_readName_60 : decode cX5_readName 60 = .ok (.iconst 1, 1) := by decide +kernel
theorem dX5_readName_61 : decode cX5_readName 61 = .ok (.aload_n 0, 1) := by decide +kernel
theorem dX5_readName_62 : decode cX5_readName 62 = .ok (.getfield 28, 3) := by decide +kernel
theorem dX5_readName_65 : decode cX5_readName 65 = .ok (.bipush 6, 2) := by decide +kernel
theorem dX5_readName_67 : decode cX5_readName 67 = .ok (.iadd, 1) := by decide +kernel
theorem dX5_readName_68 : decode cX5_readName 68 = .ok (.invokevirtual 51, 3) := by decide +kernel
theorem dX5_readName_71 : decode cX5_readName 71 = .ok (.pop, 1) := by decide +kernel
theorem dX5_readName_72 : decode cX5_readName 72 = .ok (.iconst 0, 1) := by decide +kernel
theorem dX5_readName_73 : decode cX5_readName 73 = .ok (.ireturn, 1) := by decide +kernel
theorem dX5_readName_74 : decode cX5_readName 74 = .ok (.aload_n 0, 1) := by decide +kernel
theorem dX5_readName_75 : decode cX5_readName 75 = .ok (.getfield 9, 3) := by decide +kernel
theorem dX5_readName_78 : decode cX5_readName 78 = .ok (.aload_n 0, 1) := by decide +kernel
theorem dX5_readName_79 : decode cX5_readName 79 = .ok (.getfield 28, 3) := by decide +kernel
theorem dX5_readName_82 : decode cX5_readName 82 = .ok (.iload_n 1, 1) := by decide +kernel
theorem dX5_readName_83 : decode cX5_readName 83 = .ok (.invokestatic 237, 3) := by decide +kernel
theorem dX5_readName_86 : decode cX5_readName 86 = .ok (.istore_n 2, 1) := by decide +kernel
theorem dX5_readName_87 : decode cX5_readName 87 = .ok (.iload_n 2, 1) := by decide +kernel
theorem dX5_readName_88 : decode cX5_readName 88 = .ok (.invokestatic 241, 3) := by decide +kernel
theorem dX5_readName_91 : decode cX5_readName 91 = .ok (.ifCond .eq 15, 3) := by decide +kernel
theorem dX5_readName_94 : decode cX5_readName 94 = .ok (.aload_n 0, 1) := by decide +kernel
theorem dX5_readName_95 : decode cX5_readName 95 = .ok (.iconst 1, 1) := by decide +kernel
theorem dX5_readName_96 : decode cX5_readName 96 = .ok (.aload_n 0, 1) := by decide +kernel
theorem dX5_readName_97 : decode cX5_readName 97 = .ok (.getfield 28, 3) := by decide +kernel
theorem dX5_readName_100 : decode cX5_readName 100 = .ok (.invokevirtual 51, 3) := by decide +kernel
theorem dX5_readName_103 : decode cX5_readName 103 = .ok (.pop, 1) := by decide +kernel
theorem dX5_readName_104 : decode cX5_readName 104 = .ok (.iconst 0, 1) := by decide +kernel
theorem dX5_readName_105 : decode cX5_readName 105 = .ok (.ireturn, 1) := by decide +kernel
theorem dX5_readName_106 : decode cX5_readName 106 = .ok (.aload_n 0, 1) := by decide +kernel
theorem dX5_readName_107 : decode cX5_readName 107 = .ok (.iload_n 1, 1) := by decide +kernel
theorem dX5_readName_108 : decode cX5_readName 108 = .ok (.putfield 28, 3) := by decide +kernel
theorem dX5_readName_111 : decode cX5_readName 111 = .ok (.aload_n 0, 1) := by decide +kernel
theorem dX5_readName_112 : decode cX5_readName 112 = .ok (.iconst 1, 1) := by decide +kernel
theorem dX5_readName_113 : decode cX5_readName 113 = .ok (.putfield 31, 3) := by decide +kernel
theorem dX5_readName_116 : decode cX5_readName 116 = .ok (.iload_n 2, 1) := by decide +kernel
theorem dX5_readName_117 : decode cX5_readName 117 = .ok (.ireturn, 1) := by decide +kernel
abbrev rm_Reader_readName : Room := { frames := 5, cells := 0, slots := 0, locals := 109 }
def Reader_readName (σ : Sg)  : Option (Int32 × Sg) :=
  (Reader_skipBlanks σ).bind fun r1 =>
  zgt r1 2 2 fun v6 =>
  zpt r1 2 4 v6 fun σ9 =>
  zgt σ9 2 2 fun v14 =>
  (Reader_wordEnd σ9 v14).bind fun r17 =>
  zlt r17 fun v20 =>
  zgt σ9 2 3 fun v22 =>
  if v22 = 0 then (
    zgt σ9 2 2 fun v30 =>
    if v20 = v30 then (
      zgt σ9 2 2 fun v39 =>
      (Reader_fail σ9 1 v39).bind fun r42 =>
      some (0, r42.2)
    ) else (
      zgt σ9 2 2 fun v50 =>
      if (v20 - v50) ≤ 6 then (
        zmr1 1 (σ9 2 0) <|
        zgt σ9 2 2 fun v79 =>
        (Reader_nameIn σ9 1 1600 v79 v20).bind fun r83 =>
        zlt r83 fun v86 =>
        (Reader_isOwnWord v86).bind fun r88 =>
        if (zb r88) = 0 then (
          zpt σ9 2 2 v20 fun σ108 =>
          zbo 1 <| zpt σ108 2 3 1 fun σ113 =>
          some (v86, σ113)
        ) else (
          zgt σ9 2 2 fun v97 =>
          (Reader_fail σ9 1 v97).bind fun r100 =>
          some (0, r100.2)
        )
      ) else (
        zgt σ9 2 2 fun v62 =>
        (Reader_fail σ9 1 (v62 + 6)).bind fun r68 =>
        some (0, r68.2)
      )
    )
  ) else (
    zgt σ9 2 2 fun v39 =>
    (Reader_fail σ9 1 v39).bind fun r42 =>
    some (0, r42.2)
  )
set_option maxRecDepth 20000 in
theorem t_Reader_readName {X : Zx} {Q : State → Prop} {σ : Sg}  (ok : Zok X cX5_readName RX5 rm_Reader_readName 198 3)  {out : (Int32 × Sg)} (hf : Reader_readName σ = some out) (hk : ZrI cX5_readName X Q out.1 out.2) : ZAt X Q 0 0 0 σ [(0, .ref (X.ad 2))] [] := by
  unfold Reader_readName at hf
  refine z_aload_n ok dX5_readName_0 0 rfl ?_
  refine z_call hf (fun r1 h1 hf => ?_)
  refine z_cVv (As := []) (rest := []) (w := 2) ok kc_2 zc_5 (c_Reader_skipBlanks h1) rfl ⟨ml_5_41, w_Reader_skipBlanks⟩ hy_Reader_skipBlanks ⟨rfl, rfl⟩ ⟨Nat.le_of_ble_eq_true rfl, Nat.le_of_ble_eq_true rfl⟩ ⟨Nat.zero_le _, Nat.zero_le _⟩ rfl (Nat.le_of_ble_eq_true rfl) dX5_readName_1 ?_
  refine z_aload_n ok dX5_readName_4 0 rfl ?_
  refine z_aload_n ok dX5_readName_5 0 rfl ?_
  refine z_geti ok kc_2 zc_5 hin_5 2 (by decide) fl_5_28 rfl dX5_readName_6 hf (fun v6 hf => ?_)
  refine z_puti ok kc_2 zc_5 hin_5 tyX5 tyX5_ok nmX5 4 (by decide) fl_5_231 rfl rfl (tyX5_ok 4 (by decide)) dX5_readName_9 hf (fun σ9 hf => ?_)
  refine z_aload_n ok dX5_readName_12 0 rfl ?_
  refine z_aload_n ok dX5_readName_13 0 rfl ?_
  refine z_geti ok kc_2 zc_5 hin_5 2 (by decide) fl_5_28 rfl dX5_readName_14 hf (fun v14 hf => ?_)
  refine z_call hf (fun r17 h17 hf => ?_)
  refine z_cV (As := [.int v14]) (rest := []) (w := 2) ok kc_2 zc_5 (c_Reader_wordEnd h17) rfl ⟨ml_5_234, w_Reader_wordEnd⟩ hy_Reader_wordEnd ⟨rfl, rfl⟩ ⟨Nat.le_of_ble_eq_true rfl, Nat.le_of_ble_eq_true rfl⟩ ⟨Nat.zero_le _, Nat.zero_le _⟩ rfl (Nat.le_of_ble_eq_true rfl) dX5_readName_17 ?_
  refine z_nm hf (fun v20 hf => ?_)
  refine z_istore_n (lv' := [(1, .int v20), (0, .ref (X.ad 2))]) ok dX5_readName_20 (by decide) rfl ?_
  refine z_aload_n ok dX5_readName_21 1 rfl ?_
  refine z_geti ok kc_2 zc_5 hin_5 3 (by decide) fl_5_31 rfl dX5_readName_22 hf (fun v22 hf => ?_)
  refine z_if_ne (tgt := 36) ok dX5_readName_25 (by decide) hf (fun _ hf => ?_) (fun _ hf => ?_)
  · refine z_iload_n ok dX5_readName_28 0 rfl ?_
    refine z_aload_n ok dX5_readName_29 1 rfl ?_
    refine z_geti ok kc_2 zc_5 hin_5 2 (by decide) fl_5_28 rfl dX5_readName_30 hf (fun v30 hf => ?_)
    refine z_icmp_ne (tgt := 48) ok dX5_readName_33 (by decide) hf (fun _ hf => ?_) (fun _ hf => ?_)
    · refine z_aload_n ok dX5_readName_36 1 rfl ?_
      refine z_iconst (v := 1) ok dX5_readName_37 (by decide) ?_
      refine z_aload_n ok dX5_readName_38 1 rfl ?_
      refine z_geti ok kc_2 zc_5 hin_5 2 (by decide) fl_5_28 rfl dX5_readName_39 hf (fun v39 hf => ?_)
      refine z_call hf (fun r42 h42 hf => ?_)
      refine z_cV (As := [.int 1, .int v39]) (rest := []) (w := 2) ok kc_2 zc_5 (c_Reader_fail h42) rfl ⟨ml_5_51, w_Reader_fail⟩ hy_Reader_fail ⟨rfl, rfl⟩ ⟨Nat.le_of_ble_eq_true rfl, Nat.le_of_ble_eq_true rfl⟩ ⟨Nat.zero_le _, Nat.zero_le _⟩ rfl (Nat.le_of_ble_eq_true rfl) dX5_readName_42 ?_
      refine z_pop ok dX5_readName_45 rfl ?_
      refine z_iconst (v := 0) ok dX5_readName_46 (by decide) ?_
      obtain rfl := Option.some.inj hf
      exact hk _ _ dX5_readName_47
    · refine z_iload_n ok dX5_readName_48 0 rfl ?_
      refine z_aload_n ok dX5_readName_49 1 rfl ?_
      refine z_geti ok kc_2 zc_5 hin_5 2 (by decide) fl_5_28 rfl dX5_readName_50 hf (fun v50 hf => ?_)
      refine z_isub ok dX5_readName_53 ?_
      refine z_bipush (v := 6) ok dX5_readName_54 (by decide) ?_
      refine z_icmp_le (tgt := 74) ok dX5_readName_56 (by decide) hf (fun _ hf => ?_) (fun _ hf => ?_)
      · refine z_aload_n ok dX5_readName_74 1 rfl ?_
        refine z_getm1 (p := 1) ok kc_2 zc_5 hin_5 0 (by decide) fl_5_9 rfl (by decide) dX5_readName_75 hf (fun hf => ?_)
        refine z_aload_n ok dX5_readName_78 1 rfl ?_
        refine z_geti ok kc_2 zc_5 hin_5 2 (by decide) fl_5_28 rfl dX5_readName_79 hf (fun v79 hf => ?_)
        refine z_iload_n ok dX5_readName_82 0 rfl ?_
        refine z_call hf (fun r83 h83 hf => ?_)
        refine z_cS (As := [.ref (X.ad 1), .int v79, .int v20]) (rest := []) ok (c_Reader_nameIn kc_1 h83) rfl ⟨ml_5_237, w_Reader_nameIn⟩ hy_Reader_nameIn ⟨rfl, rfl⟩ ⟨Nat.le_of_ble_eq_true rfl, Nat.le_of_ble_eq_true rfl⟩ ⟨Nat.zero_le _, Nat.zero_le _⟩ rfl (Nat.le_of_ble_eq_true rfl) dX5_readName_83 ?_
        refine z_nm hf (fun v86 hf => ?_)
        refine z_istore_n (lv' := [(2, .int v86), (1, .int v20), (0, .ref (X.ad 2))]) ok dX5_readName_86 (by decide) rfl ?_
        refine z_iload_n ok dX5_readName_87 0 rfl ?_
        refine z_call hf (fun r88 h88 hf => ?_)
        refine z_cS (As := [.int v86]) (rest := []) ok (c_Reader_isOwnWord h88) rfl ⟨ml_5_241, w_Reader_isOwnWord⟩ hy_Reader_isOwnWord ⟨rfl, rfl⟩ ⟨Nat.le_of_ble_eq_true rfl, Nat.le_of_ble_eq_true rfl⟩ ⟨Nat.zero_le _, Nat.zero_le _⟩ rfl (Nat.le_of_ble_eq_true rfl) dX5_readName_88 ?_
        refine z_if_eq (tgt := 106) ok dX5_readName_91 (by decide) hf (fun _ hf => ?_) (fun _ hf => ?_)
        · refine z_aload_n ok dX5_readName_106 2 rfl ?_
          refine z_iload_n ok dX5_readName_107 1 rfl ?_
          refine z_puti ok kc_2 zc_5 hin_5 tyX5 tyX5_ok nmX5 2 (by decide) fl_5_28 rfl rfl (tyX5_ok 2 (by decide)) dX5_readName_108 hf (fun σ108 hf => ?_)
          refine z_aload_n ok dX5_readName_111 2 rfl ?_
          refine z_iconst (v := 1) ok dX5_readName_112 (by decide) ?_
          refine z_putz ok kc_2 zc_5 hin_5 tyX5 tyX5_ok nmX5 3 (by decide) fl_5_31 rfl rfl (tyX5_ok 3 (by decide)) dX5_readName_113 hf (fun σ113 hf => ?_)
          refine z_iload_n ok dX5_readName_116 0 rfl ?_
          obtain rfl := Option.some.inj hf
          exact hk _ _ dX5_readName_117
        · refine z_aload_n ok dX5_readName_94 2 rfl ?_
          refine z_iconst (v := 1) ok dX5_readName_95 (by decide) ?_
          refine z_aload_n ok dX5_readName_96 2 rfl ?_
          refine z_geti ok kc_2 zc_5 hin_5 2 (by decide) fl_5_28 rfl dX5_readName_97 hf (fun v97 hf => ?_)
          refine z_call hf (fun r100 h100 hf => ?_)
          refine z_cV (As := [.int 1, .int v97]) (rest := []) (w := 2) ok kc_2 zc_5 (c_Reader_fail h100) rfl ⟨ml_5_51, w_Reader_fail⟩ hy_Reader_fail ⟨rfl, rfl⟩ ⟨Nat.le_of_ble_eq_true rfl, Nat.le_of_ble_eq_true rfl⟩ ⟨Nat.zero_le _, Nat.zero_le _⟩ rfl (Nat.le_of_ble_eq_true rfl) dX5_readName_100 ?_
          refine z_pop ok dX5_readName_103 rfl ?_
          refine z_iconst (v := 0) ok dX5_readName_104 (by decide) ?_
          obtain rfl := Option.some.inj hf
          exact hk _ _ dX5_readName_105
      · refine z_aload_n ok dX5_readName_59 1 rfl ?_
        refine z_iconst (v := 1) ok dX5_readName_60 (by decide) ?_
        refine z_aload_n ok dX5_readName_61 1 rfl ?_
        refine z_geti ok kc_2 zc_5 hin_5 2 (by decide) fl_5_28 rfl dX5_readName_62 hf (fun v62 hf => ?_)
        refine z_bipush (v := 6) ok dX5_readName_65 (by decide) ?_
        refine z_iadd ok dX5_readName_67 ?_
        refine z_call hf (fun r68 h68 hf => ?_)
        refine z_cV (As := [.int 1, .int (v62 + 6)]) (rest := []) (w := 2) ok kc_2 zc_5 (c_Reader_fail h68) rfl ⟨ml_5_51, w_Reader_fail⟩ hy_Reader_fail ⟨rfl, rfl⟩ ⟨Nat.le_of_ble_eq_true rfl, Nat.le_of_ble_eq_true rfl⟩ ⟨Nat.zero_le _, Nat.zero_le _⟩ rfl (Nat.le_of_ble_eq_true rfl) dX5_readName_68 ?_
        refine z_pop ok dX5_readName_71 rfl ?_
        refine z_iconst (v := 0) ok dX5_readName_72 (by decide) ?_
        obtain rfl := Option.some.inj hf
        exact hk _ _ dX5_readName_73
  · refine z_aload_n ok dX5_readName_36 1 rfl ?_
    refine z_iconst (v := 1) ok dX5_readName_37 (by decide) ?_
    refine z_aload_n ok dX5_readName_38 1 rfl ?_
    refine z_geti ok kc_2 zc_5 hin_5 2 (by decide) fl_5_28 rfl dX5_readName_39 hf (fun v39 hf => ?_)
    refine z_call hf (fun r42 h42 hf => ?_)
    refine z_cV (As := [.int 1, .int v39]) (rest := []) (w := 2) ok kc_2 zc_5 (c_Reader_fail h42) rfl ⟨ml_5_51, w_Reader_fail⟩ hy_Reader_fail ⟨rfl, rfl⟩ ⟨Nat.le_of_ble_eq_true rfl, Nat.le_of_ble_eq_true rfl⟩ ⟨Nat.zero_le _, Nat.zero_le _⟩ rfl (Nat.le_of_ble_eq_true rfl) dX5_readName_42 ?_
    refine z_pop ok dX5_readName_45 rfl ?_
    refine z_iconst (v := 0) ok dX5_readName_46 (by decide) ?_
    obtain rfl := Option.some.inj hf
    exact hk _ _ dX5_readName_47
theorem c_Reader_readName {σ : Sg} {r : (Int32 × Sg)} (h : Reader_readName σ = some r) : ZcI yX5_readName cX5_readName 3 .int rm_Reader_readName 198 (fun ad => [.ref (ad 2)]) σ r.1 r.2 :=
  zmetI pn_5 rfl (fun _ => rfl) (fun _ => Nat.le_of_ble_eq_true rfl) rfl (fun X Q ok hk => t_Reader_readName ok h hk)
theorem dX10_poolOf_0 : decode cX10_poolOf 0 = .ok (.iconst 0, 1) := by decide +kernel
theorem dX10_poolOf_1 : decode cX10_poolOf 1 = .ok (.istore_n 2, 1) := by decide +kernel
theorem dX10_poolOf_2 : decode cX10_poolOf 2 = .ok (.iload_n 2, 1) := by decide +kernel
theorem dX10_poolOf_3 : decode cX10_poolOf 3 = .ok (.aload_n 0, 1) := by decide +kernel
theorem dX10_poolOf_4 : decode cX10_poolOf 4 = .ok (.getfield 56, 3) := by decide +kernel
theorem dX10_poolOf_7 : decode cX10_poolOf 7 = .ok (.if_icmp .ge 21, 3) := by decide +kernel
theorem dX10_poolOf_10 : decode cX10_poolOf 10 = .ok (.aload_n 0, 1) := by decide +kernel
theorem dX10_poolOf_11 : decode cX10_poolOf 11 = .ok (.getfield 9, 3) := by decide +kernel
theorem dX10_poolOf_14 : decode cX10_poolOf 14 = .ok (.iload_n 2, 1) := by decide +kernel
theorem dX10_poolOf_15 : decode cX10_poolOf 15 = .ok (.iaload, 1) := by decide +kernel
theorem dX10_poolOf_16 : decode cX10_poolOf 16 = .ok (.iload_n 1, 1) := by decide +kernel
theorem dX10_poolOf_17 : decode cX10_poolOf 17 = .ok (.if_icmp .ne 5, 3) := by decide +kernel
theorem dX10_poolOf_20 : decode cX10_poolOf 20 = .ok (.iload_n 2, 1) := by decide +kernel
theorem dX10_poolOf_21 : decode cX10_poolOf 21 = .ok (.ireturn, 1) := by decide +kernel
theorem dX10_poolOf_22 : decode cX10_poolOf 22 = .ok (.iinc 2 1, 3) := by decide +kernel
theorem dX10_poolOf_25 : decode cX10_poolOf 25 = .ok (.goto (-23), 3) := by decide +kernel
theorem dX10_poolOf_28 : decode cX10_poolOf 28 = .ok (.iconst (-1), 1) := by decide +kernel
theorem dX10_poolOf_29 : decode cX10_poolOf 29 = .ok (.ireturn, 1) := by decide +kernel
abbrev rm_Works_poolOf : Room := { frames := 0, cells := 0, slots := 0, locals := 0 }
def Works_poolOf_l2 (σ : Sg) (w : Nat) (x1 : Int32) (x2 : Int32) : Option (Int32 ⊕ (Int32 ⊕ Int32)) :=
  zgt σ w 3 fun v4 =>
  if v4 ≤ x2 then (
    some (.inr (.inr x2))
  ) else (
    zrd σ (w + 1) 8 x2 fun v15 =>
    if v15 = x1 then (
      some (.inr (.inl x2))
    ) else (
      zlt (x2 + 1) fun v22 =>
      some (.inl v22)
    )
  )
set_option maxRecDepth 20000 in
theorem t_Works_poolOf_l2 {X : Zx} {Q : State → Prop} {σ : Sg} {w : Nat} {x1 : Int32} {x2 : Int32} (ok : Zok X cX10_poolOf RX10 rm_Works_poolOf 198 3) (hw : zI_Works w 198) {out : (Int32 ⊕ (Int32 ⊕ Int32))} (hf : Works_poolOf_l2 σ w x1 x2 = some out) (hk : zout (fun (s : Int32) => ZAt X Q 0 0 2 σ [(0, .ref (X.ad w)), (1, .int x1), (2, .int s)] []) (zout (fun (r : Int32) => ZrI cX10_poolOf X Q r σ) (fun (s : Int32) => ZAt X Q 0 0 28 σ [] [])) out) : ZAt X Q 0 0 2 σ [(0, .ref (X.ad w)), (1, .int x1), (2, .int x2)] [] := by
  unfold Works_poolOf_l2 at hf
  obtain ⟨hw_0, hw_1, hw_2, hw_3, hw_4, hw_5, hw_6, hw_7, hw_8, hw_9, hw_10, hw_11, hw_12, hw_13, hw_14, hw_15, hw_16, hw_17, hw_18, hw_19, hw_20, hw_21, hw_22, hw_23, hw_24, hw_25⟩ := id hw
  refine z_iload_n ok dX10_poolOf_2 2 rfl ?_
  refine z_aload_n ok dX10_poolOf_3 0 rfl ?_
  refine z_geti ok hw_0 zc_10 hin_10 3 (by decide) fl_10_56 rfl dX10_poolOf_4 hf (fun v4 hf => ?_)
  refine z_icmp_ge (tgt := 28) ok dX10_poolOf_7 (by decide) hf (fun _ hf => ?_) (fun _ hf => ?_)
  · obtain rfl := Option.some.inj hf
    exact z_sub [] rfl hk
  · refine z_aload_n ok dX10_poolOf_10 0 rfl ?_
    refine z_getr (q := (w + 1)) ok hw_0 zc_10 hin_10 4 (by decide) fl_10_9 rfl dX10_poolOf_11 ?_
    refine z_iload_n ok dX10_poolOf_14 2 rfl ?_
    refine z_iald ok hw_1 dX10_poolOf_15 hf (fun v15 hf => ?_)
    refine z_iload_n ok dX10_poolOf_16 1 rfl ?_
    refine z_icmp_ne (tgt := 22) ok dX10_poolOf_17 (by decide) hf (fun _ hf => ?_) (fun _ hf => ?_)
    · refine z_iload_n ok dX10_poolOf_20 2 rfl ?_
      obtain rfl := Option.some.inj hf
      exact hk _ _ dX10_poolOf_21
    · refine z_iinc (w := 1) (lv' := fun v22 => [(2, .int v22), (0, .ref (X.ad w)), (1, .int x1)]) ok dX10_poolOf_22 2 rfl (by decide) (by decide) (fun _ => rfl) hf (fun v22 hf => ?_)
      refine z_goto (tgt := 2) ok dX10_poolOf_25 (by decide) ?_
      obtain rfl := Option.some.inj hf
      exact z_sub [1, 2, 0] rfl hk
def Works_poolOf (σ : Sg) (w : Nat) (x1 : Int32) : Option Int32 :=
  zlt 0 fun v1 =>
  (zit (fun (s : Int32) => Works_poolOf_l2 σ w x1 s) zFU v1).bind fun r => r.elim (fun r =>
  some r
  ) (fun r =>
  some (-1)
  )
set_option maxRecDepth 20000 in
theorem t_Works_poolOf {X : Zx} {Q : State → Prop} {σ : Sg} {w : Nat} {x1 : Int32} (ok : Zok X cX10_poolOf RX10 rm_Works_poolOf 198 3) (hw : zI_Works w 198) {out : Int32} (hf : Works_poolOf σ w x1 = some out) (hk : ZrI cX10_poolOf X Q out σ) : ZAt X Q 0 0 0 σ [(0, .ref (X.ad w)), (1, .int x1)] [] := by
  unfold Works_poolOf at hf
  obtain ⟨hw_0, hw_1, hw_2, hw_3, hw_4, hw_5, hw_6, hw_7, hw_8, hw_9, hw_10, hw_11, hw_12, hw_13, hw_14, hw_15, hw_16, hw_17, hw_18, hw_19, hw_20, hw_21, hw_22, hw_23, hw_24, hw_25⟩ := id hw
  refine z_iconst (v := 0) ok dX10_poolOf_0 (by decide) ?_
  refine z_nm hf (fun v1 hf => ?_)
  refine z_istore_n (lv' := [(2, .int v1), (0, .ref (X.ad w)), (1, .int x1)]) ok dX10_poolOf_1 (by decide) rfl ?_
  refine z_call hf (fun r hr hf => ?_)
  refine z_sub [1, 2, 0] rfl (z_iter (fun (s : Int32) => σ) (fun (s : Int32) => [(0, .ref (X.ad w)), (1, .int x1), (2, .int s)]) (fun s o h1 h2 => t_Works_poolOf_l2 ok hw h1 h2) _ _ _ hr ?_)
  cases r with
  | inl r =>
    obtain rfl := Option.some.inj hf
    exact hk
  | inr r =>
    simp only [Sum.elim_inr] at hf
    show ZAt X Q 0 0 28 σ [] []
    refine z_iconst (v := (-1)) ok dX10_poolOf_28 (by decide) ?_
    obtain rfl := Option.some.inj hf
    exact hk _ _ dX10_poolOf_29
theorem c_Works_poolOf {σ : Sg} {w : Nat} {x1 : Int32} (hw : zI_Works w 198) {r : Int32} (h : Works_poolOf σ w x1 = some r) : ZcI yX10_poolOf cX10_poolOf 3 .int rm_Works_poolOf 198 (fun ad => [.ref (ad w), .int x1]) σ r σ :=
  zmetI pn_10 rfl (fun _ => rfl) (fun _ => Nat.le_of_ble_eq_true rfl) rfl (fun X Q ok hk => t_Works_poolOf ok hw h hk)
theorem dX10_outletOf_0 : decode cX10_outletOf 0 = .ok (.iconst 0, 1) := by decide +kernel
theorem dX10_outletOf_1 : decode cX10_outletOf 1 = .ok (.istore_n 2, 1) := by decide +kernel
theorem dX10_outletOf_2 : decode cX10_outletOf 2 = .ok (.iload_n 2, 1) := by decide +kernel
theorem dX10_outletOf_3 : decode cX10_outletOf 3 = .ok (.aload_n 0, 1) := by decide +kernel
theorem dX10_outletOf_4 : decode cX10_outletOf 4 = .ok (.getfield 59, 3) := by decide +kernel
theorem dX10_outletOf_7 : decode cX10_outletOf 7 = .ok (.if_icmp .ge 21, 3) := by decide +kernel
theorem dX10_outletOf_10 : decode cX10_outletOf 10 = .ok (.aload_n 0, 1) := by decide +kernel
theorem dX10_outletOf_11 : decode cX10_outletOf 11 = .ok (.getfield 23, 3) := by decide +kernel
theorem dX10_outletOf_14 : decode cX10_outletOf 14 = .ok (.iload_n 2, 1) := by decide +kernel
theorem dX10_outletOf_15 : decode cX10_outletOf 15 = .ok (.iaload, 1) := by decide +kernel
theorem dX10_outletOf_16 : decode cX10_outletOf 16 = .ok (.iload_n 1, 1) := by decide +kernel
theorem dX10_outletOf_17 : decode cX10_outletOf 17 = .ok (.if_icmp .ne 5, 3) := by decide +kernel
theorem dX10_outletOf_20 : decode cX10_outletOf 20 = .ok (.iload_n 2, 1) := by decide +kernel
theorem dX10_outletOf_21 : decode cX10_outletOf 21 = .ok (.ireturn, 1) := by decide +kernel
theorem dX10_outletOf_22 : decode cX10_outletOf 22 = .ok (.iinc 2 1, 3) := by decide +kernel
theorem dX10_outletOf_25 : decode cX10_outletOf 25 = .ok (.goto (-23), 3) := by decide +kernel
theorem dX10_outletOf_28 : decode cX10_outletOf 28 = .ok (.iconst (-1), 1) := by decide +kernel
theorem dX10_outletOf_29 : decode cX10_outletOf 29 = .ok (.ireturn, 1) := by decide +kernel
abbrev rm_Works_outletOf : Room := { frames := 0, cells := 0, slots := 0, locals := 0 }
def Works_outletOf_l2 (σ : Sg) (w : Nat) (x1 : Int32) (x2 : Int32) : Option (Int32 ⊕ (Int32 ⊕ Int32)) :=
  zgt σ w 7 fun v4 =>
  if v4 ≤ x2 then (
    some (.inr (.inr x2))
  ) else (
    zrd σ (w + 13) 10 x2 fun v15 =>
    if v15 = x1 then (
      some (.inr (.inl x2))
    ) else (
      zlt (x2 + 1) fun v22 =>
      some (.inl v22)
    )
  )
set_option maxRecDepth 20000 in
theorem t_Works_outletOf_l2 {X : Zx} {Q : State → Prop} {σ : Sg} {w : Nat} {x1 : Int32} {x2 : Int32} (ok : Zok X cX10_outletOf RX10 rm_Works_outletOf 198 3) (hw : zI_Works w 198) {out : (Int32 ⊕ (Int32 ⊕ Int32))} (hf : Works_outletOf_l2 σ w x1 x2 = some out) (hk : zout (fun (s : Int32) => ZAt X Q 0 0 2 σ [(0, .ref (X.ad w)), (1, .int x1), (2, .int s)] []) (zout (fun (r : Int32) => ZrI cX10_outletOf X Q r σ) (fun (s : Int32) => ZAt X Q 0 0 28 σ [] [])) out) : ZAt X Q 0 0 2 σ [(0, .ref (X.ad w)), (1, .int x1), (2, .int x2)] [] := by
  unfold Works_outletOf_l2 at hf
  obtain ⟨hw_0, hw_1, hw_2, hw_3, hw_4, hw_5, hw_6, hw_7, hw_8, hw_9, hw_10, hw_11, hw_12, hw_13, hw_14, hw_15, hw_16, hw_17, hw_18, hw_19, hw_20, hw_21, hw_22, hw_23, hw_24, hw_25⟩ := id hw
  refine z_iload_n ok dX10_outletOf_2 2 rfl ?_
  refine z_aload_n ok dX10_outletOf_3 0 rfl ?_
  refine z_geti ok hw_0 zc_10 hin_10 7 (by decide) fl_10_59 rfl dX10_outletOf_4 hf (fun v4 hf => ?_)
  refine z_icmp_ge (tgt := 28) ok dX10_outletOf_7 (by decide) hf (fun _ hf => ?_) (fun _ hf => ?_)
  · obtain rfl := Option.some.inj hf
    exact z_sub [] rfl hk
  · refine z_aload_n ok dX10_outletOf_10 0 rfl ?_
    refine z_getr (q := (w + 13)) ok hw_0 zc_10 hin_10 8 (by decide) fl_10_23 rfl dX10_outletOf_11 ?_
    refine z_iload_n ok dX10_outletOf_14 2 rfl ?_
    refine z_iald ok hw_13 dX10_outletOf_15 hf (fun v15 hf => ?_)
    refine z_iload_n ok dX10_outletOf_16 1 rfl ?_
    refine z_icmp_ne (tgt := 22) ok dX10_outletOf_17 (by decide) hf (fun _ hf => ?_) (fun _ hf => ?_)
    · refine z_iload_n ok dX10_outletOf_20 2 rfl ?_
      obtain rfl := Option.some.inj hf
      exact hk _ _ dX10_outletOf_21
    · refine z_iinc (w := 1) (lv' := fun v22 => [(2, .int v22), (0, .ref (X.ad w)), (1, .int x1)]) ok dX10_outletOf_22 2 rfl (by decide) (by decide) (fun _ => rfl) hf (fun v22 hf => ?_)
      refine z_goto (tgt := 2) ok dX10_outletOf_25 (by decide) ?_
      obtain rfl := Option.some.inj hf
      exact z_sub [1, 2, 0] rfl hk
def Works_outletOf (σ : Sg) (w : Nat) (x1 : Int32) : Option Int32 :=
  zlt 0 fun v1 =>
  (zit (fun (s : Int32) => Works_outletOf_l2 σ w x1 s) zFU v1).bind fun r => r.elim (fun r =>
  some r
  ) (fun r =>
  some (-1)
  )
set_option maxRecDepth 20000 in
theorem t_Works_outletOf {X : Zx} {Q : State → Prop} {σ : Sg} {w : Nat} {x1 : Int32} (ok : Zok X cX10_outletOf RX10 rm_Works_outletOf 198 3) (hw : zI_Works w 198) {out : Int32} (hf : Works_outletOf σ w x1 = some out) (hk : ZrI cX10_outletOf X Q out σ) : ZAt X Q 0 0 0 σ [(0, .ref (X.ad w)), (1, .int x1)] [] := by
  unfold Works_outletOf at hf
  obtain ⟨hw_0, hw_1, hw_2, hw_3, hw_4, hw_5, hw_6, hw_7, hw_8, hw_9, hw_10, hw_11, hw_12, hw_13, hw_14, hw_15, hw_16, hw_17, hw_18, hw_19, hw_20, hw_21, hw_22, hw_23, hw_24, hw_25⟩ := id hw
  refine z_iconst (v := 0) ok dX10_outletOf_0 (by decide) ?_
  refine z_nm hf (fun v1 hf => ?_)
  refine z_istore_n (lv' := [(2, .int v1), (0, .ref (X.ad w)), (1, .int x1)]) ok dX10_outletOf_1 (by decide) rfl ?_
  refine z_call hf (fun r hr hf => ?_)
  refine z_sub [1, 2, 0] rfl (z_iter (fun (s : Int32) => σ) (fun (s : Int32) => [(0, .ref (X.ad w)), (1, .int x1), (2, .int s)]) (fun s o h1 h2 => t_Works_outletOf_l2 ok hw h1 h2) _ _ _ hr ?_)
  cases r with
  | inl r =>
    obtain rfl := Option.some.inj hf
    exact hk
  | inr r =>
    simp only [Sum.elim_inr] at hf
    show ZAt X Q 0 0 28 σ [] []
    refine z_iconst (v := (-1)) ok dX10_outletOf_28 (by decide) ?_
    obtain rfl := Option.some.inj hf
    exact hk _ _ dX10_outletOf_29
theorem c_Works_outletOf {σ : Sg} {w : Nat} {x1 : Int32} (hw : zI_Works w 198) {r : Int32} (h : Works_outletOf σ w x1 = some r) : ZcI yX10_outletOf cX10_outletOf 3 .int rm_Works_outletOf 198 (fun ad => [.ref (ad w), .int x1]) σ r σ :=
  zmetI pn_10 rfl (fun _ => rfl) (fun _ => Nat.le_of_ble_eq_true rfl) rfl (fun X Q ok hk => t_Works_outletOf ok hw h hk)
theorem dX5_isNew_0 : decode cX5_isNew 0 = .ok (.aload_n 0, 1) := by decide +kernel
theorem dX5_isNew_1 : decode cX5_isNew 1 = .ok (.getfield 19, 3) := by decide +kernel
theorem dX5_isNew_4 : decode cX5_isNew 4 = .ok (.iload_n 1, 1) := by decide +kernel
theorem dX5_isNew_5 : decode cX5_isNew 5 = .ok (.invokevirtual 192, 3) := by decide +kernel
theorem dX5_isNew_8 : decode cX5_isNew 8 = .ok (.iconst (-1), 1) := by decide +kernel
theorem dX5_isNew_9 : decode cX5_isNew 9 = .ok (.if_icmp .ne 19, 3) := by decide +kernel
theorem dX5_isNew_12 : decode cX5_isNew 12 = .ok (.aload_n 0, 1) := by decide +kernel
theorem dX5_isNew_13 : decode cX5_isNew 13 = .ok (.getfield 19, 3) := by decide +kernel
theorem dX5_isNew_16 : decode cX5_isNew 16 = .ok (.iload_n 1, 1) := by decide +kernel
theorem dX5_isNew_17 : decode cX5_isNew 17 = .ok (.invokevirtual 200, 3) := by decide +kernel
theorem dX5_isNew_20 : decode cX5_isNew 20 = .ok (.iconst (-1), 1) := by decide +kernel
theorem dX5_isNew_21 : decode cX5_isNew 21 = .ok (.if_icmp .ne 7, 3) := by decide +kernel
theorem dX5_isNew_24 : decode cX5_isNew 24 = .ok (.iconst 1, 1) := by decide +kernel
theorem dX5_isNew_25 : decode cX5_isNew 25 = .ok (.goto 4, 3) := by decide +kernel
theorem dX5_isNew_28 : decode cX5_isNew 28 = .ok (.iconst 0, 1) := by decide +kernel
theorem dX5_isNew_29 : decode cX5_isNew 29 = .ok (.ireturn, 1) := by decide +kernel
abbrev rm_Reader_isNew : Room := { frames := 1, cells := 0, slots := 0, locals := 22 }
def Reader_isNew (σ : Sg) (x1 : Int32) : Option Bool :=
  zmr2 3 29 (σ 2 5) fun q1 =>
  (Works_poolOf σ q1 x1).bind fun r5 =>
  if r5 = (-1) then (
    zmr2 3 29 (σ 2 5) fun q13 =>
    (Works_outletOf σ q13 x1).bind fun r17 =>
    if r17 = (-1) then (
      some true
    ) else (
      some false
    )
  ) else (
    some false
  )
set_option maxRecDepth 20000 in
theorem t_Reader_isNew {X : Zx} {Q : State → Prop} {σ : Sg} {x1 : Int32} (ok : Zok X cX5_isNew RX5 rm_Reader_isNew 198 2)  {out : Bool} (hf : Reader_isNew σ x1 = some out) (hk : ZrI cX5_isNew X Q (zb out) σ) : ZAt X Q 0 0 0 σ [(0, .ref (X.ad 2)), (1, .int x1)] [] := by
  unfold Reader_isNew at hf
  refine z_aload_n ok dX5_isNew_0 0 rfl ?_
  refine z_getm2 (p := 3) (q := 29) ok kc_2 zc_5 hin_5 5 (by decide) fl_5_19 rfl (by decide) (by decide) dX5_isNew_1 hf (fun q1 e1 hf => ?_)
  have hq1 : zI_Works q1 198 := by rcases e1 with rfl | rfl; exact kI_Works_3; exact kI_Works_29
  obtain ⟨hq1_0, hq1_1, hq1_2, hq1_3, hq1_4, hq1_5, hq1_6, hq1_7, hq1_8, hq1_9, hq1_10, hq1_11, hq1_12, hq1_13, hq1_14, hq1_15, hq1_16, hq1_17, hq1_18, hq1_19, hq1_20, hq1_21, hq1_22, hq1_23, hq1_24, hq1_25⟩ := id hq1
  refine z_iload_n ok dX5_isNew_4 1 rfl ?_
  refine z_call hf (fun r5 h5 hf => ?_)
  refine z_cV (As := [.int x1]) (rest := []) (w := q1) ok hq1_0 zc_10 (c_Works_poolOf hq1 h5) rfl ⟨ml_5_192, w_Works_poolOf⟩ hy_Works_poolOf ⟨rfl, rfl⟩ ⟨Nat.le_of_ble_eq_true rfl, Nat.le_of_ble_eq_true rfl⟩ ⟨Nat.zero_le _, Nat.zero_le _⟩ rfl (Nat.le_of_ble_eq_true rfl) dX5_isNew_5 ?_
  refine z_iconst (v := (-1)) ok dX5_isNew_8 (by decide) ?_
  refine z_icmp_ne (tgt := 28) ok dX5_isNew_9 (by decide) hf (fun _ hf => ?_) (fun _ hf => ?_)
  · refine z_aload_n ok dX5_isNew_12 0 rfl ?_
    refine z_getm2 (p := 3) (q := 29) ok kc_2 zc_5 hin_5 5 (by decide) fl_5_19 rfl (by decide) (by decide) dX5_isNew_13 hf (fun q13 e13 hf => ?_)
    have hq13 : zI_Works q13 198 := by rcases e13 with rfl | rfl; exact kI_Works_3; exact kI_Works_29
    obtain ⟨hq13_0, hq13_1, hq13_2, hq13_3, hq13_4, hq13_5, hq13_6, hq13_7, hq13_8, hq13_9, hq13_10, hq13_11, hq13_12, hq13_13, hq13_14, hq13_15, hq13_16, hq13_17, hq13_18, hq13_19, hq13_20, hq13_21, hq13_22, hq13_23, hq13_24, hq13_25⟩ := id hq13
    refine z_iload_n ok dX5_isNew_16 1 rfl ?_
    refine z_call hf (fun r17 h17 hf => ?_)
    refine z_cV (As := [.int x1]) (rest := []) (w := q13) ok hq13_0 zc_10 (c_Works_outletOf hq13 h17) rfl ⟨ml_5_200, w_Works_outletOf⟩ hy_Works_outletOf ⟨rfl, rfl⟩ ⟨Nat.le_of_ble_eq_true rfl, Nat.le_of_ble_eq_true rfl⟩ ⟨Nat.zero_le _, Nat.zero_le _⟩ rfl (Nat.le_of_ble_eq_true rfl) dX5_isNew_17 ?_
    refine z_iconst (v := (-1)) ok dX5_isNew_20 (by decide) ?_
    refine z_icmp_ne (tgt := 28) ok dX5_isNew_21 (by decide) hf (fun _ hf => ?_) (fun _ hf => ?_)
    · refine z_iconst (v := 1) ok dX5_isNew_24 (by decide) ?_
      refine z_goto (tgt := 29) ok dX5_isNew_25 (by decide) ?_
      obtain rfl := Option.some.inj hf
      exact hk _ _ dX5_isNew_29
    · refine z_iconst (v := 0) ok dX5_isNew_28 (by decide) ?_
      obtain rfl := Option.some.inj hf
      exact hk _ _ dX5_isNew_29
  · refine z_iconst (v := 0) ok dX5_isNew_28 (by decide) ?_
    obtain rfl := Option.some.inj hf
    exact hk _ _ dX5_isNew_29
theorem c_Reader_isNew {σ : Sg} {x1 : Int32} {r : Bool} (h : Reader_isNew σ x1 = some r) : ZcI yX5_isNew cX5_isNew 2 .boolean rm_Reader_isNew 198 (fun ad => [.ref (ad 2), .int x1]) σ (zb r) σ :=
  zmetI pn_5 rfl (fun _ => rfl) (fun _ => Nat.le_of_ble_eq_true rfl) (zb_nar _) (fun X Q ok hk => t_Reader_isNew ok h hk)
theorem dX5_askName_0 : decode cX5_askName 0 = .ok (.aload_n 0, 1) := by decide +kernel
theorem dX5_askName_1 : decode cX5_askName 1 = .ok (.getfield 35, 3) := by decide +kernel
theorem dX5_askName_4 : decode cX5_askName 4 = .ok (.ifCond .ne 17, 3) := by decide +kernel
theorem dX5_askName_7 : decode cX5_askName 7 = .ok (.iload_n 1, 1) := by decide +kernel
theorem dX5_askName_8 : decode cX5_askName 8 = .ok (.ifCond .ne 13, 3) := by decide +kernel
theorem dX5_askName_11 : decode cX5_askName 11 = .ok (.aload_n 0, 1) := by decide +kernel
theorem dX5_askName_12 : decode cX5_askName 12 = .ok (.iconst 3, 1) := by decide +kernel
theorem dX5_askName_13 : decode cX5_askName 13 = .ok (.aload_n 0, 1) := by decide +kernel
theorem dX5_askName_14 : decode cX5_askName 14 = .ok (.getfield 231, 3) := by decide +kernel
theorem dX5_askName_17 : decode cX5_askName 17 = .ok (.invokevirtual 51, 3) := by decide +kernel
theorem dX5_askName_20 : decode cX5_askName 20 = .ok (.pop, 1) := by decide +kernel
theorem dX5_askName_21 : decode cX5_askName 21 = .ok (.return_, 1) := by decide +kernel
abbrev rm_Reader_askName : Room := { frames := 1, cells := 0, slots := 0, locals := 22 }
def Reader_askName (σ : Sg) (x1 : Int32) : Option Sg :=
  zgt σ 2 6 fun v1 =>
  if v1 = 0 then (
    if x1 = 0 then (
      zgt σ 2 4 fun v14 =>
      (Reader_fail σ 3 v14).bind fun r17 =>
      some r17.2
    ) else (
      some σ
    )
  ) else (
    some σ
  )
set_option maxRecDepth 20000 in
theorem t_Reader_askName {X : Zx} {Q : State → Prop} {σ : Sg} {x1 : Int32} (ok : Zok X cX5_askName RX5 rm_Reader_askName 198 2)  {out : Sg} (hf : Reader_askName σ x1 = some out) (hk : ZrV cX5_askName X Q out) : ZAt X Q 0 0 0 σ [(0, .ref (X.ad 2)), (1, .int x1)] [] := by
  unfold Reader_askName at hf
  refine z_aload_n ok dX5_askName_0 0 rfl ?_
  refine z_geti ok kc_2 zc_5 hin_5 6 (by decide) fl_5_35 rfl dX5_askName_1 hf (fun v1 hf => ?_)
  refine z_if_ne (tgt := 21) ok dX5_askName_4 (by decide) hf (fun _ hf => ?_) (fun _ hf => ?_)
  · refine z_iload_n ok dX5_askName_7 1 rfl ?_
    refine z_if_ne (tgt := 21) ok dX5_askName_8 (by decide) hf (fun _ hf => ?_) (fun _ hf => ?_)
    · refine z_aload_n ok dX5_askName_11 0 rfl ?_
      refine z_iconst (v := 3) ok dX5_askName_12 (by decide) ?_
      refine z_aload_n ok dX5_askName_13 0 rfl ?_
      refine z_geti ok kc_2 zc_5 hin_5 4 (by decide) fl_5_231 rfl dX5_askName_14 hf (fun v14 hf => ?_)
      refine z_call hf (fun r17 h17 hf => ?_)
      refine z_cV (As := [.int 3, .int v14]) (rest := []) (w := 2) ok kc_2 zc_5 (c_Reader_fail h17) rfl ⟨ml_5_51, w_Reader_fail⟩ hy_Reader_fail ⟨rfl, rfl⟩ ⟨Nat.le_of_ble_eq_true rfl, Nat.le_of_ble_eq_true rfl⟩ ⟨Nat.zero_le _, Nat.zero_le _⟩ rfl (Nat.le_of_ble_eq_true rfl) dX5_askName_17 ?_
      refine z_pop ok dX5_askName_20 rfl ?_
      obtain rfl := Option.some.inj hf
      exact hk _ _ dX5_askName_21
    · obtain rfl := Option.some.inj hf
      exact hk _ _ dX5_askName_21
  · obtain rfl := Option.some.inj hf
    exact hk _ _ dX5_askName_21
theorem c_Reader_askName {σ : Sg} {x1 : Int32} {r : Sg} (h : Reader_askName σ x1 = some r) : ZcV yX5_askName cX5_askName 2 rm_Reader_askName 198 (fun ad => [.ref (ad 2), .int x1]) σ r :=
  zmetV pn_5 rfl (fun _ => rfl) (fun _ => Nat.le_of_ble_eq_true rfl) (fun X Q ok hk => t_Reader_askName ok h hk)
theorem dX5_poolWord_0 : decode cX5_poolWord 0 = .ok (.iload_n 0, 1) := by decide +kernel
theorem dX5_poolWord_1 : decode cX5_poolWord 1 = .ok (.tableswitch 87 0 7 #[47, 52, 57, 62, 67, 72, 77, 82], 47) := by decide +kernel
theorem dX5_poolWord_48 : decode cX5_poolWord 48 = .ok (.ldc 161, 2) := by decide +kernel
theorem dX5_poolWord_50 : decode cX5_poolWord 50 = .ok (.goto 40, 3) := by decide +kernel
theorem dX5_poolWord_53 : decode cX5_poolWord 53 = .ok (.ldc 163, 2) := by decide +kernel
theorem dX5_poolWord_55 : decode cX5_poolWord 55 = .ok (.goto 35, 3) := by decide +kernel
theorem dX5_poolWord_58 : decode cX5_poolWord 58 = .ok (.ldc 165, 2) := by decide +kernel
theorem dX5_poolWord_60 : decode cX5_poolWord 60 = .ok (.goto 30, 3) := by decide +kernel
theorem dX5_poolWord_63 : decode cX5_poolWord 63 = .ok (.ldc 167, 2) := by decide +kernel
theorem dX5_poolWord_65 : decode cX5_poolWord 65 = .ok (.goto 25, 3) := by decide +kernel
theorem dX5_poolWord_68 : decode cX5_poolWord 68 = .ok (.ldc 169, 2) := by decide +kernel
theorem dX5_poolWord_70 : decode cX5_poolWord 70 = .ok (.goto 20, 3) := by decide +kernel
theorem dX5_poolWord_73 : decode cX5_poolWord 73 = .ok (.ldc 171, 2) := by decide +kernel
theorem dX5_poolWord_75 : decode cX5_poolWord 75 = .ok (.goto 15, 3) := by decide +kernel
theorem dX5_poolWord_78 : decode cX5_poolWord 78 = .ok (.ldc 173, 2) := by decide +kernel
theorem dX5_poolWord_80 : decode cX5_poolWord 80 = .ok (.goto 10, 3) := by decide +kernel
theorem dX5_poolWord_83 : decode cX5_poolWord 83 = .ok (.ldc 175, 2) := by decide +kernel
theorem dX5_poolWord_85 : decode cX5_poolWord 85 = .ok (.goto 5, 3) := by decide +kernel
theorem dX5_poolWord_88 : decode cX5_poolWord 88 = .ok (.ldc 177, 2) := by decide +kernel
theorem dX5_poolWord_90 : decode cX5_poolWord 90 = .ok (.areturn, 1) := by decide +kernel
abbrev rm_Reader_poolWord : Room := { frames := 0, cells := 0, slots := 0, locals := 0 }
def Reader_poolWord (x0 : Int32) : Option Nat :=
  if x0 = 0 then (
    some 5
  ) else (
  if x0 = 1 then (
    some 6
  ) else (
  if x0 = 2 then (
    some 7
  ) else (
  if x0 = 3 then (
    some 8
  ) else (
  if x0 = 4 then (
    some 9
  ) else (
  if x0 = 5 then (
    some 10
  ) else (
  if x0 = 6 then (
    some 11
  ) else (
  if x0 = 7 then (
    some 12
  ) else (
    some 13
  ))))))))
set_option maxRecDepth 20000 in
theorem t_Reader_poolWord {X : Zx} {Q : State → Prop} {σ : Sg} {x0 : Int32} (ok : Zok X cX5_poolWord RX5 rm_Reader_poolWord 198 1)  {out : Nat} (hf : Reader_poolWord x0 = some out) (hk : ZrR cX5_poolWord X Q out σ) : ZAt X Q 0 0 0 σ [(0, .int x0)] [] := by
  unfold Reader_poolWord at hf
  refine z_iload_n ok dX5_poolWord_0 0 rfl ?_
  refine z_swc (v := 0) hf (fun hf => ?_) (fun n1_0 hf => ?_)
  · refine z_tableIn (tgt := 48) ok dX5_poolWord_1 (by decide) (by decide) rfl (by decide) ?_
    refine z_ldcS ok 5 rfl dX5_poolWord_48 ?_
    refine z_goto (tgt := 90) ok dX5_poolWord_50 (by decide) ?_
    obtain rfl := Option.some.inj hf
    exact hk _ _ dX5_poolWord_90
  refine z_swc (v := 1) hf (fun hf => ?_) (fun n1_1 hf => ?_)
  · refine z_tableIn (tgt := 53) ok dX5_poolWord_1 (by decide) (by decide) rfl (by decide) ?_
    refine z_ldcS ok 6 rfl dX5_poolWord_53 ?_
    refine z_goto (tgt := 90) ok dX5_poolWord_55 (by decide) ?_
    obtain rfl := Option.some.inj hf
    exact hk _ _ dX5_poolWord_90
  refine z_swc (v := 2) hf (fun hf => ?_) (fun n1_2 hf => ?_)
  · refine z_tableIn (tgt := 58) ok dX5_poolWord_1 (by decide) (by decide) rfl (by decide) ?_
    refine z_ldcS ok 7 rfl dX5_poolWord_58 ?_
    refine z_goto (tgt := 90) ok dX5_poolWord_60 (by decide) ?_
    obtain rfl := Option.some.inj hf
    exact hk _ _ dX5_poolWord_90
  refine z_swc (v := 3) hf (fun hf => ?_) (fun n1_3 hf => ?_)
  · refine z_tableIn (tgt := 63) ok dX5_poolWord_1 (by decide) (by decide) rfl (by decide) ?_
    refine z_ldcS ok 8 rfl dX5_poolWord_63 ?_
    refine z_goto (tgt := 90) ok dX5_poolWord_65 (by decide) ?_
    obtain rfl := Option.some.inj hf
    exact hk _ _ dX5_poolWord_90
  refine z_swc (v := 4) hf (fun hf => ?_) (fun n1_4 hf => ?_)
  · refine z_tableIn (tgt := 68) ok dX5_poolWord_1 (by decide) (by decide) rfl (by decide) ?_
    refine z_ldcS ok 9 rfl dX5_poolWord_68 ?_
    refine z_goto (tgt := 90) ok dX5_poolWord_70 (by decide) ?_
    obtain rfl := Option.some.inj hf
    exact hk _ _ dX5_poolWord_90
  refine z_swc (v := 5) hf (fun hf => ?_) (fun n1_5 hf => ?_)
  · refine z_tableIn (tgt := 73) ok dX5_poolWord_1 (by decide) (by decide) rfl (by decide) ?_
    refine z_ldcS ok 10 rfl dX5_poolWord_73 ?_
    refine z_goto (tgt := 90) ok dX5_poolWord_75 (by decide) ?_
    obtain rfl := Option.some.inj hf
    exact hk _ _ dX5_poolWord_90
  refine z_swc (v := 6) hf (fun hf => ?_) (fun n1_6 hf => ?_)
  · refine z_tableIn (tgt := 78) ok dX5_poolWord_1 (by decide) (by decide) rfl (by decide) ?_
    refine z_ldcS ok 11 rfl dX5_poolWord_78 ?_
    refine z_goto (tgt := 90) ok dX5_poolWord_80 (by decide) ?_
    obtain rfl := Option.some.inj hf
    exact hk _ _ dX5_poolWord_90
  refine z_swc (v := 7) hf (fun hf => ?_) (fun n1_7 hf => ?_)
  · refine z_tableIn (tgt := 83) ok dX5_poolWord_1 (by decide) (by decide) rfl (by decide) ?_
    refine z_ldcS ok 12 rfl dX5_poolWord_83 ?_
    refine z_goto (tgt := 90) ok dX5_poolWord_85 (by decide) ?_
    obtain rfl := Option.some.inj hf
    exact hk _ _ dX5_poolWord_90
  refine z_tableOut (tgt := 88) ok dX5_poolWord_1 (zsw_out 0 7 [0, 1, 2, 3, 4, 5, 6, 7] (by decide) (List.forall_mem_cons.mpr ⟨n1_0, (List.forall_mem_cons.mpr ⟨n1_1, (List.forall_mem_cons.mpr ⟨n1_2, (List.forall_mem_cons.mpr ⟨n1_3, (List.forall_mem_cons.mpr ⟨n1_4, (List.forall_mem_cons.mpr ⟨n1_5, (List.forall_mem_cons.mpr ⟨n1_6, (List.forall_mem_cons.mpr ⟨n1_7, (fun _ h => absurd h List.not_mem_nil)⟩)⟩)⟩)⟩)⟩)⟩)⟩)⟩)) (by decide) ?_
  refine z_ldcS ok 13 rfl dX5_poolWord_88 ?_
  obtain rfl := Option.some.inj hf
  exact hk _ _ dX5_poolWord_90
theorem c_Reader_poolWord {σ : Sg} {x0 : Int32} {r : Nat} (h : Reader_poolWord x0 = some r) : ZcR yX5_poolWord cX5_poolWord 1 (.object "java/lang/String") rm_Reader_poolWord 198 (fun ad => [.int x0]) σ r σ :=
  zmetR pn_5 rfl (fun _ => rfl) (fun _ => Nat.le_of_ble_eq_true rfl) (fun X Q ok hk => t_Reader_poolWord ok h hk)
theorem Reader_poolWord_lt {x0 : Int32} {r : Nat} (h : Reader_poolWord x0 = some r) : r < 21 := by
  unfold Reader_poolWord at h
  repeat' split at h
  all_goals (cases h; decide)
theorem dX5_leastOf_0 : decode cX5_leastOf 0 = .ok (.iload_n 1, 1) := by decide +kernel
theorem dX5_leastOf_1 : decode cX5_leastOf 1 = .ok (.lookupswitch 55 #[(2, 27), (3, 41)], 27) := by decide +kernel
theorem dX5_leastOf_28 : decode cX5_leastOf 28 = .ok (.aload_n 0, 1) := by decide +kernel
theorem dX5_leastOf_29 : decode cX5_leastOf 29 = .ok (.getfield 19, 3) := by decide +kernel
theorem dX5_leastOf_32 : decode cX5_leastOf 32 = .ok (.getfield 148, 3) := by decide +kernel
theorem dX5_leastOf_35 : decode cX5_leastOf 35 = .ok (.iconst 1, 1) := by decide +kernel
theorem dX5_leastOf_36 : decode cX5_leastOf 36 = .ok (.aaload, 1) := by decide +kernel
theorem dX5_leastOf_37 : decode cX5_leastOf 37 = .ok (.iload_n 2, 1) := by decide +kernel
theorem dX5_leastOf_38 : decode cX5_leastOf 38 = .ok (.iaload, 1) := by decide +kernel
theorem dX5_leastOf_39 : decode cX5_leastOf 39 = .ok (.goto 22, 3) := by decide +kernel
theorem dX5_leastOf_42 : decode cX5_leastOf 42 = .ok (.aload_n 0, 1) := by decide +kernel
theorem dX5_leastOf_43 : decode cX5_leastOf 43 = .ok (.getfield 19, 3) := by decide +kernel
theorem dX5_leastOf_46 : decode cX5_leastOf 46 = .ok (.getfield 148, 3) := by decide +kernel
theorem dX5_leastOf_49 : decode cX5_leastOf 49 = .ok (.iconst 2, 1) := by decide +kernel
theorem dX5_leastOf_50 : decode cX5_leastOf 50 = .ok (.aaload, 1) := by decide +kernel
theorem dX5_leastOf_51 : decode cX5_leastOf 51 = .ok (.iload_n 2, 1) := by decide +kernel
theorem dX5_leastOf_52 : decode cX5_leastOf 52 = .ok (.iaload, 1) := by decide +kernel
theorem dX5_leastOf_53 : decode cX5_leastOf 53 = .ok (.goto 8, 3) := by decide +kernel
theorem dX5_leastOf_56 : decode cX5_leastOf 56 = .ok (.getstatic 179, 3) := by decide +kernel
theorem dX5_leastOf_59 : decode cX5_leastOf 59 = .ok (.iload_n 1, 1) := by decide +kernel
theorem dX5_leastOf_60 : decode cX5_leastOf 60 = .ok (.iaload, 1) := by decide +kernel
theorem dX5_leastOf_61 : decode cX5_leastOf 61 = .ok (.ireturn, 1) := by decide +kernel
abbrev rm_Reader_leastOf : Room := { frames := 0, cells := 0, slots := 0, locals := 0 }
def Reader_leastOf (σ : Sg) (x1 : Int32) (x2 : Int32) : Option Int32 :=
  if x1 = 2 then (
    zmr2 3 29 (σ 2 5) fun q29 =>
    zrd σ (q29 + 4) 8 x2 fun v38 =>
    some v38
  ) else (
  if x1 = 3 then (
    zmr2 3 29 (σ 2 5) fun q43 =>
    zrd σ (q43 + 5) 8 x2 fun v52 =>
    some v52
  ) else (
    zst zLeast x1 fun v60 =>
    some v60
  ))
set_option maxRecDepth 20000 in
theorem t_Reader_leastOf {X : Zx} {Q : State → Prop} {σ : Sg} {x1 : Int32} {x2 : Int32} (ok : Zok X cX5_leastOf RX5 rm_Reader_leastOf 198 3)  {out : Int32} (hf : Reader_leastOf σ x1 x2 = some out) (hk : ZrI cX5_leastOf X Q out σ) : ZAt X Q 0 0 0 σ [(0, .ref (X.ad 2)), (1, .int x1), (2, .int x2)] [] := by
  unfold Reader_leastOf at hf
  refine z_iload_n ok dX5_leastOf_0 1 rfl ?_
  refine z_swc (v := 2) hf (fun hf => ?_) (fun n1_0 hf => ?_)
  · refine z_lookup (off := 27) (tgt := 28) ok dX5_leastOf_1 (by decide) (by decide) (by decide) ?_
    refine z_aload_n ok dX5_leastOf_28 0 rfl ?_
    refine z_getm2 (p := 3) (q := 29) ok kc_2 zc_5 hin_5 5 (by decide) fl_5_19 rfl (by decide) (by decide) dX5_leastOf_29 hf (fun q29 e29 hf => ?_)
    have hq29 : zI_Works q29 198 := by rcases e29 with rfl | rfl; exact kI_Works_3; exact kI_Works_29
    obtain ⟨hq29_0, hq29_1, hq29_2, hq29_3, hq29_4, hq29_5, hq29_6, hq29_7, hq29_8, hq29_9, hq29_10, hq29_11, hq29_12, hq29_13, hq29_14, hq29_15, hq29_16, hq29_17, hq29_18, hq29_19, hq29_20, hq29_21, hq29_22, hq29_23, hq29_24, hq29_25⟩ := id hq29
    refine z_getr (q := (q29 + 2)) ok hq29_0 zc_10 hin_10 5 (by decide) fl_5_148 rfl dX5_leastOf_32 ?_
    refine z_iconst (v := 1) ok dX5_leastOf_35 (by decide) ?_
    refine z_aaldc (q := (q29 + 4)) ok hq29_2 (by decide) rfl (by decide) rfl dX5_leastOf_36 ?_
    refine z_iload_n ok dX5_leastOf_37 2 rfl ?_
    refine z_iald ok hq29_4 dX5_leastOf_38 hf (fun v38 hf => ?_)
    refine z_goto (tgt := 61) ok dX5_leastOf_39 (by decide) ?_
    obtain rfl := Option.some.inj hf
    exact hk _ _ dX5_leastOf_61
  refine z_swc (v := 3) hf (fun hf => ?_) (fun n1_1 hf => ?_)
  · refine z_lookup (off := 41) (tgt := 42) ok dX5_leastOf_1 (by decide) (by decide) (by decide) ?_
    refine z_aload_n ok dX5_leastOf_42 0 rfl ?_
    refine z_getm2 (p := 3) (q := 29) ok kc_2 zc_5 hin_5 5 (by decide) fl_5_19 rfl (by decide) (by decide) dX5_leastOf_43 hf (fun q43 e43 hf => ?_)
    have hq43 : zI_Works q43 198 := by rcases e43 with rfl | rfl; exact kI_Works_3; exact kI_Works_29
    obtain ⟨hq43_0, hq43_1, hq43_2, hq43_3, hq43_4, hq43_5, hq43_6, hq43_7, hq43_8, hq43_9, hq43_10, hq43_11, hq43_12, hq43_13, hq43_14, hq43_15, hq43_16, hq43_17, hq43_18, hq43_19, hq43_20, hq43_21, hq43_22, hq43_23, hq43_24, hq43_25⟩ := id hq43
    refine z_getr (q := (q43 + 2)) ok hq43_0 zc_10 hin_10 5 (by decide) fl_5_148 rfl dX5_leastOf_46 ?_
    refine z_iconst (v := 2) ok dX5_leastOf_49 (by decide) ?_
    refine z_aaldc (q := (q43 + 5)) ok hq43_2 (by decide) rfl (by decide) rfl dX5_leastOf_50 ?_
    refine z_iload_n ok dX5_leastOf_51 2 rfl ?_
    refine z_iald ok hq43_5 dX5_leastOf_52 hf (fun v52 hf => ?_)
    refine z_goto (tgt := 61) ok dX5_leastOf_53 (by decide) ?_
    obtain rfl := Option.some.inj hf
    exact hk _ _ dX5_leastOf_61
  refine z_lookdef (tgt := 56) ok dX5_leastOf_1 (by decide) (by decide) (List.forall_mem_cons.mpr ⟨n1_0, (List.forall_mem_cons.mpr ⟨n1_1, (fun _ h => absurd h List.not_mem_nil)⟩)⟩) (by decide) ?_
  refine z_least ok dX5_leastOf_56 ?_
  refine z_iload_n ok dX5_leastOf_59 1 rfl ?_
  refine z_stal ok dX5_leastOf_60 hf (fun v60 hf => ?_)
  obtain rfl := Option.some.inj hf
  exact hk _ _ dX5_leastOf_61
theorem c_Reader_leastOf {σ : Sg} {x1 : Int32} {x2 : Int32} {r : Int32} (h : Reader_leastOf σ x1 x2 = some r) : ZcI yX5_leastOf cX5_leastOf 3 .int rm_Reader_leastOf 198 (fun ad => [.ref (ad 2), .int x1, .int x2]) σ r σ :=
  zmetI pn_5 rfl (fun _ => rfl) (fun _ => Nat.le_of_ble_eq_true rfl) rfl (fun X Q ok hk => t_Reader_leastOf ok h hk)
theorem dX5_mostOf_0 : decode cX5_mostOf 0 = .ok (.iload_n 1, 1) := by decide +kernel
theorem dX5_mostOf_1 : decode cX5_mostOf 1 = .ok (.bipush 8, 2) := by decide +kernel
theorem dX5_mostOf_3 : decode cX5_mostOf 3 = .ok (.if_icmp .ne 18, 3) := by decide +kernel
theorem dX5_mostOf_6 : decode cX5_mostOf 6 = .ok (.aload_n 0, 1) := by decide +kernel
theorem dX5_mostOf_7 : decode cX5_mostOf 7 = .ok (.getfield 19, 3) := by decide +kernel
theorem dX5_mostOf_10 : decode cX5_mostOf 10 = .ok (.getfield 148, 3) := by decide +kernel
theorem dX5_mostOf_13 : decode cX5_mostOf 13 = .ok (.bipush 6, 2) := by decide +kernel
theorem dX5_mostOf_15 : decode cX5_mostOf 15 = .ok (.aaload, 1) := by decide +kernel
theorem dX5_mostOf_16 : decode cX5_mostOf 16 = .ok (.iload_n 2, 1) := by decide +kernel
theorem dX5_mostOf_17 : decode cX5_mostOf 17 = .ok (.iaload, 1) := by decide +kernel
theorem dX5_mostOf_18 : decode cX5_mostOf 18 = .ok (.goto 8, 3) := by decide +kernel
theorem dX5_mostOf_21 : decode cX5_mostOf 21 = .ok (.getstatic 182, 3) := by decide +kernel
theorem dX5_mostOf_24 : decode cX5_mostOf 24 = .ok (.iload_n 1, 1) := by decide +kernel
theorem dX5_mostOf_25 : decode cX5_mostOf 25 = .ok (.iaload, 1) := by decide +kernel
theorem dX5_mostOf_26 : decode cX5_mostOf 26 = .ok (.ireturn, 1) := by decide +kernel
abbrev rm_Reader_mostOf : Room := { frames := 0, cells := 0, slots := 0, locals := 0 }
def Reader_mostOf (σ : Sg) (x1 : Int32) (x2 : Int32) : Option Int32 :=
  if x1 = 8 then (
    zmr2 3 29 (σ 2 5) fun q7 =>
    zrd σ (q7 + 9) 8 x2 fun v17 =>
    some v17
  ) else (
    zst zMost x1 fun v25 =>
    some v25
  )
set_option maxRecDepth 20000 in
theorem t_Reader_mostOf {X : Zx} {Q : State → Prop} {σ : Sg} {x1 : Int32} {x2 : Int32} (ok : Zok X cX5_mostOf RX5 rm_Reader_mostOf 198 3)  {out : Int32} (hf : Reader_mostOf σ x1 x2 = some out) (hk : ZrI cX5_mostOf X Q out σ) : ZAt X Q 0 0 0 σ [(0, .ref (X.ad 2)), (1, .int x1), (2, .int x2)] [] := by
  unfold Reader_mostOf at hf
  refine z_iload_n ok dX5_mostOf_0 1 rfl ?_
  refine z_bipush (v := 8) ok dX5_mostOf_1 (by decide) ?_
  refine z_icmp_ne (tgt := 21) ok dX5_mostOf_3 (by decide) hf (fun _ hf => ?_) (fun _ hf => ?_)
  · refine z_aload_n ok dX5_mostOf_6 0 rfl ?_
    refine z_getm2 (p := 3) (q := 29) ok kc_2 zc_5 hin_5 5 (by decide) fl_5_19 rfl (by decide) (by decide) dX5_mostOf_7 hf (fun q7 e7 hf => ?_)
    have hq7 : zI_Works q7 198 := by rcases e7 with rfl | rfl; exact kI_Works_3; exact kI_Works_29
    obtain ⟨hq7_0, hq7_1, hq7_2, hq7_3, hq7_4, hq7_5, hq7_6, hq7_7, hq7_8, hq7_9, hq7_10, hq7_11, hq7_12, hq7_13, hq7_14, hq7_15, hq7_16, hq7_17, hq7_18, hq7_19, hq7_20, hq7_21, hq7_22, hq7_23, hq7_24, hq7_25⟩ := id hq7
    refine z_getr (q := (q7 + 2)) ok hq7_0 zc_10 hin_10 5 (by decide) fl_5_148 rfl dX5_mostOf_10 ?_
    refine z_bipush (v := 6) ok dX5_mostOf_13 (by decide) ?_
    refine z_aaldc (q := (q7 + 9)) ok hq7_2 (by decide) rfl (by decide) rfl dX5_mostOf_15 ?_
    refine z_iload_n ok dX5_mostOf_16 2 rfl ?_
    refine z_iald ok hq7_9 dX5_mostOf_17 hf (fun v17 hf => ?_)
    refine z_goto (tgt := 26) ok dX5_mostOf_18 (by decide) ?_
    obtain rfl := Option.some.inj hf
    exact hk _ _ dX5_mostOf_26
  · refine z_most ok dX5_mostOf_21 ?_
    refine z_iload_n ok dX5_mostOf_24 1 rfl ?_
    refine z_stam ok dX5_mostOf_25 hf (fun v25 hf => ?_)
    obtain rfl := Option.some.inj hf
    exact hk _ _ dX5_mostOf_26
theorem c_Reader_mostOf {σ : Sg} {x1 : Int32} {x2 : Int32} {r : Int32} (h : Reader_mostOf σ x1 x2 = some r) : ZcI yX5_mostOf cX5_mostOf 3 .int rm_Reader_mostOf 198 (fun ad => [.ref (ad 2), .int x1, .int x2]) σ r σ :=
  zmetI pn_5 rfl (fun _ => rfl) (fun _ => Nat.le_of_ble_eq_true rfl) rfl (fun X Q ok hk => t_Reader_mostOf ok h hk)
theorem dX5_readPool_0 : decode cX5_readPool 0 = .ok (.aload_n 0, 1) := by decide +kernel
theorem dX5_readPool_1 : decode cX5_readPool 1 = .ok (.getfield 19, 3) := by decide +kernel
theorem dX5_readPool_4 : decode cX5_readPool 4 = .ok (.getfield 69, 3) := by decide +kernel
theorem dX5_readPool_7 : decode cX5_readPool 7 = .ok (.istore_n 1, 1) := by decide +kernel
theorem dX5_readPool_8 : decode cX5_readPool 8 = .ok (.aload_n 0, 1) := by decide +kernel
theorem dX5_readPool_9 : decode cX5_readPool 9 = .ok (.ldc 67, 2) := by decide +kernel
theorem dX5_readPool_11 : decode cX5_readPool 11 = .ok (.invokevirtual 110, 3) := by decide +kernel
theorem dX5_readPool_14 : decode cX5_readPool 14 = .ok (.ifCond .ne 5, 3) := by decide +kernel
theorem dX5_readPool_17 : decode cX5_readPool 17 = .ok (.iconst 0, 1) := by decide +kernel
theorem dX5_readPool_18 : decode cX5_readPool 18 = .ok (.ireturn, 1) := by decide +kernel
theorem dX5_readPool_19 : decode cX5_readPool 19 = .ok (.aload_n 0, 1) := by decide +kernel
theorem dX5_readPool_20 : decode cX5_readPool 20 = .ok (.getfield 19, 3) := by decide +kernel
theorem dX5_readPool_23 : decode cX5_readPool 23 = .ok (.getfield 128, 3) := by decide +kernel
theorem dX5_readPool_26 : decode cX5_readPool 26 = .ok (.iload_n 1, 1) := by decide +kernel
theorem dX5_readPool_27 : decode cX5_readPool 27 = .ok (.aload_n 0, 1) := by decide +kernel
theorem dX5_readPool_28 : decode cX5_readPool 28 = .ok (.invokevirtual 132, 3) := by decide +kernel
theorem dX5_readPool_31 : decode cX5_readPool 31 = .ok (.iastore, 1) := by decide +kernel
theorem dX5_readPool_32 : decode cX5_readPool 32 = .ok (.aload_n 0, 1) := by decide +kernel
theorem dX5_readPool_33 : decode cX5_readPool 33 = .ok (.aload_n 0, 1) := by decide +kernel
theorem dX5_readPool_34 : decode cX5_readPool 34 = .ok (.aload_n 0, 1) := by decide +kernel
theorem dX5_readPool_35 : decode cX5_readPool 35 = .ok (.getfield 19, 3) := by decide +kernel
theorem dX5_readPool_38 : decode cX5_readPool 38 = .ok (.getfield 128, 3) := by decide +kernel
theorem dX5_readPool_41 : decode cX5_readPool 41 = .ok (.iload_n 1, 1) := by decide +kernel
theorem dX5_readPool_42 : decode cX5_readPool 42 = .ok (.iaload, 1) := by decide +kernel
theorem dX5_readPool_43 : decode cX5_readPool 43 = .ok (.invokevirtual 136, 3) := by decide +kernel
theorem dX5_readPool_46 : decode cX5_readPool 46 = .ok (.invokevirtual 140, 3) := by decide +kernel
theorem dX5_readPool_49 : decode cX5_readPool 49 = .ok (.iconst 0, 1) := by decide +kernel
theorem dX5_readPool_50 : decode cX5_readPool 50 = .ok (.istore_n 2, 1) := by decide +kernel
theorem dX5_readPool_51 : decode cX5_readPool 51 = .ok (.iload_n 2, 1) := by decide +kernel
theorem dX5_readPool_52 : decode cX5_readPool 52 = .ok (.bipush 9, 2) := by decide +kernel
theorem dX5_readPool_54 : decode cX5_readPool 54 = .ok (.if_icmp .ge 54, 3) := by decide +kernel
theorem dX5_readPool_57 : decode cX5_readPool 57 = .ok (.aload_n 0, 1) := by decide +kernel
theorem dX5_readPool_58 : decode cX5_readPool 58 = .ok (.getfield 35, 3) := by decide +kernel
theorem dX5_readPool_61 : decode cX5_readPool 61 = .ok (.ifCond .ne 47, 3) := by decide +kernel
theorem dX5_readPool_64 : decode cX5_readPool 64 = .ok (.aload_n 0, 1) := by decide +kernel
theorem dX5_readPool_65 : decode cX5_readPool 65 = .ok (.iload_n 2, 1) := by decide +kernel
theorem dX5_readPool_66 : decode cX5_readPool 66 = .ok (.invokestatic 144, 3) := by decide +kernel
theorem dX5_readPool_69 : decode cX5_readPool 69 = .ok (.invokevirtual 110, 3) := by decide +kernel
theorem dX5_readPool_72 : decode cX5_readPool 72 = .ok (.ifCond .eq 30, 3) := by decide +kernel
theorem dX5_readPool_75 : decode cX5_readPool 75 = .ok (.aload_n 0, 1) := by decide +kernel
theorem dX5_readPool_76 : decode cX5_readPool 76 = .ok (.getfield 19, 3) := by decide +kernel
theorem dX5_readPool_79 : decode cX5_readPool 79 = .ok (.getfield 148, 3) := by decide +kernel
theorem dX5_readPool_82 : decode cX5_readPool 82 = .ok (.iload_n 2, 1) := by decide +kernel
theorem dX5_readPool_83 : decode cX5_readPool 83 = .ok (.aaload, 1) := by decide +kernel
theorem dX5_readPool_84 : decode cX5_readPool 84 = .ok (.iload_n 1, 1) := by decide +kernel
theorem dX5_readPool_85 : decode cX5_readPool 85 = .ok (.aload_n 0, 1) := by decide +kernel
theorem dX5_readPool_86 : decode cX5_readPool 86 = .ok (.aload_n 0, 1) := by decide +kernel
theorem dX5_readPool_87 : decode cX5_readPool 87 = .ok (.iload_n 2, 1) := by decide +kernel
theorem dX5_readPool_88 : decode cX5_readPool 88 = .ok (.iload_n 1, 1) := by decide +kernel
theorem dX5_readPool_89 : decode cX5_readPool 89 = .ok (.invokevirtual 152, 3) := by decide +kernel
theorem dX5_readPool_92 : decode cX5_readPool 92 = .ok (.aload_n 0, 1) := by decide +kernel
theorem dX5_readPool_93 : decode cX5_readPool 93 = .ok (.iload_n 2, 1) := by decide +kernel
theorem dX5_readPool_94 : decode cX5_readPool 94 = .ok (.iload_n 1, 1) := by decide +kernel
theorem dX5_readPool_95 : decode cX5_readPool 95 = .ok (.invokevirtual 155, 3) := by decide +kernel
theorem dX5_readPool_98 : decode cX5_readPool 98 = .ok (.invokevirtual 115, 3) := by decide +kernel
theorem dX5_readPool_101 : decode cX5_readPool 101 = .ok (.iastore, 1) := by decide +kernel
theorem dX5_readPool_102 : decode cX5_readPool 102 = .ok (.iinc 2 1, 3) := by decide +kernel
theorem dX5_readPool_105 : decode cX5_readPool 105 = .ok (.goto (-54), 3) := by decide +kernel
theorem dX5_readPool_108 : decode cX5_readPool 108 = .ok (.aload_n 0, 1) := by decide +kernel
theorem dX5_readPool_109 : decode cX5_readPool 109 = .ok (.getfield 35, 3) := by decide +kernel
theorem dX5_readPool_112 : decode cX5_readPool 112 = .ok (.ifCond .ne 12, 3) := by decide +kernel
theorem dX5_readPool_115 : decode cX5_readPool 115 = .ok (.aload_n 0, 1) := by decide +kernel
theorem dX5_readPool_116 : decode cX5_readPool 116 = .ok (.bipush 59, 2) := by decide +kernel
theorem dX5_readPool_118 : decode cX5_readPool 118 = .ok (.invokevirtual 121, 3) := by decide +kernel
theorem dX5_readPool_121 : decode cX5_readPool 121 = .ok (.ifCond .ne 5, 3) := by decide +kernel
theorem dX5_readPool_124 : decode cX5_readPool 124 = .ok (.iconst 0, 1) := by decide +kernel
theorem dX5_readPool_125 : decode cX5_readPool 125 = .ok (.ireturn, 1) := by decide +kernel
theorem dX5_readPool_126 : decode cX5_readPool 126 = .ok (.aload_n 0, 1) := by decide +kernel
theorem dX5_readPool_127 : decode cX5_readPool 127 = .ok (.getfield 19, 3) := by decide +kernel
theorem dX5_readPool_130 : decode cX5_readPool 130 = .ok (.getfield 158, 3) := by decide +kernel
theorem dX5_readPool_133 : decode cX5_readPool 133 = .ok (.iload_n 1, 1) := by decide +kernel
theorem dX5_readPool_134 : decode cX5_readPool 134 = .ok (.aload_n 0, 1) := by decide +kernel
theorem dX5_readPool_135 : decode cX5_readPool 135 = .ok (.getfield 19, 3) := by decide +kernel
theorem dX5_readPool_138 : decode cX5_readPool 138 = .ok (.getfield 148, 3) := by decide +kernel
theorem dX5_readPool_141 : decode cX5_readPool 141 = .ok (.iconst 1, 1) := by decide +kernel
theorem dX5_readPool_142 : decode cX5_readPool 142 = .ok (.aaload, 1) := by decide +kernel
theorem dX5_readPool_143 : decode cX5_readPool 143 = .ok (.iload_n 1, 1) := by decide +kernel
theorem dX5_readPool_144 : decode cX5_readPool 144 = .ok (.iaload, 1) := by decide +kernel
theorem dX5_readPool_145 : decode cX5_readPool 145 = .ok (.aload_n 0, 1) := by decide +kernel
theorem dX5_readPool_146 : decode cX5_readPool 146 = .ok (.getfield 19, 3) := by decide +kernel
theorem dX5_readPool_149 : decode cX5_readPool 149 = .ok (.getfield 148, 3) := by decide +kernel
theorem dX5_readPool_152 : decode cX5_readPool 152 = .ok (.iconst 2, 1) := by decide +kernel
theorem dX5_readPool_153 : decode cX5_readPool 153 = .ok (.aaload, 1) := by decide +kernel
theorem dX5_readPool_154 : decode cX5_readPool 154 = .ok (.iload_n 1, 1) := by decide +kernel
theorem dX5_readPool_155 : decode cX5_readPool 155 = .ok (.iaload, 1) := by decide +kernel
theorem dX5_readPool_156 : decode cX5_readPool 156 = .ok (.iadd, 1) := by decide +kernel
theorem dX5_readPool_157 : decode cX5_readPool 157 = .ok (.iconst 2, 1) := by decide +kernel
theorem dX5_readPool_158 : decode cX5_readPool 158 = .ok (.idiv, 1) := by decide +kernel
theorem dX5_readPool_159 : decode cX5_readPool 159 = .ok (.iastore, 1) := by decide +kernel
theorem dX5_readPool_160 : decode cX5_readPool 160 = .ok (.aload_n 0, 1) := by decide +kernel
theorem dX5_readPool_161 : decode cX5_readPool 161 = .ok (.getfield 19, 3) := by decide +kernel
theorem dX5_readPool_164 : decode cX5_readPool 164 = .ok (.dup, 1) := by decide +kernel
theorem dX5_readPool_165 : decode cX5_readPool 165 = .ok (.getfield 69, 3) := by decide +kernel
theorem dX5_readPool_168 : decode cX5_readPool 168 = .ok (.iconst 1, 1) := by decide +kernel
theorem dX5_readPool_169 : decode cX5_readPool 169 = .ok (.iadd, 1) := by decide +kernel
theorem dX5_readPool_170 : decode cX5_readPool 170 = .ok (.putfield 69, 3) := by decide +kernel
theorem dX5_readPool_173 : decode cX5_readPool 173 = .ok (.iconst 1, 1) := by decide +kernel
theorem dX5_readPool_174 : decode cX5_readPool 174 = .ok (.ireturn, 1) := by decide +kernel
abbrev rm_Reader_readPool : Room := { frames := 6, cells := 0, slots := 0, locals := 131 }
def Reader_readPool_l51 (σ : Sg) (x1 : Int32) (x2 : Int32) : Option ((Sg × Int32) ⊕ (Sg × Int32)) :=
  if 9 ≤ x2 then (
    some (.inr (σ, x2))
  ) else (
    zgt σ 2 6 fun v58 =>
    if v58 = 0 then (
      (Reader_poolWord x2).bind fun r66 =>
      (Reader_readWord σ r66).bind fun r69 =>
      if (zb r69.1) = 0 then (
        zlt (x2 + 1) fun v102 =>
        some (.inl (r69.2, v102))
      ) else (
        zmr2 3 29 (r69.2 2 5) fun q76 =>
        zelr (q76 + 3) 9 x2 fun q83 =>
        (Reader_leastOf r69.2 x2 x1).bind fun r89 =>
        (Reader_mostOf r69.2 x2 x1).bind fun r95 =>
        (Reader_readNumber r69.2 r89 r95).bind fun r98 =>
        zwr r98.2 q83 8 x1 r98.1 fun σ101 =>
        zlt (x2 + 1) fun v102 =>
        some (.inl (σ101, v102))
      )
    ) else (
      some (.inr (σ, x2))
    )
  )
set_option maxRecDepth 20000 in
theorem t_Reader_readPool_l51 {X : Zx} {Q : State → Prop} {σ : Sg} {x1 : Int32} {x2 : Int32} (ok : Zok X cX5_readPool RX5 rm_Reader_readPool 198 3)  {out : ((Sg × Int32) ⊕ (Sg × Int32))} (hf : Reader_readPool_l51 σ x1 x2 = some out) (hk : zout (fun (s : (Sg × Int32)) => ZAt X Q 0 0 51 s.1 [(0, .ref (X.ad 2)), (1, .int x1), (2, .int s.2)] []) (fun (s : (Sg × Int32)) => ZAt X Q 0 0 108 s.1 [(0, .ref (X.ad 2)), (1, .int x1)] []) out) : ZAt X Q 0 0 51 σ [(0, .ref (X.ad 2)), (1, .int x1), (2, .int x2)] [] := by
  unfold Reader_readPool_l51 at hf
  refine z_iload_n ok dX5_readPool_51 2 rfl ?_
  refine z_bipush (v := 9) ok dX5_readPool_52 (by decide) ?_
  refine z_icmp_ge (tgt := 108) ok dX5_readPool_54 (by decide) hf (fun _ hf => ?_) (fun _ hf => ?_)
  · obtain rfl := Option.some.inj hf
    exact z_sub [0, 1] rfl hk
  · refine z_aload_n ok dX5_readPool_57 0 rfl ?_
    refine z_geti ok kc_2 zc_5 hin_5 6 (by decide) fl_5_35 rfl dX5_readPool_58 hf (fun v58 hf => ?_)
    refine z_if_ne (tgt := 108) ok dX5_readPool_61 (by decide) hf (fun _ hf => ?_) (fun _ hf => ?_)
    · refine z_aload_n ok dX5_readPool_64 0 rfl ?_
      refine z_iload_n ok dX5_readPool_65 2 rfl ?_
      refine z_call hf (fun r66 h66 hf => ?_)
      refine z_cSr (As := [.int x2]) (rest := [.ref (X.ad 2)]) ok (c_Reader_poolWord h66) rfl ⟨ml_5_144, w_Reader_poolWord⟩ hy_Reader_poolWord ⟨rfl, rfl⟩ ⟨Nat.le_of_ble_eq_true rfl, Nat.le_of_ble_eq_true rfl⟩ ⟨Nat.zero_le _, Nat.zero_le _⟩ rfl (Nat.le_of_ble_eq_true rfl) dX5_readPool_66 ?_
      have hr66 : r66 < 21 := Reader_poolWord_lt h66
      refine z_call hf (fun r69 h69 hf => ?_)
      refine z_cV (As := [.ref (X.ad (1000000 + r66))]) (rest := []) (w := 2) ok kc_2 zc_5 (c_Reader_readWord hr66 h69) rfl ⟨ml_5_110, w_Reader_readWord⟩ hy_Reader_readWord ⟨rfl, rfl⟩ ⟨Nat.le_of_ble_eq_true rfl, Nat.le_of_ble_eq_true rfl⟩ ⟨Nat.zero_le _, Nat.zero_le _⟩ rfl (Nat.le_of_ble_eq_true rfl) dX5_readPool_69 ?_
      refine z_if_eq (tgt := 102) ok dX5_readPool_72 (by decide) hf (fun _ hf => ?_) (fun _ hf => ?_)
      · refine z_iinc (w := 1) (lv' := fun v102 => [(2, .int v102), (0, .ref (X.ad 2)), (1, .int x1)]) ok dX5_readPool_102 2 rfl (by decide) (by decide) (fun _ => rfl) hf (fun v102 hf => ?_)
        refine z_goto (tgt := 51) ok dX5_readPool_105 (by decide) ?_
        obtain rfl := Option.some.inj hf
        exact z_sub [1, 2, 0] rfl hk
      · refine z_aload_n ok dX5_readPool_75 0 rfl ?_
        refine z_getm2 (p := 3) (q := 29) ok kc_2 zc_5 hin_5 5 (by decide) fl_5_19 rfl (by decide) (by decide) dX5_readPool_76 hf (fun q76 e76 hf => ?_)
        have hq76 : zI_Works q76 198 := by rcases e76 with rfl | rfl; exact kI_Works_3; exact kI_Works_29
        obtain ⟨hq76_0, hq76_1, hq76_2, hq76_3, hq76_4, hq76_5, hq76_6, hq76_7, hq76_8, hq76_9, hq76_10, hq76_11, hq76_12, hq76_13, hq76_14, hq76_15, hq76_16, hq76_17, hq76_18, hq76_19, hq76_20, hq76_21, hq76_22, hq76_23, hq76_24, hq76_25⟩ := id hq76
        refine z_getr (q := (q76 + 2)) ok hq76_0 zc_10 hin_10 5 (by decide) fl_5_148 rfl dX5_readPool_79 ?_
        refine z_iload_n ok dX5_readPool_82 2 rfl ?_
        refine z_aaldr (p := (q76 + 3)) ok hq76_2 (by decide) rfl dX5_readPool_83 hf (fun q83 e83 hf => ?_)
        have hq83 : zk q83 198 (.inr (0, 8, [])) := (show ∀ q ∈ [(q76 + 3), (q76 + 4), (q76 + 5), (q76 + 6), (q76 + 7), (q76 + 8), (q76 + 9), (q76 + 10), (q76 + 11)], zk q 198 (.inr (0, 8, [])) from (List.forall_mem_cons.mpr ⟨hq76_3, (List.forall_mem_cons.mpr ⟨hq76_4, (List.forall_mem_cons.mpr ⟨hq76_5, (List.forall_mem_cons.mpr ⟨hq76_6, (List.forall_mem_cons.mpr ⟨hq76_7, (List.forall_mem_cons.mpr ⟨hq76_8, (List.forall_mem_cons.mpr ⟨hq76_9, (List.forall_mem_cons.mpr ⟨hq76_10, (List.forall_mem_cons.mpr ⟨hq76_11, (fun _ h => absurd h List.not_mem_nil)⟩)⟩)⟩)⟩)⟩)⟩)⟩)⟩)⟩)) q83 e83
        refine z_iload_n ok dX5_readPool_84 1 rfl ?_
        refine z_aload_n ok dX5_readPool_85 0 rfl ?_
        refine z_aload_n ok dX5_readPool_86 0 rfl ?_
        refine z_iload_n ok dX5_readPool_87 2 rfl ?_
        refine z_iload_n ok dX5_readPool_88 1 rfl ?_
        refine z_call hf (fun r89 h89 hf => ?_)
        refine z_cV (As := [.int x2, .int x1]) (rest := [.ref (X.ad 2), .int x1, .ref (X.ad q83)]) (w := 2) ok kc_2 zc_5 (c_Reader_leastOf h89) rfl ⟨ml_5_152, w_Reader_leastOf⟩ hy_Reader_leastOf ⟨rfl, rfl⟩ ⟨Nat.le_of_ble_eq_true rfl, Nat.le_of_ble_eq_true rfl⟩ ⟨Nat.zero_le _, Nat.zero_le _⟩ rfl (Nat.le_of_ble_eq_true rfl) dX5_readPool_89 ?_
        refine z_aload_n ok dX5_readPool_92 0 rfl ?_
        refine z_iload_n ok dX5_readPool_93 2 rfl ?_
        refine z_iload_n ok dX5_readPool_94 1 rfl ?_
        refine z_call hf (fun r95 h95 hf => ?_)
        refine z_cV (As := [.int x2, .int x1]) (rest := [.int r89, .ref (X.ad 2), .int x1, .ref (X.ad q83)]) (w := 2) ok kc_2 zc_5 (c_Reader_mostOf h95) rfl ⟨ml_5_155, w_Reader_mostOf⟩ hy_Reader_mostOf ⟨rfl, rfl⟩ ⟨Nat.le_of_ble_eq_true rfl, Nat.le_of_ble_eq_true rfl⟩ ⟨Nat.zero_le _, Nat.zero_le _⟩ rfl (Nat.le_of_ble_eq_true rfl) dX5_readPool_95 ?_
        refine z_call hf (fun r98 h98 hf => ?_)
        refine z_cV (As := [.int r89, .int r95]) (rest := [.int x1, .ref (X.ad q83)]) (w := 2) ok kc_2 zc_5 (c_Reader_readNumber h98) rfl ⟨ml_5_115, w_Reader_readNumber⟩ hy_Reader_readNumber ⟨rfl, rfl⟩ ⟨Nat.le_of_ble_eq_true rfl, Nat.le_of_ble_eq_true rfl⟩ ⟨Nat.zero_le _, Nat.zero_le _⟩ rfl (Nat.le_of_ble_eq_true rfl) dX5_readPool_98 ?_
        refine z_iast ok hq83 dX5_readPool_101 hf (fun σ101 hf => ?_)
        refine z_iinc (w := 1) (lv' := fun v102 => [(2, .int v102), (0, .ref (X.ad 2)), (1, .int x1)]) ok dX5_readPool_102 2 rfl (by decide) (by decide) (fun _ => rfl) hf (fun v102 hf => ?_)
        refine z_goto (tgt := 51) ok dX5_readPool_105 (by decide) ?_
        obtain rfl := Option.some.inj hf
        exact z_sub [1, 2, 0] rfl hk
    · obtain rfl := Option.some.inj hf
      exact z_sub [0, 1] rfl hk
def Reader_readPool_j108 (σ : Sg) (x1 : Int32) : Option (Bool × Sg) :=
  zgt σ 2 6 fun v109 =>
  if v109 = 0 then (
    (Reader_readSign σ 59).bind fun r118 =>
    if (zb r118.1) = 0 then (
      some (false, r118.2)
    ) else (
      zmr2 3 29 (r118.2 2 5) fun q127 =>
      zmr2 3 29 (r118.2 2 5) fun q135 =>
      zrd r118.2 (q135 + 4) 8 x1 fun v144 =>
      zmr2 3 29 (r118.2 2 5) fun q146 =>
      zrd r118.2 (q146 + 5) 8 x1 fun v155 =>
      zwr r118.2 (q127 + 12) 8 x1 ((v144 + v155) / 2) fun σ159 =>
      zmr2 3 29 (σ159 2 5) fun q161 =>
      zgt σ159 q161 3 fun v165 =>
      zpt σ159 q161 3 (v165 + 1) fun σ170 =>
      some (true, σ170)
    )
  ) else (
    some (false, σ)
  )
set_option maxRecDepth 20000 in
theorem t_Reader_readPool_j108 {X : Zx} {Q : State → Prop} {σ : Sg} {x1 : Int32} (ok : Zok X cX5_readPool RX5 rm_Reader_readPool 198 3)  {out : (Bool × Sg)} (hf : Reader_readPool_j108 σ x1 = some out) (hk : ZrI cX5_readPool X Q (zb out.1) out.2) : ZAt X Q 0 0 108 σ [(0, .ref (X.ad 2)), (1, .int x1)] [] := by
  unfold Reader_readPool_j108 at hf
  refine z_aload_n ok dX5_readPool_108 0 rfl ?_
  refine z_geti ok kc_2 zc_5 hin_5 6 (by decide) fl_5_35 rfl dX5_readPool_109 hf (fun v109 hf => ?_)
  refine z_if_ne (tgt := 124) ok dX5_readPool_112 (by decide) hf (fun _ hf => ?_) (fun _ hf => ?_)
  · refine z_aload_n ok dX5_readPool_115 0 rfl ?_
    refine z_bipush (v := 59) ok dX5_readPool_116 (by decide) ?_
    refine z_call hf (fun r118 h118 hf => ?_)
    refine z_cV (As := [.int 59]) (rest := []) (w := 2) ok kc_2 zc_5 (c_Reader_readSign h118) rfl ⟨ml_5_121, w_Reader_readSign⟩ hy_Reader_readSign ⟨rfl, rfl⟩ ⟨Nat.le_of_ble_eq_true rfl, Nat.le_of_ble_eq_true rfl⟩ ⟨Nat.zero_le _, Nat.zero_le _⟩ rfl (Nat.le_of_ble_eq_true rfl) dX5_readPool_118 ?_
    refine z_if_ne (tgt := 126) ok dX5_readPool_121 (by decide) hf (fun _ hf => ?_) (fun _ hf => ?_)
    · refine z_iconst (v := 0) ok dX5_readPool_124 (by decide) ?_
      obtain rfl := Option.some.inj hf
      exact hk _ _ dX5_readPool_125
    · refine z_aload_n ok dX5_readPool_126 0 rfl ?_
      refine z_getm2 (p := 3) (q := 29) ok kc_2 zc_5 hin_5 5 (by decide) fl_5_19 rfl (by decide) (by decide) dX5_readPool_127 hf (fun q127 e127 hf => ?_)
      have hq127 : zI_Works q127 198 := by rcases e127 with rfl | rfl; exact kI_Works_3; exact kI_Works_29
      obtain ⟨hq127_0, hq127_1, hq127_2, hq127_3, hq127_4, hq127_5, hq127_6, hq127_7, hq127_8, hq127_9, hq127_10, hq127_11, hq127_12, hq127_13, hq127_14, hq127_15, hq127_16, hq127_17, hq127_18, hq127_19, hq127_20, hq127_21, hq127_22, hq127_23, hq127_24, hq127_25⟩ := id hq127
      refine z_getr (q := (q127 + 12)) ok hq127_0 zc_10 hin_10 6 (by decide) fl_5_158 rfl dX5_readPool_130 ?_
      refine z_iload_n ok dX5_readPool_133 1 rfl ?_
      refine z_aload_n ok dX5_readPool_134 0 rfl ?_
      refine z_getm2 (p := 3) (q := 29) ok kc_2 zc_5 hin_5 5 (by decide) fl_5_19 rfl (by decide) (by decide) dX5_readPool_135 hf (fun q135 e135 hf => ?_)
      have hq135 : zI_Works q135 198 := by rcases e135 with rfl | rfl; exact kI_Works_3; exact kI_Works_29
      obtain ⟨hq135_0, hq135_1, hq135_2, hq135_3, hq135_4, hq135_5, hq135_6, hq135_7, hq135_8, hq135_9, hq135_10, hq135_11, hq135_12, hq135_13, hq135_14, hq135_15, hq135_16, hq135_17, hq135_18, hq135_19, hq135_20, hq135_21, hq135_22, hq135_23, hq135_24, hq135_25⟩ := id hq135
      refine z_getr (q := (q135 + 2)) ok hq135_0 zc_10 hin_10 5 (by decide) fl_5_148 rfl dX5_readPool_138 ?_
      refine z_iconst (v := 1) ok dX5_readPool_141 (by decide) ?_
      refine z_aaldc (q := (q135 + 4)) ok hq135_2 (by decide) rfl (by decide) rfl dX5_readPool_142 ?_
      refine z_iload_n ok dX5_readPool_143 1 rfl ?_
      refine z_iald ok hq135_4 dX5_readPool_144 hf (fun v144 hf => ?_)
      refine z_aload_n ok dX5_readPool_145 0 rfl ?_
      refine z_getm2 (p := 3) (q := 29) ok kc_2 zc_5 hin_5 5 (by decide) fl_5_19 rfl (by decide) (by decide) dX5_readPool_146 hf (fun q146 e146 hf => ?_)
      have hq146 : zI_Works q146 198 := by rcases e146 with rfl | rfl; exact kI_Works_3; exact kI_Works_29
      obtain ⟨hq146_0, hq146_1, hq146_2, hq146_3, hq146_4, hq146_5, hq146_6, hq146_7, hq146_8, hq146_9, hq146_10, hq146_11, hq146_12, hq146_13, hq146_14, hq146_15, hq146_16, hq146_17, hq146_18, hq146_19, hq146_20, hq146_21, hq146_22, hq146_23, hq146_24, hq146_25⟩ := id hq146
      refine z_getr (q := (q146 + 2)) ok hq146_0 zc_10 hin_10 5 (by decide) fl_5_148 rfl dX5_readPool_149 ?_
      refine z_iconst (v := 2) ok dX5_readPool_152 (by decide) ?_
      refine z_aaldc (q := (q146 + 5)) ok hq146_2 (by decide) rfl (by decide) rfl dX5_readPool_153 ?_
      refine z_iload_n ok dX5_readPool_154 1 rfl ?_
      refine z_iald ok hq146_5 dX5_readPool_155 hf (fun v155 hf => ?_)
      refine z_iadd ok dX5_readPool_156 ?_
      refine z_iconst (v := 2) ok dX5_readPool_157 (by decide) ?_
      refine z_idivc ok dX5_readPool_158 (by decide) ?_
      refine z_iast ok hq127_12 dX5_readPool_159 hf (fun σ159 hf => ?_)
      refine z_aload_n ok dX5_readPool_160 0 rfl ?_
      refine z_getm2 (p := 3) (q := 29) ok kc_2 zc_5 hin_5 5 (by decide) fl_5_19 rfl (by decide) (by decide) dX5_readPool_161 hf (fun q161 e161 hf => ?_)
      have hq161 : zI_Works q161 198 := by rcases e161 with rfl | rfl; exact kI_Works_3; exact kI_Works_29
      obtain ⟨hq161_0, hq161_1, hq161_2, hq161_3, hq161_4, hq161_5, hq161_6, hq161_7, hq161_8, hq161_9, hq161_10, hq161_11, hq161_12, hq161_13, hq161_14, hq161_15, hq161_16, hq161_17, hq161_18, hq161_19, hq161_20, hq161_21, hq161_22, hq161_23, hq161_24, hq161_25⟩ := id hq161
      refine z_dup ok dX5_readPool_164 rfl ?_
      refine z_geti ok hq161_0 zc_10 hin_10 3 (by decide) fl_5_69 rfl dX5_readPool_165 hf (fun v165 hf => ?_)
      refine z_iconst (v := 1) ok dX5_readPool_168 (by decide) ?_
      refine z_iadd ok dX5_readPool_169 ?_
      refine z_puti ok hq161_0 zc_10 hin_10 tyX10 tyX10_ok nmX10 3 (by decide) fl_5_69 rfl rfl (tyX10_ok 3 (by decide)) dX5_readPool_170 hf (fun σ170 hf => ?_)
      refine z_iconst (v := 1) ok dX5_readPool_173 (by decide) ?_
      obtain rfl := Option.some.inj hf
      exact hk _ _ dX5_readPool_174
  · refine z_iconst (v := 0) ok dX5_readPool_124 (by decide) ?_
    obtain rfl := Option.some.inj hf
    exact hk _ _ dX5_readPool_125
def Reader_readPool (σ : Sg)  : Option (Bool × Sg) :=
  zmr2 3 29 (σ 2 5) fun q1 =>
  zgt σ q1 3 fun v4 =>
  (Reader_readWord σ 3).bind fun r11 =>
  if (zb r11.1) = 0 then (
    some (false, r11.2)
  ) else (
    zmr2 3 29 (r11.2 2 5) fun q20 =>
    (Reader_readName r11.2).bind fun r28 =>
    zwr r28.2 (q20 + 1) 8 v4 r28.1 fun σ31 =>
    zmr2 3 29 (σ31 2 5) fun q35 =>
    zrd σ31 (q35 + 1) 8 v4 fun v42 =>
    (Reader_isNew σ31 v42).bind fun r43 =>
    (Reader_askName σ31 (zb r43)).bind fun r46 =>
    zlt 0 fun v50 =>
    (zit (fun (s : (Sg × Int32)) => Reader_readPool_l51 s.1 v4 s.2) zFU (r46, v50)).bind fun r =>
    Reader_readPool_j108 r.1 v4
  )
set_option maxRecDepth 20000 in
theorem t_Reader_readPool {X : Zx} {Q : State → Prop} {σ : Sg}  (ok : Zok X cX5_readPool RX5 rm_Reader_readPool 198 3)  {out : (Bool × Sg)} (hf : Reader_readPool σ = some out) (hk : ZrI cX5_readPool X Q (zb out.1) out.2) : ZAt X Q 0 0 0 σ [(0, .ref (X.ad 2))] [] := by
  unfold Reader_readPool at hf
  refine z_aload_n ok dX5_readPool_0 0 rfl ?_
  refine z_getm2 (p := 3) (q := 29) ok kc_2 zc_5 hin_5 5 (by decide) fl_5_19 rfl (by decide) (by decide) dX5_readPool_1 hf (fun q1 e1 hf => ?_)
  have hq1 : zI_Works q1 198 := by rcases e1 with rfl | rfl; exact kI_Works_3; exact kI_Works_29
  obtain ⟨hq1_0, hq1_1, hq1_2, hq1_3, hq1_4, hq1_5, hq1_6, hq1_7, hq1_8, hq1_9, hq1_10, hq1_11, hq1_12, hq1_13, hq1_14, hq1_15, hq1_16, hq1_17, hq1_18, hq1_19, hq1_20, hq1_21, hq1_22, hq1_23, hq1_24, hq1_25⟩ := id hq1
  refine z_geti ok hq1_0 zc_10 hin_10 3 (by decide) fl_5_69 rfl dX5_readPool_4 hf (fun v4 hf => ?_)
  refine z_istore_n (lv' := [(1, .int v4), (0, .ref (X.ad 2))]) ok dX5_readPool_7 (by decide) rfl ?_
  refine z_aload_n ok dX5_readPool_8 1 rfl ?_
  refine z_ldcS ok 3 rfl dX5_readPool_9 ?_
  refine z_call hf (fun r11 h11 hf => ?_)
  refine z_cV (As := [.ref (X.ad (1000000 + 3))]) (rest := []) (w := 2) ok kc_2 zc_5 (c_Reader_readWord (by decide) h11) rfl ⟨ml_5_110, w_Reader_readWord⟩ hy_Reader_readWord ⟨rfl, rfl⟩ ⟨Nat.le_of_ble_eq_true rfl, Nat.le_of_ble_eq_true rfl⟩ ⟨Nat.zero_le _, Nat.zero_le _⟩ rfl (Nat.le_of_ble_eq_true rfl) dX5_readPool_11 ?_
  refine z_if_ne (tgt := 19) ok dX5_readPool_14 (by decide) hf (fun _ hf => ?_) (fun _ hf => ?_)
  · refine z_iconst (v := 0) ok dX5_readPool_17 (by decide) ?_
    obtain rfl := Option.some.inj hf
    exact hk _ _ dX5_readPool_18
  · refine z_aload_n ok dX5_readPool_19 1 rfl ?_
    refine z_getm2 (p := 3) (q := 29) ok kc_2 zc_5 hin_5 5 (by decide) fl_5_19 rfl (by decide) (by decide) dX5_readPool_20 hf (fun q20 e20 hf => ?_)
    have hq20 : zI_Works q20 198 := by rcases e20 with rfl | rfl; exact kI_Works_3; exact kI_Works_29
    obtain ⟨hq20_0, hq20_1, hq20_2, hq20_3, hq20_4, hq20_5, hq20_6, hq20_7, hq20_8, hq20_9, hq20_10, hq20_11, hq20_12, hq20_13, hq20_14, hq20_15, hq20_16, hq20_17, hq20_18, hq20_19, hq20_20, hq20_21, hq20_22, hq20_23, hq20_24, hq20_25⟩ := id hq20
    refine z_getr (q := (q20 + 1)) ok hq20_0 zc_10 hin_10 4 (by decide) fl_5_128 rfl dX5_readPool_23 ?_
    refine z_iload_n ok dX5_readPool_26 0 rfl ?_
    refine z_aload_n ok dX5_readPool_27 1 rfl ?_
    refine z_call hf (fun r28 h28 hf => ?_)
    refine z_cV (As := []) (rest := [.int v4, .ref (X.ad (q20 + 1))]) (w := 2) ok kc_2 zc_5 (c_Reader_readName h28) rfl ⟨ml_5_132, w_Reader_readName⟩ hy_Reader_readName ⟨rfl, rfl⟩ ⟨Nat.le_of_ble_eq_true rfl, Nat.le_of_ble_eq_true rfl⟩ ⟨Nat.zero_le _, Nat.zero_le _⟩ rfl (Nat.le_of_ble_eq_true rfl) dX5_readPool_28 ?_
    refine z_iast ok hq20_1 dX5_readPool_31 hf (fun σ31 hf => ?_)
    refine z_aload_n ok dX5_readPool_32 1 rfl ?_
    refine z_aload_n ok dX5_readPool_33 1 rfl ?_
    refine z_aload_n ok dX5_readPool_34 1 rfl ?_
    refine z_getm2 (p := 3) (q := 29) ok kc_2 zc_5 hin_5 5 (by decide) fl_5_19 rfl (by decide) (by decide) dX5_readPool_35 hf (fun q35 e35 hf => ?_)
    have hq35 : zI_Works q35 198 := by rcases e35 with rfl | rfl; exact kI_Works_3; exact kI_Works_29
    obtain ⟨hq35_0, hq35_1, hq35_2, hq35_3, hq35_4, hq35_5, hq35_6, hq35_7, hq35_8, hq35_9, hq35_10, hq35_11, hq35_12, hq35_13, hq35_14, hq35_15, hq35_16, hq35_17, hq35_18, hq35_19, hq35_20, hq35_21, hq35_22, hq35_23, hq35_24, hq35_25⟩ := id hq35
    refine z_getr (q := (q35 + 1)) ok hq35_0 zc_10 hin_10 4 (by decide) fl_5_128 rfl dX5_readPool_38 ?_
    refine z_iload_n ok dX5_readPool_41 0 rfl ?_
    refine z_iald ok hq35_1 dX5_readPool_42 hf (fun v42 hf => ?_)
    refine z_call hf (fun r43 h43 hf => ?_)
    refine z_cV (As := [.int v42]) (rest := [.ref (X.ad 2)]) (w := 2) ok kc_2 zc_5 (c_Reader_isNew h43) rfl ⟨ml_5_136, w_Reader_isNew⟩ hy_Reader_isNew ⟨rfl, rfl⟩ ⟨Nat.le_of_ble_eq_true rfl, Nat.le_of_ble_eq_true rfl⟩ ⟨Nat.zero_le _, Nat.zero_le _⟩ rfl (Nat.le_of_ble_eq_true rfl) dX5_readPool_43 ?_
    refine z_call hf (fun r46 h46 hf => ?_)
    refine z_cVv (As := [.int (zb r43)]) (rest := []) (w := 2) ok kc_2 zc_5 (c_Reader_askName h46) rfl ⟨ml_5_140, w_Reader_askName⟩ hy_Reader_askName ⟨rfl, rfl⟩ ⟨Nat.le_of_ble_eq_true rfl, Nat.le_of_ble_eq_true rfl⟩ ⟨Nat.zero_le _, Nat.zero_le _⟩ rfl (Nat.le_of_ble_eq_true rfl) dX5_readPool_46 ?_
    refine z_iconst (v := 0) ok dX5_readPool_49 (by decide) ?_
    refine z_nm hf (fun v50 hf => ?_)
    refine z_istore_n (lv' := [(2, .int v50), (1, .int v4), (0, .ref (X.ad 2))]) ok dX5_readPool_50 (by decide) rfl ?_
    refine z_call hf (fun r hr hf => ?_)
    refine z_sub [2, 1, 0] rfl (z_iter (fun (s : (Sg × Int32)) => s.1) (fun (s : (Sg × Int32)) => [(0, .ref (X.ad 2)), (1, .int v4), (2, .int s.2)]) (fun s o h1 h2 => t_Reader_readPool_l51 ok h1 h2) _ _ _ hr ?_)
    show ZAt X Q 0 0 108 r.1 [(0, .ref (X.ad 2)), (1, .int v4)] []
    exact z_sub [0, 1] rfl (t_Reader_readPool_j108 ok hf hk)
theorem c_Reader_readPool {σ : Sg} {r : (Bool × Sg)} (h : Reader_readPool σ = some r) : ZcI yX5_readPool cX5_readPool 3 .boolean rm_Reader_readPool 198 (fun ad => [.ref (ad 2)]) σ (zb r.1) r.2 :=
  zmetI pn_5 rfl (fun _ => rfl) (fun _ => Nat.le_of_ble_eq_true rfl) (zb_nar _) (fun X Q ok hk => t_Reader_readPool ok h hk)
