theorem kI_Moment_55 : zI_Moment 55 198 := ⟨kc_55, kc_56, kc_57, kc_58, kc_59, kc_60, kc_61, kc_62, kc_63, kc_64, kc_65, kc_66, kc_67, kc_68, kc_69, kc_70, kc_71, kc_72, kc_73, kc_74, kc_75, kc_76, kc_77, kc_78, kc_79⟩
theorem fl_1_10 : Cond.fieldLink RX1 10 (TX1 0).1 (TX1 0).2.1 (TX1 0).2.2.1 ∈ zT := zT_of (i := 461) (by decide +kernel) rfl
theorem fl_1_19 : Cond.fieldLink RX1 19 (TX1 1).1 (TX1 1).2.1 (TX1 1).2.2.1 ∈ zT := zT_of (i := 464) (by decide +kernel) rfl
theorem fl_1_26 : Cond.fieldLink RX1 26 (TX1 2).1 (TX1 2).2.1 (TX1 2).2.2.1 ∈ zT := zT_of (i := 467) (by decide +kernel) rfl
theorem fl_1_44 : Cond.fieldLink RX1 44 (TX10 11).1 (TX10 11).2.1 (TX10 11).2.2.1 ∈ zT := zT_of (i := 293) (by decide +kernel) rfl
theorem fl_1_47 : Cond.fieldLink RX1 47 (TX0 0).1 (TX0 0).2.1 (TX0 0).2.2.1 ∈ zT := zT_of (i := 451) (by decide +kernel) rfl
theorem fl_11_102 : Cond.fieldLink RX11 102 (TX7 0).1 (TX7 0).2.1 (TX7 0).2.2.1 ∈ zT := zT_of (i := 550) (by decide +kernel) rfl
theorem fl_11_105 : Cond.fieldLink RX11 105 (TX11 11).1 (TX11 11).2.1 (TX11 11).2.2.1 ∈ zT := zT_of (i := 585) (by decide +kernel) rfl
theorem fl_11_108 : Cond.fieldLink RX11 108 (TX10 0).1 (TX10 0).2.1 (TX10 0).2.2.1 ∈ zT := zT_of (i := 247) (by decide +kernel) rfl
theorem fl_11_16 : Cond.fieldLink RX11 16 (TX11 2).1 (TX11 2).2.1 (TX11 2).2.2.1 ∈ zT := zT_of (i := 576) (by decide +kernel) rfl
theorem fl_11_23 : Cond.fieldLink RX11 23 (TX11 3).1 (TX11 3).2.1 (TX11 3).2.2.1 ∈ zT := zT_of (i := 577) (by decide +kernel) rfl
theorem fl_11_27 : Cond.fieldLink RX11 27 (TX11 4).1 (TX11 4).2.1 (TX11 4).2.2.1 ∈ zT := zT_of (i := 578) (by decide +kernel) rfl
theorem fl_11_30 : Cond.fieldLink RX11 30 (TX11 7).1 (TX11 7).2.1 (TX11 7).2.2.1 ∈ zT := zT_of (i := 581) (by decide +kernel) rfl
theorem fl_11_37 : Cond.fieldLink RX11 37 (TX11 8).1 (TX11 8).2.1 (TX11 8).2.2.1 ∈ zT := zT_of (i := 582) (by decide +kernel) rfl
theorem fl_11_55 : Cond.fieldLink RX11 55 (TX11 13).1 (TX11 13).2.1 (TX11 13).2.2.1 ∈ zT := zT_of (i := 587) (by decide +kernel) rfl
theorem fl_11_85 : Cond.fieldLink RX11 85 (TX5 6).1 (TX5 6).2.1 (TX5 6).2.2.1 ∈ zT := zT_of (i := 164) (by decide +kernel) rfl
theorem fl_11_88 : Cond.fieldLink RX11 88 (TX11 6).1 (TX11 6).2.1 (TX11 6).2.2.1 ∈ zT := zT_of (i := 580) (by decide +kernel) rfl
theorem fl_11_91 : Cond.fieldLink RX11 91 (TX5 7).1 (TX5 7).2.1 (TX5 7).2.2.1 ∈ zT := zT_of (i := 166) (by decide +kernel) rfl
theorem fl_11_94 : Cond.fieldLink RX11 94 (TX11 5).1 (TX11 5).2.1 (TX11 5).2.2.1 ∈ zT := zT_of (i := 579) (by decide +kernel) rfl
theorem fl_3_15 : Cond.fieldLink RX3 15 (TX3 2).1 (TX3 2).2.1 (TX3 2).2.2.1 ∈ zT := zT_of (i := 205) (by decide +kernel) rfl
theorem fl_3_18 : Cond.fieldLink RX3 18 (TX3 3).1 (TX3 3).2.1 (TX3 3).2.2.1 ∈ zT := zT_of (i := 208) (by decide +kernel) rfl
theorem fl_3_21 : Cond.fieldLink RX3 21 (TX3 0).1 (TX3 0).2.1 (TX3 0).2.2.1 ∈ zT := zT_of (i := 199) (by decide +kernel) rfl
theorem fl_3_9 : Cond.fieldLink RX3 9 (TX3 1).1 (TX3 1).2.1 (TX3 1).2.2.1 ∈ zT := zT_of (i := 203) (by decide +kernel) rfl
theorem fl_5_102 : Cond.fieldLink RX5 102 (TX8 0).1 (TX8 0).2.1 (TX8 0).2.2.1 ∈ zT := zT_of (i := 229) (by decide +kernel) rfl
theorem fl_5_185 : Cond.fieldLink RX5 185 (TX10 8).1 (TX10 8).2.1 (TX10 8).2.2.1 ∈ zT := zT_of (i := 281) (by decide +kernel) rfl
theorem fl_5_189 : Cond.fieldLink RX5 189 (TX10 9).1 (TX10 9).2.1 (TX10 9).2.2.1 ∈ zT := zT_of (i := 284) (by decide +kernel) rfl
theorem fl_5_198 : Cond.fieldLink RX5 198 (TX10 10).1 (TX10 10).2.1 (TX10 10).2.2.1 ∈ zT := zT_of (i := 289) (by decide +kernel) rfl
theorem fl_5_211 : Cond.fieldLink RX5 211 (TX8 2).1 (TX8 2).2.1 (TX8 2).2.2.1 ∈ zT := zT_of (i := 233) (by decide +kernel) rfl
theorem fl_5_214 : Cond.fieldLink RX5 214 (TX8 1).1 (TX8 1).2.1 (TX8 1).2.2.1 ∈ zT := zT_of (i := 231) (by decide +kernel) rfl
theorem fl_5_228 : Cond.fieldLink RX5 228 (TX8 3).1 (TX8 3).2.1 (TX8 3).2.2.1 ∈ zT := zT_of (i := 235) (by decide +kernel) rfl
theorem fl_5_48 : Cond.fieldLink RX5 48 (TX10 0).1 (TX10 0).2.1 (TX10 0).2.2.1 ∈ zT := zT_of (i := 246) (by decide +kernel) rfl
theorem fl_5_77 : Cond.fieldLink RX5 77 (TX10 7).1 (TX10 7).2.1 (TX10 7).2.2.1 ∈ zT := zT_of (i := 276) (by decide +kernel) rfl
theorem fl_5_85 : Cond.fieldLink RX5 85 (TX10 11).1 (TX10 11).2.1 (TX10 11).2.2.1 ∈ zT := zT_of (i := 294) (by decide +kernel) rfl
theorem fl_5_89 : Cond.fieldLink RX5 89 (TX3 0).1 (TX3 0).2.1 (TX3 0).2.2.1 ∈ zT := zT_of (i := 201) (by decide +kernel) rfl
theorem fl_5_99 : Cond.fieldLink RX5 99 (TX10 12).1 (TX10 12).2.1 (TX10 12).2.2.1 ∈ zT := zT_of (i := 296) (by decide +kernel) rfl
theorem fl_8_15 : Cond.fieldLink RX8 15 (TX8 2).1 (TX8 2).2.1 (TX8 2).2.2.1 ∈ zT := zT_of (i := 232) (by decide +kernel) rfl
theorem fl_8_20 : Cond.fieldLink RX8 20 (TX8 3).1 (TX8 3).2.1 (TX8 3).2.2.1 ∈ zT := zT_of (i := 234) (by decide +kernel) rfl
theorem fl_9_15 : Cond.fieldLink RX9 15 (TX9 4).1 (TX9 4).2.1 (TX9 4).2.2.1 ∈ zT := zT_of (i := 395) (by decide +kernel) rfl
theorem fl_9_18 : Cond.fieldLink RX9 18 (TX9 5).1 (TX9 5).2.1 (TX9 5).2.2.1 ∈ zT := zT_of (i := 399) (by decide +kernel) rfl
theorem fl_9_21 : Cond.fieldLink RX9 21 (TX9 6).1 (TX9 6).2.1 (TX9 6).2.2.1 ∈ zT := zT_of (i := 403) (by decide +kernel) rfl
theorem fl_9_24 : Cond.fieldLink RX9 24 (TX9 7).1 (TX9 7).2.1 (TX9 7).2.2.1 ∈ zT := zT_of (i := 406) (by decide +kernel) rfl
theorem fl_9_27 : Cond.fieldLink RX9 27 (TX9 8).1 (TX9 8).2.1 (TX9 8).2.2.1 ∈ zT := zT_of (i := 407) (by decide +kernel) rfl
theorem fl_9_30 : Cond.fieldLink RX9 30 (TX9 9).1 (TX9 9).2.1 (TX9 9).2.2.1 ∈ zT := zT_of (i := 409) (by decide +kernel) rfl
theorem fl_9_33 : Cond.fieldLink RX9 33 (TX9 10).1 (TX9 10).2.1 (TX9 10).2.2.1 ∈ zT := zT_of (i := 411) (by decide +kernel) rfl
theorem fl_9_43 : Cond.fieldLink RX9 43 (TX9 0).1 (TX9 0).2.1 (TX9 0).2.2.1 ∈ zT := zT_of (i := 380) (by decide +kernel) rfl
theorem fl_9_47 : Cond.fieldLink RX9 47 (TX9 1).1 (TX9 1).2.1 (TX9 1).2.2.1 ∈ zT := zT_of (i := 384) (by decide +kernel) rfl
theorem fl_9_50 : Cond.fieldLink RX9 50 (TX9 2).1 (TX9 2).2.1 (TX9 2).2.2.1 ∈ zT := zT_of (i := 387) (by decide +kernel) rfl
theorem fl_9_59 : Cond.fieldLink RX9 59 (TX10 1).1 (TX10 1).2.1 (TX10 1).2.2.1 ∈ zT := zT_of (i := 249) (by decide +kernel) rfl
theorem fl_9_62 : Cond.fieldLink RX9 62 (TX10 2).1 (TX10 2).2.1 (TX10 2).2.2.1 ∈ zT := zT_of (i := 252) (by decide +kernel) rfl
theorem fl_9_63 : Cond.fieldLink RX9 63 (TX10 5).1 (TX10 5).2.1 (TX10 5).2.2.1 ∈ zT := zT_of (i := 265) (by decide +kernel) rfl
theorem fl_9_9 : Cond.fieldLink RX9 9 (TX9 3).1 (TX9 3).2.1 (TX9 3).2.2.1 ∈ zT := zT_of (i := 390) (by decide +kernel) rfl
theorem ml_1_34 : Cond.methodLink RX1 34 yX3_copyFrom ∈ zT := zT_of (i := 861) (by decide +kernel) rfl
theorem ml_1_40 : Cond.methodLink RX1 40 yX9_beginWith ∈ zT := zT_of (i := 851) (by decide +kernel) rfl
theorem ml_11_81 : Cond.methodLink RX11 81 yX5_readText ∈ zT := zT_of (i := 647) (by decide +kernel) rfl
theorem ml_11_98 : Cond.methodLink RX11 98 yX1_beginWith ∈ zT := zT_of (i := 847) (by decide +kernel) rfl
theorem ml_3_25 : Cond.methodLink RX3 25 arraycopyName ∈ zT := zT_of (i := 865) (by decide +kernel) rfl
theorem ml_5_105 : Cond.methodLink RX5 105 yX5_readTurns ∈ zT := zT_of (i := 831) (by decide +kernel) rfl
theorem ml_5_207 : Cond.methodLink RX5 207 yX3_add ∈ zT := zT_of (i := 826) (by decide +kernel) rfl
theorem ml_5_217 : Cond.methodLink RX5 217 yX5_readTurnName ∈ zT := zT_of (i := 835) (by decide +kernel) rfl
theorem ml_5_223 : Cond.methodLink RX5 223 yX5_failBehindLastTurn ∈ zT := zT_of (i := 843) (by decide +kernel) rfl
theorem ml_5_226 : Cond.methodLink RX5 226 yX8_holds ∈ zT := zT_of (i := 839) (by decide +kernel) rfl
theorem ml_5_23 : Cond.methodLink RX5 23 yX10_clear ∈ zT := zT_of (i := 651) (by decide +kernel) rfl
theorem ml_5_44 : Cond.methodLink RX5 44 yX5_readStatement ∈ zT := zT_of (i := 659) (by decide +kernel) rfl
theorem ml_5_55 : Cond.methodLink RX5 55 yX5_readCanal ∈ zT := zT_of (i := 663) (by decide +kernel) rfl
theorem ml_5_64 : Cond.methodLink RX5 64 yX5_readKeep ∈ zT := zT_of (i := 752) (by decide +kernel) rfl
theorem ml_5_72 : Cond.methodLink RX5 72 yX5_readPool ∈ zT := zT_of (i := 757) (by decide +kernel) rfl
theorem ml_5_80 : Cond.methodLink RX5 80 yX5_readOutlet ∈ zT := zT_of (i := 813) (by decide +kernel) rfl
theorem ml_5_94 : Cond.methodLink RX5 94 yX5_readOrder ∈ zT := zT_of (i := 820) (by decide +kernel) rfl
theorem ml_9_53 : Cond.methodLink RX9 53 arraycopyName ∈ zT := zT_of (i := 855) (by decide +kernel) rfl
theorem ml_9_67 : Cond.methodLink RX9 67 yJ7_fill_53178 ∈ zT := zT_of (i := 858) (by decide +kernel) rfl
theorem zI_Moment_1 {w N : Nat} (h : zI_Moment w N) : zI_Water (w + 1) N := by
  obtain ⟨h0, h1, h2, h3, h4, h5, h6, h7, h8, h9, h10, h11, h12, h13, h14, h15, h16, h17, h18, h19, h20, h21, h22, h23, h24⟩ := h
  exact ⟨h1, h2, h3, h4, h5, h6, h7, h8, h9, h10, h11, h12, h13, h14, h15, h16, h17⟩
theorem zI_Moment_18 {w N : Nat} (h : zI_Moment w N) : zI_Orders (w + 18) N := by
  obtain ⟨h0, h1, h2, h3, h4, h5, h6, h7, h8, h9, h10, h11, h12, h13, h14, h15, h16, h17, h18, h19, h20, h21, h22, h23, h24⟩ := h
  exact ⟨h18, h19, h20, h21⟩
theorem zI_Works_16 {w N : Nat} (h : zI_Works w N) : zI_Orders (w + 16) N := by
  obtain ⟨h0, h1, h2, h3, h4, h5, h6, h7, h8, h9, h10, h11, h12, h13, h14, h15, h16, h17, h18, h19, h20, h21, h22, h23, h24, h25⟩ := h
  exact ⟨h16, h17, h18, h19⟩
theorem zI_Works_20 {w N : Nat} (h : zI_Works w N) : zI_Turns (w + 20) N := by
  obtain ⟨h0, h1, h2, h3, h4, h5, h6, h7, h8, h9, h10, h11, h12, h13, h14, h15, h16, h17, h18, h19, h20, h21, h22, h23, h24, h25⟩ := h
  exact ⟨h20, h21, h22, h23, h24, h25⟩
theorem w_Moment_beginWith : Cond.instanceMethod yX1_beginWith ∈ zT ∧ Cond.selects yX1_beginWith.cls yX1_beginWith yX1_beginWith ∈ zT ∧ Cond.initialized yX1_beginWith.cls ∈ zT ∧ Cond.code yX1_beginWith cX1_beginWith 2 none ∈ zT := ⟨zT_of (i := 848) (by decide +kernel) rfl, zT_of (i := 849) (by decide +kernel) rfl, zT_of (i := 128) (by decide +kernel) rfl, zT_of (i := 850) (by decide +kernel) rfl⟩
theorem hy_Moment_beginWith : yX1_beginWith.cls ≠ "java/lang/invoke/MethodHandle" ∧ yX1_beginWith.cls ≠ "java/lang/invoke/VarHandle" ∧ (parseMethodDescriptor yX1_beginWith.desc).map (fun d => d.parameters.length) = some 1 := by decide +kernel
theorem w_Orders_add : Cond.instanceMethod yX3_add ∈ zT ∧ Cond.selects yX3_add.cls yX3_add yX3_add ∈ zT ∧ Cond.initialized yX3_add.cls ∈ zT ∧ Cond.code yX3_add cX3_add 4 (some .int) ∈ zT := ⟨zT_of (i := 827) (by decide +kernel) rfl, zT_of (i := 828) (by decide +kernel) rfl, zT_of (i := 126) (by decide +kernel) rfl, zT_of (i := 829) (by decide +kernel) rfl⟩
theorem hy_Orders_add : yX3_add.cls ≠ "java/lang/invoke/MethodHandle" ∧ yX3_add.cls ≠ "java/lang/invoke/VarHandle" ∧ (parseMethodDescriptor yX3_add.desc).map (fun d => d.parameters.length) = some 3 := by decide +kernel
theorem w_Orders_copyFrom : Cond.instanceMethod yX3_copyFrom ∈ zT ∧ Cond.selects yX3_copyFrom.cls yX3_copyFrom yX3_copyFrom ∈ zT ∧ Cond.initialized yX3_copyFrom.cls ∈ zT ∧ Cond.code yX3_copyFrom cX3_copyFrom 2 none ∈ zT := ⟨zT_of (i := 862) (by decide +kernel) rfl, zT_of (i := 863) (by decide +kernel) rfl, zT_of (i := 126) (by decide +kernel) rfl, zT_of (i := 864) (by decide +kernel) rfl⟩
theorem hy_Orders_copyFrom : yX3_copyFrom.cls ≠ "java/lang/invoke/MethodHandle" ∧ yX3_copyFrom.cls ≠ "java/lang/invoke/VarHandle" ∧ (parseMethodDescriptor yX3_copyFrom.desc).map (fun d => d.parameters.length) = some 1 := by decide +kernel
theorem w_Reader_failBehindLastTurn : Cond.instanceMethod yX5_failBehindLastTurn ∈ zT ∧ Cond.selects yX5_failBehindLastTurn.cls yX5_failBehindLastTurn yX5_failBehindLastTurn ∈ zT ∧ Cond.initialized yX5_failBehindLastTurn.cls ∈ zT ∧ Cond.code yX5_failBehindLastTurn cX5_failBehindLastTurn 1 (some .boolean) ∈ zT := ⟨zT_of (i := 845) (by decide +kernel) rfl, zT_of (i := 24) (by decide +kernel) rfl, zT_of (i := 124) (by decide +kernel) rfl, zT_of (i := 846) (by decide +kernel) rfl⟩
theorem hy_Reader_failBehindLastTurn : yX5_failBehindLastTurn.cls ≠ "java/lang/invoke/MethodHandle" ∧ yX5_failBehindLastTurn.cls ≠ "java/lang/invoke/VarHandle" ∧ (parseMethodDescriptor yX5_failBehindLastTurn.desc).map (fun d => d.parameters.length) = some 0 := by decide +kernel
theorem w_Reader_readOrder : Cond.instanceMethod yX5_readOrder ∈ zT ∧ Cond.selects yX5_readOrder.cls yX5_readOrder yX5_readOrder ∈ zT ∧ Cond.initialized yX5_readOrder.cls ∈ zT ∧ Cond.code yX5_readOrder cX5_readOrder 4 (some .boolean) ∈ zT := ⟨zT_of (i := 822) (by decide +kernel) rfl, zT_of (i := 21) (by decide +kernel) rfl, zT_of (i := 124) (by decide +kernel) rfl, zT_of (i := 823) (by decide +kernel) rfl⟩
theorem hy_Reader_readOrder : yX5_readOrder.cls ≠ "java/lang/invoke/MethodHandle" ∧ yX5_readOrder.cls ≠ "java/lang/invoke/VarHandle" ∧ (parseMethodDescriptor yX5_readOrder.desc).map (fun d => d.parameters.length) = some 0 := by decide +kernel
theorem w_Reader_readOutlet : Cond.instanceMethod yX5_readOutlet ∈ zT ∧ Cond.selects yX5_readOutlet.cls yX5_readOutlet yX5_readOutlet ∈ zT ∧ Cond.initialized yX5_readOutlet.cls ∈ zT ∧ Cond.code yX5_readOutlet cX5_readOutlet 2 (some .boolean) ∈ zT := ⟨zT_of (i := 815) (by decide +kernel) rfl, zT_of (i := 20) (by decide +kernel) rfl, zT_of (i := 124) (by decide +kernel) rfl, zT_of (i := 816) (by decide +kernel) rfl⟩
theorem hy_Reader_readOutlet : yX5_readOutlet.cls ≠ "java/lang/invoke/MethodHandle" ∧ yX5_readOutlet.cls ≠ "java/lang/invoke/VarHandle" ∧ (parseMethodDescriptor yX5_readOutlet.desc).map (fun d => d.parameters.length) = some 0 := by decide +kernel
theorem w_Reader_readStatement : Cond.instanceMethod yX5_readStatement ∈ zT ∧ Cond.selects yX5_readStatement.cls yX5_readStatement yX5_readStatement ∈ zT ∧ Cond.initialized yX5_readStatement.cls ∈ zT ∧ Cond.code yX5_readStatement cX5_readStatement 1 (some .boolean) ∈ zT := ⟨zT_of (i := 661) (by decide +kernel) rfl, zT_of (i := 4) (by decide +kernel) rfl, zT_of (i := 124) (by decide +kernel) rfl, zT_of (i := 662) (by decide +kernel) rfl⟩
theorem hy_Reader_readStatement : yX5_readStatement.cls ≠ "java/lang/invoke/MethodHandle" ∧ yX5_readStatement.cls ≠ "java/lang/invoke/VarHandle" ∧ (parseMethodDescriptor yX5_readStatement.desc).map (fun d => d.parameters.length) = some 0 := by decide +kernel
theorem w_Reader_readText : Cond.instanceMethod yX5_readText ∈ zT ∧ Cond.selects yX5_readText.cls yX5_readText yX5_readText ∈ zT ∧ Cond.initialized yX5_readText.cls ∈ zT ∧ Cond.code yX5_readText cX5_readText 5 (some .boolean) ∈ zT := ⟨zT_of (i := 648) (by decide +kernel) rfl, zT_of (i := 649) (by decide +kernel) rfl, zT_of (i := 124) (by decide +kernel) rfl, zT_of (i := 650) (by decide +kernel) rfl⟩
theorem hy_Reader_readText : yX5_readText.cls ≠ "java/lang/invoke/MethodHandle" ∧ yX5_readText.cls ≠ "java/lang/invoke/VarHandle" ∧ (parseMethodDescriptor yX5_readText.desc).map (fun d => d.parameters.length) = some 3 := by decide +kernel
theorem w_Reader_readTurnName : Cond.instanceMethod yX5_readTurnName ∈ zT ∧ Cond.selects yX5_readTurnName.cls yX5_readTurnName yX5_readTurnName ∈ zT ∧ Cond.initialized yX5_readTurnName.cls ∈ zT ∧ Cond.code yX5_readTurnName cX5_readTurnName 4 (some .boolean) ∈ zT := ⟨zT_of (i := 837) (by decide +kernel) rfl, zT_of (i := 23) (by decide +kernel) rfl, zT_of (i := 124) (by decide +kernel) rfl, zT_of (i := 838) (by decide +kernel) rfl⟩
theorem hy_Reader_readTurnName : yX5_readTurnName.cls ≠ "java/lang/invoke/MethodHandle" ∧ yX5_readTurnName.cls ≠ "java/lang/invoke/VarHandle" ∧ (parseMethodDescriptor yX5_readTurnName.desc).map (fun d => d.parameters.length) = some 1 := by decide +kernel
theorem w_Reader_readTurns : Cond.instanceMethod yX5_readTurns ∈ zT ∧ Cond.selects yX5_readTurns.cls yX5_readTurns yX5_readTurns ∈ zT ∧ Cond.initialized yX5_readTurns.cls ∈ zT ∧ Cond.code yX5_readTurns cX5_readTurns 4 (some .boolean) ∈ zT := ⟨zT_of (i := 833) (by decide +kernel) rfl, zT_of (i := 22) (by decide +kernel) rfl, zT_of (i := 124) (by decide +kernel) rfl, zT_of (i := 834) (by decide +kernel) rfl⟩
theorem hy_Reader_readTurns : yX5_readTurns.cls ≠ "java/lang/invoke/MethodHandle" ∧ yX5_readTurns.cls ≠ "java/lang/invoke/VarHandle" ∧ (parseMethodDescriptor yX5_readTurns.desc).map (fun d => d.parameters.length) = some 0 := by decide +kernel
theorem w_Turns_holds : Cond.instanceMethod yX8_holds ∈ zT ∧ Cond.selects yX8_holds.cls yX8_holds yX8_holds ∈ zT ∧ Cond.initialized yX8_holds.cls ∈ zT ∧ Cond.code yX8_holds cX8_holds 4 (some .boolean) ∈ zT := ⟨zT_of (i := 840) (by decide +kernel) rfl, zT_of (i := 841) (by decide +kernel) rfl, zT_of (i := 127) (by decide +kernel) rfl, zT_of (i := 842) (by decide +kernel) rfl⟩
theorem hy_Turns_holds : yX8_holds.cls ≠ "java/lang/invoke/MethodHandle" ∧ yX8_holds.cls ≠ "java/lang/invoke/VarHandle" ∧ (parseMethodDescriptor yX8_holds.desc).map (fun d => d.parameters.length) = some 2 := by decide +kernel
theorem w_Water_beginWith : Cond.instanceMethod yX9_beginWith ∈ zT ∧ Cond.selects yX9_beginWith.cls yX9_beginWith yX9_beginWith ∈ zT ∧ Cond.initialized yX9_beginWith.cls ∈ zT ∧ Cond.code yX9_beginWith cX9_beginWith 2 none ∈ zT := ⟨zT_of (i := 852) (by decide +kernel) rfl, zT_of (i := 853) (by decide +kernel) rfl, zT_of (i := 129) (by decide +kernel) rfl, zT_of (i := 854) (by decide +kernel) rfl⟩
theorem hy_Water_beginWith : yX9_beginWith.cls ≠ "java/lang/invoke/MethodHandle" ∧ yX9_beginWith.cls ≠ "java/lang/invoke/VarHandle" ∧ (parseMethodDescriptor yX9_beginWith.desc).map (fun d => d.parameters.length) = some 1 := by decide +kernel
theorem w_CK_canal : Cond.instanceMethod yX11_canal ∈ zT ∧ Cond.selects yX11_canal.cls yX11_canal yX11_canal ∈ zT ∧ Cond.initialized yX11_canal.cls ∈ zT ∧ Cond.code yX11_canal cX11_canal 3 (some .int) ∈ zT := ⟨zT_of (i := 644) (by decide +kernel) rfl, zT_of (i := 645) (by decide +kernel) rfl, zT_of (i := 123) (by decide +kernel) rfl, zT_of (i := 646) (by decide +kernel) rfl⟩
theorem hy_CK_canal : yX11_canal.cls ≠ "java/lang/invoke/MethodHandle" ∧ yX11_canal.cls ≠ "java/lang/invoke/VarHandle" ∧ (parseMethodDescriptor yX11_canal.desc).map (fun d => d.parameters.length) = some 0 := by decide +kernel
theorem w_J_fill : Cond.static yJ7_fill_53178 ∈ zT ∧ Cond.initialized yJ7_fill_53178.cls ∈ zT ∧ Cond.code yJ7_fill_53178 cJ7_fill_53178 4 none ∈ zT := ⟨zT_of (i := 859) (by decide +kernel) rfl, zT_of (i := 141) (by decide +kernel) rfl, zT_of (i := 860) (by decide +kernel) rfl⟩
theorem hy_J_fill : yJ7_fill_53178.cls ≠ "java/lang/invoke/MethodHandle" ∧ yJ7_fill_53178.cls ≠ "java/lang/invoke/VarHandle" ∧ (parseMethodDescriptor yJ7_fill_53178.desc).map (fun d => d.parameters.length) = some 2 := by decide +kernel
theorem dX5_readOutlet_0 : decode cX5_readOutlet 0 = .ok (.aload_n 0, 1) := by decide +kernel
theorem dX5_readOutlet_1 : decode cX5_readOutlet 1 = .ok (.getfield 19, 3) := by decide +kernel
theorem dX5_readOutlet_4 : decode cX5_readOutlet 4 = .ok (.getfield 77, 3) := by decide +kernel
theorem dX5_readOutlet_7 : decode cX5_readOutlet 7 = .ok (.istore_n 1, 1) := by decide +kernel
theorem dX5_readOutlet_8 : decode cX5_readOutlet 8 = .ok (.aload_n 0, 1) := by decide +kernel
theorem dX5_readOutlet_9 : decode cX5_readOutlet 9 = .ok (.ldc 75, 2) := by decide +kernel
theorem dX5_readOutlet_11 : decode cX5_readOutlet 11 = .ok (.invokevirtual 110, 3) := by decide +kernel
theorem dX5_readOutlet_14 : decode cX5_readOutlet 14 = .ok (.ifCond .ne 5, 3) := by decide +kernel
theorem dX5_readOutlet_17 : decode cX5_readOutlet 17 = .ok (.iconst 0, 1) := by decide +kernel
theorem dX5_readOutlet_18 : decode cX5_readOutlet 18 = .ok (.ireturn, 1) := by decide +kernel
theorem dX5_readOutlet_19 : decode cX5_readOutlet 19 = .ok (.aload_n 0, 1) := by decide +kernel
theorem dX5_readOutlet_20 : decode cX5_readOutlet 20 = .ok (.getfield 19, 3) := by decide +kernel
theorem dX5_readOutlet_23 : decode cX5_readOutlet 23 = .ok (.getfield 185, 3) := by decide +kernel
theorem dX5_readOutlet_26 : decode cX5_readOutlet 26 = .ok (.iload_n 1, 1) := by decide +kernel
theorem dX5_readOutlet_27 : decode cX5_readOutlet 27 = .ok (.aload_n 0, 1) := by decide +kernel
theorem dX5_readOutlet_28 : decode cX5_readOutlet 28 = .ok (.invokevirtual 132, 3) := by decide +kernel
theorem dX5_readOutlet_31 : decode cX5_readOutlet 31 = .ok (.iastore, 1) := by decide +kernel
theorem dX5_readOutlet_32 : decode cX5_readOutlet 32 = .ok (.aload_n 0, 1) := by decide +kernel
theorem dX5_readOutlet_33 : decode cX5_readOutlet 33 = .ok (.aload_n 0, 1) := by decide +kernel
theorem dX5_readOutlet_34 : decode cX5_readOutlet 34 = .ok (.aload_n 0, 1) := by decide +kernel
theorem dX5_readOutlet_35 : decode cX5_readOutlet 35 = .ok (.getfield 19, 3) := by decide +kernel
theorem dX5_readOutlet_38 : decode cX5_readOutlet 38 = .ok (.getfield 185, 3) := by decide +kernel
theorem dX5_readOutlet_41 : decode cX5_readOutlet 41 = .ok (.iload_n 1, 1) := by decide +kernel
theorem dX5_readOutlet_42 : decode cX5_readOutlet 42 = .ok (.iaload, 1) := by decide +kernel
theorem dX5_readOutlet_43 : decode cX5_readOutlet 43 = .ok (.invokevirtual 136, 3) := by decide +kernel
theorem dX5_readOutlet_46 : decode cX5_readOutlet 46 = .ok (.invokevirtual 140, 3) := by decide +kernel
theorem dX5_readOutlet_49 : decode cX5_readOutlet 49 = .ok (.aload_n 0, 1) := by decide +kernel
theorem dX5_readOutlet_50 : decode cX5_readOutlet 50 = .ok (.getfield 35, 3) := by decide +kernel
theorem dX5_readOutlet_53 : decode cX5_readOutlet 53 = .ok (.ifCond .ne 12, 3) := by decide +kernel
theorem dX5_readOutlet_56 : decode cX5_readOutlet 56 = .ok (.aload_n 0, 1) := by decide +kernel
theorem dX5_readOutlet_57 : decode cX5_readOutlet 57 = .ok (.ldc 188, 2) := by decide +kernel
theorem dX5_readOutlet_59 : decode cX5_readOutlet 59 = .ok (.invokevirtual 110, 3) := by decide +kernel
theorem dX5_readOutlet_62 : decode cX5_readOutlet 62 = .ok (.ifCond .ne 5, 3) := by decide +kernel
theorem dX5_readOutlet_65 : decode cX5_readOutlet 65 = .ok (.iconst 0, 1) := by decide +kernel
theorem dX5_readOutlet_66 : decode cX5_readOutlet 66 = .ok (.ireturn, 1) := by decide +kernel
theorem dX5_readOutlet_67 : decode cX5_readOutlet 67 = .ok (.aload_n 0, 1) := by decide +kernel
theorem dX5_readOutlet_68 : decode cX5_readOutlet 68 = .ok (.getfield 19, 3) := by decide +kernel
theorem dX5_readOutlet_71 : decode cX5_readOutlet 71 = .ok (.getfield 189, 3) := by decide +kernel
theorem dX5_readOutlet_74 : decode cX5_readOutlet 74 = .ok (.iload_n 1, 1) := by decide +kernel
theorem dX5_readOutlet_75 : decode cX5_readOutlet 75 = .ok (.aload_n 0, 1) := by decide +kernel
theorem dX5_readOutlet_76 : decode cX5_readOutlet 76 = .ok (.getfield 19, 3) := by decide +kernel
theorem dX5_readOutlet_79 : decode cX5_readOutlet 79 = .ok (.aload_n 0, 1) := by decide +kernel
theorem dX5_readOutlet_80 : decode cX5_readOutlet 80 = .ok (.invokevirtual 132, 3) := by decide +kernel
theorem dX5_readOutlet_83 : decode cX5_readOutlet 83 = .ok (.invokevirtual 192, 3) := by decide +kernel
theorem dX5_readOutlet_86 : decode cX5_readOutlet 86 = .ok (.iastore, 1) := by decide +kernel
theorem dX5_readOutlet_87 : decode cX5_readOutlet 87 = .ok (.aload_n 0, 1) := by decide +kernel
theorem dX5_readOutlet_88 : decode cX5_readOutlet 88 = .ok (.aload_n 0, 1) := by decide +kernel
theorem dX5_readOutlet_89 : decode cX5_readOutlet 89 = .ok (.getfield 19, 3) := by decide +kernel
theorem dX5_readOutlet_92 : decode cX5_readOutlet 92 = .ok (.getfield 189, 3) := by decide +kernel
theorem dX5_readOutlet_95 : decode cX5_readOutlet 95 = .ok (.iload_n 1, 1) := by decide +kernel
theorem dX5_readOutlet_96 : decode cX5_readOutlet 96 = .ok (.iaload, 1) := by decide +kernel
theorem dX5_readOutlet_97 : decode cX5_readOutlet 97 = .ok (.iconst (-1), 1) := by decide +kernel
theorem dX5_readOutlet_98 : decode cX5_readOutlet 98 = .ok (.if_icmp .eq 7, 3) := by decide +kernel
theorem dX5_readOutlet_101 : decode cX5_readOutlet 101 = .ok (.iconst 1, 1) := by decide +kernel
theorem dX5_readOutlet_102 : decode cX5_readOutlet 102 = .ok (.goto 4, 3) := by decide +kernel
theorem dX5_readOutlet_105 : decode cX5_readOutlet 105 = .ok (.iconst 0, 1) := by decide +kernel
theorem dX5_readOutlet_106 : decode cX5_readOutlet 106 = .ok (.invokevirtual 140, 3) := by decide +kernel
theorem dX5_readOutlet_109 : decode cX5_readOutlet 109 = .ok (.aload_n 0, 1) := by decide +kernel
theorem dX5_readOutlet_110 : decode cX5_readOutlet 110 = .ok (.getfield 35, 3) := by decide +kernel
theorem dX5_readOutlet_113 : decode cX5_readOutlet 113 = .ok (.ifCond .ne 12, 3) := by decide +kernel
theorem dX5_readOutlet_116 : decode cX5_readOutlet 116 = .ok (.aload_n 0, 1) := by decide +kernel
theorem dX5_readOutlet_117 : decode cX5_readOutlet 117 = .ok (.ldc 196, 2) := by decide +kernel
theorem dX5_readOutlet_119 : decode cX5_readOutlet 119 = .ok (.invokevirtual 110, 3) := by decide +kernel
theorem dX5_readOutlet_122 : decode cX5_readOutlet 122 = .ok (.ifCond .ne 5, 3) := by decide +kernel
theorem dX5_readOutlet_125 : decode cX5_readOutlet 125 = .ok (.iconst 0, 1) := by decide +kernel
theorem dX5_readOutlet_126 : decode cX5_readOutlet 126 = .ok (.ireturn, 1) := by decide +kernel
theorem dX5_readOutlet_127 : decode cX5_readOutlet 127 = .ok (.aload_n 0, 1) := by decide +kernel
theorem dX5_readOutlet_128 : decode cX5_readOutlet 128 = .ok (.getfield 19, 3) := by decide +kernel
theorem dX5_readOutlet_131 : decode cX5_readOutlet 131 = .ok (.getfield 198, 3) := by decide +kernel
theorem dX5_readOutlet_134 : decode cX5_readOutlet 134 = .ok (.iload_n 1, 1) := by decide +kernel
theorem dX5_readOutlet_135 : decode cX5_readOutlet 135 = .ok (.aload_n 0, 1) := by decide +kernel
theorem dX5_readOutlet_136 : decode cX5_readOutlet 136 = .ok (.iconst 1, 1) := by decide +kernel
theorem dX5_readOutlet_137 : decode cX5_readOutlet 137 = .ok (.bipush 99, 2) := by decide +kernel
theorem dX5_readOutlet_139 : decode cX5_readOutlet 139 = .ok (.invokevirtual 115, 3) := by decide +kernel
theorem dX5_readOutlet_142 : decode cX5_readOutlet 142 = .ok (.iastore, 1) := by decide +kernel
theorem dX5_readOutlet_143 : decode cX5_readOutlet 143 = .ok (.aload_n 0, 1) := by decide +kernel
theorem dX5_readOutlet_144 : decode cX5_readOutlet 144 = .ok (.getfield 35, 3) := by decide +kernel
theorem dX5_readOutlet_147 : decode cX5_readOutlet 147 = .ok (.ifCond .ne 12, 3) := by decide +kernel
theorem dX5_readOutlet_150 : decode cX5_readOutlet 150 = .ok (.aload_n 0, 1) := by decide +kernel
theorem dX5_readOutlet_151 : decode cX5_readOutlet 151 = .ok (.bipush 59, 2) := by decide +kernel
theorem dX5_readOutlet_153 : decode cX5_readOutlet 153 = .ok (.invokevirtual 121, 3) := by decide +kernel
theorem dX5_readOutlet_156 : decode cX5_readOutlet 156 = .ok (.ifCond .ne 5, 3) := by decide +kernel
theorem dX5_readOutlet_159 : decode cX5_readOutlet 159 = .ok (.iconst 0, 1) := by decide +kernel
theorem dX5_readOutlet_160 : decode cX5_readOutlet 160 = .ok (.ireturn, 1) := by decide +kernel
theorem dX5_readOutlet_161 : decode cX5_readOutlet 161 = .ok (.aload_n 0, 1) := by decide +kernel
theorem dX5_readOutlet_162 : decode cX5_readOutlet 162 = .ok (.getfield 19, 3) := by decide +kernel
theorem dX5_readOutlet_165 : decode cX5_readOutlet 165 = .ok (.dup, 1) := by decide +kernel
theorem dX5_readOutlet_166 : decode cX5_readOutlet 166 = .ok (.getfield 77, 3) := by decide +kernel
theorem dX5_readOutlet_169 : decode cX5_readOutlet 169 = .ok (.iconst 1, 1) := by decide +kernel
theorem dX5_readOutlet_170 : decode cX5_readOutlet 170 = .ok (.iadd, 1) := by decide +kernel
theorem dX5_readOutlet_171 : decode cX5_readOutlet 171 = .ok (.putfield 77, 3) := by decide +kernel
theorem dX5_readOutlet_174 : decode cX5_readOutlet 174 = .ok (.iconst 1, 1) := by decide +kernel
theorem dX5_readOutlet_175 : decode cX5_readOutlet 175 = .ok (.ireturn, 1) := by decide +kernel
abbrev rm_Reader_readOutlet : Room := { frames := 6, cells := 0, slots := 0, locals := 131 }
def Reader_readOutlet_j106 (σ : Sg) (x1 : Int32) (s1 : Int32) : Option (Bool × Sg) :=
  (Reader_askName σ s1).bind fun r106 =>
  zgt r106 2 6 fun v110 =>
  if v110 = 0 then (
    (Reader_readWord r106 16).bind fun r119 =>
    if (zb r119.1) = 0 then (
      some (false, r119.2)
    ) else (
      zmr2 3 29 (r119.2 2 5) fun q128 =>
      (Reader_readNumber r119.2 1 99).bind fun r139 =>
      zwr r139.2 (q128 + 15) 10 x1 r139.1 fun σ142 =>
      zgt σ142 2 6 fun v144 =>
      if v144 = 0 then (
        (Reader_readSign σ142 59).bind fun r153 =>
        if (zb r153.1) = 0 then (
          some (false, r153.2)
        ) else (
          zmr2 3 29 (r153.2 2 5) fun q162 =>
          zgt r153.2 q162 7 fun v166 =>
          zpt r153.2 q162 7 (v166 + 1) fun σ171 =>
          some (true, σ171)
        )
      ) else (
        some (false, σ142)
      )
    )
  ) else (
    some (false, r106)
  )
set_option maxRecDepth 20000 in
theorem t_Reader_readOutlet_j106 {X : Zx} {Q : State → Prop} {σ : Sg} {x1 : Int32} {s1 : Int32} (ok : Zok X cX5_readOutlet RX5 rm_Reader_readOutlet 198 2)  {out : (Bool × Sg)} (hf : Reader_readOutlet_j106 σ x1 s1 = some out) (hk : ZrI cX5_readOutlet X Q (zb out.1) out.2) : ZAt X Q 0 0 106 σ [(0, .ref (X.ad 2)), (1, .int x1)] [.int s1, .ref (X.ad 2)] := by
  unfold Reader_readOutlet_j106 at hf
  refine z_call hf (fun r106 h106 hf => ?_)
  refine z_cVv (As := [.int s1]) (rest := []) (w := 2) ok kc_2 zc_5 (c_Reader_askName h106) rfl ⟨ml_5_140, w_Reader_askName⟩ hy_Reader_askName ⟨rfl, rfl⟩ ⟨Nat.le_of_ble_eq_true rfl, Nat.le_of_ble_eq_true rfl⟩ ⟨Nat.zero_le _, Nat.zero_le _⟩ rfl (Nat.le_of_ble_eq_true rfl) dX5_readOutlet_106 ?_
  refine z_aload_n ok dX5_readOutlet_109 0 rfl ?_
  refine z_geti ok kc_2 zc_5 hin_5 6 (by decide) fl_5_35 rfl dX5_readOutlet_110 hf (fun v110 hf => ?_)
  refine z_if_ne (tgt := 125) ok dX5_readOutlet_113 (by decide) hf (fun _ hf => ?_) (fun _ hf => ?_)
  · refine z_aload_n ok dX5_readOutlet_116 0 rfl ?_
    refine z_ldcS ok 16 rfl dX5_readOutlet_117 ?_
    refine z_call hf (fun r119 h119 hf => ?_)
    refine z_cV (As := [.ref (X.ad (1000000 + 16))]) (rest := []) (w := 2) ok kc_2 zc_5 (c_Reader_readWord (by decide) h119) rfl ⟨ml_5_110, w_Reader_readWord⟩ hy_Reader_readWord ⟨rfl, rfl⟩ ⟨Nat.le_of_ble_eq_true rfl, Nat.le_of_ble_eq_true rfl⟩ ⟨Nat.zero_le _, Nat.zero_le _⟩ rfl (Nat.le_of_ble_eq_true rfl) dX5_readOutlet_119 ?_
    refine z_if_ne (tgt := 127) ok dX5_readOutlet_122 (by decide) hf (fun _ hf => ?_) (fun _ hf => ?_)
    · refine z_iconst (v := 0) ok dX5_readOutlet_125 (by decide) ?_
      obtain rfl := Option.some.inj hf
      exact hk _ _ dX5_readOutlet_126
    · refine z_aload_n ok dX5_readOutlet_127 0 rfl ?_
      refine z_getm2 (p := 3) (q := 29) ok kc_2 zc_5 hin_5 5 (by decide) fl_5_19 rfl (by decide) (by decide) dX5_readOutlet_128 hf (fun q128 e128 hf => ?_)
      have hq128 : zI_Works q128 198 := by rcases e128 with rfl | rfl; exact kI_Works_3; exact kI_Works_29
      obtain ⟨hq128_0, hq128_1, hq128_2, hq128_3, hq128_4, hq128_5, hq128_6, hq128_7, hq128_8, hq128_9, hq128_10, hq128_11, hq128_12, hq128_13, hq128_14, hq128_15, hq128_16, hq128_17, hq128_18, hq128_19, hq128_20, hq128_21, hq128_22, hq128_23, hq128_24, hq128_25⟩ := id hq128
      refine z_getr (q := (q128 + 15)) ok hq128_0 zc_10 hin_10 10 (by decide) fl_5_198 rfl dX5_readOutlet_131 ?_
      refine z_iload_n ok dX5_readOutlet_134 1 rfl ?_
      refine z_aload_n ok dX5_readOutlet_135 0 rfl ?_
      refine z_iconst (v := 1) ok dX5_readOutlet_136 (by decide) ?_
      refine z_bipush (v := 99) ok dX5_readOutlet_137 (by decide) ?_
      refine z_call hf (fun r139 h139 hf => ?_)
      refine z_cV (As := [.int 1, .int 99]) (rest := [.int x1, .ref (X.ad (q128 + 15))]) (w := 2) ok kc_2 zc_5 (c_Reader_readNumber h139) rfl ⟨ml_5_115, w_Reader_readNumber⟩ hy_Reader_readNumber ⟨rfl, rfl⟩ ⟨Nat.le_of_ble_eq_true rfl, Nat.le_of_ble_eq_true rfl⟩ ⟨Nat.zero_le _, Nat.zero_le _⟩ rfl (Nat.le_of_ble_eq_true rfl) dX5_readOutlet_139 ?_
      refine z_iast ok hq128_15 dX5_readOutlet_142 hf (fun σ142 hf => ?_)
      refine z_aload_n ok dX5_readOutlet_143 0 rfl ?_
      refine z_geti ok kc_2 zc_5 hin_5 6 (by decide) fl_5_35 rfl dX5_readOutlet_144 hf (fun v144 hf => ?_)
      refine z_if_ne (tgt := 159) ok dX5_readOutlet_147 (by decide) hf (fun _ hf => ?_) (fun _ hf => ?_)
      · refine z_aload_n ok dX5_readOutlet_150 0 rfl ?_
        refine z_bipush (v := 59) ok dX5_readOutlet_151 (by decide) ?_
        refine z_call hf (fun r153 h153 hf => ?_)
        refine z_cV (As := [.int 59]) (rest := []) (w := 2) ok kc_2 zc_5 (c_Reader_readSign h153) rfl ⟨ml_5_121, w_Reader_readSign⟩ hy_Reader_readSign ⟨rfl, rfl⟩ ⟨Nat.le_of_ble_eq_true rfl, Nat.le_of_ble_eq_true rfl⟩ ⟨Nat.zero_le _, Nat.zero_le _⟩ rfl (Nat.le_of_ble_eq_true rfl) dX5_readOutlet_153 ?_
        refine z_if_ne (tgt := 161) ok dX5_readOutlet_156 (by decide) hf (fun _ hf => ?_) (fun _ hf => ?_)
        · refine z_iconst (v := 0) ok dX5_readOutlet_159 (by decide) ?_
          obtain rfl := Option.some.inj hf
          exact hk _ _ dX5_readOutlet_160
        · refine z_aload_n ok dX5_readOutlet_161 0 rfl ?_
          refine z_getm2 (p := 3) (q := 29) ok kc_2 zc_5 hin_5 5 (by decide) fl_5_19 rfl (by decide) (by decide) dX5_readOutlet_162 hf (fun q162 e162 hf => ?_)
          have hq162 : zI_Works q162 198 := by rcases e162 with rfl | rfl; exact kI_Works_3; exact kI_Works_29
          obtain ⟨hq162_0, hq162_1, hq162_2, hq162_3, hq162_4, hq162_5, hq162_6, hq162_7, hq162_8, hq162_9, hq162_10, hq162_11, hq162_12, hq162_13, hq162_14, hq162_15, hq162_16, hq162_17, hq162_18, hq162_19, hq162_20, hq162_21, hq162_22, hq162_23, hq162_24, hq162_25⟩ := id hq162
          refine z_dup ok dX5_readOutlet_165 rfl ?_
          refine z_geti ok hq162_0 zc_10 hin_10 7 (by decide) fl_5_77 rfl dX5_readOutlet_166 hf (fun v166 hf => ?_)
          refine z_iconst (v := 1) ok dX5_readOutlet_169 (by decide) ?_
          refine z_iadd ok dX5_readOutlet_170 ?_
          refine z_puti ok hq162_0 zc_10 hin_10 tyX10 tyX10_ok nmX10 7 (by decide) fl_5_77 rfl rfl (tyX10_ok 7 (by decide)) dX5_readOutlet_171 hf (fun σ171 hf => ?_)
          refine z_iconst (v := 1) ok dX5_readOutlet_174 (by decide) ?_
          obtain rfl := Option.some.inj hf
          exact hk _ _ dX5_readOutlet_175
      · refine z_iconst (v := 0) ok dX5_readOutlet_159 (by decide) ?_
        obtain rfl := Option.some.inj hf
        exact hk _ _ dX5_readOutlet_160
  · refine z_iconst (v := 0) ok dX5_readOutlet_125 (by decide) ?_
    obtain rfl := Option.some.inj hf
    exact hk _ _ dX5_readOutlet_126
def Reader_readOutlet (σ : Sg)  : Option (Bool × Sg) :=
  zmr2 3 29 (σ 2 5) fun q1 =>
  zgt σ q1 7 fun v4 =>
  (Reader_readWord σ 14).bind fun r11 =>
  if (zb r11.1) = 0 then (
    some (false, r11.2)
  ) else (
    zmr2 3 29 (r11.2 2 5) fun q20 =>
    (Reader_readName r11.2).bind fun r28 =>
    zwr r28.2 (q20 + 13) 10 v4 r28.1 fun σ31 =>
    zmr2 3 29 (σ31 2 5) fun q35 =>
    zrd σ31 (q35 + 13) 10 v4 fun v42 =>
    (Reader_isNew σ31 v42).bind fun r43 =>
    (Reader_askName σ31 (zb r43)).bind fun r46 =>
    zgt r46 2 6 fun v50 =>
    if v50 = 0 then (
      (Reader_readWord r46 15).bind fun r59 =>
      if (zb r59.1) = 0 then (
        some (false, r59.2)
      ) else (
        zmr2 3 29 (r59.2 2 5) fun q68 =>
        zmr2 3 29 (r59.2 2 5) fun q76 =>
        (Reader_readName r59.2).bind fun r80 =>
        (Works_poolOf r80.2 q76 r80.1).bind fun r83 =>
        zwr r80.2 (q68 + 14) 10 v4 r83 fun σ86 =>
        zmr2 3 29 (σ86 2 5) fun q89 =>
        zrd σ86 (q89 + 14) 10 v4 fun v96 =>
        if v96 = (-1) then (
          Reader_readOutlet_j106 σ86 v4 0
        ) else (
          Reader_readOutlet_j106 σ86 v4 1
        )
      )
    ) else (
      some (false, r46)
    )
  )
set_option maxRecDepth 20000 in
theorem t_Reader_readOutlet {X : Zx} {Q : State → Prop} {σ : Sg}  (ok : Zok X cX5_readOutlet RX5 rm_Reader_readOutlet 198 2)  {out : (Bool × Sg)} (hf : Reader_readOutlet σ = some out) (hk : ZrI cX5_readOutlet X Q (zb out.1) out.2) : ZAt X Q 0 0 0 σ [(0, .ref (X.ad 2))] [] := by
  unfold Reader_readOutlet at hf
  refine z_aload_n ok dX5_readOutlet_0 0 rfl ?_
  refine z_getm2 (p := 3) (q := 29) ok kc_2 zc_5 hin_5 5 (by decide) fl_5_19 rfl (by decide) (by decide) dX5_readOutlet_1 hf (fun q1 e1 hf => ?_)
  have hq1 : zI_Works q1 198 := by rcases e1 with rfl | rfl; exact kI_Works_3; exact kI_Works_29
  obtain ⟨hq1_0, hq1_1, hq1_2, hq1_3, hq1_4, hq1_5, hq1_6, hq1_7, hq1_8, hq1_9, hq1_10, hq1_11, hq1_12, hq1_13, hq1_14, hq1_15, hq1_16, hq1_17, hq1_18, hq1_19, hq1_20, hq1_21, hq1_22, hq1_23, hq1_24, hq1_25⟩ := id hq1
  refine z_geti ok hq1_0 zc_10 hin_10 7 (by decide) fl_5_77 rfl dX5_readOutlet_4 hf (fun v4 hf => ?_)
  refine z_istore_n (lv' := [(1, .int v4), (0, .ref (X.ad 2))]) ok dX5_readOutlet_7 (by decide) rfl ?_
  refine z_aload_n ok dX5_readOutlet_8 1 rfl ?_
  refine z_ldcS ok 14 rfl dX5_readOutlet_9 ?_
  refine z_call hf (fun r11 h11 hf => ?_)
  refine z_cV (As := [.ref (X.ad (1000000 + 14))]) (rest := []) (w := 2) ok kc_2 zc_5 (c_Reader_readWord (by decide) h11) rfl ⟨ml_5_110, w_Reader_readWord⟩ hy_Reader_readWord ⟨rfl, rfl⟩ ⟨Nat.le_of_ble_eq_true rfl, Nat.le_of_ble_eq_true rfl⟩ ⟨Nat.zero_le _, Nat.zero_le _⟩ rfl (Nat.le_of_ble_eq_true rfl) dX5_readOutlet_11 ?_
  refine z_if_ne (tgt := 19) ok dX5_readOutlet_14 (by decide) hf (fun _ hf => ?_) (fun _ hf => ?_)
  · refine z_iconst (v := 0) ok dX5_readOutlet_17 (by decide) ?_
    obtain rfl := Option.some.inj hf
    exact hk _ _ dX5_readOutlet_18
  · refine z_aload_n ok dX5_readOutlet_19 1 rfl ?_
    refine z_getm2 (p := 3) (q := 29) ok kc_2 zc_5 hin_5 5 (by decide) fl_5_19 rfl (by decide) (by decide) dX5_readOutlet_20 hf (fun q20 e20 hf => ?_)
    have hq20 : zI_Works q20 198 := by rcases e20 with rfl | rfl; exact kI_Works_3; exact kI_Works_29
    obtain ⟨hq20_0, hq20_1, hq20_2, hq20_3, hq20_4, hq20_5, hq20_6, hq20_7, hq20_8, hq20_9, hq20_10, hq20_11, hq20_12, hq20_13, hq20_14, hq20_15, hq20_16, hq20_17, hq20_18, hq20_19, hq20_20, hq20_21, hq20_22, hq20_23, hq20_24, hq20_25⟩ := id hq20
    refine z_getr (q := (q20 + 13)) ok hq20_0 zc_10 hin_10 8 (by decide) fl_5_185 rfl dX5_readOutlet_23 ?_
    refine z_iload_n ok dX5_readOutlet_26 0 rfl ?_
    refine z_aload_n ok dX5_readOutlet_27 1 rfl ?_
    refine z_call hf (fun r28 h28 hf => ?_)
    refine z_cV (As := []) (rest := [.int v4, .ref (X.ad (q20 + 13))]) (w := 2) ok kc_2 zc_5 (c_Reader_readName h28) rfl ⟨ml_5_132, w_Reader_readName⟩ hy_Reader_readName ⟨rfl, rfl⟩ ⟨Nat.le_of_ble_eq_true rfl, Nat.le_of_ble_eq_true rfl⟩ ⟨Nat.zero_le _, Nat.zero_le _⟩ rfl (Nat.le_of_ble_eq_true rfl) dX5_readOutlet_28 ?_
    refine z_iast ok hq20_13 dX5_readOutlet_31 hf (fun σ31 hf => ?_)
    refine z_aload_n ok dX5_readOutlet_32 1 rfl ?_
    refine z_aload_n ok dX5_readOutlet_33 1 rfl ?_
    refine z_aload_n ok dX5_readOutlet_34 1 rfl ?_
    refine z_getm2 (p := 3) (q := 29) ok kc_2 zc_5 hin_5 5 (by decide) fl_5_19 rfl (by decide) (by decide) dX5_readOutlet_35 hf (fun q35 e35 hf => ?_)
    have hq35 : zI_Works q35 198 := by rcases e35 with rfl | rfl; exact kI_Works_3; exact kI_Works_29
    obtain ⟨hq35_0, hq35_1, hq35_2, hq35_3, hq35_4, hq35_5, hq35_6, hq35_7, hq35_8, hq35_9, hq35_10, hq35_11, hq35_12, hq35_13, hq35_14, hq35_15, hq35_16, hq35_17, hq35_18, hq35_19, hq35_20, hq35_21, hq35_22, hq35_23, hq35_24, hq35_25⟩ := id hq35
    refine z_getr (q := (q35 + 13)) ok hq35_0 zc_10 hin_10 8 (by decide) fl_5_185 rfl dX5_readOutlet_38 ?_
    refine z_iload_n ok dX5_readOutlet_41 0 rfl ?_
    refine z_iald ok hq35_13 dX5_readOutlet_42 hf (fun v42 hf => ?_)
    refine z_call hf (fun r43 h43 hf => ?_)
    refine z_cV (As := [.int v42]) (rest := [.ref (X.ad 2)]) (w := 2) ok kc_2 zc_5 (c_Reader_isNew h43) rfl ⟨ml_5_136, w_Reader_isNew⟩ hy_Reader_isNew ⟨rfl, rfl⟩ ⟨Nat.le_of_ble_eq_true rfl, Nat.le_of_ble_eq_true rfl⟩ ⟨Nat.zero_le _, Nat.zero_le _⟩ rfl (Nat.le_of_ble_eq_true rfl) dX5_readOutlet_43 ?_
    refine z_call hf (fun r46 h46 hf => ?_)
    refine z_cVv (As := [.int (zb r43)]) (rest := []) (w := 2) ok kc_2 zc_5 (c_Reader_askName h46) rfl ⟨ml_5_140, w_Reader_askName⟩ hy_Reader_askName ⟨rfl, rfl⟩ ⟨Nat.le_of_ble_eq_true rfl, Nat.le_of_ble_eq_true rfl⟩ ⟨Nat.zero_le _, Nat.zero_le _⟩ rfl (Nat.le_of_ble_eq_true rfl) dX5_readOutlet_46 ?_
    refine z_aload_n ok dX5_readOutlet_49 1 rfl ?_
    refine z_geti ok kc_2 zc_5 hin_5 6 (by decide) fl_5_35 rfl dX5_readOutlet_50 hf (fun v50 hf => ?_)
    refine z_if_ne (tgt := 65) ok dX5_readOutlet_53 (by decide) hf (fun _ hf => ?_) (fun _ hf => ?_)
    · refine z_aload_n ok dX5_readOutlet_56 1 rfl ?_
      refine z_ldcS ok 15 rfl dX5_readOutlet_57 ?_
      refine z_call hf (fun r59 h59 hf => ?_)
      refine z_cV (As := [.ref (X.ad (1000000 + 15))]) (rest := []) (w := 2) ok kc_2 zc_5 (c_Reader_readWord (by decide) h59) rfl ⟨ml_5_110, w_Reader_readWord⟩ hy_Reader_readWord ⟨rfl, rfl⟩ ⟨Nat.le_of_ble_eq_true rfl, Nat.le_of_ble_eq_true rfl⟩ ⟨Nat.zero_le _, Nat.zero_le _⟩ rfl (Nat.le_of_ble_eq_true rfl) dX5_readOutlet_59 ?_
      refine z_if_ne (tgt := 67) ok dX5_readOutlet_62 (by decide) hf (fun _ hf => ?_) (fun _ hf => ?_)
      · refine z_iconst (v := 0) ok dX5_readOutlet_65 (by decide) ?_
        obtain rfl := Option.some.inj hf
        exact hk _ _ dX5_readOutlet_66
      · refine z_aload_n ok dX5_readOutlet_67 1 rfl ?_
        refine z_getm2 (p := 3) (q := 29) ok kc_2 zc_5 hin_5 5 (by decide) fl_5_19 rfl (by decide) (by decide) dX5_readOutlet_68 hf (fun q68 e68 hf => ?_)
        have hq68 : zI_Works q68 198 := by rcases e68 with rfl | rfl; exact kI_Works_3; exact kI_Works_29
        obtain ⟨hq68_0, hq68_1, hq68_2, hq68_3, hq68_4, hq68_5, hq68_6, hq68_7, hq68_8, hq68_9, hq68_10, hq68_11, hq68_12, hq68_13, hq68_14, hq68_15, hq68_16, hq68_17, hq68_18, hq68_19, hq68_20, hq68_21, hq68_22, hq68_23, hq68_24, hq68_25⟩ := id hq68
        refine z_getr (q := (q68 + 14)) ok hq68_0 zc_10 hin_10 9 (by decide) fl_5_189 rfl dX5_readOutlet_71 ?_
        refine z_iload_n ok dX5_readOutlet_74 0 rfl ?_
        refine z_aload_n ok dX5_readOutlet_75 1 rfl ?_
        refine z_getm2 (p := 3) (q := 29) ok kc_2 zc_5 hin_5 5 (by decide) fl_5_19 rfl (by decide) (by decide) dX5_readOutlet_76 hf (fun q76 e76 hf => ?_)
        have hq76 : zI_Works q76 198 := by rcases e76 with rfl | rfl; exact kI_Works_3; exact kI_Works_29
        obtain ⟨hq76_0, hq76_1, hq76_2, hq76_3, hq76_4, hq76_5, hq76_6, hq76_7, hq76_8, hq76_9, hq76_10, hq76_11, hq76_12, hq76_13, hq76_14, hq76_15, hq76_16, hq76_17, hq76_18, hq76_19, hq76_20, hq76_21, hq76_22, hq76_23, hq76_24, hq76_25⟩ := id hq76
        refine z_aload_n ok dX5_readOutlet_79 1 rfl ?_
        refine z_call hf (fun r80 h80 hf => ?_)
        refine z_cV (As := []) (rest := [.ref (X.ad q76), .int v4, .ref (X.ad (q68 + 14))]) (w := 2) ok kc_2 zc_5 (c_Reader_readName h80) rfl ⟨ml_5_132, w_Reader_readName⟩ hy_Reader_readName ⟨rfl, rfl⟩ ⟨Nat.le_of_ble_eq_true rfl, Nat.le_of_ble_eq_true rfl⟩ ⟨Nat.zero_le _, Nat.zero_le _⟩ rfl (Nat.le_of_ble_eq_true rfl) dX5_readOutlet_80 ?_
        refine z_call hf (fun r83 h83 hf => ?_)
        refine z_cV (As := [.int r80.1]) (rest := [.int v4, .ref (X.ad (q68 + 14))]) (w := q76) ok hq76_0 zc_10 (c_Works_poolOf hq76 h83) rfl ⟨ml_5_192, w_Works_poolOf⟩ hy_Works_poolOf ⟨rfl, rfl⟩ ⟨Nat.le_of_ble_eq_true rfl, Nat.le_of_ble_eq_true rfl⟩ ⟨Nat.zero_le _, Nat.zero_le _⟩ rfl (Nat.le_of_ble_eq_true rfl) dX5_readOutlet_83 ?_
        refine z_iast ok hq68_14 dX5_readOutlet_86 hf (fun σ86 hf => ?_)
        refine z_aload_n ok dX5_readOutlet_87 1 rfl ?_
        refine z_aload_n ok dX5_readOutlet_88 1 rfl ?_
        refine z_getm2 (p := 3) (q := 29) ok kc_2 zc_5 hin_5 5 (by decide) fl_5_19 rfl (by decide) (by decide) dX5_readOutlet_89 hf (fun q89 e89 hf => ?_)
        have hq89 : zI_Works q89 198 := by rcases e89 with rfl | rfl; exact kI_Works_3; exact kI_Works_29
        obtain ⟨hq89_0, hq89_1, hq89_2, hq89_3, hq89_4, hq89_5, hq89_6, hq89_7, hq89_8, hq89_9, hq89_10, hq89_11, hq89_12, hq89_13, hq89_14, hq89_15, hq89_16, hq89_17, hq89_18, hq89_19, hq89_20, hq89_21, hq89_22, hq89_23, hq89_24, hq89_25⟩ := id hq89
        refine z_getr (q := (q89 + 14)) ok hq89_0 zc_10 hin_10 9 (by decide) fl_5_189 rfl dX5_readOutlet_92 ?_
        refine z_iload_n ok dX5_readOutlet_95 0 rfl ?_
        refine z_iald ok hq89_14 dX5_readOutlet_96 hf (fun v96 hf => ?_)
        refine z_iconst (v := (-1)) ok dX5_readOutlet_97 (by decide) ?_
        refine z_icmp_eq (tgt := 105) ok dX5_readOutlet_98 (by decide) hf (fun _ hf => ?_) (fun _ hf => ?_)
        · refine z_iconst (v := 0) ok dX5_readOutlet_105 (by decide) ?_
          exact z_sub [1, 0] rfl (t_Reader_readOutlet_j106 ok hf hk)
        · refine z_iconst (v := 1) ok dX5_readOutlet_101 (by decide) ?_
          refine z_goto (tgt := 106) ok dX5_readOutlet_102 (by decide) ?_
          exact z_sub [1, 0] rfl (t_Reader_readOutlet_j106 ok hf hk)
    · refine z_iconst (v := 0) ok dX5_readOutlet_65 (by decide) ?_
      obtain rfl := Option.some.inj hf
      exact hk _ _ dX5_readOutlet_66
theorem c_Reader_readOutlet {σ : Sg} {r : (Bool × Sg)} (h : Reader_readOutlet σ = some r) : ZcI yX5_readOutlet cX5_readOutlet 2 .boolean rm_Reader_readOutlet 198 (fun ad => [.ref (ad 2)]) σ (zb r.1) r.2 :=
  zmetI pn_5 rfl (fun _ => rfl) (fun _ => Nat.le_of_ble_eq_true rfl) (zb_nar _) (fun X Q ok hk => t_Reader_readOutlet ok h hk)
theorem dX3_add_0 : decode cX3_add 0 = .ok (.aload_n 0, 1) := by decide +kernel
theorem dX3_add_1 : decode cX3_add 1 = .ok (.getfield 21, 3) := by decide +kernel
theorem dX3_add_4 : decode cX3_add 4 = .ok (.bipush 16, 2) := by decide +kernel
theorem dX3_add_6 : decode cX3_add 6 = .ok (.if_icmp .lt 5, 3) := by decide +kernel
theorem dX3_add_9 : decode cX3_add 9 = .ok (.iconst (-1), 1) := by decide +kernel
theorem dX3_add_10 : decode cX3_add 10 = .ok (.ireturn, 1) := by decide +kernel
theorem dX3_add_11 : decode cX3_add 11 = .ok (.aload_n 0, 1) := by decide +kernel
theorem dX3_add_12 : decode cX3_add 12 = .ok (.getfield 9, 3) := by decide +kernel
theorem dX3_add_15 : decode cX3_add 15 = .ok (.aload_n 0, 1) := by decide +kernel
theorem dX3_add_16 : decode cX3_add 16 = .ok (.getfield 21, 3) := by decide +kernel
theorem dX3_add_19 : decode cX3_add 19 = .ok (.iload_n 1, 1) := by decide +kernel
theorem dX3_add_20 : decode cX3_add 20 = .ok (.iastore, 1) := by decide +kernel
theorem dX3_add_21 : decode cX3_add 21 = .ok (.aload_n 0, 1) := by decide +kernel
theorem dX3_add_22 : decode cX3_add 22 = .ok (.getfield 15, 3) := by decide +kernel
theorem dX3_add_25 : decode cX3_add 25 = .ok (.aload_n 0, 1) := by decide +kernel
theorem dX3_add_26 : decode cX3_add 26 = .ok (.getfield 21, 3) := by decide +kernel
theorem dX3_add_29 : decode cX3_add 29 = .ok (.iload_n 2, 1) := by decide +kernel
theorem dX3_add_30 : decode cX3_add 30 = .ok (.iastore, 1) := by decide +kernel
theorem dX3_add_31 : decode cX3_add 31 = .ok (.aload_n 0, 1) := by decide +kernel
theorem dX3_add_32 : decode cX3_add 32 = .ok (.getfield 18, 3) := by decide +kernel
theorem dX3_add_35 : decode cX3_add 35 = .ok (.aload_n 0, 1) := by decide +kernel
theorem dX3_add_36 : decode cX3_add 36 = .ok (.getfield 21, 3) := by decide +kernel
theorem dX3_add_39 : decode cX3_add 39 = .ok (.iload_n 3, 1) := by decide +kernel
theorem dX3_add_40 : decode cX3_add 40 = .ok (.iastore, 1) := by decide +kernel
theorem dX3_add_41 : decode cX3_add 41 = .ok (.aload_n 0, 1) := by decide +kernel
theorem dX3_add_42 : decode cX3_add 42 = .ok (.dup, 1) := by decide +kernel
theorem dX3_add_43 : decode cX3_add 43 = .ok (.getfield 21, 3) := by decide +kernel
theorem dX3_add_46 : decode cX3_add 46 = .ok (.iconst 1, 1) := by decide +kernel
theorem dX3_add_47 : decode cX3_add 47 = .ok (.iadd, 1) := by decide +kernel
theorem dX3_add_48 : decode cX3_add 48 = .ok (.putfield 21, 3) := by decide +kernel
theorem dX3_add_51 : decode cX3_add 51 = .ok (.aload_n 0, 1) := by decide +kernel
theorem dX3_add_52 : decode cX3_add 52 = .ok (.getfield 21, 3) := by decide +kernel
theorem dX3_add_55 : decode cX3_add 55 = .ok (.iconst 1, 1) := by decide +kernel
theorem dX3_add_56 : decode cX3_add 56 = .ok (.isub, 1) := by decide +kernel
theorem dX3_add_57 : decode cX3_add 57 = .ok (.ireturn, 1) := by decide +kernel
abbrev rm_Orders_add : Room := { frames := 0, cells := 0, slots := 0, locals := 0 }
def Orders_add (σ : Sg) (w : Nat) (x1 : Int32) (x2 : Int32) (x3 : Int32) : Option (Int32 × Sg) :=
  zgt σ w 0 fun v1 =>
  if v1 < 16 then (
    zgt σ w 0 fun v16 =>
    zwr σ (w + 1) 16 v16 x1 fun σ20 =>
    zgt σ20 w 0 fun v26 =>
    zwr σ20 (w + 2) 16 v26 x2 fun σ30 =>
    zgt σ30 w 0 fun v36 =>
    zwr σ30 (w + 3) 16 v36 x3 fun σ40 =>
    zgt σ40 w 0 fun v43 =>
    zpt σ40 w 0 (v43 + 1) fun σ48 =>
    zgt σ48 w 0 fun v52 =>
    some ((v52 - 1), σ48)
  ) else (
    some ((-1), σ)
  )
set_option maxRecDepth 20000 in
theorem t_Orders_add {X : Zx} {Q : State → Prop} {σ : Sg} {w : Nat} {x1 : Int32} {x2 : Int32} {x3 : Int32} (ok : Zok X cX3_add RX3 rm_Orders_add 198 4) (hw : zI_Orders w 198) {out : (Int32 × Sg)} (hf : Orders_add σ w x1 x2 x3 = some out) (hk : ZrI cX3_add X Q out.1 out.2) : ZAt X Q 0 0 0 σ [(0, .ref (X.ad w)), (1, .int x1), (2, .int x2), (3, .int x3)] [] := by
  unfold Orders_add at hf
  obtain ⟨hw_0, hw_1, hw_2, hw_3⟩ := id hw
  refine z_aload_n ok dX3_add_0 0 rfl ?_
  refine z_geti ok hw_0 zc_3 hin_3 0 (by decide) fl_3_21 rfl dX3_add_1 hf (fun v1 hf => ?_)
  refine z_bipush (v := 16) ok dX3_add_4 (by decide) ?_
  refine z_icmp_lt (tgt := 11) ok dX3_add_6 (by decide) hf (fun _ hf => ?_) (fun _ hf => ?_)
  · refine z_aload_n ok dX3_add_11 0 rfl ?_
    refine z_getr (q := (w + 1)) ok hw_0 zc_3 hin_3 1 (by decide) fl_3_9 rfl dX3_add_12 ?_
    refine z_aload_n ok dX3_add_15 0 rfl ?_
    refine z_geti ok hw_0 zc_3 hin_3 0 (by decide) fl_3_21 rfl dX3_add_16 hf (fun v16 hf => ?_)
    refine z_iload_n ok dX3_add_19 1 rfl ?_
    refine z_iast ok hw_1 dX3_add_20 hf (fun σ20 hf => ?_)
    refine z_aload_n ok dX3_add_21 0 rfl ?_
    refine z_getr (q := (w + 2)) ok hw_0 zc_3 hin_3 2 (by decide) fl_3_15 rfl dX3_add_22 ?_
    refine z_aload_n ok dX3_add_25 0 rfl ?_
    refine z_geti ok hw_0 zc_3 hin_3 0 (by decide) fl_3_21 rfl dX3_add_26 hf (fun v26 hf => ?_)
    refine z_iload_n ok dX3_add_29 2 rfl ?_
    refine z_iast ok hw_2 dX3_add_30 hf (fun σ30 hf => ?_)
    refine z_aload_n ok dX3_add_31 0 rfl ?_
    refine z_getr (q := (w + 3)) ok hw_0 zc_3 hin_3 3 (by decide) fl_3_18 rfl dX3_add_32 ?_
    refine z_aload_n ok dX3_add_35 0 rfl ?_
    refine z_geti ok hw_0 zc_3 hin_3 0 (by decide) fl_3_21 rfl dX3_add_36 hf (fun v36 hf => ?_)
    refine z_iload_n ok dX3_add_39 3 rfl ?_
    refine z_iast ok hw_3 dX3_add_40 hf (fun σ40 hf => ?_)
    refine z_aload_n ok dX3_add_41 0 rfl ?_
    refine z_dup ok dX3_add_42 rfl ?_
    refine z_geti ok hw_0 zc_3 hin_3 0 (by decide) fl_3_21 rfl dX3_add_43 hf (fun v43 hf => ?_)
    refine z_iconst (v := 1) ok dX3_add_46 (by decide) ?_
    refine z_iadd ok dX3_add_47 ?_
    refine z_puti ok hw_0 zc_3 hin_3 tyX3 tyX3_ok nmX3 0 (by decide) fl_3_21 rfl rfl (tyX3_ok 0 (by decide)) dX3_add_48 hf (fun σ48 hf => ?_)
    refine z_aload_n ok dX3_add_51 0 rfl ?_
    refine z_geti ok hw_0 zc_3 hin_3 0 (by decide) fl_3_21 rfl dX3_add_52 hf (fun v52 hf => ?_)
    refine z_iconst (v := 1) ok dX3_add_55 (by decide) ?_
    refine z_isub ok dX3_add_56 ?_
    obtain rfl := Option.some.inj hf
    exact hk _ _ dX3_add_57
  · refine z_iconst (v := (-1)) ok dX3_add_9 (by decide) ?_
    obtain rfl := Option.some.inj hf
    exact hk _ _ dX3_add_10
theorem c_Orders_add {σ : Sg} {w : Nat} {x1 : Int32} {x2 : Int32} {x3 : Int32} (hw : zI_Orders w 198) {r : (Int32 × Sg)} (h : Orders_add σ w x1 x2 x3 = some r) : ZcI yX3_add cX3_add 4 .int rm_Orders_add 198 (fun ad => [.ref (ad w), .int x1, .int x2, .int x3]) σ r.1 r.2 :=
  zmetI pn_3 rfl (fun _ => rfl) (fun _ => Nat.le_of_ble_eq_true rfl) rfl (fun X Q ok hk => t_Orders_add ok hw h hk)
theorem dX5_readOrder_0 : decode cX5_readOrder 0 = .ok (.aload_n 0, 1) := by decide +kernel
theorem dX5_readOrder_1 : decode cX5_readOrder 1 = .ok (.ldc 83, 2) := by decide +kernel
theorem dX5_readOrder_3 : decode cX5_readOrder 3 = .ok (.invokevirtual 110, 3) := by decide +kernel
theorem dX5_readOrder_6 : decode cX5_readOrder 6 = .ok (.ifCond .ne 5, 3) := by decide +kernel
theorem dX5_readOrder_9 : decode cX5_readOrder 9 = .ok (.iconst 0, 1) := by decide +kernel
theorem dX5_readOrder_10 : decode cX5_readOrder 10 = .ok (.ireturn, 1) := by decide +kernel
theorem dX5_readOrder_11 : decode cX5_readOrder 11 = .ok (.aload_n 0, 1) := by decide +kernel
theorem dX5_readOrder_12 : decode cX5_readOrder 12 = .ok (.getfield 19, 3) := by decide +kernel
theorem dX5_readOrder_15 : decode cX5_readOrder 15 = .ok (.aload_n 0, 1) := by decide +kernel
theorem dX5_readOrder_16 : decode cX5_readOrder 16 = .ok (.invokevirtual 132, 3) := by decide +kernel
theorem dX5_readOrder_19 : decode cX5_readOrder 19 = .ok (.invokevirtual 200, 3) := by decide +kernel
theorem dX5_readOrder_22 : decode cX5_readOrder 22 = .ok (.istore_n 1, 1) := by decide +kernel
theorem dX5_readOrder_23 : decode cX5_readOrder 23 = .ok (.aload_n 0, 1) := by decide +kernel
theorem dX5_readOrder_24 : decode cX5_readOrder 24 = .ok (.iload_n 1, 1) := by decide +kernel
theorem dX5_readOrder_25 : decode cX5_readOrder 25 = .ok (.iconst (-1), 1) := by decide +kernel
theorem dX5_readOrder_26 : decode cX5_readOrder 26 = .ok (.if_icmp .eq 7, 3) := by decide +kernel
theorem dX5_readOrder_29 : decode cX5_readOrder 29 = .ok (.iconst 1, 1) := by decide +kernel
theorem dX5_readOrder_30 : decode cX5_readOrder 30 = .ok (.goto 4, 3) := by decide +kernel
theorem dX5_readOrder_33 : decode cX5_readOrder 33 = .ok (.iconst 0, 1) := by decide +kernel
theorem dX5_readOrder_34 : decode cX5_readOrder 34 = .ok (.invokevirtual 140, 3) := by decide +kernel
theorem dX5_readOrder_37 : decode cX5_readOrder 37 = .ok (.aload_n 0, 1) := by decide +kernel
theorem dX5_readOrder_38 : decode cX5_readOrder 38 = .ok (.getfield 35, 3) := by decide +kernel
theorem dX5_readOrder_41 : decode cX5_readOrder 41 = .ok (.ifCond .ne 12, 3) := by decide +kernel
theorem dX5_readOrder_44 : decode cX5_readOrder 44 = .ok (.aload_n 0, 1) := by decide +kernel
theorem dX5_readOrder_45 : decode cX5_readOrder 45 = .ok (.ldc 203, 2) := by decide +kernel
theorem dX5_readOrder_47 : decode cX5_readOrder 47 = .ok (.invokevirtual 110, 3) := by decide +kernel
theorem dX5_readOrder_50 : decode cX5_readOrder 50 = .ok (.ifCond .ne 5, 3) := by decide +kernel
theorem dX5_readOrder_53 : decode cX5_readOrder 53 = .ok (.iconst 0, 1) := by decide +kernel
theorem dX5_readOrder_54 : decode cX5_readOrder 54 = .ok (.ireturn, 1) := by decide +kernel
theorem dX5_readOrder_55 : decode cX5_readOrder 55 = .ok (.aload_n 0, 1) := by decide +kernel
theorem dX5_readOrder_56 : decode cX5_readOrder 56 = .ok (.iconst 0, 1) := by decide +kernel
theorem dX5_readOrder_57 : decode cX5_readOrder 57 = .ok (.sipush 999, 3) := by decide +kernel
theorem dX5_readOrder_60 : decode cX5_readOrder 60 = .ok (.invokevirtual 115, 3) := by decide +kernel
theorem dX5_readOrder_63 : decode cX5_readOrder 63 = .ok (.istore_n 2, 1) := by decide +kernel
theorem dX5_readOrder_64 : decode cX5_readOrder 64 = .ok (.aload_n 0, 1) := by decide +kernel
theorem dX5_readOrder_65 : decode cX5_readOrder 65 = .ok (.getfield 35, 3) := by decide +kernel
theorem dX5_readOrder_68 : decode cX5_readOrder 68 = .ok (.ifCond .ne 12, 3) := by decide +kernel
theorem dX5_readOrder_71 : decode cX5_readOrder 71 = .ok (.aload_n 0, 1) := by decide +kernel
theorem dX5_readOrder_72 : decode cX5_readOrder 72 = .ok (.ldc 205, 2) := by decide +kernel
theorem dX5_readOrder_74 : decode cX5_readOrder 74 = .ok (.invokevirtual 110, 3) := by decide +kernel
theorem dX5_readOrder_77 : decode cX5_readOrder 77 = .ok (.ifCond .ne 5, 3) := by decide +kernel
theorem dX5_readOrder_80 : decode cX5_readOrder 80 = .ok (.iconst 0, 1) := by decide +kernel
theorem dX5_readOrder_81 : decode cX5_readOrder 81 = .ok (.ireturn, 1) := by decide +kernel
theorem dX5_readOrder_82 : decode cX5_readOrder 82 = .ok (.aload_n 0, 1) := by decide +kernel
theorem dX5_readOrder_83 : decode cX5_readOrder 83 = .ok (.iconst 1, 1) := by decide +kernel
theorem dX5_readOrder_84 : decode cX5_readOrder 84 = .ok (.bipush 99, 2) := by decide +kernel
theorem dX5_readOrder_86 : decode cX5_readOrder 86 = .ok (.invokevirtual 115, 3) := by decide +kernel
theorem dX5_readOrder_89 : decode cX5_readOrder 89 = .ok (.istore_n 3, 1) := by decide +kernel
theorem dX5_readOrder_90 : decode cX5_readOrder 90 = .ok (.aload_n 0, 1) := by decide +kernel
theorem dX5_readOrder_91 : decode cX5_readOrder 91 = .ok (.getfield 35, 3) := by decide +kernel
theorem dX5_readOrder_94 : decode cX5_readOrder 94 = .ok (.ifCond .ne 12, 3) := by decide +kernel
theorem dX5_readOrder_97 : decode cX5_readOrder 97 = .ok (.aload_n 0, 1) := by decide +kernel
theorem dX5_readOrder_98 : decode cX5_readOrder 98 = .ok (.bipush 59, 2) := by decide +kernel
theorem dX5_readOrder_100 : decode cX5_readOrder 100 = .ok (.invokevirtual 121, 3) := by decide +kernel
theorem dX5_readOrder_103 : decode cX5_readOrder 103 = .ok (.ifCond .ne 5, 3) := by decide +kernel
theorem dX5_readOrder_106 : decode cX5_readOrder 106 = .ok (.iconst 0, 1) := by decide +kernel
theorem dX5_readOrder_107 : decode cX5_readOrder 107 = .ok (.ireturn, 1) := by decide +kernel
theorem dX5_readOrder_108 : decode cX5_readOrder 108 = .ok (.aload_n 0, 1) := by decide +kernel
theorem dX5_readOrder_109 : decode cX5_readOrder 109 = .ok (.getfield 19, 3) := by decide +kernel
theorem dX5_readOrder_112 : decode cX5_readOrder 112 = .ok (.getfield 85, 3) := by decide +kernel
theorem dX5_readOrder_115 : decode cX5_readOrder 115 = .ok (.iload_n 1, 1) := by decide +kernel
theorem dX5_readOrder_116 : decode cX5_readOrder 116 = .ok (.iload_n 2, 1) := by decide +kernel
theorem dX5_readOrder_117 : decode cX5_readOrder 117 = .ok (.iload_n 3, 1) := by decide +kernel
theorem dX5_readOrder_118 : decode cX5_readOrder 118 = .ok (.invokevirtual 207, 3) := by decide +kernel
theorem dX5_readOrder_121 : decode cX5_readOrder 121 = .ok (.pop, 1) := by decide +kernel
theorem dX5_readOrder_122 : decode cX5_readOrder 122 = .ok (.iconst 1, 1) := by decide +kernel
theorem dX5_readOrder_123 : decode cX5_readOrder 123 = .ok (.ireturn, 1) := by decide +kernel
abbrev rm_Reader_readOrder : Room := { frames := 6, cells := 0, slots := 0, locals := 131 }
def Reader_readOrder_j34 (σ : Sg) (x1 : Int32) (s1 : Int32) : Option (Bool × Sg) :=
  (Reader_askName σ s1).bind fun r34 =>
  zgt r34 2 6 fun v38 =>
  if v38 = 0 then (
    (Reader_readWord r34 18).bind fun r47 =>
    if (zb r47.1) = 0 then (
      some (false, r47.2)
    ) else (
      (Reader_readNumber r47.2 0 999).bind fun r60 =>
      zlt r60.1 fun v63 =>
      zgt r60.2 2 6 fun v65 =>
      if v65 = 0 then (
        (Reader_readWord r60.2 19).bind fun r74 =>
        if (zb r74.1) = 0 then (
          some (false, r74.2)
        ) else (
          (Reader_readNumber r74.2 1 99).bind fun r86 =>
          zlt r86.1 fun v89 =>
          zgt r86.2 2 6 fun v91 =>
          if v91 = 0 then (
            (Reader_readSign r86.2 59).bind fun r100 =>
            if (zb r100.1) = 0 then (
              some (false, r100.2)
            ) else (
              zmr2 3 29 (r100.2 2 5) fun q109 =>
              (Orders_add r100.2 (q109 + 16) x1 v63 v89).bind fun r118 =>
              some (true, r118.2)
            )
          ) else (
            some (false, r86.2)
          )
        )
      ) else (
        some (false, r60.2)
      )
    )
  ) else (
    some (false, r34)
  )
set_option maxRecDepth 20000 in
theorem t_Reader_readOrder_j34 {X : Zx} {Q : State → Prop} {σ : Sg} {x1 : Int32} {s1 : Int32} (ok : Zok X cX5_readOrder RX5 rm_Reader_readOrder 198 4)  {out : (Bool × Sg)} (hf : Reader_readOrder_j34 σ x1 s1 = some out) (hk : ZrI cX5_readOrder X Q (zb out.1) out.2) : ZAt X Q 0 0 34 σ [(0, .ref (X.ad 2)), (1, .int x1)] [.int s1, .ref (X.ad 2)] := by
  unfold Reader_readOrder_j34 at hf
  refine z_call hf (fun r34 h34 hf => ?_)
  refine z_cVv (As := [.int s1]) (rest := []) (w := 2) ok kc_2 zc_5 (c_Reader_askName h34) rfl ⟨ml_5_140, w_Reader_askName⟩ hy_Reader_askName ⟨rfl, rfl⟩ ⟨Nat.le_of_ble_eq_true rfl, Nat.le_of_ble_eq_true rfl⟩ ⟨Nat.zero_le _, Nat.zero_le _⟩ rfl (Nat.le_of_ble_eq_true rfl) dX5_readOrder_34 ?_
  refine z_aload_n ok dX5_readOrder_37 0 rfl ?_
  refine z_geti ok kc_2 zc_5 hin_5 6 (by decide) fl_5_35 rfl dX5_readOrder_38 hf (fun v38 hf => ?_)
  refine z_if_ne (tgt := 53) ok dX5_readOrder_41 (by decide) hf (fun _ hf => ?_) (fun _ hf => ?_)
  · refine z_aload_n ok dX5_readOrder_44 0 rfl ?_
    refine z_ldcS ok 18 rfl dX5_readOrder_45 ?_
    refine z_call hf (fun r47 h47 hf => ?_)
    refine z_cV (As := [.ref (X.ad (1000000 + 18))]) (rest := []) (w := 2) ok kc_2 zc_5 (c_Reader_readWord (by decide) h47) rfl ⟨ml_5_110, w_Reader_readWord⟩ hy_Reader_readWord ⟨rfl, rfl⟩ ⟨Nat.le_of_ble_eq_true rfl, Nat.le_of_ble_eq_true rfl⟩ ⟨Nat.zero_le _, Nat.zero_le _⟩ rfl (Nat.le_of_ble_eq_true rfl) dX5_readOrder_47 ?_
    refine z_if_ne (tgt := 55) ok dX5_readOrder_50 (by decide) hf (fun _ hf => ?_) (fun _ hf => ?_)
    · refine z_iconst (v := 0) ok dX5_readOrder_53 (by decide) ?_
      obtain rfl := Option.some.inj hf
      exact hk _ _ dX5_readOrder_54
    · refine z_aload_n ok dX5_readOrder_55 0 rfl ?_
      refine z_iconst (v := 0) ok dX5_readOrder_56 (by decide) ?_
      refine z_sipush (v := 999) ok dX5_readOrder_57 (by decide) ?_
      refine z_call hf (fun r60 h60 hf => ?_)
      refine z_cV (As := [.int 0, .int 999]) (rest := []) (w := 2) ok kc_2 zc_5 (c_Reader_readNumber h60) rfl ⟨ml_5_115, w_Reader_readNumber⟩ hy_Reader_readNumber ⟨rfl, rfl⟩ ⟨Nat.le_of_ble_eq_true rfl, Nat.le_of_ble_eq_true rfl⟩ ⟨Nat.zero_le _, Nat.zero_le _⟩ rfl (Nat.le_of_ble_eq_true rfl) dX5_readOrder_60 ?_
      refine z_nm hf (fun v63 hf => ?_)
      refine z_istore_n (lv' := [(2, .int v63), (0, .ref (X.ad 2)), (1, .int x1)]) ok dX5_readOrder_63 (by decide) rfl ?_
      refine z_aload_n ok dX5_readOrder_64 1 rfl ?_
      refine z_geti ok kc_2 zc_5 hin_5 6 (by decide) fl_5_35 rfl dX5_readOrder_65 hf (fun v65 hf => ?_)
      refine z_if_ne (tgt := 80) ok dX5_readOrder_68 (by decide) hf (fun _ hf => ?_) (fun _ hf => ?_)
      · refine z_aload_n ok dX5_readOrder_71 1 rfl ?_
        refine z_ldcS ok 19 rfl dX5_readOrder_72 ?_
        refine z_call hf (fun r74 h74 hf => ?_)
        refine z_cV (As := [.ref (X.ad (1000000 + 19))]) (rest := []) (w := 2) ok kc_2 zc_5 (c_Reader_readWord (by decide) h74) rfl ⟨ml_5_110, w_Reader_readWord⟩ hy_Reader_readWord ⟨rfl, rfl⟩ ⟨Nat.le_of_ble_eq_true rfl, Nat.le_of_ble_eq_true rfl⟩ ⟨Nat.zero_le _, Nat.zero_le _⟩ rfl (Nat.le_of_ble_eq_true rfl) dX5_readOrder_74 ?_
        refine z_if_ne (tgt := 82) ok dX5_readOrder_77 (by decide) hf (fun _ hf => ?_) (fun _ hf => ?_)
        · refine z_iconst (v := 0) ok dX5_readOrder_80 (by decide) ?_
          obtain rfl := Option.some.inj hf
          exact hk _ _ dX5_readOrder_81
        · refine z_aload_n ok dX5_readOrder_82 1 rfl ?_
          refine z_iconst (v := 1) ok dX5_readOrder_83 (by decide) ?_
          refine z_bipush (v := 99) ok dX5_readOrder_84 (by decide) ?_
          refine z_call hf (fun r86 h86 hf => ?_)
          refine z_cV (As := [.int 1, .int 99]) (rest := []) (w := 2) ok kc_2 zc_5 (c_Reader_readNumber h86) rfl ⟨ml_5_115, w_Reader_readNumber⟩ hy_Reader_readNumber ⟨rfl, rfl⟩ ⟨Nat.le_of_ble_eq_true rfl, Nat.le_of_ble_eq_true rfl⟩ ⟨Nat.zero_le _, Nat.zero_le _⟩ rfl (Nat.le_of_ble_eq_true rfl) dX5_readOrder_86 ?_
          refine z_nm hf (fun v89 hf => ?_)
          refine z_istore_n (lv' := [(3, .int v89), (2, .int v63), (0, .ref (X.ad 2)), (1, .int x1)]) ok dX5_readOrder_89 (by decide) rfl ?_
          refine z_aload_n ok dX5_readOrder_90 2 rfl ?_
          refine z_geti ok kc_2 zc_5 hin_5 6 (by decide) fl_5_35 rfl dX5_readOrder_91 hf (fun v91 hf => ?_)
          refine z_if_ne (tgt := 106) ok dX5_readOrder_94 (by decide) hf (fun _ hf => ?_) (fun _ hf => ?_)
          · refine z_aload_n ok dX5_readOrder_97 2 rfl ?_
            refine z_bipush (v := 59) ok dX5_readOrder_98 (by decide) ?_
            refine z_call hf (fun r100 h100 hf => ?_)
            refine z_cV (As := [.int 59]) (rest := []) (w := 2) ok kc_2 zc_5 (c_Reader_readSign h100) rfl ⟨ml_5_121, w_Reader_readSign⟩ hy_Reader_readSign ⟨rfl, rfl⟩ ⟨Nat.le_of_ble_eq_true rfl, Nat.le_of_ble_eq_true rfl⟩ ⟨Nat.zero_le _, Nat.zero_le _⟩ rfl (Nat.le_of_ble_eq_true rfl) dX5_readOrder_100 ?_
            refine z_if_ne (tgt := 108) ok dX5_readOrder_103 (by decide) hf (fun _ hf => ?_) (fun _ hf => ?_)
            · refine z_iconst (v := 0) ok dX5_readOrder_106 (by decide) ?_
              obtain rfl := Option.some.inj hf
              exact hk _ _ dX5_readOrder_107
            · refine z_aload_n ok dX5_readOrder_108 2 rfl ?_
              refine z_getm2 (p := 3) (q := 29) ok kc_2 zc_5 hin_5 5 (by decide) fl_5_19 rfl (by decide) (by decide) dX5_readOrder_109 hf (fun q109 e109 hf => ?_)
              have hq109 : zI_Works q109 198 := by rcases e109 with rfl | rfl; exact kI_Works_3; exact kI_Works_29
              obtain ⟨hq109_0, hq109_1, hq109_2, hq109_3, hq109_4, hq109_5, hq109_6, hq109_7, hq109_8, hq109_9, hq109_10, hq109_11, hq109_12, hq109_13, hq109_14, hq109_15, hq109_16, hq109_17, hq109_18, hq109_19, hq109_20, hq109_21, hq109_22, hq109_23, hq109_24, hq109_25⟩ := id hq109
              refine z_getr (q := (q109 + 16)) ok hq109_0 zc_10 hin_10 11 (by decide) fl_5_85 rfl dX5_readOrder_112 ?_
              refine z_iload_n ok dX5_readOrder_115 3 rfl ?_
              refine z_iload_n ok dX5_readOrder_116 1 rfl ?_
              refine z_iload_n ok dX5_readOrder_117 0 rfl ?_
              refine z_call hf (fun r118 h118 hf => ?_)
              refine z_cV (As := [.int x1, .int v63, .int v89]) (rest := []) (w := (q109 + 16)) ok hq109_16 zc_3 (c_Orders_add (zI_Works_16 hq109) h118) rfl ⟨ml_5_207, w_Orders_add⟩ hy_Orders_add ⟨rfl, rfl⟩ ⟨Nat.le_of_ble_eq_true rfl, Nat.le_of_ble_eq_true rfl⟩ ⟨Nat.zero_le _, Nat.zero_le _⟩ rfl (Nat.le_of_ble_eq_true rfl) dX5_readOrder_118 ?_
              refine z_pop ok dX5_readOrder_121 rfl ?_
              refine z_iconst (v := 1) ok dX5_readOrder_122 (by decide) ?_
              obtain rfl := Option.some.inj hf
              exact hk _ _ dX5_readOrder_123
          · refine z_iconst (v := 0) ok dX5_readOrder_106 (by decide) ?_
            obtain rfl := Option.some.inj hf
            exact hk _ _ dX5_readOrder_107
      · refine z_iconst (v := 0) ok dX5_readOrder_80 (by decide) ?_
        obtain rfl := Option.some.inj hf
        exact hk _ _ dX5_readOrder_81
  · refine z_iconst (v := 0) ok dX5_readOrder_53 (by decide) ?_
    obtain rfl := Option.some.inj hf
    exact hk _ _ dX5_readOrder_54
def Reader_readOrder (σ : Sg)  : Option (Bool × Sg) :=
  (Reader_readWord σ 17).bind fun r3 =>
  if (zb r3.1) = 0 then (
    some (false, r3.2)
  ) else (
    zmr2 3 29 (r3.2 2 5) fun q12 =>
    (Reader_readName r3.2).bind fun r16 =>
    (Works_outletOf r16.2 q12 r16.1).bind fun r19 =>
    zlt r19 fun v22 =>
    if v22 = (-1) then (
      Reader_readOrder_j34 r16.2 v22 0
    ) else (
      Reader_readOrder_j34 r16.2 v22 1
    )
  )
set_option maxRecDepth 20000 in
theorem t_Reader_readOrder {X : Zx} {Q : State → Prop} {σ : Sg}  (ok : Zok X cX5_readOrder RX5 rm_Reader_readOrder 198 4)  {out : (Bool × Sg)} (hf : Reader_readOrder σ = some out) (hk : ZrI cX5_readOrder X Q (zb out.1) out.2) : ZAt X Q 0 0 0 σ [(0, .ref (X.ad 2))] [] := by
  unfold Reader_readOrder at hf
  refine z_aload_n ok dX5_readOrder_0 0 rfl ?_
  refine z_ldcS ok 17 rfl dX5_readOrder_1 ?_
  refine z_call hf (fun r3 h3 hf => ?_)
  refine z_cV (As := [.ref (X.ad (1000000 + 17))]) (rest := []) (w := 2) ok kc_2 zc_5 (c_Reader_readWord (by decide) h3) rfl ⟨ml_5_110, w_Reader_readWord⟩ hy_Reader_readWord ⟨rfl, rfl⟩ ⟨Nat.le_of_ble_eq_true rfl, Nat.le_of_ble_eq_true rfl⟩ ⟨Nat.zero_le _, Nat.zero_le _⟩ rfl (Nat.le_of_ble_eq_true rfl) dX5_readOrder_3 ?_
  refine z_if_ne (tgt := 11) ok dX5_readOrder_6 (by decide) hf (fun _ hf => ?_) (fun _ hf => ?_)
  · refine z_iconst (v := 0) ok dX5_readOrder_9 (by decide) ?_
    obtain rfl := Option.some.inj hf
    exact hk _ _ dX5_readOrder_10
  · refine z_aload_n ok dX5_readOrder_11 0 rfl ?_
    refine z_getm2 (p := 3) (q := 29) ok kc_2 zc_5 hin_5 5 (by decide) fl_5_19 rfl (by decide) (by decide) dX5_readOrder_12 hf (fun q12 e12 hf => ?_)
    have hq12 : zI_Works q12 198 := by rcases e12 with rfl | rfl; exact kI_Works_3; exact kI_Works_29
    obtain ⟨hq12_0, hq12_1, hq12_2, hq12_3, hq12_4, hq12_5, hq12_6, hq12_7, hq12_8, hq12_9, hq12_10, hq12_11, hq12_12, hq12_13, hq12_14, hq12_15, hq12_16, hq12_17, hq12_18, hq12_19, hq12_20, hq12_21, hq12_22, hq12_23, hq12_24, hq12_25⟩ := id hq12
    refine z_aload_n ok dX5_readOrder_15 0 rfl ?_
    refine z_call hf (fun r16 h16 hf => ?_)
    refine z_cV (As := []) (rest := [.ref (X.ad q12)]) (w := 2) ok kc_2 zc_5 (c_Reader_readName h16) rfl ⟨ml_5_132, w_Reader_readName⟩ hy_Reader_readName ⟨rfl, rfl⟩ ⟨Nat.le_of_ble_eq_true rfl, Nat.le_of_ble_eq_true rfl⟩ ⟨Nat.zero_le _, Nat.zero_le _⟩ rfl (Nat.le_of_ble_eq_true rfl) dX5_readOrder_16 ?_
    refine z_call hf (fun r19 h19 hf => ?_)
    refine z_cV (As := [.int r16.1]) (rest := []) (w := q12) ok hq12_0 zc_10 (c_Works_outletOf hq12 h19) rfl ⟨ml_5_200, w_Works_outletOf⟩ hy_Works_outletOf ⟨rfl, rfl⟩ ⟨Nat.le_of_ble_eq_true rfl, Nat.le_of_ble_eq_true rfl⟩ ⟨Nat.zero_le _, Nat.zero_le _⟩ rfl (Nat.le_of_ble_eq_true rfl) dX5_readOrder_19 ?_
    refine z_nm hf (fun v22 hf => ?_)
    refine z_istore_n (lv' := [(1, .int v22), (0, .ref (X.ad 2))]) ok dX5_readOrder_22 (by decide) rfl ?_
    refine z_aload_n ok dX5_readOrder_23 1 rfl ?_
    refine z_iload_n ok dX5_readOrder_24 0 rfl ?_
    refine z_iconst (v := (-1)) ok dX5_readOrder_25 (by decide) ?_
    refine z_icmp_eq (tgt := 33) ok dX5_readOrder_26 (by decide) hf (fun _ hf => ?_) (fun _ hf => ?_)
    · refine z_iconst (v := 0) ok dX5_readOrder_33 (by decide) ?_
      exact z_sub [1, 0] rfl (t_Reader_readOrder_j34 ok hf hk)
    · refine z_iconst (v := 1) ok dX5_readOrder_29 (by decide) ?_
      refine z_goto (tgt := 34) ok dX5_readOrder_30 (by decide) ?_
      exact z_sub [1, 0] rfl (t_Reader_readOrder_j34 ok hf hk)
theorem c_Reader_readOrder {σ : Sg} {r : (Bool × Sg)} (h : Reader_readOrder σ = some r) : ZcI yX5_readOrder cX5_readOrder 4 .boolean rm_Reader_readOrder 198 (fun ad => [.ref (ad 2)]) σ (zb r.1) r.2 :=
  zmetI pn_5 rfl (fun _ => rfl) (fun _ => Nat.le_of_ble_eq_true rfl) (zb_nar _) (fun X Q ok hk => t_Reader_readOrder ok h hk)
theorem dX8_holds_0 : decode cX8_holds 0 = .ok (.iconst 0, 1) := by decide +kernel
theorem dX8_holds_1 : decode cX8_holds 1 = .ok (.istore_n 3, 1) := by decide +kernel
theorem dX8_holds_2 : decode cX8_holds 2 = .ok (.iload_n 3, 1) := by decide +kernel
theorem dX8_holds_3 : decode cX8_holds 3 = .ok (.aload_n 0, 1) := by decide +kernel
theorem dX8_holds_4 : decode cX8_holds 4 = .ok (.getfield 15, 3) := by decide +kernel
theorem dX8_holds_7 : decode cX8_holds 7 = .ok (.iload_n 1, 1) := by decide +kernel
theorem dX8_holds_8 : decode cX8_holds 8 = .ok (.iaload, 1) := by decide +kernel
theorem dX8_holds_9 : decode cX8_holds 9 = .ok (.if_icmp .ge 23, 3) := by decide +kernel
theorem dX8_holds_12 : decode cX8_holds 12 = .ok (.aload_n 0, 1) := by decide +kernel
theorem dX8_holds_13 : decode cX8_holds 13 = .ok (.getfield 20, 3) := by decide +kernel
theorem dX8_holds_16 : decode cX8_holds 16 = .ok (.iload_n 1, 1) := by decide +kernel
theorem dX8_holds_17 : decode cX8_holds 17 = .ok (.aaload, 1) := by decide +kernel
theorem dX8_holds_18 : decode cX8_holds 18 = .ok (.iload_n 3, 1) := by decide +kernel
theorem dX8_holds_19 : decode cX8_holds 19 = .ok (.iaload, 1) := by decide +kernel
theorem dX8_holds_20 : decode cX8_holds 20 = .ok (.iload_n 2, 1) := by decide +kernel
theorem dX8_holds_21 : decode cX8_holds 21 = .ok (.if_icmp .ne 5, 3) := by decide +kernel
theorem dX8_holds_24 : decode cX8_holds 24 = .ok (.iconst 1, 1) := by decide +kernel
theorem dX8_holds_25 : decode cX8_holds 25 = .ok (.ireturn, 1) := by decide +kernel
theorem dX8_holds_26 : decode cX8_holds 26 = .ok (.iinc 3 1, 3) := by decide +kernel
theorem dX8_holds_29 : decode cX8_holds 29 = .ok (.goto (-27), 3) := by decide +kernel
theorem dX8_holds_32 : decode cX8_holds 32 = .ok (.iconst 0, 1) := by decide +kernel
theorem dX8_holds_33 : decode cX8_holds 33 = .ok (.ireturn, 1) := by decide +kernel
abbrev rm_Turns_holds : Room := { frames := 0, cells := 0, slots := 0, locals := 0 }
def Turns_holds_l2 (σ : Sg) (w : Nat) (x1 : Int32) (x2 : Int32) (x3 : Int32) : Option (Int32 ⊕ (Bool ⊕ Int32)) :=
  zrd σ (w + 2) 2 x1 fun v8 =>
  if v8 ≤ x3 then (
    some (.inr (.inr x3))
  ) else (
    zelr (w + 4) 2 x1 fun q17 =>
    zrd σ q17 6 x3 fun v19 =>
    if v19 = x2 then (
      some (.inr (.inl true))
    ) else (
      zlt (x3 + 1) fun v26 =>
      some (.inl v26)
    )
  )
set_option maxRecDepth 20000 in
theorem t_Turns_holds_l2 {X : Zx} {Q : State → Prop} {σ : Sg} {w : Nat} {x1 : Int32} {x2 : Int32} {x3 : Int32} (ok : Zok X cX8_holds RX8 rm_Turns_holds 198 4) (hw : zI_Turns w 198) {out : (Int32 ⊕ (Bool ⊕ Int32))} (hf : Turns_holds_l2 σ w x1 x2 x3 = some out) (hk : zout (fun (s : Int32) => ZAt X Q 0 0 2 σ [(0, .ref (X.ad w)), (1, .int x1), (2, .int x2), (3, .int s)] []) (zout (fun (r : Bool) => ZrI cX8_holds X Q (zb r) σ) (fun (s : Int32) => ZAt X Q 0 0 32 σ [] [])) out) : ZAt X Q 0 0 2 σ [(0, .ref (X.ad w)), (1, .int x1), (2, .int x2), (3, .int x3)] [] := by
  unfold Turns_holds_l2 at hf
  obtain ⟨hw_0, hw_1, hw_2, hw_3, hw_4, hw_5⟩ := id hw
  refine z_iload_n ok dX8_holds_2 3 rfl ?_
  refine z_aload_n ok dX8_holds_3 0 rfl ?_
  refine z_getr (q := (w + 2)) ok hw_0 zc_8 hin_8 2 (by decide) fl_8_15 rfl dX8_holds_4 ?_
  refine z_iload_n ok dX8_holds_7 1 rfl ?_
  refine z_iald ok hw_2 dX8_holds_8 hf (fun v8 hf => ?_)
  refine z_icmp_ge (tgt := 32) ok dX8_holds_9 (by decide) hf (fun _ hf => ?_) (fun _ hf => ?_)
  · obtain rfl := Option.some.inj hf
    exact z_sub [] rfl hk
  · refine z_aload_n ok dX8_holds_12 0 rfl ?_
    refine z_getr (q := (w + 3)) ok hw_0 zc_8 hin_8 3 (by decide) fl_8_20 rfl dX8_holds_13 ?_
    refine z_iload_n ok dX8_holds_16 1 rfl ?_
    refine z_aaldr (p := (w + 4)) ok hw_3 (by decide) rfl dX8_holds_17 hf (fun q17 e17 hf => ?_)
    have hq17 : zk q17 198 (.inr (0, 6, [])) := (show ∀ q ∈ [(w + 4), (w + 5)], zk q 198 (.inr (0, 6, [])) from (List.forall_mem_cons.mpr ⟨hw_4, (List.forall_mem_cons.mpr ⟨hw_5, (fun _ h => absurd h List.not_mem_nil)⟩)⟩)) q17 e17
    refine z_iload_n ok dX8_holds_18 3 rfl ?_
    refine z_iald ok hq17 dX8_holds_19 hf (fun v19 hf => ?_)
    refine z_iload_n ok dX8_holds_20 2 rfl ?_
    refine z_icmp_ne (tgt := 26) ok dX8_holds_21 (by decide) hf (fun _ hf => ?_) (fun _ hf => ?_)
    · refine z_iconst (v := 1) ok dX8_holds_24 (by decide) ?_
      obtain rfl := Option.some.inj hf
      exact hk _ _ dX8_holds_25
    · refine z_iinc (w := 1) (lv' := fun v26 => [(3, .int v26), (0, .ref (X.ad w)), (1, .int x1), (2, .int x2)]) ok dX8_holds_26 3 rfl (by decide) (by decide) (fun _ => rfl) hf (fun v26 hf => ?_)
      refine z_goto (tgt := 2) ok dX8_holds_29 (by decide) ?_
      obtain rfl := Option.some.inj hf
      exact z_sub [1, 2, 3, 0] rfl hk
def Turns_holds (σ : Sg) (w : Nat) (x1 : Int32) (x2 : Int32) : Option Bool :=
  zlt 0 fun v1 =>
  (zit (fun (s : Int32) => Turns_holds_l2 σ w x1 x2 s) zFU v1).bind fun r => r.elim (fun r =>
  some r
  ) (fun r =>
  some false
  )
set_option maxRecDepth 20000 in
theorem t_Turns_holds {X : Zx} {Q : State → Prop} {σ : Sg} {w : Nat} {x1 : Int32} {x2 : Int32} (ok : Zok X cX8_holds RX8 rm_Turns_holds 198 4) (hw : zI_Turns w 198) {out : Bool} (hf : Turns_holds σ w x1 x2 = some out) (hk : ZrI cX8_holds X Q (zb out) σ) : ZAt X Q 0 0 0 σ [(0, .ref (X.ad w)), (1, .int x1), (2, .int x2)] [] := by
  unfold Turns_holds at hf
  obtain ⟨hw_0, hw_1, hw_2, hw_3, hw_4, hw_5⟩ := id hw
  refine z_iconst (v := 0) ok dX8_holds_0 (by decide) ?_
  refine z_nm hf (fun v1 hf => ?_)
  refine z_istore_n (lv' := [(3, .int v1), (0, .ref (X.ad w)), (1, .int x1), (2, .int x2)]) ok dX8_holds_1 (by decide) rfl ?_
  refine z_call hf (fun r hr hf => ?_)
  refine z_sub [1, 2, 3, 0] rfl (z_iter (fun (s : Int32) => σ) (fun (s : Int32) => [(0, .ref (X.ad w)), (1, .int x1), (2, .int x2), (3, .int s)]) (fun s o h1 h2 => t_Turns_holds_l2 ok hw h1 h2) _ _ _ hr ?_)
  cases r with
  | inl r =>
    obtain rfl := Option.some.inj hf
    exact hk
  | inr r =>
    simp only [Sum.elim_inr] at hf
    show ZAt X Q 0 0 32 σ [] []
    refine z_iconst (v := 0) ok dX8_holds_32 (by decide) ?_
    obtain rfl := Option.some.inj hf
    exact hk _ _ dX8_holds_33
theorem c_Turns_holds {σ : Sg} {w : Nat} {x1 : Int32} {x2 : Int32} (hw : zI_Turns w 198) {r : Bool} (h : Turns_holds σ w x1 x2 = some r) : ZcI yX8_holds cX8_holds 4 .boolean rm_Turns_holds 198 (fun ad => [.ref (ad w), .int x1, .int x2]) σ (zb r) σ :=
  zmetI pn_8 rfl (fun _ => rfl) (fun _ => Nat.le_of_ble_eq_true rfl) (zb_nar _) (fun X Q ok hk => t_Turns_holds ok hw h hk)
theorem dX5_readTurnName_0 : decode cX5_readTurnName 0 = .ok (.aload_n 0, 1) := by decide +kernel
theorem dX5_readTurnName_1 : decode cX5_readTurnName 1 = .ok (.getfield 19, 3) := by decide +kernel
theorem dX5_readTurnName_4 : decode cX5_readTurnName 4 = .ok (.getfield 99, 3) := by decide +kernel
theorem dX5_readTurnName_7 : decode cX5_readTurnName 7 = .ok (.astore_n 2, 1) := by decide +kernel
theorem dX5_readTurnName_8 : decode cX5_readTurnName 8 = .ok (.aload_n 0, 1) := by decide +kernel
theorem dX5_readTurnName_9 : decode cX5_readTurnName 9 = .ok (.getfield 19, 3) := by decide +kernel
theorem dX5_readTurnName_12 : decode cX5_readTurnName 12 = .ok (.aload_n 0, 1) := by decide +kernel
theorem dX5_readTurnName_13 : decode cX5_readTurnName 13 = .ok (.invokevirtual 132, 3) := by decide +kernel
theorem dX5_readTurnName_16 : decode cX5_readTurnName 16 = .ok (.invokevirtual 200, 3) := by decide +kernel
theorem dX5_readTurnName_19 : decode cX5_readTurnName 19 = .ok (.istore_n 3, 1) := by decide +kernel
theorem dX5_readTurnName_20 : decode cX5_readTurnName 20 = .ok (.aload_n 0, 1) := by decide +kernel
theorem dX5_readTurnName_21 : decode cX5_readTurnName 21 = .ok (.iload_n 3, 1) := by decide +kernel
theorem dX5_readTurnName_22 : decode cX5_readTurnName 22 = .ok (.iconst (-1), 1) := by decide +kernel
theorem dX5_readTurnName_23 : decode cX5_readTurnName 23 = .ok (.if_icmp .eq 16, 3) := by decide +kernel
theorem dX5_readTurnName_26 : decode cX5_readTurnName 26 = .ok (.aload_n 2, 1) := by decide +kernel
theorem dX5_readTurnName_27 : decode cX5_readTurnName 27 = .ok (.iload_n 1, 1) := by decide +kernel
theorem dX5_readTurnName_28 : decode cX5_readTurnName 28 = .ok (.iload_n 3, 1) := by decide +kernel
theorem dX5_readTurnName_29 : decode cX5_readTurnName 29 = .ok (.invokevirtual 226, 3) := by decide +kernel
theorem dX5_readTurnName_32 : decode cX5_readTurnName 32 = .ok (.ifCond .ne 7, 3) := by decide +kernel
theorem dX5_readTurnName_35 : decode cX5_readTurnName 35 = .ok (.iconst 1, 1) := by decide +kernel
theorem dX5_readTurnName_36 : decode cX5_readTurnName 36 = .ok (.goto 4, 3) := by decide +kernel
theorem dX5_readTurnName_39 : decode cX5_readTurnName 39 = .ok (.iconst 0, 1) := by decide +kernel
theorem dX5_readTurnName_40 : decode cX5_readTurnName 40 = .ok (.invokevirtual 140, 3) := by decide +kernel
theorem dX5_readTurnName_43 : decode cX5_readTurnName 43 = .ok (.aload_n 0, 1) := by decide +kernel
theorem dX5_readTurnName_44 : decode cX5_readTurnName 44 = .ok (.getfield 35, 3) := by decide +kernel
theorem dX5_readTurnName_47 : decode cX5_readTurnName 47 = .ok (.ifCond .ne 14, 3) := by decide +kernel
theorem dX5_readTurnName_50 : decode cX5_readTurnName 50 = .ok (.aload_n 2, 1) := by decide +kernel
theorem dX5_readTurnName_51 : decode cX5_readTurnName 51 = .ok (.getfield 211, 3) := by decide +kernel
theorem dX5_readTurnName_54 : decode cX5_readTurnName 54 = .ok (.iload_n 1, 1) := by decide +kernel
theorem dX5_readTurnName_55 : decode cX5_readTurnName 55 = .ok (.iaload, 1) := by decide +kernel
theorem dX5_readTurnName_56 : decode cX5_readTurnName 56 = .ok (.bipush 6, 2) := by decide +kernel
theorem dX5_readTurnName_58 : decode cX5_readTurnName 58 = .ok (.if_icmp .lt 5, 3) := by decide +kernel
theorem dX5_readTurnName_61 : decode cX5_readTurnName 61 = .ok (.iconst 0, 1) := by decide +kernel
theorem dX5_readTurnName_62 : decode cX5_readTurnName 62 = .ok (.ireturn, 1) := by decide +kernel
theorem dX5_readTurnName_63 : decode cX5_readTurnName 63 = .ok (.aload_n 2, 1) := by decide +kernel
theorem dX5_readTurnName_64 : decode cX5_readTurnName 64 = .ok (.getfield 228, 3) := by decide +kernel
theorem dX5_readTurnName_67 : decode cX5_readTurnName 67 = .ok (.iload_n 1, 1) := by decide +kernel
theorem dX5_readTurnName_68 : decode cX5_readTurnName 68 = .ok (.aaload, 1) := by decide +kernel
theorem dX5_readTurnName_69 : decode cX5_readTurnName 69 = .ok (.aload_n 2, 1) := by decide +kernel
theorem dX5_readTurnName_70 : decode cX5_readTurnName 70 = .ok (.getfield 211, 3) := by decide +kernel
theorem dX5_readTurnName_73 : decode cX5_readTurnName 73 = .ok (.iload_n 1, 1) := by decide +kernel
theorem dX5_readTurnName_74 : decode cX5_readTurnName 74 = .ok (.iaload, 1) := by decide +kernel
theorem dX5_readTurnName_75 : decode cX5_readTurnName 75 = .ok (.iload_n 3, 1) := by decide +kernel
theorem dX5_readTurnName_76 : decode cX5_readTurnName 76 = .ok (.iastore, 1) := by decide +kernel
theorem dX5_readTurnName_77 : decode cX5_readTurnName 77 = .ok (.aload_n 2, 1) := by decide +kernel
theorem dX5_readTurnName_78 : decode cX5_readTurnName 78 = .ok (.getfield 211, 3) := by decide +kernel
theorem dX5_readTurnName_81 : decode cX5_readTurnName 81 = .ok (.iload_n 1, 1) := by decide +kernel
theorem dX5_readTurnName_82 : decode cX5_readTurnName 82 = .ok (.dup2, 1) := by decide +kernel
theorem dX5_readTurnName_83 : decode cX5_readTurnName 83 = .ok (.iaload, 1) := by decide +kernel
theorem dX5_readTurnName_84 : decode cX5_readTurnName 84 = .ok (.iconst 1, 1) := by decide +kernel
theorem dX5_readTurnName_85 : decode cX5_readTurnName 85 = .ok (.iadd, 1) := by decide +kernel
theorem dX5_readTurnName_86 : decode cX5_readTurnName 86 = .ok (.iastore, 1) := by decide +kernel
theorem dX5_readTurnName_87 : decode cX5_readTurnName 87 = .ok (.iconst 1, 1) := by decide +kernel
theorem dX5_readTurnName_88 : decode cX5_readTurnName 88 = .ok (.ireturn, 1) := by decide +kernel
abbrev rm_Reader_readTurnName : Room := { frames := 6, cells := 0, slots := 0, locals := 131 }
def Reader_readTurnName_j40 (σ : Sg) (q1 : Nat) (x1 : Int32) (x3 : Int32) (s1 : Int32) : Option (Bool × Sg) :=
  (Reader_askName σ s1).bind fun r40 =>
  zgt r40 2 6 fun v44 =>
  if v44 = 0 then (
    zrd r40 (q1 + 22) 2 x1 fun v55 =>
    if v55 < 6 then (
      zelr (q1 + 24) 2 x1 fun q68 =>
      zrd r40 (q1 + 22) 2 x1 fun v74 =>
      zwr r40 q68 6 v74 x3 fun σ76 =>
      zrd σ76 (q1 + 22) 2 x1 fun v83 =>
      zwr σ76 (q1 + 22) 2 x1 (v83 + 1) fun σ86 =>
      some (true, σ86)
    ) else (
      some (false, r40)
    )
  ) else (
    some (false, r40)
  )
set_option maxRecDepth 20000 in
theorem t_Reader_readTurnName_j40 {X : Zx} {Q : State → Prop} {σ : Sg} {q1 : Nat} {x1 : Int32} {x3 : Int32} {s1 : Int32} (ok : Zok X cX5_readTurnName RX5 rm_Reader_readTurnName 198 4) (hq1 : zI_Works q1 198) {out : (Bool × Sg)} (hf : Reader_readTurnName_j40 σ q1 x1 x3 s1 = some out) (hk : ZrI cX5_readTurnName X Q (zb out.1) out.2) : ZAt X Q 0 0 40 σ [(0, .ref (X.ad 2)), (1, .int x1), (2, .ref (X.ad (q1 + 20))), (3, .int x3)] [.int s1, .ref (X.ad 2)] := by
  unfold Reader_readTurnName_j40 at hf
  obtain ⟨hq1_0, hq1_1, hq1_2, hq1_3, hq1_4, hq1_5, hq1_6, hq1_7, hq1_8, hq1_9, hq1_10, hq1_11, hq1_12, hq1_13, hq1_14, hq1_15, hq1_16, hq1_17, hq1_18, hq1_19, hq1_20, hq1_21, hq1_22, hq1_23, hq1_24, hq1_25⟩ := id hq1
  refine z_call hf (fun r40 h40 hf => ?_)
  refine z_cVv (As := [.int s1]) (rest := []) (w := 2) ok kc_2 zc_5 (c_Reader_askName h40) rfl ⟨ml_5_140, w_Reader_askName⟩ hy_Reader_askName ⟨rfl, rfl⟩ ⟨Nat.le_of_ble_eq_true rfl, Nat.le_of_ble_eq_true rfl⟩ ⟨Nat.zero_le _, Nat.zero_le _⟩ rfl (Nat.le_of_ble_eq_true rfl) dX5_readTurnName_40 ?_
  refine z_aload_n ok dX5_readTurnName_43 0 rfl ?_
  refine z_geti ok kc_2 zc_5 hin_5 6 (by decide) fl_5_35 rfl dX5_readTurnName_44 hf (fun v44 hf => ?_)
  refine z_if_ne (tgt := 61) ok dX5_readTurnName_47 (by decide) hf (fun _ hf => ?_) (fun _ hf => ?_)
  · refine z_aload_n ok dX5_readTurnName_50 2 rfl ?_
    refine z_getr (q := (q1 + 22)) ok hq1_20 zc_8 hin_8 2 (by decide) fl_5_211 rfl dX5_readTurnName_51 ?_
    refine z_iload_n ok dX5_readTurnName_54 1 rfl ?_
    refine z_iald ok hq1_22 dX5_readTurnName_55 hf (fun v55 hf => ?_)
    refine z_bipush (v := 6) ok dX5_readTurnName_56 (by decide) ?_
    refine z_icmp_lt (tgt := 63) ok dX5_readTurnName_58 (by decide) hf (fun _ hf => ?_) (fun _ hf => ?_)
    · refine z_aload_n ok dX5_readTurnName_63 2 rfl ?_
      refine z_getr (q := (q1 + 23)) ok hq1_20 zc_8 hin_8 3 (by decide) fl_5_228 rfl dX5_readTurnName_64 ?_
      refine z_iload_n ok dX5_readTurnName_67 1 rfl ?_
      refine z_aaldr (p := (q1 + 24)) ok hq1_23 (by decide) rfl dX5_readTurnName_68 hf (fun q68 e68 hf => ?_)
      have hq68 : zk q68 198 (.inr (0, 6, [])) := (show ∀ q ∈ [(q1 + 24), (q1 + 25)], zk q 198 (.inr (0, 6, [])) from (List.forall_mem_cons.mpr ⟨hq1_24, (List.forall_mem_cons.mpr ⟨hq1_25, (fun _ h => absurd h List.not_mem_nil)⟩)⟩)) q68 e68
      refine z_aload_n ok dX5_readTurnName_69 2 rfl ?_
      refine z_getr (q := (q1 + 22)) ok hq1_20 zc_8 hin_8 2 (by decide) fl_5_211 rfl dX5_readTurnName_70 ?_
      refine z_iload_n ok dX5_readTurnName_73 1 rfl ?_
      refine z_iald ok hq1_22 dX5_readTurnName_74 hf (fun v74 hf => ?_)
      refine z_iload_n ok dX5_readTurnName_75 3 rfl ?_
      refine z_iast ok hq68 dX5_readTurnName_76 hf (fun σ76 hf => ?_)
      refine z_aload_n ok dX5_readTurnName_77 2 rfl ?_
      refine z_getr (q := (q1 + 22)) ok hq1_20 zc_8 hin_8 2 (by decide) fl_5_211 rfl dX5_readTurnName_78 ?_
      refine z_iload_n ok dX5_readTurnName_81 1 rfl ?_
      refine z_dup2 ok dX5_readTurnName_82 rfl rfl ?_
      refine z_iald ok hq1_22 dX5_readTurnName_83 hf (fun v83 hf => ?_)
      refine z_iconst (v := 1) ok dX5_readTurnName_84 (by decide) ?_
      refine z_iadd ok dX5_readTurnName_85 ?_
      refine z_iast ok hq1_22 dX5_readTurnName_86 hf (fun σ86 hf => ?_)
      refine z_iconst (v := 1) ok dX5_readTurnName_87 (by decide) ?_
      obtain rfl := Option.some.inj hf
      exact hk _ _ dX5_readTurnName_88
    · refine z_iconst (v := 0) ok dX5_readTurnName_61 (by decide) ?_
      obtain rfl := Option.some.inj hf
      exact hk _ _ dX5_readTurnName_62
  · refine z_iconst (v := 0) ok dX5_readTurnName_61 (by decide) ?_
    obtain rfl := Option.some.inj hf
    exact hk _ _ dX5_readTurnName_62
def Reader_readTurnName_j39 (σ : Sg) (q1 : Nat) (x1 : Int32) (x3 : Int32) : Option (Bool × Sg) :=
  Reader_readTurnName_j40 σ q1 x1 x3 0
set_option maxRecDepth 20000 in
theorem t_Reader_readTurnName_j39 {X : Zx} {Q : State → Prop} {σ : Sg} {q1 : Nat} {x1 : Int32} {x3 : Int32} (ok : Zok X cX5_readTurnName RX5 rm_Reader_readTurnName 198 4) (hq1 : zI_Works q1 198) {out : (Bool × Sg)} (hf : Reader_readTurnName_j39 σ q1 x1 x3 = some out) (hk : ZrI cX5_readTurnName X Q (zb out.1) out.2) : ZAt X Q 0 0 39 σ [(0, .ref (X.ad 2)), (1, .int x1), (2, .ref (X.ad (q1 + 20))), (3, .int x3)] [.ref (X.ad 2)] := by
  unfold Reader_readTurnName_j39 at hf
  obtain ⟨hq1_0, hq1_1, hq1_2, hq1_3, hq1_4, hq1_5, hq1_6, hq1_7, hq1_8, hq1_9, hq1_10, hq1_11, hq1_12, hq1_13, hq1_14, hq1_15, hq1_16, hq1_17, hq1_18, hq1_19, hq1_20, hq1_21, hq1_22, hq1_23, hq1_24, hq1_25⟩ := id hq1
  refine z_iconst (v := 0) ok dX5_readTurnName_39 (by decide) ?_
  exact z_sub [0, 1, 2, 3] rfl (t_Reader_readTurnName_j40 ok hq1 hf hk)
def Reader_readTurnName (σ : Sg) (x1 : Int32) : Option (Bool × Sg) :=
  zmr2 3 29 (σ 2 5) fun q1 =>
  zmr2 3 29 (σ 2 5) fun q9 =>
  (Reader_readName σ).bind fun r13 =>
  (Works_outletOf r13.2 q9 r13.1).bind fun r16 =>
  zlt r16 fun v19 =>
  if v19 = (-1) then (
    Reader_readTurnName_j39 r13.2 q1 x1 v19
  ) else (
    (Turns_holds r13.2 (q1 + 20) x1 v19).bind fun r29 =>
    if (zb r29) = 0 then (
      Reader_readTurnName_j40 r13.2 q1 x1 v19 1
    ) else (
      Reader_readTurnName_j39 r13.2 q1 x1 v19
    )
  )
set_option maxRecDepth 20000 in
theorem t_Reader_readTurnName {X : Zx} {Q : State → Prop} {σ : Sg} {x1 : Int32} (ok : Zok X cX5_readTurnName RX5 rm_Reader_readTurnName 198 4)  {out : (Bool × Sg)} (hf : Reader_readTurnName σ x1 = some out) (hk : ZrI cX5_readTurnName X Q (zb out.1) out.2) : ZAt X Q 0 0 0 σ [(0, .ref (X.ad 2)), (1, .int x1)] [] := by
  unfold Reader_readTurnName at hf
  refine z_aload_n ok dX5_readTurnName_0 0 rfl ?_
  refine z_getm2 (p := 3) (q := 29) ok kc_2 zc_5 hin_5 5 (by decide) fl_5_19 rfl (by decide) (by decide) dX5_readTurnName_1 hf (fun q1 e1 hf => ?_)
  have hq1 : zI_Works q1 198 := by rcases e1 with rfl | rfl; exact kI_Works_3; exact kI_Works_29
  obtain ⟨hq1_0, hq1_1, hq1_2, hq1_3, hq1_4, hq1_5, hq1_6, hq1_7, hq1_8, hq1_9, hq1_10, hq1_11, hq1_12, hq1_13, hq1_14, hq1_15, hq1_16, hq1_17, hq1_18, hq1_19, hq1_20, hq1_21, hq1_22, hq1_23, hq1_24, hq1_25⟩ := id hq1
  refine z_getr (q := (q1 + 20)) ok hq1_0 zc_10 hin_10 12 (by decide) fl_5_99 rfl dX5_readTurnName_4 ?_
  refine z_astore_n (lv' := [(2, .ref (X.ad (q1 + 20))), (0, .ref (X.ad 2)), (1, .int x1)]) ok dX5_readTurnName_7 (by decide) rfl ?_
  refine z_aload_n ok dX5_readTurnName_8 1 rfl ?_
  refine z_getm2 (p := 3) (q := 29) ok kc_2 zc_5 hin_5 5 (by decide) fl_5_19 rfl (by decide) (by decide) dX5_readTurnName_9 hf (fun q9 e9 hf => ?_)
  have hq9 : zI_Works q9 198 := by rcases e9 with rfl | rfl; exact kI_Works_3; exact kI_Works_29
  obtain ⟨hq9_0, hq9_1, hq9_2, hq9_3, hq9_4, hq9_5, hq9_6, hq9_7, hq9_8, hq9_9, hq9_10, hq9_11, hq9_12, hq9_13, hq9_14, hq9_15, hq9_16, hq9_17, hq9_18, hq9_19, hq9_20, hq9_21, hq9_22, hq9_23, hq9_24, hq9_25⟩ := id hq9
  refine z_aload_n ok dX5_readTurnName_12 1 rfl ?_
  refine z_call hf (fun r13 h13 hf => ?_)
  refine z_cV (As := []) (rest := [.ref (X.ad q9)]) (w := 2) ok kc_2 zc_5 (c_Reader_readName h13) rfl ⟨ml_5_132, w_Reader_readName⟩ hy_Reader_readName ⟨rfl, rfl⟩ ⟨Nat.le_of_ble_eq_true rfl, Nat.le_of_ble_eq_true rfl⟩ ⟨Nat.zero_le _, Nat.zero_le _⟩ rfl (Nat.le_of_ble_eq_true rfl) dX5_readTurnName_13 ?_
  refine z_call hf (fun r16 h16 hf => ?_)
  refine z_cV (As := [.int r13.1]) (rest := []) (w := q9) ok hq9_0 zc_10 (c_Works_outletOf hq9 h16) rfl ⟨ml_5_200, w_Works_outletOf⟩ hy_Works_outletOf ⟨rfl, rfl⟩ ⟨Nat.le_of_ble_eq_true rfl, Nat.le_of_ble_eq_true rfl⟩ ⟨Nat.zero_le _, Nat.zero_le _⟩ rfl (Nat.le_of_ble_eq_true rfl) dX5_readTurnName_16 ?_
  refine z_nm hf (fun v19 hf => ?_)
  refine z_istore_n (lv' := [(3, .int v19), (2, .ref (X.ad (q1 + 20))), (0, .ref (X.ad 2)), (1, .int x1)]) ok dX5_readTurnName_19 (by decide) rfl ?_
  refine z_aload_n ok dX5_readTurnName_20 2 rfl ?_
  refine z_iload_n ok dX5_readTurnName_21 0 rfl ?_
  refine z_iconst (v := (-1)) ok dX5_readTurnName_22 (by decide) ?_
  refine z_icmp_eq (tgt := 39) ok dX5_readTurnName_23 (by decide) hf (fun _ hf => ?_) (fun _ hf => ?_)
  · exact z_sub [2, 3, 1, 0] rfl (t_Reader_readTurnName_j39 ok hq1 hf hk)
  · refine z_aload_n ok dX5_readTurnName_26 1 rfl ?_
    refine z_iload_n ok dX5_readTurnName_27 3 rfl ?_
    refine z_iload_n ok dX5_readTurnName_28 0 rfl ?_
    refine z_call hf (fun r29 h29 hf => ?_)
    refine z_cV (As := [.int x1, .int v19]) (rest := [.ref (X.ad 2)]) (w := (q1 + 20)) ok hq1_20 zc_8 (c_Turns_holds (zI_Works_20 hq1) h29) rfl ⟨ml_5_226, w_Turns_holds⟩ hy_Turns_holds ⟨rfl, rfl⟩ ⟨Nat.le_of_ble_eq_true rfl, Nat.le_of_ble_eq_true rfl⟩ ⟨Nat.zero_le _, Nat.zero_le _⟩ rfl (Nat.le_of_ble_eq_true rfl) dX5_readTurnName_29 ?_
    refine z_if_ne (tgt := 39) ok dX5_readTurnName_32 (by decide) hf (fun _ hf => ?_) (fun _ hf => ?_)
    · refine z_iconst (v := 1) ok dX5_readTurnName_35 (by decide) ?_
      refine z_goto (tgt := 40) ok dX5_readTurnName_36 (by decide) ?_
      exact z_sub [2, 3, 1, 0] rfl (t_Reader_readTurnName_j40 ok hq1 hf hk)
    · exact z_sub [2, 3, 1, 0] rfl (t_Reader_readTurnName_j39 ok hq1 hf hk)
theorem c_Reader_readTurnName {σ : Sg} {x1 : Int32} {r : (Bool × Sg)} (h : Reader_readTurnName σ x1 = some r) : ZcI yX5_readTurnName cX5_readTurnName 4 .boolean rm_Reader_readTurnName 198 (fun ad => [.ref (ad 2), .int x1]) σ (zb r.1) r.2 :=
  zmetI pn_5 rfl (fun _ => rfl) (fun _ => Nat.le_of_ble_eq_true rfl) (zb_nar _) (fun X Q ok hk => t_Reader_readTurnName ok h hk)
theorem dX5_failBehindLastTurn_0 : decode cX5_failBehindLastTurn 0 = .ok (.aload_n 0, 1) := by decide +kernel
theorem dX5_failBehindLastTurn_1 : decode cX5_failBehindLastTurn 1 = .ok (.dup, 1) := by decide +kernel
theorem dX5_failBehindLastTurn_2 : decode cX5_failBehindLastTurn 2 = .ok (.getfield 28, 3) := by decide +kernel
theorem dX5_failBehindLastTurn_5 : decode cX5_failBehindLastTurn 5 = .ok (.iconst 1, 1) := by decide +kernel
theorem dX5_failBehindLastTurn_6 : decode cX5_failBehindLastTurn 6 = .ok (.iadd, 1) := by decide +kernel
theorem dX5_failBehindLastTurn_7 : decode cX5_failBehindLastTurn 7 = .ok (.putfield 28, 3) := by decide +kernel
theorem dX5_failBehindLastTurn_10 : decode cX5_failBehindLastTurn 10 = .ok (.aload_n 0, 1) := by decide +kernel
theorem dX5_failBehindLastTurn_11 : decode cX5_failBehindLastTurn 11 = .ok (.invokevirtual 41, 3) := by decide +kernel
theorem dX5_failBehindLastTurn_14 : decode cX5_failBehindLastTurn 14 = .ok (.aload_n 0, 1) := by decide +kernel
theorem dX5_failBehindLastTurn_15 : decode cX5_failBehindLastTurn 15 = .ok (.getfield 28, 3) := by decide +kernel
theorem dX5_failBehindLastTurn_18 : decode cX5_failBehindLastTurn 18 = .ok (.aload_n 0, 1) := by decide +kernel
theorem dX5_failBehindLastTurn_19 : decode cX5_failBehindLastTurn 19 = .ok (.getfield 15, 3) := by decide +kernel
theorem dX5_failBehindLastTurn_22 : decode cX5_failBehindLastTurn 22 = .ok (.if_icmp .ge 15, 3) := by decide +kernel
theorem dX5_failBehindLastTurn_25 : decode cX5_failBehindLastTurn 25 = .ok (.aload_n 0, 1) := by decide +kernel
theorem dX5_failBehindLastTurn_26 : decode cX5_failBehindLastTurn 26 = .ok (.iconst 5, 1) := by decide +kernel
theorem dX5_failBehindLastTurn_27 : decode cX5_failBehindLastTurn 27 = .ok (.aload_n 0, 1) := by decide +kernel
theorem dX5_failBehindLastTurn_28 : decode cX5_failBehindLastTurn 28 = .ok (.getfield 28, 3) := by decide +kernel
theorem dX5_failBehindLastTurn_31 : decode cX5_failBehindLastTurn 31 = .ok (.invokevirtual 51, 3) := by decide +kernel
theorem dX5_failBehindLastTurn_34 : decode cX5_failBehindLastTurn 34 = .ok (.goto 12, 3) := by decide +kernel
theorem dX5_failBehindLastTurn_37 : decode cX5_failBehindLastTurn 37 = .ok (.aload_n 0, 1) := by decide +kernel
theorem dX5_failBehindLastTurn_38 : decode cX5_failBehindLastTurn 38 = .ok (.iconst 1, 1) := by decide +kernel
theorem dX5_failBehindLastTurn_39 : decode cX5_failBehindLastTurn 39 = .ok (.aload_n 0, 1) := by decide +kernel
theorem dX5_failBehindLastTurn_40 : decode cX5_failBehindLastTurn 40 = .ok (.getfield 15, 3) := by decide +kernel
theorem dX5_failBehindLastTurn_43 : decode cX5_failBehindLastTurn 43 = .ok (.invokevirtual 51, 3) := by decide +kernel
theorem dX5_failBehindLastTurn_46 : decode cX5_failBehindLastTurn 46 = .ok (.ireturn, 1) := by decide +kernel
abbrev rm_Reader_failBehindLastTurn : Room := { frames := 1, cells := 0, slots := 0, locals := 22 }
def Reader_failBehindLastTurn (σ : Sg)  : Option (Bool × Sg) :=
  zgt σ 2 2 fun v2 =>
  zpt σ 2 2 (v2 + 1) fun σ7 =>
  (Reader_skipBlanks σ7).bind fun r11 =>
  zgt r11 2 2 fun v15 =>
  zgt r11 2 1 fun v19 =>
  if v19 ≤ v15 then (
    zgt r11 2 1 fun v40 =>
    (Reader_fail r11 1 v40).bind fun r43 =>
    some (r43.1, r43.2)
  ) else (
    zgt r11 2 2 fun v28 =>
    (Reader_fail r11 5 v28).bind fun r31 =>
    some (r31.1, r31.2)
  )
set_option maxRecDepth 20000 in
theorem t_Reader_failBehindLastTurn {X : Zx} {Q : State → Prop} {σ : Sg}  (ok : Zok X cX5_failBehindLastTurn RX5 rm_Reader_failBehindLastTurn 198 1)  {out : (Bool × Sg)} (hf : Reader_failBehindLastTurn σ = some out) (hk : ZrI cX5_failBehindLastTurn X Q (zb out.1) out.2) : ZAt X Q 0 0 0 σ [(0, .ref (X.ad 2))] [] := by
  unfold Reader_failBehindLastTurn at hf
  refine z_aload_n ok dX5_failBehindLastTurn_0 0 rfl ?_
  refine z_dup ok dX5_failBehindLastTurn_1 rfl ?_
  refine z_geti ok kc_2 zc_5 hin_5 2 (by decide) fl_5_28 rfl dX5_failBehindLastTurn_2 hf (fun v2 hf => ?_)
  refine z_iconst (v := 1) ok dX5_failBehindLastTurn_5 (by decide) ?_
  refine z_iadd ok dX5_failBehindLastTurn_6 ?_
  refine z_puti ok kc_2 zc_5 hin_5 tyX5 tyX5_ok nmX5 2 (by decide) fl_5_28 rfl rfl (tyX5_ok 2 (by decide)) dX5_failBehindLastTurn_7 hf (fun σ7 hf => ?_)
  refine z_aload_n ok dX5_failBehindLastTurn_10 0 rfl ?_
  refine z_call hf (fun r11 h11 hf => ?_)
  refine z_cVv (As := []) (rest := []) (w := 2) ok kc_2 zc_5 (c_Reader_skipBlanks h11) rfl ⟨ml_5_41, w_Reader_skipBlanks⟩ hy_Reader_skipBlanks ⟨rfl, rfl⟩ ⟨Nat.le_of_ble_eq_true rfl, Nat.le_of_ble_eq_true rfl⟩ ⟨Nat.zero_le _, Nat.zero_le _⟩ rfl (Nat.le_of_ble_eq_true rfl) dX5_failBehindLastTurn_11 ?_
  refine z_aload_n ok dX5_failBehindLastTurn_14 0 rfl ?_
  refine z_geti ok kc_2 zc_5 hin_5 2 (by decide) fl_5_28 rfl dX5_failBehindLastTurn_15 hf (fun v15 hf => ?_)
  refine z_aload_n ok dX5_failBehindLastTurn_18 0 rfl ?_
  refine z_geti ok kc_2 zc_5 hin_5 1 (by decide) fl_5_15 rfl dX5_failBehindLastTurn_19 hf (fun v19 hf => ?_)
  refine z_icmp_ge (tgt := 37) ok dX5_failBehindLastTurn_22 (by decide) hf (fun _ hf => ?_) (fun _ hf => ?_)
  · refine z_aload_n ok dX5_failBehindLastTurn_37 0 rfl ?_
    refine z_iconst (v := 1) ok dX5_failBehindLastTurn_38 (by decide) ?_
    refine z_aload_n ok dX5_failBehindLastTurn_39 0 rfl ?_
    refine z_geti ok kc_2 zc_5 hin_5 1 (by decide) fl_5_15 rfl dX5_failBehindLastTurn_40 hf (fun v40 hf => ?_)
    refine z_call hf (fun r43 h43 hf => ?_)
    refine z_cV (As := [.int 1, .int v40]) (rest := []) (w := 2) ok kc_2 zc_5 (c_Reader_fail h43) rfl ⟨ml_5_51, w_Reader_fail⟩ hy_Reader_fail ⟨rfl, rfl⟩ ⟨Nat.le_of_ble_eq_true rfl, Nat.le_of_ble_eq_true rfl⟩ ⟨Nat.zero_le _, Nat.zero_le _⟩ rfl (Nat.le_of_ble_eq_true rfl) dX5_failBehindLastTurn_43 ?_
    obtain rfl := Option.some.inj hf
    exact hk _ _ dX5_failBehindLastTurn_46
  · refine z_aload_n ok dX5_failBehindLastTurn_25 0 rfl ?_
    refine z_iconst (v := 5) ok dX5_failBehindLastTurn_26 (by decide) ?_
    refine z_aload_n ok dX5_failBehindLastTurn_27 0 rfl ?_
    refine z_geti ok kc_2 zc_5 hin_5 2 (by decide) fl_5_28 rfl dX5_failBehindLastTurn_28 hf (fun v28 hf => ?_)
    refine z_call hf (fun r31 h31 hf => ?_)
    refine z_cV (As := [.int 5, .int v28]) (rest := []) (w := 2) ok kc_2 zc_5 (c_Reader_fail h31) rfl ⟨ml_5_51, w_Reader_fail⟩ hy_Reader_fail ⟨rfl, rfl⟩ ⟨Nat.le_of_ble_eq_true rfl, Nat.le_of_ble_eq_true rfl⟩ ⟨Nat.zero_le _, Nat.zero_le _⟩ rfl (Nat.le_of_ble_eq_true rfl) dX5_failBehindLastTurn_31 ?_
    refine z_goto (tgt := 46) ok dX5_failBehindLastTurn_34 (by decide) ?_
    obtain rfl := Option.some.inj hf
    exact hk _ _ dX5_failBehindLastTurn_46
theorem c_Reader_failBehindLastTurn {σ : Sg} {r : (Bool × Sg)} (h : Reader_failBehindLastTurn σ = some r) : ZcI yX5_failBehindLastTurn cX5_failBehindLastTurn 1 .boolean rm_Reader_failBehindLastTurn 198 (fun ad => [.ref (ad 2)]) σ (zb r.1) r.2 :=
  zmetI pn_5 rfl (fun _ => rfl) (fun _ => Nat.le_of_ble_eq_true rfl) (zb_nar _) (fun X Q ok hk => t_Reader_failBehindLastTurn ok h hk)
theorem dX5_readTurns_0 : decode cX5_readTurns 0 = .ok (.aload_n 0, 1) := by decide +kernel
theorem dX5_readTurns_1 : decode cX5_readTurns 1 = .ok (.getfield 19, 3) := by decide +kernel
theorem dX5_readTurns_4 : decode cX5_readTurns 4 = .ok (.getfield 99, 3) := by decide +kernel
theorem dX5_readTurns_7 : decode cX5_readTurns 7 = .ok (.astore_n 1, 1) := by decide +kernel
theorem dX5_readTurns_8 : decode cX5_readTurns 8 = .ok (.aload_n 1, 1) := by decide +kernel
theorem dX5_readTurns_9 : decode cX5_readTurns 9 = .ok (.getfield 102, 3) := by decide +kernel
theorem dX5_readTurns_12 : decode cX5_readTurns 12 = .ok (.istore_n 2, 1) := by decide +kernel
theorem dX5_readTurns_13 : decode cX5_readTurns 13 = .ok (.aload_n 1, 1) := by decide +kernel
theorem dX5_readTurns_14 : decode cX5_readTurns 14 = .ok (.getfield 211, 3) := by decide +kernel
theorem dX5_readTurns_17 : decode cX5_readTurns 17 = .ok (.iload_n 2, 1) := by decide +kernel
theorem dX5_readTurns_18 : decode cX5_readTurns 18 = .ok (.iconst 0, 1) := by decide +kernel
theorem dX5_readTurns_19 : decode cX5_readTurns 19 = .ok (.iastore, 1) := by decide +kernel
theorem dX5_readTurns_20 : decode cX5_readTurns 20 = .ok (.aload_n 0, 1) := by decide +kernel
theorem dX5_readTurns_21 : decode cX5_readTurns 21 = .ok (.ldc 97, 2) := by decide +kernel
theorem dX5_readTurns_23 : decode cX5_readTurns 23 = .ok (.invokevirtual 110, 3) := by decide +kernel
theorem dX5_readTurns_26 : decode cX5_readTurns 26 = .ok (.ifCond .ne 5, 3) := by decide +kernel
theorem dX5_readTurns_29 : decode cX5_readTurns 29 = .ok (.iconst 0, 1) := by decide +kernel
theorem dX5_readTurns_30 : decode cX5_readTurns 30 = .ok (.ireturn, 1) := by decide +kernel
theorem dX5_readTurns_31 : decode cX5_readTurns 31 = .ok (.aload_n 1, 1) := by decide +kernel
theorem dX5_readTurns_32 : decode cX5_readTurns 32 = .ok (.getfield 214, 3) := by decide +kernel
theorem dX5_readTurns_35 : decode cX5_readTurns 35 = .ok (.iload_n 2, 1) := by decide +kernel
theorem dX5_readTurns_36 : decode cX5_readTurns 36 = .ok (.aload_n 0, 1) := by decide +kernel
theorem dX5_readTurns_37 : decode cX5_readTurns 37 = .ok (.iconst 1, 1) := by decide +kernel
theorem dX5_readTurns_38 : decode cX5_readTurns 38 = .ok (.bipush 30, 2) := by decide +kernel
theorem dX5_readTurns_40 : decode cX5_readTurns 40 = .ok (.invokevirtual 115, 3) := by decide +kernel
theorem dX5_readTurns_43 : decode cX5_readTurns 43 = .ok (.iastore, 1) := by decide +kernel
theorem dX5_readTurns_44 : decode cX5_readTurns 44 = .ok (.aload_n 0, 1) := by decide +kernel
theorem dX5_readTurns_45 : decode cX5_readTurns 45 = .ok (.getfield 35, 3) := by decide +kernel
theorem dX5_readTurns_48 : decode cX5_readTurns 48 = .ok (.ifCond .ne 28, 3) := by decide +kernel
theorem dX5_readTurns_51 : decode cX5_readTurns 51 = .ok (.aload_n 0, 1) := by decide +kernel
theorem dX5_readTurns_52 : decode cX5_readTurns 52 = .ok (.iload_n 2, 1) := by decide +kernel
theorem dX5_readTurns_53 : decode cX5_readTurns 53 = .ok (.invokevirtual 217, 3) := by decide +kernel
theorem dX5_readTurns_56 : decode cX5_readTurns 56 = .ok (.ifCond .eq 20, 3) := by decide +kernel
theorem dX5_readTurns_59 : decode cX5_readTurns 59 = .ok (.aload_n 0, 1) := by decide +kernel
theorem dX5_readTurns_60 : decode cX5_readTurns 60 = .ok (.bipush 44, 2) := by decide +kernel
theorem dX5_readTurns_62 : decode cX5_readTurns 62 = .ok (.invokevirtual 121, 3) := by decide +kernel
theorem dX5_readTurns_65 : decode cX5_readTurns 65 = .ok (.ifCond .eq 11, 3) := by decide +kernel
theorem dX5_readTurns_68 : decode cX5_readTurns 68 = .ok (.aload_n 0, 1) := by decide +kernel
theorem dX5_readTurns_69 : decode cX5_readTurns 69 = .ok (.iload_n 2, 1) := by decide +kernel
theorem dX5_readTurns_70 : decode cX5_readTurns 70 = .ok (.invokevirtual 217, 3) := by decide +kernel
theorem dX5_readTurns_73 : decode cX5_readTurns 73 = .ok (.ifCond .ne 5, 3) := by decide +kernel
theorem dX5_readTurns_76 : decode cX5_readTurns 76 = .ok (.iconst 0, 1) := by decide +kernel
theorem dX5_readTurns_77 : decode cX5_readTurns 77 = .ok (.ireturn, 1) := by decide +kernel
theorem dX5_readTurns_78 : decode cX5_readTurns 78 = .ok (.iconst 2, 1) := by decide +kernel
theorem dX5_readTurns_79 : decode cX5_readTurns 79 = .ok (.istore_n 3, 1) := by decide +kernel
theorem dX5_readTurns_80 : decode cX5_readTurns 80 = .ok (.iload_n 3, 1) := by decide +kernel
theorem dX5_readTurns_81 : decode cX5_readTurns 81 = .ok (.bipush 6, 2) := by decide +kernel
theorem dX5_readTurns_83 : decode cX5_readTurns 83 = .ok (.if_icmp .ge 37, 3) := by decide +kernel
theorem dX5_readTurns_86 : decode cX5_readTurns 86 = .ok (.aload_n 0, 1) := by decide +kernel
theorem dX5_readTurns_87 : decode cX5_readTurns 87 = .ok (.bipush 44, 2) := by decide +kernel
theorem dX5_readTurns_89 : decode cX5_readTurns 89 = .ok (.invokevirtual 220, 3) := by decide +kernel
theorem dX5_readTurns_92 : decode cX5_readTurns 92 = .ok (.ifCond .eq 28, 3) := by decide +kernel
theorem dX5_readTurns_95 : decode cX5_readTurns 95 = .ok (.aload_n 0, 1) := by decide +kernel
theorem dX5_readTurns_96 : decode cX5_readTurns 96 = .ok (.bipush 44, 2) := by decide +kernel
theorem dX5_readTurns_98 : decode cX5_readTurns 98 = .ok (.invokevirtual 121, 3) := by decide +kernel
theorem dX5_readTurns_101 : decode cX5_readTurns 101 = .ok (.ifCond .eq 11, 3) := by decide +kernel
theorem dX5_readTurns_104 : decode cX5_readTurns 104 = .ok (.aload_n 0, 1) := by decide +kernel
theorem dX5_readTurns_105 : decode cX5_readTurns 105 = .ok (.iload_n 2, 1) := by decide +kernel
theorem dX5_readTurns_106 : decode cX5_readTurns 106 = .ok (.invokevirtual 217, 3) := by decide +kernel
theorem dX5_readTurns_109 : decode cX5_readTurns 109 = .ok (.ifCond .ne 5, 3) := by decide +kernel
theorem dX5_readTurns_112 : decode cX5_readTurns 112 = .ok (.iconst 0, 1) := by decide +kernel
theorem dX5_readTurns_113 : decode cX5_readTurns 113 = .ok (.ireturn, 1) := by decide +kernel
theorem dX5_readTurns_114 : decode cX5_readTurns 114 = .ok (.iinc 3 1, 3) := by decide +kernel
theorem dX5_readTurns_117 : decode cX5_readTurns 117 = .ok (.goto (-37), 3) := by decide +kernel
theorem dX5_readTurns_120 : decode cX5_readTurns 120 = .ok (.aload_n 0, 1) := by decide +kernel
theorem dX5_readTurns_121 : decode cX5_readTurns 121 = .ok (.bipush 44, 2) := by decide +kernel
theorem dX5_readTurns_123 : decode cX5_readTurns 123 = .ok (.invokevirtual 220, 3) := by decide +kernel
theorem dX5_readTurns_126 : decode cX5_readTurns 126 = .ok (.ifCond .eq 8, 3) := by decide +kernel
theorem dX5_readTurns_129 : decode cX5_readTurns 129 = .ok (.aload_n 0, 1) := by decide +kernel
theorem dX5_readTurns_130 : decode cX5_readTurns 130 = .ok (.invokevirtual 223, 3) := by decide +kernel
theorem dX5_readTurns_133 : decode cX5_readTurns 133 = .ok (.ireturn, 1) := by decide +kernel
theorem dX5_readTurns_134 : decode cX5_readTurns 134 = .ok (.aload_n 0, 1) := by decide +kernel
theorem dX5_readTurns_135 : decode cX5_readTurns 135 = .ok (.bipush 59, 2) := by decide +kernel
theorem dX5_readTurns_137 : decode cX5_readTurns 137 = .ok (.invokevirtual 121, 3) := by decide +kernel
theorem dX5_readTurns_140 : decode cX5_readTurns 140 = .ok (.ifCond .ne 5, 3) := by decide +kernel
theorem dX5_readTurns_143 : decode cX5_readTurns 143 = .ok (.iconst 0, 1) := by decide +kernel
theorem dX5_readTurns_144 : decode cX5_readTurns 144 = .ok (.ireturn, 1) := by decide +kernel
theorem dX5_readTurns_145 : decode cX5_readTurns 145 = .ok (.aload_n 1, 1) := by decide +kernel
theorem dX5_readTurns_146 : decode cX5_readTurns 146 = .ok (.dup, 1) := by decide +kernel
theorem dX5_readTurns_147 : decode cX5_readTurns 147 = .ok (.getfield 102, 3) := by decide +kernel
theorem dX5_readTurns_150 : decode cX5_readTurns 150 = .ok (.iconst 1, 1) := by decide +kernel
theorem dX5_readTurns_151 : decode cX5_readTurns 151 = .ok (.iadd, 1) := by decide +kernel
theorem dX5_readTurns_152 : decode cX5_readTurns 152 = .ok (.putfield 102, 3) := by decide +kernel
theorem dX5_readTurns_155 : decode cX5_readTurns 155 = .ok (.iconst 1, 1) := by decide +kernel
theorem dX5_readTurns_156 : decode cX5_readTurns 156 = .ok (.ireturn, 1) := by decide +kernel
abbrev rm_Reader_readTurns : Room := { frames := 7, cells := 0, slots := 0, locals := 154 }
def Reader_readTurns_l80 (σ : Sg) (q1 : Nat) (x2 : Int32) (x3 : Int32) : Option ((Sg × Int32) ⊕ ((Bool × Sg) ⊕ (Sg × Int32))) :=
  if 6 ≤ x3 then (
    some (.inr (.inr (σ, x3)))
  ) else (
    (Reader_standsSign σ 44).bind fun r89 =>
    if (zb r89.1) = 0 then (
      some (.inr (.inr (r89.2, x3)))
    ) else (
      (Reader_readSign r89.2 44).bind fun r98 =>
      if (zb r98.1) = 0 then (
        some (.inr (.inl (false, r98.2)))
      ) else (
        (Reader_readTurnName r98.2 x2).bind fun r106 =>
        if (zb r106.1) = 0 then (
          some (.inr (.inl (false, r106.2)))
        ) else (
          zlt (x3 + 1) fun v114 =>
          some (.inl (r106.2, v114))
        )
      )
    )
  )
set_option maxRecDepth 20000 in
theorem t_Reader_readTurns_l80 {X : Zx} {Q : State → Prop} {σ : Sg} {q1 : Nat} {x2 : Int32} {x3 : Int32} (ok : Zok X cX5_readTurns RX5 rm_Reader_readTurns 198 4) (hq1 : zI_Works q1 198) {out : ((Sg × Int32) ⊕ ((Bool × Sg) ⊕ (Sg × Int32)))} (hf : Reader_readTurns_l80 σ q1 x2 x3 = some out) (hk : zout (fun (s : (Sg × Int32)) => ZAt X Q 0 0 80 s.1 [(0, .ref (X.ad 2)), (1, .ref (X.ad (q1 + 20))), (2, .int x2), (3, .int s.2)] []) (zout (fun (r : (Bool × Sg)) => ZrI cX5_readTurns X Q (zb r.1) r.2) (fun (s : (Sg × Int32)) => ZAt X Q 0 0 120 s.1 [(0, .ref (X.ad 2)), (1, .ref (X.ad (q1 + 20)))] [])) out) : ZAt X Q 0 0 80 σ [(0, .ref (X.ad 2)), (1, .ref (X.ad (q1 + 20))), (2, .int x2), (3, .int x3)] [] := by
  unfold Reader_readTurns_l80 at hf
  obtain ⟨hq1_0, hq1_1, hq1_2, hq1_3, hq1_4, hq1_5, hq1_6, hq1_7, hq1_8, hq1_9, hq1_10, hq1_11, hq1_12, hq1_13, hq1_14, hq1_15, hq1_16, hq1_17, hq1_18, hq1_19, hq1_20, hq1_21, hq1_22, hq1_23, hq1_24, hq1_25⟩ := id hq1
  refine z_iload_n ok dX5_readTurns_80 3 rfl ?_
  refine z_bipush (v := 6) ok dX5_readTurns_81 (by decide) ?_
  refine z_icmp_ge (tgt := 120) ok dX5_readTurns_83 (by decide) hf (fun _ hf => ?_) (fun _ hf => ?_)
  · obtain rfl := Option.some.inj hf
    exact z_sub [0, 1] rfl hk
  · refine z_aload_n ok dX5_readTurns_86 0 rfl ?_
    refine z_bipush (v := 44) ok dX5_readTurns_87 (by decide) ?_
    refine z_call hf (fun r89 h89 hf => ?_)
    refine z_cV (As := [.int 44]) (rest := []) (w := 2) ok kc_2 zc_5 (c_Reader_standsSign h89) rfl ⟨ml_5_220, w_Reader_standsSign⟩ hy_Reader_standsSign ⟨rfl, rfl⟩ ⟨Nat.le_of_ble_eq_true rfl, Nat.le_of_ble_eq_true rfl⟩ ⟨Nat.zero_le _, Nat.zero_le _⟩ rfl (Nat.le_of_ble_eq_true rfl) dX5_readTurns_89 ?_
    refine z_if_eq (tgt := 120) ok dX5_readTurns_92 (by decide) hf (fun _ hf => ?_) (fun _ hf => ?_)
    · obtain rfl := Option.some.inj hf
      exact z_sub [0, 1] rfl hk
    · refine z_aload_n ok dX5_readTurns_95 0 rfl ?_
      refine z_bipush (v := 44) ok dX5_readTurns_96 (by decide) ?_
      refine z_call hf (fun r98 h98 hf => ?_)
      refine z_cV (As := [.int 44]) (rest := []) (w := 2) ok kc_2 zc_5 (c_Reader_readSign h98) rfl ⟨ml_5_121, w_Reader_readSign⟩ hy_Reader_readSign ⟨rfl, rfl⟩ ⟨Nat.le_of_ble_eq_true rfl, Nat.le_of_ble_eq_true rfl⟩ ⟨Nat.zero_le _, Nat.zero_le _⟩ rfl (Nat.le_of_ble_eq_true rfl) dX5_readTurns_98 ?_
      refine z_if_eq (tgt := 112) ok dX5_readTurns_101 (by decide) hf (fun _ hf => ?_) (fun _ hf => ?_)
      · refine z_iconst (v := 0) ok dX5_readTurns_112 (by decide) ?_
        obtain rfl := Option.some.inj hf
        exact hk _ _ dX5_readTurns_113
      · refine z_aload_n ok dX5_readTurns_104 0 rfl ?_
        refine z_iload_n ok dX5_readTurns_105 2 rfl ?_
        refine z_call hf (fun r106 h106 hf => ?_)
        refine z_cV (As := [.int x2]) (rest := []) (w := 2) ok kc_2 zc_5 (c_Reader_readTurnName h106) rfl ⟨ml_5_217, w_Reader_readTurnName⟩ hy_Reader_readTurnName ⟨rfl, rfl⟩ ⟨Nat.le_of_ble_eq_true rfl, Nat.le_of_ble_eq_true rfl⟩ ⟨Nat.zero_le _, Nat.zero_le _⟩ rfl (Nat.le_of_ble_eq_true rfl) dX5_readTurns_106 ?_
        refine z_if_ne (tgt := 114) ok dX5_readTurns_109 (by decide) hf (fun _ hf => ?_) (fun _ hf => ?_)
        · refine z_iconst (v := 0) ok dX5_readTurns_112 (by decide) ?_
          obtain rfl := Option.some.inj hf
          exact hk _ _ dX5_readTurns_113
        · refine z_iinc (w := 1) (lv' := fun v114 => [(3, .int v114), (0, .ref (X.ad 2)), (1, .ref (X.ad (q1 + 20))), (2, .int x2)]) ok dX5_readTurns_114 3 rfl (by decide) (by decide) (fun _ => rfl) hf (fun v114 hf => ?_)
          refine z_goto (tgt := 80) ok dX5_readTurns_117 (by decide) ?_
          obtain rfl := Option.some.inj hf
          exact z_sub [1, 2, 3, 0] rfl hk
def Reader_readTurns_j120 (σ : Sg) (q1 : Nat) : Option (Bool × Sg) :=
  (Reader_standsSign σ 44).bind fun r123 =>
  if (zb r123.1) = 0 then (
    (Reader_readSign r123.2 59).bind fun r137 =>
    if (zb r137.1) = 0 then (
      some (false, r137.2)
    ) else (
      zgt r137.2 (q1 + 20) 0 fun v147 =>
      zpt r137.2 (q1 + 20) 0 (v147 + 1) fun σ152 =>
      some (true, σ152)
    )
  ) else (
    (Reader_failBehindLastTurn r123.2).bind fun r130 =>
    some (r130.1, r130.2)
  )
set_option maxRecDepth 20000 in
theorem t_Reader_readTurns_j120 {X : Zx} {Q : State → Prop} {σ : Sg} {q1 : Nat} (ok : Zok X cX5_readTurns RX5 rm_Reader_readTurns 198 4) (hq1 : zI_Works q1 198) {out : (Bool × Sg)} (hf : Reader_readTurns_j120 σ q1 = some out) (hk : ZrI cX5_readTurns X Q (zb out.1) out.2) : ZAt X Q 0 0 120 σ [(0, .ref (X.ad 2)), (1, .ref (X.ad (q1 + 20)))] [] := by
  unfold Reader_readTurns_j120 at hf
  obtain ⟨hq1_0, hq1_1, hq1_2, hq1_3, hq1_4, hq1_5, hq1_6, hq1_7, hq1_8, hq1_9, hq1_10, hq1_11, hq1_12, hq1_13, hq1_14, hq1_15, hq1_16, hq1_17, hq1_18, hq1_19, hq1_20, hq1_21, hq1_22, hq1_23, hq1_24, hq1_25⟩ := id hq1
  refine z_aload_n ok dX5_readTurns_120 0 rfl ?_
  refine z_bipush (v := 44) ok dX5_readTurns_121 (by decide) ?_
  refine z_call hf (fun r123 h123 hf => ?_)
  refine z_cV (As := [.int 44]) (rest := []) (w := 2) ok kc_2 zc_5 (c_Reader_standsSign h123) rfl ⟨ml_5_220, w_Reader_standsSign⟩ hy_Reader_standsSign ⟨rfl, rfl⟩ ⟨Nat.le_of_ble_eq_true rfl, Nat.le_of_ble_eq_true rfl⟩ ⟨Nat.zero_le _, Nat.zero_le _⟩ rfl (Nat.le_of_ble_eq_true rfl) dX5_readTurns_123 ?_
  refine z_if_eq (tgt := 134) ok dX5_readTurns_126 (by decide) hf (fun _ hf => ?_) (fun _ hf => ?_)
  · refine z_aload_n ok dX5_readTurns_134 0 rfl ?_
    refine z_bipush (v := 59) ok dX5_readTurns_135 (by decide) ?_
    refine z_call hf (fun r137 h137 hf => ?_)
    refine z_cV (As := [.int 59]) (rest := []) (w := 2) ok kc_2 zc_5 (c_Reader_readSign h137) rfl ⟨ml_5_121, w_Reader_readSign⟩ hy_Reader_readSign ⟨rfl, rfl⟩ ⟨Nat.le_of_ble_eq_true rfl, Nat.le_of_ble_eq_true rfl⟩ ⟨Nat.zero_le _, Nat.zero_le _⟩ rfl (Nat.le_of_ble_eq_true rfl) dX5_readTurns_137 ?_
    refine z_if_ne (tgt := 145) ok dX5_readTurns_140 (by decide) hf (fun _ hf => ?_) (fun _ hf => ?_)
    · refine z_iconst (v := 0) ok dX5_readTurns_143 (by decide) ?_
      obtain rfl := Option.some.inj hf
      exact hk _ _ dX5_readTurns_144
    · refine z_aload_n ok dX5_readTurns_145 1 rfl ?_
      refine z_dup ok dX5_readTurns_146 rfl ?_
      refine z_geti ok hq1_20 zc_8 hin_8 0 (by decide) fl_5_102 rfl dX5_readTurns_147 hf (fun v147 hf => ?_)
      refine z_iconst (v := 1) ok dX5_readTurns_150 (by decide) ?_
      refine z_iadd ok dX5_readTurns_151 ?_
      refine z_puti ok hq1_20 zc_8 hin_8 tyX8 tyX8_ok nmX8 0 (by decide) fl_5_102 rfl rfl (tyX8_ok 0 (by decide)) dX5_readTurns_152 hf (fun σ152 hf => ?_)
      refine z_iconst (v := 1) ok dX5_readTurns_155 (by decide) ?_
      obtain rfl := Option.some.inj hf
      exact hk _ _ dX5_readTurns_156
  · refine z_aload_n ok dX5_readTurns_129 0 rfl ?_
    refine z_call hf (fun r130 h130 hf => ?_)
    refine z_cV (As := []) (rest := []) (w := 2) ok kc_2 zc_5 (c_Reader_failBehindLastTurn h130) rfl ⟨ml_5_223, w_Reader_failBehindLastTurn⟩ hy_Reader_failBehindLastTurn ⟨rfl, rfl⟩ ⟨Nat.le_of_ble_eq_true rfl, Nat.le_of_ble_eq_true rfl⟩ ⟨Nat.zero_le _, Nat.zero_le _⟩ rfl (Nat.le_of_ble_eq_true rfl) dX5_readTurns_130 ?_
    obtain rfl := Option.some.inj hf
    exact hk _ _ dX5_readTurns_133
def Reader_readTurns (σ : Sg)  : Option (Bool × Sg) :=
  zmr2 3 29 (σ 2 5) fun q1 =>
  zgt σ (q1 + 20) 0 fun v9 =>
  zwr σ (q1 + 22) 2 v9 0 fun σ19 =>
  (Reader_readWord σ19 20).bind fun r23 =>
  if (zb r23.1) = 0 then (
    some (false, r23.2)
  ) else (
    (Reader_readNumber r23.2 1 30).bind fun r40 =>
    zwr r40.2 (q1 + 21) 2 v9 r40.1 fun σ43 =>
    zgt σ43 2 6 fun v45 =>
    if v45 = 0 then (
      (Reader_readTurnName σ43 v9).bind fun r53 =>
      if (zb r53.1) = 0 then (
        some (false, r53.2)
      ) else (
        (Reader_readSign r53.2 44).bind fun r62 =>
        if (zb r62.1) = 0 then (
          some (false, r62.2)
        ) else (
          (Reader_readTurnName r62.2 v9).bind fun r70 =>
          if (zb r70.1) = 0 then (
            some (false, r70.2)
          ) else (
            zlt 2 fun v79 =>
            (zit (fun (s : (Sg × Int32)) => Reader_readTurns_l80 s.1 q1 v9 s.2) zFU (r70.2, v79)).bind fun r => r.elim (fun r =>
            some r
            ) (fun r =>
            Reader_readTurns_j120 r.1 q1
            )
          )
        )
      )
    ) else (
      some (false, σ43)
    )
  )
set_option maxRecDepth 20000 in
theorem t_Reader_readTurns {X : Zx} {Q : State → Prop} {σ : Sg}  (ok : Zok X cX5_readTurns RX5 rm_Reader_readTurns 198 4)  {out : (Bool × Sg)} (hf : Reader_readTurns σ = some out) (hk : ZrI cX5_readTurns X Q (zb out.1) out.2) : ZAt X Q 0 0 0 σ [(0, .ref (X.ad 2))] [] := by
  unfold Reader_readTurns at hf
  refine z_aload_n ok dX5_readTurns_0 0 rfl ?_
  refine z_getm2 (p := 3) (q := 29) ok kc_2 zc_5 hin_5 5 (by decide) fl_5_19 rfl (by decide) (by decide) dX5_readTurns_1 hf (fun q1 e1 hf => ?_)
  have hq1 : zI_Works q1 198 := by rcases e1 with rfl | rfl; exact kI_Works_3; exact kI_Works_29
  obtain ⟨hq1_0, hq1_1, hq1_2, hq1_3, hq1_4, hq1_5, hq1_6, hq1_7, hq1_8, hq1_9, hq1_10, hq1_11, hq1_12, hq1_13, hq1_14, hq1_15, hq1_16, hq1_17, hq1_18, hq1_19, hq1_20, hq1_21, hq1_22, hq1_23, hq1_24, hq1_25⟩ := id hq1
  refine z_getr (q := (q1 + 20)) ok hq1_0 zc_10 hin_10 12 (by decide) fl_5_99 rfl dX5_readTurns_4 ?_
  refine z_astore_n (lv' := [(1, .ref (X.ad (q1 + 20))), (0, .ref (X.ad 2))]) ok dX5_readTurns_7 (by decide) rfl ?_
  refine z_aload_n ok dX5_readTurns_8 0 rfl ?_
  refine z_geti ok hq1_20 zc_8 hin_8 0 (by decide) fl_5_102 rfl dX5_readTurns_9 hf (fun v9 hf => ?_)
  refine z_istore_n (lv' := [(2, .int v9), (1, .ref (X.ad (q1 + 20))), (0, .ref (X.ad 2))]) ok dX5_readTurns_12 (by decide) rfl ?_
  refine z_aload_n ok dX5_readTurns_13 1 rfl ?_
  refine z_getr (q := (q1 + 22)) ok hq1_20 zc_8 hin_8 2 (by decide) fl_5_211 rfl dX5_readTurns_14 ?_
  refine z_iload_n ok dX5_readTurns_17 0 rfl ?_
  refine z_iconst (v := 0) ok dX5_readTurns_18 (by decide) ?_
  refine z_iast ok hq1_22 dX5_readTurns_19 hf (fun σ19 hf => ?_)
  refine z_aload_n ok dX5_readTurns_20 2 rfl ?_
  refine z_ldcS ok 20 rfl dX5_readTurns_21 ?_
  refine z_call hf (fun r23 h23 hf => ?_)
  refine z_cV (As := [.ref (X.ad (1000000 + 20))]) (rest := []) (w := 2) ok kc_2 zc_5 (c_Reader_readWord (by decide) h23) rfl ⟨ml_5_110, w_Reader_readWord⟩ hy_Reader_readWord ⟨rfl, rfl⟩ ⟨Nat.le_of_ble_eq_true rfl, Nat.le_of_ble_eq_true rfl⟩ ⟨Nat.zero_le _, Nat.zero_le _⟩ rfl (Nat.le_of_ble_eq_true rfl) dX5_readTurns_23 ?_
  refine z_if_ne (tgt := 31) ok dX5_readTurns_26 (by decide) hf (fun _ hf => ?_) (fun _ hf => ?_)
  · refine z_iconst (v := 0) ok dX5_readTurns_29 (by decide) ?_
    obtain rfl := Option.some.inj hf
    exact hk _ _ dX5_readTurns_30
  · refine z_aload_n ok dX5_readTurns_31 1 rfl ?_
    refine z_getr (q := (q1 + 21)) ok hq1_20 zc_8 hin_8 1 (by decide) fl_5_214 rfl dX5_readTurns_32 ?_
    refine z_iload_n ok dX5_readTurns_35 0 rfl ?_
    refine z_aload_n ok dX5_readTurns_36 2 rfl ?_
    refine z_iconst (v := 1) ok dX5_readTurns_37 (by decide) ?_
    refine z_bipush (v := 30) ok dX5_readTurns_38 (by decide) ?_
    refine z_call hf (fun r40 h40 hf => ?_)
    refine z_cV (As := [.int 1, .int 30]) (rest := [.int v9, .ref (X.ad (q1 + 21))]) (w := 2) ok kc_2 zc_5 (c_Reader_readNumber h40) rfl ⟨ml_5_115, w_Reader_readNumber⟩ hy_Reader_readNumber ⟨rfl, rfl⟩ ⟨Nat.le_of_ble_eq_true rfl, Nat.le_of_ble_eq_true rfl⟩ ⟨Nat.zero_le _, Nat.zero_le _⟩ rfl (Nat.le_of_ble_eq_true rfl) dX5_readTurns_40 ?_
    refine z_iast ok hq1_21 dX5_readTurns_43 hf (fun σ43 hf => ?_)
    refine z_aload_n ok dX5_readTurns_44 2 rfl ?_
    refine z_geti ok kc_2 zc_5 hin_5 6 (by decide) fl_5_35 rfl dX5_readTurns_45 hf (fun v45 hf => ?_)
    refine z_if_ne (tgt := 76) ok dX5_readTurns_48 (by decide) hf (fun _ hf => ?_) (fun _ hf => ?_)
    · refine z_aload_n ok dX5_readTurns_51 2 rfl ?_
      refine z_iload_n ok dX5_readTurns_52 0 rfl ?_
      refine z_call hf (fun r53 h53 hf => ?_)
      refine z_cV (As := [.int v9]) (rest := []) (w := 2) ok kc_2 zc_5 (c_Reader_readTurnName h53) rfl ⟨ml_5_217, w_Reader_readTurnName⟩ hy_Reader_readTurnName ⟨rfl, rfl⟩ ⟨Nat.le_of_ble_eq_true rfl, Nat.le_of_ble_eq_true rfl⟩ ⟨Nat.zero_le _, Nat.zero_le _⟩ rfl (Nat.le_of_ble_eq_true rfl) dX5_readTurns_53 ?_
      refine z_if_eq (tgt := 76) ok dX5_readTurns_56 (by decide) hf (fun _ hf => ?_) (fun _ hf => ?_)
      · refine z_iconst (v := 0) ok dX5_readTurns_76 (by decide) ?_
        obtain rfl := Option.some.inj hf
        exact hk _ _ dX5_readTurns_77
      · refine z_aload_n ok dX5_readTurns_59 2 rfl ?_
        refine z_bipush (v := 44) ok dX5_readTurns_60 (by decide) ?_
        refine z_call hf (fun r62 h62 hf => ?_)
        refine z_cV (As := [.int 44]) (rest := []) (w := 2) ok kc_2 zc_5 (c_Reader_readSign h62) rfl ⟨ml_5_121, w_Reader_readSign⟩ hy_Reader_readSign ⟨rfl, rfl⟩ ⟨Nat.le_of_ble_eq_true rfl, Nat.le_of_ble_eq_true rfl⟩ ⟨Nat.zero_le _, Nat.zero_le _⟩ rfl (Nat.le_of_ble_eq_true rfl) dX5_readTurns_62 ?_
        refine z_if_eq (tgt := 76) ok dX5_readTurns_65 (by decide) hf (fun _ hf => ?_) (fun _ hf => ?_)
        · refine z_iconst (v := 0) ok dX5_readTurns_76 (by decide) ?_
          obtain rfl := Option.some.inj hf
          exact hk _ _ dX5_readTurns_77
        · refine z_aload_n ok dX5_readTurns_68 2 rfl ?_
          refine z_iload_n ok dX5_readTurns_69 0 rfl ?_
          refine z_call hf (fun r70 h70 hf => ?_)
          refine z_cV (As := [.int v9]) (rest := []) (w := 2) ok kc_2 zc_5 (c_Reader_readTurnName h70) rfl ⟨ml_5_217, w_Reader_readTurnName⟩ hy_Reader_readTurnName ⟨rfl, rfl⟩ ⟨Nat.le_of_ble_eq_true rfl, Nat.le_of_ble_eq_true rfl⟩ ⟨Nat.zero_le _, Nat.zero_le _⟩ rfl (Nat.le_of_ble_eq_true rfl) dX5_readTurns_70 ?_
          refine z_if_ne (tgt := 78) ok dX5_readTurns_73 (by decide) hf (fun _ hf => ?_) (fun _ hf => ?_)
          · refine z_iconst (v := 0) ok dX5_readTurns_76 (by decide) ?_
            obtain rfl := Option.some.inj hf
            exact hk _ _ dX5_readTurns_77
          · refine z_iconst (v := 2) ok dX5_readTurns_78 (by decide) ?_
            refine z_nm hf (fun v79 hf => ?_)
            refine z_istore_n (lv' := [(3, .int v79), (2, .int v9), (1, .ref (X.ad (q1 + 20))), (0, .ref (X.ad 2))]) ok dX5_readTurns_79 (by decide) rfl ?_
            refine z_call hf (fun r hr hf => ?_)
            refine z_sub [3, 2, 1, 0] rfl (z_iter (fun (s : (Sg × Int32)) => s.1) (fun (s : (Sg × Int32)) => [(0, .ref (X.ad 2)), (1, .ref (X.ad (q1 + 20))), (2, .int v9), (3, .int s.2)]) (fun s o h1 h2 => t_Reader_readTurns_l80 ok hq1 h1 h2) _ _ _ hr ?_)
            cases r with
            | inl r =>
              obtain rfl := Option.some.inj hf
              exact hk
            | inr r =>
              simp only [Sum.elim_inr] at hf
              show ZAt X Q 0 0 120 r.1 [(0, .ref (X.ad 2)), (1, .ref (X.ad (q1 + 20)))] []
              exact z_sub [0, 1] rfl (t_Reader_readTurns_j120 ok hq1 hf hk)
    · refine z_iconst (v := 0) ok dX5_readTurns_76 (by decide) ?_
      obtain rfl := Option.some.inj hf
      exact hk _ _ dX5_readTurns_77
theorem c_Reader_readTurns {σ : Sg} {r : (Bool × Sg)} (h : Reader_readTurns σ = some r) : ZcI yX5_readTurns cX5_readTurns 4 .boolean rm_Reader_readTurns 198 (fun ad => [.ref (ad 2)]) σ (zb r.1) r.2 :=
  zmetI pn_5 rfl (fun _ => rfl) (fun _ => Nat.le_of_ble_eq_true rfl) (zb_nar _) (fun X Q ok hk => t_Reader_readTurns ok h hk)
theorem dX5_readStatement_0 : decode cX5_readStatement 0 = .ok (.aload_n 0, 1) := by decide +kernel
theorem dX5_readStatement_1 : decode cX5_readStatement 1 = .ok (.getfield 19, 3) := by decide +kernel
theorem dX5_readStatement_4 : decode cX5_readStatement 4 = .ok (.getfield 48, 3) := by decide +kernel
theorem dX5_readStatement_7 : decode cX5_readStatement 7 = .ok (.ifCond .ne 8, 3) := by decide +kernel
theorem dX5_readStatement_10 : decode cX5_readStatement 10 = .ok (.aload_n 0, 1) := by decide +kernel
theorem dX5_readStatement_11 : decode cX5_readStatement 11 = .ok (.invokevirtual 55, 3) := by decide +kernel
theorem dX5_readStatement_14 : decode cX5_readStatement 14 = .ok (.ireturn, 1) := by decide +kernel
theorem dX5_readStatement_15 : decode cX5_readStatement 15 = .ok (.aload_n 0, 1) := by decide +kernel
theorem dX5_readStatement_16 : decode cX5_readStatement 16 = .ok (.ldc 58, 2) := by decide +kernel
theorem dX5_readStatement_18 : decode cX5_readStatement 18 = .ok (.invokevirtual 60, 3) := by decide +kernel
theorem dX5_readStatement_21 : decode cX5_readStatement 21 = .ok (.ifCond .eq 8, 3) := by decide +kernel
theorem dX5_readStatement_24 : decode cX5_readStatement 24 = .ok (.aload_n 0, 1) := by decide +kernel
theorem dX5_readStatement_25 : decode cX5_readStatement 25 = .ok (.invokevirtual 64, 3) := by decide +kernel
theorem dX5_readStatement_28 : decode cX5_readStatement 28 = .ok (.ireturn, 1) := by decide +kernel
theorem dX5_readStatement_29 : decode cX5_readStatement 29 = .ok (.aload_n 0, 1) := by decide +kernel
theorem dX5_readStatement_30 : decode cX5_readStatement 30 = .ok (.ldc 67, 2) := by decide +kernel
theorem dX5_readStatement_32 : decode cX5_readStatement 32 = .ok (.invokevirtual 60, 3) := by decide +kernel
theorem dX5_readStatement_35 : decode cX5_readStatement 35 = .ok (.ifCond .eq 32, 3) := by decide +kernel
theorem dX5_readStatement_38 : decode cX5_readStatement 38 = .ok (.aload_n 0, 1) := by decide +kernel
theorem dX5_readStatement_39 : decode cX5_readStatement 39 = .ok (.getfield 19, 3) := by decide +kernel
theorem dX5_readStatement_42 : decode cX5_readStatement 42 = .ok (.getfield 69, 3) := by decide +kernel
theorem dX5_readStatement_45 : decode cX5_readStatement 45 = .ok (.bipush 8, 2) := by decide +kernel
theorem dX5_readStatement_47 : decode cX5_readStatement 47 = .ok (.if_icmp .ge 10, 3) := by decide +kernel
theorem dX5_readStatement_50 : decode cX5_readStatement 50 = .ok (.aload_n 0, 1) := by decide +kernel
theorem dX5_readStatement_51 : decode cX5_readStatement 51 = .ok (.invokevirtual 72, 3) := by decide +kernel
theorem dX5_readStatement_54 : decode cX5_readStatement 54 = .ok (.goto 12, 3) := by decide +kernel
theorem dX5_readStatement_57 : decode cX5_readStatement 57 = .ok (.aload_n 0, 1) := by decide +kernel
theorem dX5_readStatement_58 : decode cX5_readStatement 58 = .ok (.iconst 5, 1) := by decide +kernel
theorem dX5_readStatement_59 : decode cX5_readStatement 59 = .ok (.aload_n 0, 1) := by decide +kernel
theorem dX5_readStatement_60 : decode cX5_readStatement 60 = .ok (.getfield 28, 3) := by decide +kernel
theorem dX5_readStatement_63 : decode cX5_readStatement 63 = .ok (.invokevirtual 51, 3) := by decide +kernel
theorem dX5_readStatement_66 : decode cX5_readStatement 66 = .ok (.ireturn, 1) := by decide +kernel
theorem dX5_readStatement_67 : decode cX5_readStatement 67 = .ok (.aload_n 0, 1) := by decide +kernel
theorem dX5_readStatement_68 : decode cX5_readStatement 68 = .ok (.ldc 75, 2) := by decide +kernel
theorem dX5_readStatement_70 : decode cX5_readStatement 70 = .ok (.invokevirtual 60, 3) := by decide +kernel
theorem dX5_readStatement_73 : decode cX5_readStatement 73 = .ok (.ifCond .eq 32, 3) := by decide +kernel
theorem dX5_readStatement_76 : decode cX5_readStatement 76 = .ok (.aload_n 0, 1) := by decide +kernel
theorem dX5_readStatement_77 : decode cX5_readStatement 77 = .ok (.getfield 19, 3) := by decide +kernel
theorem dX5_readStatement_80 : decode cX5_readStatement 80 = .ok (.getfield 77, 3) := by decide +kernel
theorem dX5_readStatement_83 : decode cX5_readStatement 83 = .ok (.bipush 10, 2) := by decide +kernel
theorem dX5_readStatement_85 : decode cX5_readStatement 85 = .ok (.if_icmp .ge 10, 3) := by decide +kernel
theorem dX5_readStatement_88 : decode cX5_readStatement 88 = .ok (.aload_n 0, 1) := by decide +kernel
theorem dX5_readStatement_89 : decode cX5_readStatement 89 = .ok (.invokevirtual 80, 3) := by decide +kernel
theorem dX5_readStatement_92 : decode cX5_readStatement 92 = .ok (.goto 12, 3) := by decide +kernel
theorem dX5_readStatement_95 : decode cX5_readStatement 95 = .ok (.aload_n 0, 1) := by decide +kernel
theorem dX5_readStatement_96 : decode cX5_readStatement 96 = .ok (.iconst 5, 1) := by decide +kernel
theorem dX5_readStatement_97 : decode cX5_readStatement 97 = .ok (.aload_n 0, 1) := by decide +kernel
theorem dX5_readStatement_98 : decode cX5_readStatement 98 = .ok (.getfield 28, 3) := by decide +kernel
theorem dX5_readStatement_101 : decode cX5_readStatement 101 = .ok (.invokevirtual 51, 3) := by decide +kernel
theorem dX5_readStatement_104 : decode cX5_readStatement 104 = .ok (.ireturn, 1) := by decide +kernel
theorem dX5_readStatement_105 : decode cX5_readStatement 105 = .ok (.aload_n 0, 1) := by decide +kernel
theorem dX5_readStatement_106 : decode cX5_readStatement 106 = .ok (.ldc 83, 2) := by decide +kernel
theorem dX5_readStatement_108 : decode cX5_readStatement 108 = .ok (.invokevirtual 60, 3) := by decide +kernel
theorem dX5_readStatement_111 : decode cX5_readStatement 111 = .ok (.ifCond .eq 35, 3) := by decide +kernel
theorem dX5_readStatement_114 : decode cX5_readStatement 114 = .ok (.aload_n 0, 1) := by decide +kernel
theorem dX5_readStatement_115 : decode cX5_readStatement 115 = .ok (.getfield 19, 3) := by decide +kernel
theorem dX5_readStatement_118 : decode cX5_readStatement 118 = .ok (.getfield 85, 3) := by decide +kernel
theorem dX5_readStatement_121 : decode cX5_readStatement 121 = .ok (.getfield 89, 3) := by decide +kernel
theorem dX5_readStatement_124 : decode cX5_readStatement 124 = .ok (.bipush 16, 2) := by decide +kernel
theorem dX5_readStatement_126 : decode cX5_readStatement 126 = .ok (.if_icmp .ge 10, 3) := by decide +kernel
theorem dX5_readStatement_129 : decode cX5_readStatement 129 = .ok (.aload_n 0, 1) := by decide +kernel
theorem dX5_readStatement_130 : decode cX5_readStatement 130 = .ok (.invokevirtual 94, 3) := by decide +kernel
theorem dX5_readStatement_133 : decode cX5_readStatement 133 = .ok (.goto 12, 3) := by decide +kernel
theorem dX5_readStatement_136 : decode cX5_readStatement 136 = .ok (.aload_n 0, 1) := by decide +kernel
theorem dX5_readStatement_137 : decode cX5_readStatement 137 = .ok (.iconst 5, 1) := by decide +kernel
theorem dX5_readStatement_138 : decode cX5_readStatement 138 = .ok (.aload_n 0, 1) := by decide +kernel
theorem dX5_readStatement_139 : decode cX5_readStatement 139 = .ok (.getfield 28, 3) := by decide +kernel
theorem dX5_readStatement_142 : decode cX5_readStatement 142 = .ok (.invokevirtual 51, 3) := by decide +kernel
theorem dX5_readStatement_145 : decode cX5_readStatement 145 = .ok (.ireturn, 1) := by decide +kernel
theorem dX5_readStatement_146 : decode cX5_readStatement 146 = .ok (.aload_n 0, 1) := by decide +kernel
theorem dX5_readStatement_147 : decode cX5_readStatement 147 = .ok (.ldc 97, 2) := by decide +kernel
theorem dX5_readStatement_149 : decode cX5_readStatement 149 = .ok (.invokevirtual 60, 3) := by decide +kernel
theorem dX5_readStatement_152 : decode cX5_readStatement 152 = .ok (.ifCond .eq 34, 3) := by decide +kernel
theorem dX5_readStatement_155 : decode cX5_readStatement 155 = .ok (.aload_n 0, 1) := by decide +kernel
theorem dX5_readStatement_156 : decode cX5_readStatement 156 = .ok (.getfield 19, 3) := by decide +kernel
theorem dX5_readStatement_159 : decode cX5_readStatement 159 = .ok (.getfield 99, 3) := by decide +kernel
theorem dX5_readStatement_162 : decode cX5_readStatement 162 = .ok (.getfield 102, 3) := by decide +kernel
theorem dX5_readStatement_165 : decode cX5_readStatement 165 = .ok (.iconst 2, 1) := by decide +kernel
theorem dX5_readStatement_166 : decode cX5_readStatement 166 = .ok (.if_icmp .ge 10, 3) := by decide +kernel
theorem dX5_readStatement_169 : decode cX5_readStatement 169 = .ok (.aload_n 0, 1) := by decide +kernel
theorem dX5_readStatement_170 : decode cX5_readStatement 170 = .ok (.invokevirtual 105, 3) := by decide +kernel
theorem dX5_readStatement_173 : decode cX5_readStatement 173 = .ok (.goto 12, 3) := by decide +kernel
theorem dX5_readStatement_176 : decode cX5_readStatement 176 = .ok (.aload_n 0, 1) := by decide +kernel
theorem dX5_readStatement_177 : decode cX5_readStatement 177 = .ok (.iconst 5, 1) := by decide +kernel
theorem dX5_readStatement_178 : decode cX5_readStatement 178 = .ok (.aload_n 0, 1) := by decide +kernel
theorem dX5_readStatement_179 : decode cX5_readStatement 179 = .ok (.getfield 28, 3) := by decide +kernel
theorem dX5_readStatement_182 : decode cX5_readStatement 182 = .ok (.invokevirtual 51, 3) := by decide +kernel
theorem dX5_readStatement_185 : decode cX5_readStatement 185 = .ok (.ireturn, 1) := by decide +kernel
theorem dX5_readStatement_186 : decode cX5_readStatement 186 = .ok (.aload_n 0, 1) := by decide +kernel
theorem dX5_readStatement_187 : decode cX5_readStatement 187 = .ok (.iconst 1, 1) := by decide +kernel
theorem dX5_readStatement_188 : decode cX5_readStatement 188 = .ok (.aload_n 0, 1) := by decide +kernel
theorem dX5_readStatement_189 : decode cX5_readStatement 189 = .ok (.getfield 28, 3) := by decide +kernel
theorem dX5_readStatement_192 : decode cX5_readStatement 192 = .ok (.invokevirtual 51, 3) := by decide +kernel
theorem dX5_readStatement_195 : decode cX5_readStatement 195 = .ok (.ireturn, 1) := by decide +kernel
abbrev rm_Reader_readStatement : Room := { frames := 8, cells := 0, slots := 0, locals := 177 }
def Reader_readStatement (σ : Sg)  : Option (Bool × Sg) :=
  zmr2 3 29 (σ 2 5) fun q1 =>
  zgt σ q1 0 fun v4 =>
  if v4 = 0 then (
    (Reader_readCanal σ).bind fun r11 =>
    some (r11.1, r11.2)
  ) else (
    (Reader_stands σ 2).bind fun r18 =>
    if (zb r18) = 0 then (
      (Reader_stands σ 3).bind fun r32 =>
      if (zb r32) = 0 then (
        (Reader_stands σ 14).bind fun r70 =>
        if (zb r70) = 0 then (
          (Reader_stands σ 17).bind fun r108 =>
          if (zb r108) = 0 then (
            (Reader_stands σ 20).bind fun r149 =>
            if (zb r149) = 0 then (
              zgt σ 2 2 fun v189 =>
              (Reader_fail σ 1 v189).bind fun r192 =>
              some (r192.1, r192.2)
            ) else (
              zmr2 3 29 (σ 2 5) fun q156 =>
              zgt σ (q156 + 20) 0 fun v162 =>
              if 2 ≤ v162 then (
                zgt σ 2 2 fun v179 =>
                (Reader_fail σ 5 v179).bind fun r182 =>
                some (r182.1, r182.2)
              ) else (
                (Reader_readTurns σ).bind fun r170 =>
                some (r170.1, r170.2)
              )
            )
          ) else (
            zmr2 3 29 (σ 2 5) fun q115 =>
            zgt σ (q115 + 16) 0 fun v121 =>
            if 16 ≤ v121 then (
              zgt σ 2 2 fun v139 =>
              (Reader_fail σ 5 v139).bind fun r142 =>
              some (r142.1, r142.2)
            ) else (
              (Reader_readOrder σ).bind fun r130 =>
              some (r130.1, r130.2)
            )
          )
        ) else (
          zmr2 3 29 (σ 2 5) fun q77 =>
          zgt σ q77 7 fun v80 =>
          if 10 ≤ v80 then (
            zgt σ 2 2 fun v98 =>
            (Reader_fail σ 5 v98).bind fun r101 =>
            some (r101.1, r101.2)
          ) else (
            (Reader_readOutlet σ).bind fun r89 =>
            some (r89.1, r89.2)
          )
        )
      ) else (
        zmr2 3 29 (σ 2 5) fun q39 =>
        zgt σ q39 3 fun v42 =>
        if 8 ≤ v42 then (
          zgt σ 2 2 fun v60 =>
          (Reader_fail σ 5 v60).bind fun r63 =>
          some (r63.1, r63.2)
        ) else (
          (Reader_readPool σ).bind fun r51 =>
          some (r51.1, r51.2)
        )
      )
    ) else (
      (Reader_readKeep σ).bind fun r25 =>
      some (r25.1, r25.2)
    )
  )
set_option maxRecDepth 20000 in
theorem t_Reader_readStatement {X : Zx} {Q : State → Prop} {σ : Sg}  (ok : Zok X cX5_readStatement RX5 rm_Reader_readStatement 198 1)  {out : (Bool × Sg)} (hf : Reader_readStatement σ = some out) (hk : ZrI cX5_readStatement X Q (zb out.1) out.2) : ZAt X Q 0 0 0 σ [(0, .ref (X.ad 2))] [] := by
  unfold Reader_readStatement at hf
  refine z_aload_n ok dX5_readStatement_0 0 rfl ?_
  refine z_getm2 (p := 3) (q := 29) ok kc_2 zc_5 hin_5 5 (by decide) fl_5_19 rfl (by decide) (by decide) dX5_readStatement_1 hf (fun q1 e1 hf => ?_)
  have hq1 : zI_Works q1 198 := by rcases e1 with rfl | rfl; exact kI_Works_3; exact kI_Works_29
  obtain ⟨hq1_0, hq1_1, hq1_2, hq1_3, hq1_4, hq1_5, hq1_6, hq1_7, hq1_8, hq1_9, hq1_10, hq1_11, hq1_12, hq1_13, hq1_14, hq1_15, hq1_16, hq1_17, hq1_18, hq1_19, hq1_20, hq1_21, hq1_22, hq1_23, hq1_24, hq1_25⟩ := id hq1
  refine z_geti ok hq1_0 zc_10 hin_10 0 (by decide) fl_5_48 rfl dX5_readStatement_4 hf (fun v4 hf => ?_)
  refine z_if_ne (tgt := 15) ok dX5_readStatement_7 (by decide) hf (fun _ hf => ?_) (fun _ hf => ?_)
  · refine z_aload_n ok dX5_readStatement_10 0 rfl ?_
    refine z_call hf (fun r11 h11 hf => ?_)
    refine z_cV (As := []) (rest := []) (w := 2) ok kc_2 zc_5 (c_Reader_readCanal h11) rfl ⟨ml_5_55, w_Reader_readCanal⟩ hy_Reader_readCanal ⟨rfl, rfl⟩ ⟨Nat.le_of_ble_eq_true rfl, Nat.le_of_ble_eq_true rfl⟩ ⟨Nat.zero_le _, Nat.zero_le _⟩ rfl (Nat.le_of_ble_eq_true rfl) dX5_readStatement_11 ?_
    obtain rfl := Option.some.inj hf
    exact hk _ _ dX5_readStatement_14
  · refine z_aload_n ok dX5_readStatement_15 0 rfl ?_
    refine z_ldcS ok 2 rfl dX5_readStatement_16 ?_
    refine z_call hf (fun r18 h18 hf => ?_)
    refine z_cV (As := [.ref (X.ad (1000000 + 2))]) (rest := []) (w := 2) ok kc_2 zc_5 (c_Reader_stands (by decide) h18) rfl ⟨ml_5_60, w_Reader_stands⟩ hy_Reader_stands ⟨rfl, rfl⟩ ⟨Nat.le_of_ble_eq_true rfl, Nat.le_of_ble_eq_true rfl⟩ ⟨Nat.zero_le _, Nat.zero_le _⟩ rfl (Nat.le_of_ble_eq_true rfl) dX5_readStatement_18 ?_
    refine z_if_eq (tgt := 29) ok dX5_readStatement_21 (by decide) hf (fun _ hf => ?_) (fun _ hf => ?_)
    · refine z_aload_n ok dX5_readStatement_29 0 rfl ?_
      refine z_ldcS ok 3 rfl dX5_readStatement_30 ?_
      refine z_call hf (fun r32 h32 hf => ?_)
      refine z_cV (As := [.ref (X.ad (1000000 + 3))]) (rest := []) (w := 2) ok kc_2 zc_5 (c_Reader_stands (by decide) h32) rfl ⟨ml_5_60, w_Reader_stands⟩ hy_Reader_stands ⟨rfl, rfl⟩ ⟨Nat.le_of_ble_eq_true rfl, Nat.le_of_ble_eq_true rfl⟩ ⟨Nat.zero_le _, Nat.zero_le _⟩ rfl (Nat.le_of_ble_eq_true rfl) dX5_readStatement_32 ?_
      refine z_if_eq (tgt := 67) ok dX5_readStatement_35 (by decide) hf (fun _ hf => ?_) (fun _ hf => ?_)
      · refine z_aload_n ok dX5_readStatement_67 0 rfl ?_
        refine z_ldcS ok 14 rfl dX5_readStatement_68 ?_
        refine z_call hf (fun r70 h70 hf => ?_)
        refine z_cV (As := [.ref (X.ad (1000000 + 14))]) (rest := []) (w := 2) ok kc_2 zc_5 (c_Reader_stands (by decide) h70) rfl ⟨ml_5_60, w_Reader_stands⟩ hy_Reader_stands ⟨rfl, rfl⟩ ⟨Nat.le_of_ble_eq_true rfl, Nat.le_of_ble_eq_true rfl⟩ ⟨Nat.zero_le _, Nat.zero_le _⟩ rfl (Nat.le_of_ble_eq_true rfl) dX5_readStatement_70 ?_
        refine z_if_eq (tgt := 105) ok dX5_readStatement_73 (by decide) hf (fun _ hf => ?_) (fun _ hf => ?_)
        · refine z_aload_n ok dX5_readStatement_105 0 rfl ?_
          refine z_ldcS ok 17 rfl dX5_readStatement_106 ?_
          refine z_call hf (fun r108 h108 hf => ?_)
          refine z_cV (As := [.ref (X.ad (1000000 + 17))]) (rest := []) (w := 2) ok kc_2 zc_5 (c_Reader_stands (by decide) h108) rfl ⟨ml_5_60, w_Reader_stands⟩ hy_Reader_stands ⟨rfl, rfl⟩ ⟨Nat.le_of_ble_eq_true rfl, Nat.le_of_ble_eq_true rfl⟩ ⟨Nat.zero_le _, Nat.zero_le _⟩ rfl (Nat.le_of_ble_eq_true rfl) dX5_readStatement_108 ?_
          refine z_if_eq (tgt := 146) ok dX5_readStatement_111 (by decide) hf (fun _ hf => ?_) (fun _ hf => ?_)
          · refine z_aload_n ok dX5_readStatement_146 0 rfl ?_
            refine z_ldcS ok 20 rfl dX5_readStatement_147 ?_
            refine z_call hf (fun r149 h149 hf => ?_)
            refine z_cV (As := [.ref (X.ad (1000000 + 20))]) (rest := []) (w := 2) ok kc_2 zc_5 (c_Reader_stands (by decide) h149) rfl ⟨ml_5_60, w_Reader_stands⟩ hy_Reader_stands ⟨rfl, rfl⟩ ⟨Nat.le_of_ble_eq_true rfl, Nat.le_of_ble_eq_true rfl⟩ ⟨Nat.zero_le _, Nat.zero_le _⟩ rfl (Nat.le_of_ble_eq_true rfl) dX5_readStatement_149 ?_
            refine z_if_eq (tgt := 186) ok dX5_readStatement_152 (by decide) hf (fun _ hf => ?_) (fun _ hf => ?_)
            · refine z_aload_n ok dX5_readStatement_186 0 rfl ?_
              refine z_iconst (v := 1) ok dX5_readStatement_187 (by decide) ?_
              refine z_aload_n ok dX5_readStatement_188 0 rfl ?_
              refine z_geti ok kc_2 zc_5 hin_5 2 (by decide) fl_5_28 rfl dX5_readStatement_189 hf (fun v189 hf => ?_)
              refine z_call hf (fun r192 h192 hf => ?_)
              refine z_cV (As := [.int 1, .int v189]) (rest := []) (w := 2) ok kc_2 zc_5 (c_Reader_fail h192) rfl ⟨ml_5_51, w_Reader_fail⟩ hy_Reader_fail ⟨rfl, rfl⟩ ⟨Nat.le_of_ble_eq_true rfl, Nat.le_of_ble_eq_true rfl⟩ ⟨Nat.zero_le _, Nat.zero_le _⟩ rfl (Nat.le_of_ble_eq_true rfl) dX5_readStatement_192 ?_
              obtain rfl := Option.some.inj hf
              exact hk _ _ dX5_readStatement_195
            · refine z_aload_n ok dX5_readStatement_155 0 rfl ?_
              refine z_getm2 (p := 3) (q := 29) ok kc_2 zc_5 hin_5 5 (by decide) fl_5_19 rfl (by decide) (by decide) dX5_readStatement_156 hf (fun q156 e156 hf => ?_)
              have hq156 : zI_Works q156 198 := by rcases e156 with rfl | rfl; exact kI_Works_3; exact kI_Works_29
              obtain ⟨hq156_0, hq156_1, hq156_2, hq156_3, hq156_4, hq156_5, hq156_6, hq156_7, hq156_8, hq156_9, hq156_10, hq156_11, hq156_12, hq156_13, hq156_14, hq156_15, hq156_16, hq156_17, hq156_18, hq156_19, hq156_20, hq156_21, hq156_22, hq156_23, hq156_24, hq156_25⟩ := id hq156
              refine z_getr (q := (q156 + 20)) ok hq156_0 zc_10 hin_10 12 (by decide) fl_5_99 rfl dX5_readStatement_159 ?_
              refine z_geti ok hq156_20 zc_8 hin_8 0 (by decide) fl_5_102 rfl dX5_readStatement_162 hf (fun v162 hf => ?_)
              refine z_iconst (v := 2) ok dX5_readStatement_165 (by decide) ?_
              refine z_icmp_ge (tgt := 176) ok dX5_readStatement_166 (by decide) hf (fun _ hf => ?_) (fun _ hf => ?_)
              · refine z_aload_n ok dX5_readStatement_176 0 rfl ?_
                refine z_iconst (v := 5) ok dX5_readStatement_177 (by decide) ?_
                refine z_aload_n ok dX5_readStatement_178 0 rfl ?_
                refine z_geti ok kc_2 zc_5 hin_5 2 (by decide) fl_5_28 rfl dX5_readStatement_179 hf (fun v179 hf => ?_)
                refine z_call hf (fun r182 h182 hf => ?_)
                refine z_cV (As := [.int 5, .int v179]) (rest := []) (w := 2) ok kc_2 zc_5 (c_Reader_fail h182) rfl ⟨ml_5_51, w_Reader_fail⟩ hy_Reader_fail ⟨rfl, rfl⟩ ⟨Nat.le_of_ble_eq_true rfl, Nat.le_of_ble_eq_true rfl⟩ ⟨Nat.zero_le _, Nat.zero_le _⟩ rfl (Nat.le_of_ble_eq_true rfl) dX5_readStatement_182 ?_
                obtain rfl := Option.some.inj hf
                exact hk _ _ dX5_readStatement_185
              · refine z_aload_n ok dX5_readStatement_169 0 rfl ?_
                refine z_call hf (fun r170 h170 hf => ?_)
                refine z_cV (As := []) (rest := []) (w := 2) ok kc_2 zc_5 (c_Reader_readTurns h170) rfl ⟨ml_5_105, w_Reader_readTurns⟩ hy_Reader_readTurns ⟨rfl, rfl⟩ ⟨Nat.le_of_ble_eq_true rfl, Nat.le_of_ble_eq_true rfl⟩ ⟨Nat.zero_le _, Nat.zero_le _⟩ rfl (Nat.le_of_ble_eq_true rfl) dX5_readStatement_170 ?_
                refine z_goto (tgt := 185) ok dX5_readStatement_173 (by decide) ?_
                obtain rfl := Option.some.inj hf
                exact hk _ _ dX5_readStatement_185
          · refine z_aload_n ok dX5_readStatement_114 0 rfl ?_
            refine z_getm2 (p := 3) (q := 29) ok kc_2 zc_5 hin_5 5 (by decide) fl_5_19 rfl (by decide) (by decide) dX5_readStatement_115 hf (fun q115 e115 hf => ?_)
            have hq115 : zI_Works q115 198 := by rcases e115 with rfl | rfl; exact kI_Works_3; exact kI_Works_29
            obtain ⟨hq115_0, hq115_1, hq115_2, hq115_3, hq115_4, hq115_5, hq115_6, hq115_7, hq115_8, hq115_9, hq115_10, hq115_11, hq115_12, hq115_13, hq115_14, hq115_15, hq115_16, hq115_17, hq115_18, hq115_19, hq115_20, hq115_21, hq115_22, hq115_23, hq115_24, hq115_25⟩ := id hq115
            refine z_getr (q := (q115 + 16)) ok hq115_0 zc_10 hin_10 11 (by decide) fl_5_85 rfl dX5_readStatement_118 ?_
            refine z_geti ok hq115_16 zc_3 hin_3 0 (by decide) fl_5_89 rfl dX5_readStatement_121 hf (fun v121 hf => ?_)
            refine z_bipush (v := 16) ok dX5_readStatement_124 (by decide) ?_
            refine z_icmp_ge (tgt := 136) ok dX5_readStatement_126 (by decide) hf (fun _ hf => ?_) (fun _ hf => ?_)
            · refine z_aload_n ok dX5_readStatement_136 0 rfl ?_
              refine z_iconst (v := 5) ok dX5_readStatement_137 (by decide) ?_
              refine z_aload_n ok dX5_readStatement_138 0 rfl ?_
              refine z_geti ok kc_2 zc_5 hin_5 2 (by decide) fl_5_28 rfl dX5_readStatement_139 hf (fun v139 hf => ?_)
              refine z_call hf (fun r142 h142 hf => ?_)
              refine z_cV (As := [.int 5, .int v139]) (rest := []) (w := 2) ok kc_2 zc_5 (c_Reader_fail h142) rfl ⟨ml_5_51, w_Reader_fail⟩ hy_Reader_fail ⟨rfl, rfl⟩ ⟨Nat.le_of_ble_eq_true rfl, Nat.le_of_ble_eq_true rfl⟩ ⟨Nat.zero_le _, Nat.zero_le _⟩ rfl (Nat.le_of_ble_eq_true rfl) dX5_readStatement_142 ?_
              obtain rfl := Option.some.inj hf
              exact hk _ _ dX5_readStatement_145
            · refine z_aload_n ok dX5_readStatement_129 0 rfl ?_
              refine z_call hf (fun r130 h130 hf => ?_)
              refine z_cV (As := []) (rest := []) (w := 2) ok kc_2 zc_5 (c_Reader_readOrder h130) rfl ⟨ml_5_94, w_Reader_readOrder⟩ hy_Reader_readOrder ⟨rfl, rfl⟩ ⟨Nat.le_of_ble_eq_true rfl, Nat.le_of_ble_eq_true rfl⟩ ⟨Nat.zero_le _, Nat.zero_le _⟩ rfl (Nat.le_of_ble_eq_true rfl) dX5_readStatement_130 ?_
              refine z_goto (tgt := 145) ok dX5_readStatement_133 (by decide) ?_
              obtain rfl := Option.some.inj hf
              exact hk _ _ dX5_readStatement_145
        · refine z_aload_n ok dX5_readStatement_76 0 rfl ?_
          refine z_getm2 (p := 3) (q := 29) ok kc_2 zc_5 hin_5 5 (by decide) fl_5_19 rfl (by decide) (by decide) dX5_readStatement_77 hf (fun q77 e77 hf => ?_)
          have hq77 : zI_Works q77 198 := by rcases e77 with rfl | rfl; exact kI_Works_3; exact kI_Works_29
          obtain ⟨hq77_0, hq77_1, hq77_2, hq77_3, hq77_4, hq77_5, hq77_6, hq77_7, hq77_8, hq77_9, hq77_10, hq77_11, hq77_12, hq77_13, hq77_14, hq77_15, hq77_16, hq77_17, hq77_18, hq77_19, hq77_20, hq77_21, hq77_22, hq77_23, hq77_24, hq77_25⟩ := id hq77
          refine z_geti ok hq77_0 zc_10 hin_10 7 (by decide) fl_5_77 rfl dX5_readStatement_80 hf (fun v80 hf => ?_)
          refine z_bipush (v := 10) ok dX5_readStatement_83 (by decide) ?_
          refine z_icmp_ge (tgt := 95) ok dX5_readStatement_85 (by decide) hf (fun _ hf => ?_) (fun _ hf => ?_)
          · refine z_aload_n ok dX5_readStatement_95 0 rfl ?_
            refine z_iconst (v := 5) ok dX5_readStatement_96 (by decide) ?_
            refine z_aload_n ok dX5_readStatement_97 0 rfl ?_
            refine z_geti ok kc_2 zc_5 hin_5 2 (by decide) fl_5_28 rfl dX5_readStatement_98 hf (fun v98 hf => ?_)
            refine z_call hf (fun r101 h101 hf => ?_)
            refine z_cV (As := [.int 5, .int v98]) (rest := []) (w := 2) ok kc_2 zc_5 (c_Reader_fail h101) rfl ⟨ml_5_51, w_Reader_fail⟩ hy_Reader_fail ⟨rfl, rfl⟩ ⟨Nat.le_of_ble_eq_true rfl, Nat.le_of_ble_eq_true rfl⟩ ⟨Nat.zero_le _, Nat.zero_le _⟩ rfl (Nat.le_of_ble_eq_true rfl) dX5_readStatement_101 ?_
            obtain rfl := Option.some.inj hf
            exact hk _ _ dX5_readStatement_104
          · refine z_aload_n ok dX5_readStatement_88 0 rfl ?_
            refine z_call hf (fun r89 h89 hf => ?_)
            refine z_cV (As := []) (rest := []) (w := 2) ok kc_2 zc_5 (c_Reader_readOutlet h89) rfl ⟨ml_5_80, w_Reader_readOutlet⟩ hy_Reader_readOutlet ⟨rfl, rfl⟩ ⟨Nat.le_of_ble_eq_true rfl, Nat.le_of_ble_eq_true rfl⟩ ⟨Nat.zero_le _, Nat.zero_le _⟩ rfl (Nat.le_of_ble_eq_true rfl) dX5_readStatement_89 ?_
            refine z_goto (tgt := 104) ok dX5_readStatement_92 (by decide) ?_
            obtain rfl := Option.some.inj hf
            exact hk _ _ dX5_readStatement_104
      · refine z_aload_n ok dX5_readStatement_38 0 rfl ?_
        refine z_getm2 (p := 3) (q := 29) ok kc_2 zc_5 hin_5 5 (by decide) fl_5_19 rfl (by decide) (by decide) dX5_readStatement_39 hf (fun q39 e39 hf => ?_)
        have hq39 : zI_Works q39 198 := by rcases e39 with rfl | rfl; exact kI_Works_3; exact kI_Works_29
        obtain ⟨hq39_0, hq39_1, hq39_2, hq39_3, hq39_4, hq39_5, hq39_6, hq39_7, hq39_8, hq39_9, hq39_10, hq39_11, hq39_12, hq39_13, hq39_14, hq39_15, hq39_16, hq39_17, hq39_18, hq39_19, hq39_20, hq39_21, hq39_22, hq39_23, hq39_24, hq39_25⟩ := id hq39
        refine z_geti ok hq39_0 zc_10 hin_10 3 (by decide) fl_5_69 rfl dX5_readStatement_42 hf (fun v42 hf => ?_)
        refine z_bipush (v := 8) ok dX5_readStatement_45 (by decide) ?_
        refine z_icmp_ge (tgt := 57) ok dX5_readStatement_47 (by decide) hf (fun _ hf => ?_) (fun _ hf => ?_)
        · refine z_aload_n ok dX5_readStatement_57 0 rfl ?_
          refine z_iconst (v := 5) ok dX5_readStatement_58 (by decide) ?_
          refine z_aload_n ok dX5_readStatement_59 0 rfl ?_
          refine z_geti ok kc_2 zc_5 hin_5 2 (by decide) fl_5_28 rfl dX5_readStatement_60 hf (fun v60 hf => ?_)
          refine z_call hf (fun r63 h63 hf => ?_)
          refine z_cV (As := [.int 5, .int v60]) (rest := []) (w := 2) ok kc_2 zc_5 (c_Reader_fail h63) rfl ⟨ml_5_51, w_Reader_fail⟩ hy_Reader_fail ⟨rfl, rfl⟩ ⟨Nat.le_of_ble_eq_true rfl, Nat.le_of_ble_eq_true rfl⟩ ⟨Nat.zero_le _, Nat.zero_le _⟩ rfl (Nat.le_of_ble_eq_true rfl) dX5_readStatement_63 ?_
          obtain rfl := Option.some.inj hf
          exact hk _ _ dX5_readStatement_66
        · refine z_aload_n ok dX5_readStatement_50 0 rfl ?_
          refine z_call hf (fun r51 h51 hf => ?_)
          refine z_cV (As := []) (rest := []) (w := 2) ok kc_2 zc_5 (c_Reader_readPool h51) rfl ⟨ml_5_72, w_Reader_readPool⟩ hy_Reader_readPool ⟨rfl, rfl⟩ ⟨Nat.le_of_ble_eq_true rfl, Nat.le_of_ble_eq_true rfl⟩ ⟨Nat.zero_le _, Nat.zero_le _⟩ rfl (Nat.le_of_ble_eq_true rfl) dX5_readStatement_51 ?_
          refine z_goto (tgt := 66) ok dX5_readStatement_54 (by decide) ?_
          obtain rfl := Option.some.inj hf
          exact hk _ _ dX5_readStatement_66
    · refine z_aload_n ok dX5_readStatement_24 0 rfl ?_
      refine z_call hf (fun r25 h25 hf => ?_)
      refine z_cV (As := []) (rest := []) (w := 2) ok kc_2 zc_5 (c_Reader_readKeep h25) rfl ⟨ml_5_64, w_Reader_readKeep⟩ hy_Reader_readKeep ⟨rfl, rfl⟩ ⟨Nat.le_of_ble_eq_true rfl, Nat.le_of_ble_eq_true rfl⟩ ⟨Nat.zero_le _, Nat.zero_le _⟩ rfl (Nat.le_of_ble_eq_true rfl) dX5_readStatement_25 ?_
      obtain rfl := Option.some.inj hf
      exact hk _ _ dX5_readStatement_28
theorem c_Reader_readStatement {σ : Sg} {r : (Bool × Sg)} (h : Reader_readStatement σ = some r) : ZcI yX5_readStatement cX5_readStatement 1 .boolean rm_Reader_readStatement 198 (fun ad => [.ref (ad 2)]) σ (zb r.1) r.2 :=
  zmetI pn_5 rfl (fun _ => rfl) (fun _ => Nat.le_of_ble_eq_true rfl) (zb_nar _) (fun X Q ok hk => t_Reader_readStatement ok h hk)
theorem dX5_readText_0 : decode cX5_readText 0 = .ok (.aload_n 0, 1) := by decide +kernel
theorem dX5_readText_1 : decode cX5_readText 1 = .ok (.aload_n 1, 1) := by decide +kernel
theorem dX5_readText_2 : decode cX5_readText 2 = .ok (.putfield 9, 3) := by decide +kernel
theorem dX5_readText_5 : decode cX5_readText 5 = .ok (.aload_n 0, 1) := by decide +kernel
theorem dX5_readText_6 : decode cX5_readText 6 = .ok (.iload_n 2, 1) := by decide +kernel
theorem dX5_readText_7 : decode cX5_readText 7 = .ok (.putfield 15, 3) := by decide +kernel
theorem dX5_readText_10 : decode cX5_readText 10 = .ok (.aload_n 0, 1) := by decide +kernel
theorem dX5_readText_11 : decode cX5_readText 11 = .ok (.aload_n 3, 1) := by decide +kernel
theorem dX5_readText_12 : decode cX5_readText 12 = .ok (.putfield 19, 3) := by decide +kernel
theorem dX5_readText_15 : decode cX5_readText 15 = .ok (.aload_n 0, 1) := by decide +kernel
theorem dX5_readText_16 : decode cX5_readText 16 = .ok (.getfield 19, 3) := by decide +kernel
theorem dX5_readText_19 : decode cX5_readText 19 = .ok (.invokevirtual 23, 3) := by decide +kernel
theorem dX5_readText_22 : decode cX5_readText 22 = .ok (.aload_n 0, 1) := by decide +kernel
theorem dX5_readText_23 : decode cX5_readText 23 = .ok (.iconst 0, 1) := by decide +kernel
theorem dX5_readText_24 : decode cX5_readText 24 = .ok (.putfield 28, 3) := by decide +kernel
theorem dX5_readText_27 : decode cX5_readText 27 = .ok (.aload_n 0, 1) := by decide +kernel
theorem dX5_readText_28 : decode cX5_readText 28 = .ok (.iconst 0, 1) := by decide +kernel
theorem dX5_readText_29 : decode cX5_readText 29 = .ok (.putfield 31, 3) := by decide +kernel
theorem dX5_readText_32 : decode cX5_readText 32 = .ok (.aload_n 0, 1) := by decide +kernel
theorem dX5_readText_33 : decode cX5_readText 33 = .ok (.iconst 0, 1) := by decide +kernel
theorem dX5_readText_34 : decode cX5_readText 34 = .ok (.putfield 35, 3) := by decide +kernel
theorem dX5_readText_37 : decode cX5_readText 37 = .ok (.aload_n 0, 1) := by decide +kernel
theorem dX5_readText_38 : decode cX5_readText 38 = .ok (.iconst (-1), 1) := by decide +kernel
theorem dX5_readText_39 : decode cX5_readText 39 = .ok (.putfield 38, 3) := by decide +kernel
theorem dX5_readText_42 : decode cX5_readText 42 = .ok (.iconst 0, 1) := by decide +kernel
theorem dX5_readText_43 : decode cX5_readText 43 = .ok (.istore 4, 2) := by decide +kernel
theorem dX5_readText_45 : decode cX5_readText 45 = .ok (.iload 4, 2) := by decide +kernel
theorem dX5_readText_47 : decode cX5_readText 47 = .ok (.aload_n 0, 1) := by decide +kernel
theorem dX5_readText_48 : decode cX5_readText 48 = .ok (.getfield 15, 3) := by decide +kernel
theorem dX5_readText_51 : decode cX5_readText 51 = .ok (.if_icmp .gt 49, 3) := by decide +kernel
theorem dX5_readText_54 : decode cX5_readText 54 = .ok (.aload_n 0, 1) := by decide +kernel
theorem dX5_readText_55 : decode cX5_readText 55 = .ok (.invokevirtual 41, 3) := by decide +kernel
theorem dX5_readText_58 : decode cX5_readText 58 = .ok (.aload_n 0, 1) := by decide +kernel
theorem dX5_readText_59 : decode cX5_readText 59 = .ok (.getfield 28, 3) := by decide +kernel
theorem dX5_readText_62 : decode cX5_readText 62 = .ok (.aload_n 0, 1) := by decide +kernel
theorem dX5_readText_63 : decode cX5_readText 63 = .ok (.getfield 15, 3) := by decide +kernel
theorem dX5_readText_66 : decode cX5_readText 66 = .ok (.if_icmp .lt 6, 3) := by decide +kernel
theorem dX5_readText_69 : decode cX5_readText 69 = .ok (.goto 31, 3) := by decide +kernel
theorem dX5_readText_72 : decode cX5_readText 72 = .ok (.aload_n 0, 1) := by decide +kernel
theorem dX5_readText_73 : decode cX5_readText 73 = .ok (.invokevirtual 44, 3) := by decide +kernel
theorem dX5_readText_76 : decode cX5_readText 76 = .ok (.ifCond .ne 5, 3) := by decide +kernel
theorem dX5_readText_79 : decode cX5_readText 79 = .ok (.iconst 0, 1) := by decide +kernel
theorem dX5_readText_80 : decode cX5_readText 80 = .ok (.ireturn, 1) := by decide +kernel
theorem dX5_readText_81 : decode cX5_readText 81 = .ok (.aload_n 0, 1) := by decide +kernel
theorem dX5_readText_82 : decode cX5_readText 82 = .ok (.getfield 19, 3) := by decide +kernel
theorem dX5_readText_85 : decode cX5_readText 85 = .ok (.dup, 1) := by decide +kernel
theorem dX5_readText_86 : decode cX5_readText 86 = .ok (.getfield 48, 3) := by decide +kernel
theorem dX5_readText_89 : decode cX5_readText 89 = .ok (.iconst 1, 1) := by decide +kernel
theorem dX5_readText_90 : decode cX5_readText 90 = .ok (.iadd, 1) := by decide +kernel
theorem dX5_readText_91 : decode cX5_readText 91 = .ok (.putfield 48, 3) := by decide +kernel
theorem dX5_readText_94 : decode cX5_readText 94 = .ok (.iinc 4 1, 3) := by decide +kernel
theorem dX5_readText_97 : decode cX5_readText 97 = .ok (.goto (-52), 3) := by decide +kernel
theorem dX5_readText_100 : decode cX5_readText 100 = .ok (.aload_n 0, 1) := by decide +kernel
theorem dX5_readText_101 : decode cX5_readText 101 = .ok (.getfield 19, 3) := by decide +kernel
theorem dX5_readText_104 : decode cX5_readText 104 = .ok (.getfield 48, 3) := by decide +kernel
theorem dX5_readText_107 : decode cX5_readText 107 = .ok (.ifCond .gt 15, 3) := by decide +kernel
theorem dX5_readText_110 : decode cX5_readText 110 = .ok (.aload_n 0, 1) := by decide +kernel
theorem dX5_readText_111 : decode cX5_readText 111 = .ok (.iconst 1, 1) := by decide +kernel
theorem dX5_readText_112 : decode cX5_readText 112 = .ok (.aload_n 0, 1) := by decide +kernel
theorem dX5_readText_113 : decode cX5_readText 113 = .ok (.getfield 15, 3) := by decide +kernel
theorem dX5_readText_116 : decode cX5_readText 116 = .ok (.invokevirtual 51, 3) := by decide +kernel
theorem dX5_readText_119 : decode cX5_readText 119 = .ok (.ifCond .eq 7, 3) := by decide +kernel
theorem dX5_readText_122 : decode cX5_readText 122 = .ok (.iconst 1, 1) := by decide +kernel
theorem dX5_readText_123 : decode cX5_readText 123 = .ok (.goto 4, 3) := by decide +kernel
theorem dX5_readText_126 : decode cX5_readText 126 = .ok (.iconst 0, 1) := by decide +kernel
theorem dX5_readText_127 : decode cX5_readText 127 = .ok (.ireturn, 1) := by decide +kernel
abbrev rm_Reader_readText : Room := { frames := 9, cells := 0, slots := 0, locals := 197 }
def Reader_readText_l45 (σ : Sg) (x4 : Int32) : Option ((Sg × Int32) ⊕ ((Bool × Sg) ⊕ (Sg × Int32))) :=
  zgt σ 2 1 fun v48 =>
  if v48 < x4 then (
    some (.inr (.inr (σ, x4)))
  ) else (
    (Reader_skipBlanks σ).bind fun r55 =>
    zgt r55 2 2 fun v59 =>
    zgt r55 2 1 fun v63 =>
    if v59 < v63 then (
      (Reader_readStatement r55).bind fun r73 =>
      if (zb r73.1) = 0 then (
        some (.inr (.inl (false, r73.2)))
      ) else (
        zmr2 3 29 (r73.2 2 5) fun q82 =>
        zgt r73.2 q82 0 fun v86 =>
        zpt r73.2 q82 0 (v86 + 1) fun σ91 =>
        zlt (x4 + 1) fun v94 =>
        some (.inl (σ91, v94))
      )
    ) else (
      some (.inr (.inr (r55, x4)))
    )
  )
set_option maxRecDepth 20000 in
theorem t_Reader_readText_l45 {X : Zx} {Q : State → Prop} {σ : Sg} {x4 : Int32} (ok : Zok X cX5_readText RX5 rm_Reader_readText 198 5)  {out : ((Sg × Int32) ⊕ ((Bool × Sg) ⊕ (Sg × Int32)))} (hf : Reader_readText_l45 σ x4 = some out) (hk : zout (fun (s : (Sg × Int32)) => ZAt X Q 0 0 45 s.1 [(0, .ref (X.ad 2)), (4, .int s.2)] []) (zout (fun (r : (Bool × Sg)) => ZrI cX5_readText X Q (zb r.1) r.2) (fun (s : (Sg × Int32)) => ZAt X Q 0 0 100 s.1 [(0, .ref (X.ad 2))] [])) out) : ZAt X Q 0 0 45 σ [(0, .ref (X.ad 2)), (4, .int x4)] [] := by
  unfold Reader_readText_l45 at hf
  refine z_iload ok dX5_readText_45 1 rfl ?_
  refine z_aload_n ok dX5_readText_47 0 rfl ?_
  refine z_geti ok kc_2 zc_5 hin_5 1 (by decide) fl_5_15 rfl dX5_readText_48 hf (fun v48 hf => ?_)
  refine z_icmp_gt (tgt := 100) ok dX5_readText_51 (by decide) hf (fun _ hf => ?_) (fun _ hf => ?_)
  · obtain rfl := Option.some.inj hf
    exact z_sub [0] rfl hk
  · refine z_aload_n ok dX5_readText_54 0 rfl ?_
    refine z_call hf (fun r55 h55 hf => ?_)
    refine z_cVv (As := []) (rest := []) (w := 2) ok kc_2 zc_5 (c_Reader_skipBlanks h55) rfl ⟨ml_5_41, w_Reader_skipBlanks⟩ hy_Reader_skipBlanks ⟨rfl, rfl⟩ ⟨Nat.le_of_ble_eq_true rfl, Nat.le_of_ble_eq_true rfl⟩ ⟨Nat.zero_le _, Nat.zero_le _⟩ rfl (Nat.le_of_ble_eq_true rfl) dX5_readText_55 ?_
    refine z_aload_n ok dX5_readText_58 0 rfl ?_
    refine z_geti ok kc_2 zc_5 hin_5 2 (by decide) fl_5_28 rfl dX5_readText_59 hf (fun v59 hf => ?_)
    refine z_aload_n ok dX5_readText_62 0 rfl ?_
    refine z_geti ok kc_2 zc_5 hin_5 1 (by decide) fl_5_15 rfl dX5_readText_63 hf (fun v63 hf => ?_)
    refine z_icmp_lt (tgt := 72) ok dX5_readText_66 (by decide) hf (fun _ hf => ?_) (fun _ hf => ?_)
    · refine z_aload_n ok dX5_readText_72 0 rfl ?_
      refine z_call hf (fun r73 h73 hf => ?_)
      refine z_cV (As := []) (rest := []) (w := 2) ok kc_2 zc_5 (c_Reader_readStatement h73) rfl ⟨ml_5_44, w_Reader_readStatement⟩ hy_Reader_readStatement ⟨rfl, rfl⟩ ⟨Nat.le_of_ble_eq_true rfl, Nat.le_of_ble_eq_true rfl⟩ ⟨Nat.zero_le _, Nat.zero_le _⟩ rfl (Nat.le_of_ble_eq_true rfl) dX5_readText_73 ?_
      refine z_if_ne (tgt := 81) ok dX5_readText_76 (by decide) hf (fun _ hf => ?_) (fun _ hf => ?_)
      · refine z_iconst (v := 0) ok dX5_readText_79 (by decide) ?_
        obtain rfl := Option.some.inj hf
        exact hk _ _ dX5_readText_80
      · refine z_aload_n ok dX5_readText_81 0 rfl ?_
        refine z_getm2 (p := 3) (q := 29) ok kc_2 zc_5 hin_5 5 (by decide) fl_5_19 rfl (by decide) (by decide) dX5_readText_82 hf (fun q82 e82 hf => ?_)
        have hq82 : zI_Works q82 198 := by rcases e82 with rfl | rfl; exact kI_Works_3; exact kI_Works_29
        obtain ⟨hq82_0, hq82_1, hq82_2, hq82_3, hq82_4, hq82_5, hq82_6, hq82_7, hq82_8, hq82_9, hq82_10, hq82_11, hq82_12, hq82_13, hq82_14, hq82_15, hq82_16, hq82_17, hq82_18, hq82_19, hq82_20, hq82_21, hq82_22, hq82_23, hq82_24, hq82_25⟩ := id hq82
        refine z_dup ok dX5_readText_85 rfl ?_
        refine z_geti ok hq82_0 zc_10 hin_10 0 (by decide) fl_5_48 rfl dX5_readText_86 hf (fun v86 hf => ?_)
        refine z_iconst (v := 1) ok dX5_readText_89 (by decide) ?_
        refine z_iadd ok dX5_readText_90 ?_
        refine z_puti ok hq82_0 zc_10 hin_10 tyX10 tyX10_ok nmX10 0 (by decide) fl_5_48 rfl rfl (tyX10_ok 0 (by decide)) dX5_readText_91 hf (fun σ91 hf => ?_)
        refine z_iinc (w := 1) (lv' := fun v94 => [(4, .int v94), (0, .ref (X.ad 2))]) ok dX5_readText_94 1 rfl (by decide) (by decide) (fun _ => rfl) hf (fun v94 hf => ?_)
        refine z_goto (tgt := 45) ok dX5_readText_97 (by decide) ?_
        obtain rfl := Option.some.inj hf
        exact z_sub [1, 0] rfl hk
    · refine z_goto (tgt := 100) ok dX5_readText_69 (by decide) ?_
      obtain rfl := Option.some.inj hf
      exact z_sub [0] rfl hk
def Reader_readText_j100 (σ : Sg)  : Option (Bool × Sg) :=
  zmr2 3 29 (σ 2 5) fun q101 =>
  zgt σ q101 0 fun v104 =>
  if 0 < v104 then (
    some (true, σ)
  ) else (
    zgt σ 2 1 fun v113 =>
    (Reader_fail σ 1 v113).bind fun r116 =>
    if (zb r116.1) = 0 then (
      some (false, r116.2)
    ) else (
      some (true, r116.2)
    )
  )
set_option maxRecDepth 20000 in
theorem t_Reader_readText_j100 {X : Zx} {Q : State → Prop} {σ : Sg}  (ok : Zok X cX5_readText RX5 rm_Reader_readText 198 5)  {out : (Bool × Sg)} (hf : Reader_readText_j100 σ = some out) (hk : ZrI cX5_readText X Q (zb out.1) out.2) : ZAt X Q 0 0 100 σ [(0, .ref (X.ad 2))] [] := by
  unfold Reader_readText_j100 at hf
  refine z_aload_n ok dX5_readText_100 0 rfl ?_
  refine z_getm2 (p := 3) (q := 29) ok kc_2 zc_5 hin_5 5 (by decide) fl_5_19 rfl (by decide) (by decide) dX5_readText_101 hf (fun q101 e101 hf => ?_)
  have hq101 : zI_Works q101 198 := by rcases e101 with rfl | rfl; exact kI_Works_3; exact kI_Works_29
  obtain ⟨hq101_0, hq101_1, hq101_2, hq101_3, hq101_4, hq101_5, hq101_6, hq101_7, hq101_8, hq101_9, hq101_10, hq101_11, hq101_12, hq101_13, hq101_14, hq101_15, hq101_16, hq101_17, hq101_18, hq101_19, hq101_20, hq101_21, hq101_22, hq101_23, hq101_24, hq101_25⟩ := id hq101
  refine z_geti ok hq101_0 zc_10 hin_10 0 (by decide) fl_5_48 rfl dX5_readText_104 hf (fun v104 hf => ?_)
  refine z_if_gt (tgt := 122) ok dX5_readText_107 (by decide) hf (fun _ hf => ?_) (fun _ hf => ?_)
  · refine z_iconst (v := 1) ok dX5_readText_122 (by decide) ?_
    refine z_goto (tgt := 127) ok dX5_readText_123 (by decide) ?_
    obtain rfl := Option.some.inj hf
    exact hk _ _ dX5_readText_127
  · refine z_aload_n ok dX5_readText_110 0 rfl ?_
    refine z_iconst (v := 1) ok dX5_readText_111 (by decide) ?_
    refine z_aload_n ok dX5_readText_112 0 rfl ?_
    refine z_geti ok kc_2 zc_5 hin_5 1 (by decide) fl_5_15 rfl dX5_readText_113 hf (fun v113 hf => ?_)
    refine z_call hf (fun r116 h116 hf => ?_)
    refine z_cV (As := [.int 1, .int v113]) (rest := []) (w := 2) ok kc_2 zc_5 (c_Reader_fail h116) rfl ⟨ml_5_51, w_Reader_fail⟩ hy_Reader_fail ⟨rfl, rfl⟩ ⟨Nat.le_of_ble_eq_true rfl, Nat.le_of_ble_eq_true rfl⟩ ⟨Nat.zero_le _, Nat.zero_le _⟩ rfl (Nat.le_of_ble_eq_true rfl) dX5_readText_116 ?_
    refine z_if_eq (tgt := 126) ok dX5_readText_119 (by decide) hf (fun _ hf => ?_) (fun _ hf => ?_)
    · refine z_iconst (v := 0) ok dX5_readText_126 (by decide) ?_
      obtain rfl := Option.some.inj hf
      exact hk _ _ dX5_readText_127
    · refine z_iconst (v := 1) ok dX5_readText_122 (by decide) ?_
      refine z_goto (tgt := 127) ok dX5_readText_123 (by decide) ?_
      obtain rfl := Option.some.inj hf
      exact hk _ _ dX5_readText_127
def Reader_readText (σ : Sg) (a1 : Nat) (n1 : Nat) (x2 : Int32) (p3 : Nat) : Option (Bool × Sg) :=
  zpt σ 2 0 (nI (a1 + 1)) fun σ2 =>
  zpt σ2 2 1 x2 fun σ7 =>
  zpt σ7 2 5 (nI (p3 + 1)) fun σ12 =>
  zmr2 3 29 (σ12 2 5) fun q16 =>
  (Works_clear σ12 q16).bind fun r19 =>
  zpt r19 2 2 0 fun σ24 =>
  zbo 0 <| zpt σ24 2 3 0 fun σ29 =>
  zpt σ29 2 6 0 fun σ34 =>
  zpt σ34 2 7 (-1) fun σ39 =>
  zlt 0 fun v43 =>
  (zit (fun (s : (Sg × Int32)) => Reader_readText_l45 s.1 s.2) zFU (σ39, v43)).bind fun r => r.elim (fun r =>
  some r
  ) (fun r =>
  Reader_readText_j100 r.1
  )
set_option maxRecDepth 20000 in
theorem t_Reader_readText {X : Zx} {Q : State → Prop} {σ : Sg} {a1 : Nat} {n1 : Nat} {x2 : Int32} {p3 : Nat} (ok : Zok X cX5_readText RX5 rm_Reader_readText 198 5) (ha1 : zk a1 198 (.inr (1, n1, []))) (hp3 : zI_Works p3 198) {out : (Bool × Sg)} (hf : Reader_readText σ a1 n1 x2 p3 = some out) (hk : ZrI cX5_readText X Q (zb out.1) out.2) : ZAt X Q 0 0 0 σ [(0, .ref (X.ad 2)), (1, .ref (X.ad a1)), (2, .int x2), (3, .ref (X.ad p3))] [] := by
  unfold Reader_readText at hf
  obtain ⟨hp3_0, hp3_1, hp3_2, hp3_3, hp3_4, hp3_5, hp3_6, hp3_7, hp3_8, hp3_9, hp3_10, hp3_11, hp3_12, hp3_13, hp3_14, hp3_15, hp3_16, hp3_17, hp3_18, hp3_19, hp3_20, hp3_21, hp3_22, hp3_23, hp3_24, hp3_25⟩ := id hp3
  refine z_aload_n ok dX5_readText_0 0 rfl ?_
  refine z_aload_n ok dX5_readText_1 1 rfl ?_
  refine z_putm (r := a1) ok kc_2 zc_5 hin_5 tyX5 tyX5_ok nmX5 0 (by decide) fl_5_9 rfl rfl (Nat.lt_trans ha1.2 (by decide)) (tyX5_ok 0 (by decide)) rfl rfl dX5_readText_2 hf (fun σ2 hf => ?_)
  refine z_aload_n ok dX5_readText_5 0 rfl ?_
  refine z_iload_n ok dX5_readText_6 2 rfl ?_
  refine z_puti ok kc_2 zc_5 hin_5 tyX5 tyX5_ok nmX5 1 (by decide) fl_5_15 rfl rfl (tyX5_ok 1 (by decide)) dX5_readText_7 hf (fun σ7 hf => ?_)
  refine z_aload_n ok dX5_readText_10 0 rfl ?_
  refine z_aload_n ok dX5_readText_11 3 rfl ?_
  refine z_putm (r := p3) ok kc_2 zc_5 hin_5 tyX5 tyX5_ok nmX5 5 (by decide) fl_5_19 rfl rfl (Nat.lt_trans hp3_0.2 (by decide)) (tyX5_ok 5 (by decide)) rfl rfl dX5_readText_12 hf (fun σ12 hf => ?_)
  refine z_aload_n ok dX5_readText_15 0 rfl ?_
  refine z_getm2 (p := 3) (q := 29) ok kc_2 zc_5 hin_5 5 (by decide) fl_5_19 rfl (by decide) (by decide) dX5_readText_16 hf (fun q16 e16 hf => ?_)
  have hq16 : zI_Works q16 198 := by rcases e16 with rfl | rfl; exact kI_Works_3; exact kI_Works_29
  obtain ⟨hq16_0, hq16_1, hq16_2, hq16_3, hq16_4, hq16_5, hq16_6, hq16_7, hq16_8, hq16_9, hq16_10, hq16_11, hq16_12, hq16_13, hq16_14, hq16_15, hq16_16, hq16_17, hq16_18, hq16_19, hq16_20, hq16_21, hq16_22, hq16_23, hq16_24, hq16_25⟩ := id hq16
  refine z_call hf (fun r19 h19 hf => ?_)
  refine z_cVv (As := []) (rest := []) (w := q16) ok hq16_0 zc_10 (c_Works_clear hq16 h19) rfl ⟨ml_5_23, w_Works_clear⟩ hy_Works_clear ⟨rfl, rfl⟩ ⟨Nat.le_of_ble_eq_true rfl, Nat.le_of_ble_eq_true rfl⟩ ⟨Nat.zero_le _, Nat.zero_le _⟩ rfl (Nat.le_of_ble_eq_true rfl) dX5_readText_19 ?_
  refine z_aload_n ok dX5_readText_22 0 rfl ?_
  refine z_iconst (v := 0) ok dX5_readText_23 (by decide) ?_
  refine z_puti ok kc_2 zc_5 hin_5 tyX5 tyX5_ok nmX5 2 (by decide) fl_5_28 rfl rfl (tyX5_ok 2 (by decide)) dX5_readText_24 hf (fun σ24 hf => ?_)
  refine z_aload_n ok dX5_readText_27 0 rfl ?_
  refine z_iconst (v := 0) ok dX5_readText_28 (by decide) ?_
  refine z_putz ok kc_2 zc_5 hin_5 tyX5 tyX5_ok nmX5 3 (by decide) fl_5_31 rfl rfl (tyX5_ok 3 (by decide)) dX5_readText_29 hf (fun σ29 hf => ?_)
  refine z_aload_n ok dX5_readText_32 0 rfl ?_
  refine z_iconst (v := 0) ok dX5_readText_33 (by decide) ?_
  refine z_puti ok kc_2 zc_5 hin_5 tyX5 tyX5_ok nmX5 6 (by decide) fl_5_35 rfl rfl (tyX5_ok 6 (by decide)) dX5_readText_34 hf (fun σ34 hf => ?_)
  refine z_aload_n ok dX5_readText_37 0 rfl ?_
  refine z_iconst (v := (-1)) ok dX5_readText_38 (by decide) ?_
  refine z_puti ok kc_2 zc_5 hin_5 tyX5 tyX5_ok nmX5 7 (by decide) fl_5_38 rfl rfl (tyX5_ok 7 (by decide)) dX5_readText_39 hf (fun σ39 hf => ?_)
  refine z_iconst (v := 0) ok dX5_readText_42 (by decide) ?_
  refine z_nm hf (fun v43 hf => ?_)
  refine z_istore (lv' := [(4, .int v43), (0, .ref (X.ad 2)), (1, .ref (X.ad a1)), (2, .int x2), (3, .ref (X.ad p3))]) ok dX5_readText_43 (by decide) rfl ?_
  refine z_call hf (fun r hr hf => ?_)
  refine z_sub [1, 0] rfl (z_iter (fun (s : (Sg × Int32)) => s.1) (fun (s : (Sg × Int32)) => [(0, .ref (X.ad 2)), (4, .int s.2)]) (fun s o h1 h2 => t_Reader_readText_l45 ok h1 h2) _ _ _ hr ?_)
  cases r with
  | inl r =>
    obtain rfl := Option.some.inj hf
    exact hk
  | inr r =>
    simp only [Sum.elim_inr] at hf
    show ZAt X Q 0 0 100 r.1 [(0, .ref (X.ad 2))] []
    exact z_sub [0] rfl (t_Reader_readText_j100 ok hf hk)
theorem c_Reader_readText {σ : Sg} {a1 : Nat} {n1 : Nat} {x2 : Int32} {p3 : Nat} (ha1 : zk a1 198 (.inr (1, n1, []))) (hp3 : zI_Works p3 198) {r : (Bool × Sg)} (h : Reader_readText σ a1 n1 x2 p3 = some r) : ZcI yX5_readText cX5_readText 5 .boolean rm_Reader_readText 198 (fun ad => [.ref (ad 2), .ref (ad a1), .int x2, .ref (ad p3)]) σ (zb r.1) r.2 :=
  zmetI pn_5 rfl (fun _ => rfl) (fun _ => Nat.le_of_ble_eq_true rfl) (zb_nar _) (fun X Q ok hk => t_Reader_readText ok ha1 hp3 h hk)
theorem dJ7_fill_53178_0 : decode cJ7_fill_53178 0 = .ok (.iconst 0, 1) := by decide +kernel
theorem dJ7_fill_53178_1 : decode cJ7_fill_53178 1 = .ok (.istore_n 2, 1) := by decide +kernel
theorem dJ7_fill_53178_2 : decode cJ7_fill_53178 2 = .ok (.aload_n 0, 1) := by decide +kernel
theorem dJ7_fill_53178_3 : decode cJ7_fill_53178 3 = .ok (.arraylength, 1) := by decide +kernel
theorem dJ7_fill_53178_4 : decode cJ7_fill_53178 4 = .ok (.istore_n 3, 1) := by decide +kernel
theorem dJ7_fill_53178_5 : decode cJ7_fill_53178 5 = .ok (.iload_n 2, 1) := by decide +kernel
theorem dJ7_fill_53178_6 : decode cJ7_fill_53178 6 = .ok (.iload_n 3, 1) := by decide +kernel
theorem dJ7_fill_53178_7 : decode cJ7_fill_53178 7 = .ok (.if_icmp .ge 13, 3) := by decide +kernel
theorem dJ7_fill_53178_10 : decode cJ7_fill_53178 10 = .ok (.aload_n 0, 1) := by decide +kernel
theorem dJ7_fill_53178_11 : decode cJ7_fill_53178 11 = .ok (.iload_n 2, 1) := by decide +kernel
theorem dJ7_fill_53178_12 : decode cJ7_fill_53178 12 = .ok (.iload_n 1, 1) := by decide +kernel
theorem dJ7_fill_53178_13 : decode cJ7_fill_53178 13 = .ok (.iastore, 1) := by decide +kernel
theorem dJ7_fill_53178_14 : decode cJ7_fill_53178 14 = .ok (.iinc 2 1, 3) := by decide +kernel
theorem dJ7_fill_53178_17 : decode cJ7_fill_53178 17 = .ok (.goto (-12), 3) := by decide +kernel
theorem dJ7_fill_53178_20 : decode cJ7_fill_53178 20 = .ok (.return_, 1) := by decide +kernel
abbrev rm_J_fill : Room := { frames := 0, cells := 0, slots := 0, locals := 0 }
def J_fill_l5 (σ : Sg) (a0 : Nat) (n0 : Nat) (x1 : Int32) (x2 : Int32) (x3 : Int32) : Option ((Sg × Int32) ⊕ (Sg × Int32)) :=
  if x3 ≤ x2 then (
    some (.inr (σ, x2))
  ) else (
    zwr σ a0 n0 x2 x1 fun σ13 =>
    zlt (x2 + 1) fun v14 =>
    some (.inl (σ13, v14))
  )
set_option maxRecDepth 20000 in
theorem t_J_fill_l5 {X : Zx} {Q : State → Prop} {σ : Sg} {a0 : Nat} {n0 : Nat} {x1 : Int32} {x2 : Int32} {x3 : Int32} (ok : Zok X cJ7_fill_53178 RJ7 rm_J_fill 198 4) (ha0 : zk a0 198 (.inr (0, n0, []))) {out : ((Sg × Int32) ⊕ (Sg × Int32))} (hf : J_fill_l5 σ a0 n0 x1 x2 x3 = some out) (hk : zout (fun (s : (Sg × Int32)) => ZAt X Q 0 0 5 s.1 [(0, .ref (X.ad a0)), (1, .int x1), (2, .int s.2), (3, .int x3)] []) (fun (s : (Sg × Int32)) => ZAt X Q 0 0 20 s.1 [] []) out) : ZAt X Q 0 0 5 σ [(0, .ref (X.ad a0)), (1, .int x1), (2, .int x2), (3, .int x3)] [] := by
  unfold J_fill_l5 at hf
  refine z_iload_n ok dJ7_fill_53178_5 2 rfl ?_
  refine z_iload_n ok dJ7_fill_53178_6 3 rfl ?_
  refine z_icmp_ge (tgt := 20) ok dJ7_fill_53178_7 (by decide) hf (fun _ hf => ?_) (fun _ hf => ?_)
  · obtain rfl := Option.some.inj hf
    exact z_sub [] rfl hk
  · refine z_aload_n ok dJ7_fill_53178_10 0 rfl ?_
    refine z_iload_n ok dJ7_fill_53178_11 2 rfl ?_
    refine z_iload_n ok dJ7_fill_53178_12 1 rfl ?_
    refine z_iast ok ha0 dJ7_fill_53178_13 hf (fun σ13 hf => ?_)
    refine z_iinc (w := 1) (lv' := fun v14 => [(2, .int v14), (0, .ref (X.ad a0)), (1, .int x1), (3, .int x3)]) ok dJ7_fill_53178_14 2 rfl (by decide) (by decide) (fun _ => rfl) hf (fun v14 hf => ?_)
    refine z_goto (tgt := 5) ok dJ7_fill_53178_17 (by decide) ?_
    obtain rfl := Option.some.inj hf
    exact z_sub [1, 2, 0, 3] rfl hk
def J_fill (σ : Sg) (a0 : Nat) (n0 : Nat) (x1 : Int32) : Option Sg :=
  zlt 0 fun v1 =>
  zlt (Int32.ofNat n0) fun v4 =>
  (zit (fun (s : (Sg × Int32)) => J_fill_l5 s.1 a0 n0 x1 s.2 v4) zFU (σ, v1)).bind fun r =>
  some r.1
set_option maxRecDepth 20000 in
theorem t_J_fill {X : Zx} {Q : State → Prop} {σ : Sg} {a0 : Nat} {n0 : Nat} {x1 : Int32} (ok : Zok X cJ7_fill_53178 RJ7 rm_J_fill 198 4) (ha0 : zk a0 198 (.inr (0, n0, []))) {out : Sg} (hf : J_fill σ a0 n0 x1 = some out) (hk : ZrV cJ7_fill_53178 X Q out) : ZAt X Q 0 0 0 σ [(0, .ref (X.ad a0)), (1, .int x1)] [] := by
  unfold J_fill at hf
  refine z_iconst (v := 0) ok dJ7_fill_53178_0 (by decide) ?_
  refine z_nm hf (fun v1 hf => ?_)
  refine z_istore_n (lv' := [(2, .int v1), (0, .ref (X.ad a0)), (1, .int x1)]) ok dJ7_fill_53178_1 (by decide) rfl ?_
  refine z_aload_n ok dJ7_fill_53178_2 1 rfl ?_
  refine z_alen ok ha0 (by decide) dJ7_fill_53178_3 ?_
  refine z_nm hf (fun v4 hf => ?_)
  refine z_istore_n (lv' := [(3, .int v4), (2, .int v1), (0, .ref (X.ad a0)), (1, .int x1)]) ok dJ7_fill_53178_4 (by decide) rfl ?_
  refine z_call hf (fun r hr hf => ?_)
  refine z_sub [2, 3, 1, 0] rfl (z_iter (fun (s : (Sg × Int32)) => s.1) (fun (s : (Sg × Int32)) => [(0, .ref (X.ad a0)), (1, .int x1), (2, .int s.2), (3, .int v4)]) (fun s o h1 h2 => t_J_fill_l5 ok ha0 h1 h2) _ _ _ hr ?_)
  show ZAt X Q 0 0 20 r.1 [] []
  obtain rfl := Option.some.inj hf
  exact hk _ _ dJ7_fill_53178_20
theorem c_J_fill {σ : Sg} {a0 : Nat} {n0 : Nat} {x1 : Int32} (ha0 : zk a0 198 (.inr (0, n0, []))) {r : Sg} (h : J_fill σ a0 n0 x1 = some r) : ZcV yJ7_fill_53178 cJ7_fill_53178 4 rm_J_fill 198 (fun ad => [.ref (ad a0), .int x1]) σ r :=
  zmetV pn_J rfl (fun _ => rfl) (fun _ => Nat.le_of_ble_eq_true rfl) (fun X Q ok hk => t_J_fill ok ha0 h hk)
theorem dX9_beginWith_0 : decode cX9_beginWith 0 = .ok (.aload_n 0, 1) := by decide +kernel
theorem dX9_beginWith_1 : decode cX9_beginWith 1 = .ok (.iconst 0, 1) := by decide +kernel
theorem dX9_beginWith_2 : decode cX9_beginWith 2 = .ok (.putfield 43, 3) := by decide +kernel
theorem dX9_beginWith_5 : decode cX9_beginWith 5 = .ok (.aload_n 0, 1) := by decide +kernel
theorem dX9_beginWith_6 : decode cX9_beginWith 6 = .ok (.aload_n 1, 1) := by decide +kernel
theorem dX9_beginWith_7 : decode cX9_beginWith 7 = .ok (.getfield 59, 3) := by decide +kernel
theorem dX9_beginWith_10 : decode cX9_beginWith 10 = .ok (.putfield 47, 3) := by decide +kernel
theorem dX9_beginWith_13 : decode cX9_beginWith 13 = .ok (.aload_n 0, 1) := by decide +kernel
theorem dX9_beginWith_14 : decode cX9_beginWith 14 = .ok (.aload_n 1, 1) := by decide +kernel
theorem dX9_beginWith_15 : decode cX9_beginWith 15 = .ok (.getfield 62, 3) := by decide +kernel
theorem dX9_beginWith_18 : decode cX9_beginWith 18 = .ok (.putfield 50, 3) := by decide +kernel
theorem dX9_beginWith_21 : decode cX9_beginWith 21 = .ok (.aload_n 1, 1) := by decide +kernel
theorem dX9_beginWith_22 : decode cX9_beginWith 22 = .ok (.getfield 63, 3) := by decide +kernel
theorem dX9_beginWith_25 : decode cX9_beginWith 25 = .ok (.iconst 0, 1) := by decide +kernel
theorem dX9_beginWith_26 : decode cX9_beginWith 26 = .ok (.aaload, 1) := by decide +kernel
theorem dX9_beginWith_27 : decode cX9_beginWith 27 = .ok (.iconst 0, 1) := by decide +kernel
theorem dX9_beginWith_28 : decode cX9_beginWith 28 = .ok (.aload_n 0, 1) := by decide +kernel
theorem dX9_beginWith_29 : decode cX9_beginWith 29 = .ok (.getfield 9, 3) := by decide +kernel
theorem dX9_beginWith_32 : decode cX9_beginWith 32 = .ok (.iconst 0, 1) := by decide +kernel
theorem dX9_beginWith_33 : decode cX9_beginWith 33 = .ok (.bipush 8, 2) := by decide +kernel
theorem dX9_beginWith_35 : decode cX9_beginWith 35 = .ok (.invokestatic 53, 3) := by decide +kernel
theorem dX9_beginWith_38 : decode cX9_beginWith 38 = .ok (.aload_n 1, 1) := by decide +kernel
theorem dX9_beginWith_39 : decode cX9_beginWith 39 = .ok (.getfield 63, 3) := by decide +kernel
theorem dX9_beginWith_42 : decode cX9_beginWith 42 = .ok (.bipush 8, 2) := by decide +kernel
theorem dX9_beginWith_44 : decode cX9_beginWith 44 = .ok (.aaload, 1) := by decide +kernel
theorem dX9_beginWith_45 : decode cX9_beginWith 45 = .ok (.iconst 0, 1) := by decide +kernel
theorem dX9_beginWith_46 : decode cX9_beginWith 46 = .ok (.aload_n 0, 1) := by decide +kernel
theorem dX9_beginWith_47 : decode cX9_beginWith 47 = .ok (.getfield 15, 3) := by decide +kernel
theorem dX9_beginWith_50 : decode cX9_beginWith 50 = .ok (.iconst 0, 1) := by decide +kernel
theorem dX9_beginWith_51 : decode cX9_beginWith 51 = .ok (.bipush 8, 2) := by decide +kernel
theorem dX9_beginWith_53 : decode cX9_beginWith 53 = .ok (.invokestatic 53, 3) := by decide +kernel
theorem dX9_beginWith_56 : decode cX9_beginWith 56 = .ok (.aload_n 1, 1) := by decide +kernel
theorem dX9_beginWith_57 : decode cX9_beginWith 57 = .ok (.getfield 63, 3) := by decide +kernel
theorem dX9_beginWith_60 : decode cX9_beginWith 60 = .ok (.iconst 5, 1) := by decide +kernel
theorem dX9_beginWith_61 : decode cX9_beginWith 61 = .ok (.aaload, 1) := by decide +kernel
theorem dX9_beginWith_62 : decode cX9_beginWith 62 = .ok (.iconst 0, 1) := by decide +kernel
theorem dX9_beginWith_63 : decode cX9_beginWith 63 = .ok (.aload_n 0, 1) := by decide +kernel
theorem dX9_beginWith_64 : decode cX9_beginWith 64 = .ok (.getfield 18, 3) := by decide +kernel
theorem dX9_beginWith_67 : decode cX9_beginWith 67 = .ok (.iconst 0, 1) := by decide +kernel
theorem dX9_beginWith_68 : decode cX9_beginWith 68 = .ok (.bipush 8, 2) := by decide +kernel
theorem dX9_beginWith_70 : decode cX9_beginWith 70 = .ok (.invokestatic 53, 3) := by decide +kernel
theorem dX9_beginWith_73 : decode cX9_beginWith 73 = .ok (.aload_n 0, 1) := by decide +kernel
theorem dX9_beginWith_74 : decode cX9_beginWith 74 = .ok (.getfield 21, 3) := by decide +kernel
theorem dX9_beginWith_77 : decode cX9_beginWith 77 = .ok (.iconst (-1), 1) := by decide +kernel
theorem dX9_beginWith_78 : decode cX9_beginWith 78 = .ok (.invokestatic 67, 3) := by decide +kernel
theorem dX9_beginWith_81 : decode cX9_beginWith 81 = .ok (.aload_n 0, 1) := by decide +kernel
theorem dX9_beginWith_82 : decode cX9_beginWith 82 = .ok (.getfield 24, 3) := by decide +kernel
theorem dX9_beginWith_85 : decode cX9_beginWith 85 = .ok (.iconst 0, 1) := by decide +kernel
theorem dX9_beginWith_86 : decode cX9_beginWith 86 = .ok (.invokestatic 67, 3) := by decide +kernel
theorem dX9_beginWith_89 : decode cX9_beginWith 89 = .ok (.aload_n 0, 1) := by decide +kernel
theorem dX9_beginWith_90 : decode cX9_beginWith 90 = .ok (.getfield 27, 3) := by decide +kernel
theorem dX9_beginWith_93 : decode cX9_beginWith 93 = .ok (.iconst 0, 1) := by decide +kernel
theorem dX9_beginWith_94 : decode cX9_beginWith 94 = .ok (.invokestatic 67, 3) := by decide +kernel
theorem dX9_beginWith_97 : decode cX9_beginWith 97 = .ok (.aload_n 0, 1) := by decide +kernel
theorem dX9_beginWith_98 : decode cX9_beginWith 98 = .ok (.getfield 30, 3) := by decide +kernel
theorem dX9_beginWith_101 : decode cX9_beginWith 101 = .ok (.iconst 0, 1) := by decide +kernel
theorem dX9_beginWith_102 : decode cX9_beginWith 102 = .ok (.invokestatic 67, 3) := by decide +kernel
theorem dX9_beginWith_105 : decode cX9_beginWith 105 = .ok (.aload_n 0, 1) := by decide +kernel
theorem dX9_beginWith_106 : decode cX9_beginWith 106 = .ok (.getfield 33, 3) := by decide +kernel
theorem dX9_beginWith_109 : decode cX9_beginWith 109 = .ok (.iconst 0, 1) := by decide +kernel
theorem dX9_beginWith_110 : decode cX9_beginWith 110 = .ok (.invokestatic 67, 3) := by decide +kernel
theorem dX9_beginWith_113 : decode cX9_beginWith 113 = .ok (.return_, 1) := by decide +kernel
abbrev rm_Water_beginWith : Room := { frames := 1, cells := 0, slots := 0, locals := 60 }
def Water_beginWith (σ : Sg) (w : Nat) (p1 : Nat) : Option Sg :=
  zpt σ w 0 0 fun σ2 =>
  zgt σ2 p1 1 fun v7 =>
  zpt σ2 w 1 v7 fun σ10 =>
  zgt σ10 p1 2 fun v15 =>
  zpt σ10 w 2 v15 fun σ18 =>
  zcp σ18 (p1 + 3) (w + 1) 8 fun σ35 =>
  zcp σ35 (p1 + 11) (w + 2) 8 fun σ53 =>
  zcp σ53 (p1 + 8) (w + 3) 8 fun σ70 =>
  (J_fill σ70 (w + 4) 8 (-1)).bind fun r78 =>
  (J_fill r78 (w + 5) 72 0).bind fun r86 =>
  (J_fill r86 (w + 6) 10 0).bind fun r94 =>
  (J_fill r94 (w + 7) 10 0).bind fun r102 =>
  (J_fill r102 (w + 8) 7 0).bind fun r110 =>
  some r110
set_option maxRecDepth 20000 in
theorem t_Water_beginWith {X : Zx} {Q : State → Prop} {σ : Sg} {w : Nat} {p1 : Nat} (ok : Zok X cX9_beginWith RX9 rm_Water_beginWith 198 2) (hw : zI_Water w 198) (hp1 : zI_Works p1 198) {out : Sg} (hf : Water_beginWith σ w p1 = some out) (hk : ZrV cX9_beginWith X Q out) : ZAt X Q 0 0 0 σ [(0, .ref (X.ad w)), (1, .ref (X.ad p1))] [] := by
  unfold Water_beginWith at hf
  obtain ⟨hw_0, hw_1, hw_2, hw_3, hw_4, hw_5, hw_6, hw_7, hw_8, hw_9, hw_10, hw_11, hw_12, hw_13, hw_14, hw_15, hw_16⟩ := id hw
  obtain ⟨hp1_0, hp1_1, hp1_2, hp1_3, hp1_4, hp1_5, hp1_6, hp1_7, hp1_8, hp1_9, hp1_10, hp1_11, hp1_12, hp1_13, hp1_14, hp1_15, hp1_16, hp1_17, hp1_18, hp1_19, hp1_20, hp1_21, hp1_22, hp1_23, hp1_24, hp1_25⟩ := id hp1
  refine z_aload_n ok dX9_beginWith_0 0 rfl ?_
  refine z_iconst (v := 0) ok dX9_beginWith_1 (by decide) ?_
  refine z_puti ok hw_0 zc_9 hin_9 tyX9 tyX9_ok nmX9 0 (by decide) fl_9_43 rfl rfl (tyX9_ok 0 (by decide)) dX9_beginWith_2 hf (fun σ2 hf => ?_)
  refine z_aload_n ok dX9_beginWith_5 0 rfl ?_
  refine z_aload_n ok dX9_beginWith_6 1 rfl ?_
  refine z_geti ok hp1_0 zc_10 hin_10 1 (by decide) fl_9_59 rfl dX9_beginWith_7 hf (fun v7 hf => ?_)
  refine z_puti ok hw_0 zc_9 hin_9 tyX9 tyX9_ok nmX9 1 (by decide) fl_9_47 rfl rfl (tyX9_ok 1 (by decide)) dX9_beginWith_10 hf (fun σ10 hf => ?_)
  refine z_aload_n ok dX9_beginWith_13 0 rfl ?_
  refine z_aload_n ok dX9_beginWith_14 1 rfl ?_
  refine z_geti ok hp1_0 zc_10 hin_10 2 (by decide) fl_9_62 rfl dX9_beginWith_15 hf (fun v15 hf => ?_)
  refine z_puti ok hw_0 zc_9 hin_9 tyX9 tyX9_ok nmX9 2 (by decide) fl_9_50 rfl rfl (tyX9_ok 2 (by decide)) dX9_beginWith_18 hf (fun σ18 hf => ?_)
  refine z_aload_n ok dX9_beginWith_21 1 rfl ?_
  refine z_getr (q := (p1 + 2)) ok hp1_0 zc_10 hin_10 5 (by decide) fl_9_63 rfl dX9_beginWith_22 ?_
  refine z_iconst (v := 0) ok dX9_beginWith_25 (by decide) ?_
  refine z_aaldc (q := (p1 + 3)) ok hp1_2 (by decide) rfl (by decide) rfl dX9_beginWith_26 ?_
  refine z_iconst (v := 0) ok dX9_beginWith_27 (by decide) ?_
  refine z_aload_n ok dX9_beginWith_28 0 rfl ?_
  refine z_getr (q := (w + 1)) ok hw_0 zc_9 hin_9 3 (by decide) fl_9_9 rfl dX9_beginWith_29 ?_
  refine z_iconst (v := 0) ok dX9_beginWith_32 (by decide) ?_
  refine z_bipush (v := 8) ok dX9_beginWith_33 (by decide) ?_
  refine z_copy ok hp1_3 hw_1 ml_9_53 (by decide) (Nat.le_of_ble_eq_true rfl) (Nat.le_of_ble_eq_true rfl) dX9_beginWith_35 hf (fun σ35 hf => ?_)
  refine z_aload_n ok dX9_beginWith_38 1 rfl ?_
  refine z_getr (q := (p1 + 2)) ok hp1_0 zc_10 hin_10 5 (by decide) fl_9_63 rfl dX9_beginWith_39 ?_
  refine z_bipush (v := 8) ok dX9_beginWith_42 (by decide) ?_
  refine z_aaldc (q := (p1 + 11)) ok hp1_2 (by decide) rfl (by decide) rfl dX9_beginWith_44 ?_
  refine z_iconst (v := 0) ok dX9_beginWith_45 (by decide) ?_
  refine z_aload_n ok dX9_beginWith_46 0 rfl ?_
  refine z_getr (q := (w + 2)) ok hw_0 zc_9 hin_9 4 (by decide) fl_9_15 rfl dX9_beginWith_47 ?_
  refine z_iconst (v := 0) ok dX9_beginWith_50 (by decide) ?_
  refine z_bipush (v := 8) ok dX9_beginWith_51 (by decide) ?_
  refine z_copy ok hp1_11 hw_2 ml_9_53 (by decide) (Nat.le_of_ble_eq_true rfl) (Nat.le_of_ble_eq_true rfl) dX9_beginWith_53 hf (fun σ53 hf => ?_)
  refine z_aload_n ok dX9_beginWith_56 1 rfl ?_
  refine z_getr (q := (p1 + 2)) ok hp1_0 zc_10 hin_10 5 (by decide) fl_9_63 rfl dX9_beginWith_57 ?_
  refine z_iconst (v := 5) ok dX9_beginWith_60 (by decide) ?_
  refine z_aaldc (q := (p1 + 8)) ok hp1_2 (by decide) rfl (by decide) rfl dX9_beginWith_61 ?_
  refine z_iconst (v := 0) ok dX9_beginWith_62 (by decide) ?_
  refine z_aload_n ok dX9_beginWith_63 0 rfl ?_
  refine z_getr (q := (w + 3)) ok hw_0 zc_9 hin_9 5 (by decide) fl_9_18 rfl dX9_beginWith_64 ?_
  refine z_iconst (v := 0) ok dX9_beginWith_67 (by decide) ?_
  refine z_bipush (v := 8) ok dX9_beginWith_68 (by decide) ?_
  refine z_copy ok hp1_8 hw_3 ml_9_53 (by decide) (Nat.le_of_ble_eq_true rfl) (Nat.le_of_ble_eq_true rfl) dX9_beginWith_70 hf (fun σ70 hf => ?_)
  refine z_aload_n ok dX9_beginWith_73 0 rfl ?_
  refine z_getr (q := (w + 4)) ok hw_0 zc_9 hin_9 6 (by decide) fl_9_21 rfl dX9_beginWith_74 ?_
  refine z_iconst (v := (-1)) ok dX9_beginWith_77 (by decide) ?_
  refine z_call hf (fun r78 h78 hf => ?_)
  refine z_cSv (As := [.ref (X.ad (w + 4)), .int (-1)]) (rest := []) ok (c_J_fill hw_4 h78) rfl ⟨ml_9_67, w_J_fill⟩ hy_J_fill ⟨rfl, rfl⟩ ⟨Nat.le_of_ble_eq_true rfl, Nat.le_of_ble_eq_true rfl⟩ ⟨Nat.zero_le _, Nat.zero_le _⟩ rfl (Nat.le_of_ble_eq_true rfl) dX9_beginWith_78 ?_
  refine z_aload_n ok dX9_beginWith_81 0 rfl ?_
  refine z_getr (q := (w + 5)) ok hw_0 zc_9 hin_9 7 (by decide) fl_9_24 rfl dX9_beginWith_82 ?_
  refine z_iconst (v := 0) ok dX9_beginWith_85 (by decide) ?_
  refine z_call hf (fun r86 h86 hf => ?_)
  refine z_cSv (As := [.ref (X.ad (w + 5)), .int 0]) (rest := []) ok (c_J_fill hw_5 h86) rfl ⟨ml_9_67, w_J_fill⟩ hy_J_fill ⟨rfl, rfl⟩ ⟨Nat.le_of_ble_eq_true rfl, Nat.le_of_ble_eq_true rfl⟩ ⟨Nat.zero_le _, Nat.zero_le _⟩ rfl (Nat.le_of_ble_eq_true rfl) dX9_beginWith_86 ?_
  refine z_aload_n ok dX9_beginWith_89 0 rfl ?_
  refine z_getr (q := (w + 6)) ok hw_0 zc_9 hin_9 8 (by decide) fl_9_27 rfl dX9_beginWith_90 ?_
  refine z_iconst (v := 0) ok dX9_beginWith_93 (by decide) ?_
  refine z_call hf (fun r94 h94 hf => ?_)
  refine z_cSv (As := [.ref (X.ad (w + 6)), .int 0]) (rest := []) ok (c_J_fill hw_6 h94) rfl ⟨ml_9_67, w_J_fill⟩ hy_J_fill ⟨rfl, rfl⟩ ⟨Nat.le_of_ble_eq_true rfl, Nat.le_of_ble_eq_true rfl⟩ ⟨Nat.zero_le _, Nat.zero_le _⟩ rfl (Nat.le_of_ble_eq_true rfl) dX9_beginWith_94 ?_
  refine z_aload_n ok dX9_beginWith_97 0 rfl ?_
  refine z_getr (q := (w + 7)) ok hw_0 zc_9 hin_9 9 (by decide) fl_9_30 rfl dX9_beginWith_98 ?_
  refine z_iconst (v := 0) ok dX9_beginWith_101 (by decide) ?_
  refine z_call hf (fun r102 h102 hf => ?_)
  refine z_cSv (As := [.ref (X.ad (w + 7)), .int 0]) (rest := []) ok (c_J_fill hw_7 h102) rfl ⟨ml_9_67, w_J_fill⟩ hy_J_fill ⟨rfl, rfl⟩ ⟨Nat.le_of_ble_eq_true rfl, Nat.le_of_ble_eq_true rfl⟩ ⟨Nat.zero_le _, Nat.zero_le _⟩ rfl (Nat.le_of_ble_eq_true rfl) dX9_beginWith_102 ?_
  refine z_aload_n ok dX9_beginWith_105 0 rfl ?_
  refine z_getr (q := (w + 8)) ok hw_0 zc_9 hin_9 10 (by decide) fl_9_33 rfl dX9_beginWith_106 ?_
  refine z_iconst (v := 0) ok dX9_beginWith_109 (by decide) ?_
  refine z_call hf (fun r110 h110 hf => ?_)
  refine z_cSv (As := [.ref (X.ad (w + 8)), .int 0]) (rest := []) ok (c_J_fill hw_8 h110) rfl ⟨ml_9_67, w_J_fill⟩ hy_J_fill ⟨rfl, rfl⟩ ⟨Nat.le_of_ble_eq_true rfl, Nat.le_of_ble_eq_true rfl⟩ ⟨Nat.zero_le _, Nat.zero_le _⟩ rfl (Nat.le_of_ble_eq_true rfl) dX9_beginWith_110 ?_
  obtain rfl := Option.some.inj hf
  exact hk _ _ dX9_beginWith_113
theorem c_Water_beginWith {σ : Sg} {w : Nat} {p1 : Nat} (hw : zI_Water w 198) (hp1 : zI_Works p1 198) {r : Sg} (h : Water_beginWith σ w p1 = some r) : ZcV yX9_beginWith cX9_beginWith 2 rm_Water_beginWith 198 (fun ad => [.ref (ad w), .ref (ad p1)]) σ r :=
  zmetV pn_9 rfl (fun _ => rfl) (fun _ => Nat.le_of_ble_eq_true rfl) (fun X Q ok hk => t_Water_beginWith ok hw hp1 h hk)
theorem dX3_copyFrom_0 : decode cX3_copyFrom 0 = .ok (.aload_n 0, 1) := by decide +kernel
theorem dX3_copyFrom_1 : decode cX3_copyFrom 1 = .ok (.aload_n 1, 1) := by decide +kernel
theorem dX3_copyFrom_2 : decode cX3_copyFrom 2 = .ok (.getfield 21, 3) := by decide +kernel
theorem dX3_copyFrom_5 : decode cX3_copyFrom 5 = .ok (.putfield 21, 3) := by decide +kernel
theorem dX3_copyFrom_8 : decode cX3_copyFrom 8 = .ok (.aload_n 1, 1) := by decide +kernel
theorem dX3_copyFrom_9 : decode cX3_copyFrom 9 = .ok (.getfield 9, 3) := by decide +kernel
theorem dX3_copyFrom_12 : decode cX3_copyFrom 12 = .ok (.iconst 0, 1) := by decide +kernel
theorem dX3_copyFrom_13 : decode cX3_copyFrom 13 = .ok (.aload_n 0, 1) := by decide +kernel
theorem dX3_copyFrom_14 : decode cX3_copyFrom 14 = .ok (.getfield 9, 3) := by decide +kernel
theorem dX3_copyFrom_17 : decode cX3_copyFrom 17 = .ok (.iconst 0, 1) := by decide +kernel
theorem dX3_copyFrom_18 : decode cX3_copyFrom 18 = .ok (.bipush 16, 2) := by decide +kernel
theorem dX3_copyFrom_20 : decode cX3_copyFrom 20 = .ok (.invokestatic 25, 3) := by decide +kernel
theorem dX3_copyFrom_23 : decode cX3_copyFrom 23 = .ok (.aload_n 1, 1) := by decide +kernel
theorem dX3_copyFrom_24 : decode cX3_copyFrom 24 = .ok (.getfield 15, 3) := by decide +kernel
theorem dX3_copyFrom_27 : decode cX3_copyFrom 27 = .ok (.iconst 0, 1) := by decide +kernel
theorem dX3_copyFrom_28 : decode cX3_copyFrom 28 = .ok (.aload_n 0, 1) := by decide +kernel
theorem dX3_copyFrom_29 : decode cX3_copyFrom 29 = .ok (.getfield 15, 3) := by decide +kernel
theorem dX3_copyFrom_32 : decode cX3_copyFrom 32 = .ok (.iconst 0, 1) := by decide +kernel
theorem dX3_copyFrom_33 : decode cX3_copyFrom 33 = .ok (.bipush 16, 2) := by decide +kernel
theorem dX3_copyFrom_35 : decode cX3_copyFrom 35 = .ok (.invokestatic 25, 3) := by decide +kernel
theorem dX3_copyFrom_38 : decode cX3_copyFrom 38 = .ok (.aload_n 1, 1) := by decide +kernel
theorem dX3_copyFrom_39 : decode cX3_copyFrom 39 = .ok (.getfield 18, 3) := by decide +kernel
theorem dX3_copyFrom_42 : decode cX3_copyFrom 42 = .ok (.iconst 0, 1) := by decide +kernel
theorem dX3_copyFrom_43 : decode cX3_copyFrom 43 = .ok (.aload_n 0, 1) := by decide +kernel
theorem dX3_copyFrom_44 : decode cX3_copyFrom 44 = .ok (.getfield 18, 3) := by decide +kernel
theorem dX3_copyFrom_47 : decode cX3_copyFrom 47 = .ok (.iconst 0, 1) := by decide +kernel
theorem dX3_copyFrom_48 : decode cX3_copyFrom 48 = .ok (.bipush 16, 2) := by decide +kernel
theorem dX3_copyFrom_50 : decode cX3_copyFrom 50 = .ok (.invokestatic 25, 3) := by decide +kernel
theorem dX3_copyFrom_53 : decode cX3_copyFrom 53 = .ok (.return_, 1) := by decide +kernel
abbrev rm_Orders_copyFrom : Room := { frames := 1, cells := 0, slots := 0, locals := 60 }
def Orders_copyFrom (σ : Sg) (w : Nat) (p1 : Nat) : Option Sg :=
  zgt σ p1 0 fun v2 =>
  zpt σ w 0 v2 fun σ5 =>
  zcp σ5 (p1 + 1) (w + 1) 16 fun σ20 =>
  zcp σ20 (p1 + 2) (w + 2) 16 fun σ35 =>
  zcp σ35 (p1 + 3) (w + 3) 16 fun σ50 =>
  some σ50
set_option maxRecDepth 20000 in
theorem t_Orders_copyFrom {N : Nat} {X : Zx} {Q : State → Prop} {σ : Sg} {w : Nat} {p1 : Nat} (ok : Zok X cX3_copyFrom RX3 rm_Orders_copyFrom N 2) (hw : zI_Orders w N) (hp1 : zI_Orders p1 N) {out : Sg} (hf : Orders_copyFrom σ w p1 = some out) (hk : ZrV cX3_copyFrom X Q out) : ZAt X Q 0 0 0 σ [(0, .ref (X.ad w)), (1, .ref (X.ad p1))] [] := by
  unfold Orders_copyFrom at hf
  obtain ⟨hw_0, hw_1, hw_2, hw_3⟩ := id hw
  obtain ⟨hp1_0, hp1_1, hp1_2, hp1_3⟩ := id hp1
  refine z_aload_n ok dX3_copyFrom_0 0 rfl ?_
  refine z_aload_n ok dX3_copyFrom_1 1 rfl ?_
  refine z_geti ok hp1_0 zc_3 hin_3 0 (by decide) fl_3_21 rfl dX3_copyFrom_2 hf (fun v2 hf => ?_)
  refine z_puti ok hw_0 zc_3 hin_3 tyX3 tyX3_ok nmX3 0 (by decide) fl_3_21 rfl rfl (tyX3_ok 0 (by decide)) dX3_copyFrom_5 hf (fun σ5 hf => ?_)
  refine z_aload_n ok dX3_copyFrom_8 1 rfl ?_
  refine z_getr (q := (p1 + 1)) ok hp1_0 zc_3 hin_3 1 (by decide) fl_3_9 rfl dX3_copyFrom_9 ?_
  refine z_iconst (v := 0) ok dX3_copyFrom_12 (by decide) ?_
  refine z_aload_n ok dX3_copyFrom_13 0 rfl ?_
  refine z_getr (q := (w + 1)) ok hw_0 zc_3 hin_3 1 (by decide) fl_3_9 rfl dX3_copyFrom_14 ?_
  refine z_iconst (v := 0) ok dX3_copyFrom_17 (by decide) ?_
  refine z_bipush (v := 16) ok dX3_copyFrom_18 (by decide) ?_
  refine z_copy ok hp1_1 hw_1 ml_3_25 (by decide) (Nat.le_of_ble_eq_true rfl) (Nat.le_of_ble_eq_true rfl) dX3_copyFrom_20 hf (fun σ20 hf => ?_)
  refine z_aload_n ok dX3_copyFrom_23 1 rfl ?_
  refine z_getr (q := (p1 + 2)) ok hp1_0 zc_3 hin_3 2 (by decide) fl_3_15 rfl dX3_copyFrom_24 ?_
  refine z_iconst (v := 0) ok dX3_copyFrom_27 (by decide) ?_
  refine z_aload_n ok dX3_copyFrom_28 0 rfl ?_
  refine z_getr (q := (w + 2)) ok hw_0 zc_3 hin_3 2 (by decide) fl_3_15 rfl dX3_copyFrom_29 ?_
  refine z_iconst (v := 0) ok dX3_copyFrom_32 (by decide) ?_
  refine z_bipush (v := 16) ok dX3_copyFrom_33 (by decide) ?_
  refine z_copy ok hp1_2 hw_2 ml_3_25 (by decide) (Nat.le_of_ble_eq_true rfl) (Nat.le_of_ble_eq_true rfl) dX3_copyFrom_35 hf (fun σ35 hf => ?_)
  refine z_aload_n ok dX3_copyFrom_38 1 rfl ?_
  refine z_getr (q := (p1 + 3)) ok hp1_0 zc_3 hin_3 3 (by decide) fl_3_18 rfl dX3_copyFrom_39 ?_
  refine z_iconst (v := 0) ok dX3_copyFrom_42 (by decide) ?_
  refine z_aload_n ok dX3_copyFrom_43 0 rfl ?_
  refine z_getr (q := (w + 3)) ok hw_0 zc_3 hin_3 3 (by decide) fl_3_18 rfl dX3_copyFrom_44 ?_
  refine z_iconst (v := 0) ok dX3_copyFrom_47 (by decide) ?_
  refine z_bipush (v := 16) ok dX3_copyFrom_48 (by decide) ?_
  refine z_copy ok hp1_3 hw_3 ml_3_25 (by decide) (Nat.le_of_ble_eq_true rfl) (Nat.le_of_ble_eq_true rfl) dX3_copyFrom_50 hf (fun σ50 hf => ?_)
  obtain rfl := Option.some.inj hf
  exact hk _ _ dX3_copyFrom_53
theorem c_Orders_copyFrom {N : Nat} {σ : Sg} {w : Nat} {p1 : Nat} (hw : zI_Orders w N) (hp1 : zI_Orders p1 N) {r : Sg} (h : Orders_copyFrom σ w p1 = some r) : ZcV yX3_copyFrom cX3_copyFrom 2 rm_Orders_copyFrom N (fun ad => [.ref (ad w), .ref (ad p1)]) σ r :=
  zmetV pn_3 rfl (fun _ => rfl) (fun _ => Nat.le_of_ble_eq_true rfl) (fun X Q ok hk => t_Orders_copyFrom ok hw hp1 h hk)
theorem dX1_beginWith_0 : decode cX1_beginWith 0 = .ok (.aload_n 0, 1) := by decide +kernel
theorem dX1_beginWith_1 : decode cX1_beginWith 1 = .ok (.getfield 10, 3) := by decide +kernel
theorem dX1_beginWith_4 : decode cX1_beginWith 4 = .ok (.aload_n 1, 1) := by decide +kernel
theorem dX1_beginWith_5 : decode cX1_beginWith 5 = .ok (.invokevirtual 40, 3) := by decide +kernel
theorem dX1_beginWith_8 : decode cX1_beginWith 8 = .ok (.aload_n 0, 1) := by decide +kernel
theorem dX1_beginWith_9 : decode cX1_beginWith 9 = .ok (.getfield 19, 3) := by decide +kernel
theorem dX1_beginWith_12 : decode cX1_beginWith 12 = .ok (.aload_n 1, 1) := by decide +kernel
theorem dX1_beginWith_13 : decode cX1_beginWith 13 = .ok (.getfield 44, 3) := by decide +kernel
theorem dX1_beginWith_16 : decode cX1_beginWith 16 = .ok (.invokevirtual 34, 3) := by decide +kernel
theorem dX1_beginWith_19 : decode cX1_beginWith 19 = .ok (.aload_n 0, 1) := by decide +kernel
theorem dX1_beginWith_20 : decode cX1_beginWith 20 = .ok (.getfield 26, 3) := by decide +kernel
theorem dX1_beginWith_23 : decode cX1_beginWith 23 = .ok (.iconst 0, 1) := by decide +kernel
theorem dX1_beginWith_24 : decode cX1_beginWith 24 = .ok (.putfield 47, 3) := by decide +kernel
theorem dX1_beginWith_27 : decode cX1_beginWith 27 = .ok (.return_, 1) := by decide +kernel
abbrev rm_Moment_beginWith : Room := { frames := 2, cells := 0, slots := 0, locals := 81 }
def Moment_beginWith (σ : Sg) (w : Nat) (p1 : Nat) : Option Sg :=
  (Water_beginWith σ (w + 1) p1).bind fun r5 =>
  (Orders_copyFrom r5 (w + 18) (p1 + 16)).bind fun r16 =>
  zpt r16 (w + 22) 0 0 fun σ24 =>
  some σ24
set_option maxRecDepth 20000 in
theorem t_Moment_beginWith {X : Zx} {Q : State → Prop} {σ : Sg} {w : Nat} {p1 : Nat} (ok : Zok X cX1_beginWith RX1 rm_Moment_beginWith 198 2) (hw : zI_Moment w 198) (hp1 : zI_Works p1 198) {out : Sg} (hf : Moment_beginWith σ w p1 = some out) (hk : ZrV cX1_beginWith X Q out) : ZAt X Q 0 0 0 σ [(0, .ref (X.ad w)), (1, .ref (X.ad p1))] [] := by
  unfold Moment_beginWith at hf
  obtain ⟨hw_0, hw_1, hw_2, hw_3, hw_4, hw_5, hw_6, hw_7, hw_8, hw_9, hw_10, hw_11, hw_12, hw_13, hw_14, hw_15, hw_16, hw_17, hw_18, hw_19, hw_20, hw_21, hw_22, hw_23, hw_24⟩ := id hw
  obtain ⟨hp1_0, hp1_1, hp1_2, hp1_3, hp1_4, hp1_5, hp1_6, hp1_7, hp1_8, hp1_9, hp1_10, hp1_11, hp1_12, hp1_13, hp1_14, hp1_15, hp1_16, hp1_17, hp1_18, hp1_19, hp1_20, hp1_21, hp1_22, hp1_23, hp1_24, hp1_25⟩ := id hp1
  refine z_aload_n ok dX1_beginWith_0 0 rfl ?_
  refine z_getr (q := (w + 1)) ok hw_0 zc_1 hin_1 0 (by decide) fl_1_10 rfl dX1_beginWith_1 ?_
  refine z_aload_n ok dX1_beginWith_4 1 rfl ?_
  refine z_call hf (fun r5 h5 hf => ?_)
  refine z_cVv (As := [.ref (X.ad p1)]) (rest := []) (w := (w + 1)) ok hw_1 zc_9 (c_Water_beginWith (zI_Moment_1 hw) hp1 h5) rfl ⟨ml_1_40, w_Water_beginWith⟩ hy_Water_beginWith ⟨rfl, rfl⟩ ⟨Nat.le_of_ble_eq_true rfl, Nat.le_of_ble_eq_true rfl⟩ ⟨Nat.zero_le _, Nat.zero_le _⟩ rfl (Nat.le_of_ble_eq_true rfl) dX1_beginWith_5 ?_
  refine z_aload_n ok dX1_beginWith_8 0 rfl ?_
  refine z_getr (q := (w + 18)) ok hw_0 zc_1 hin_1 1 (by decide) fl_1_19 rfl dX1_beginWith_9 ?_
  refine z_aload_n ok dX1_beginWith_12 1 rfl ?_
  refine z_getr (q := (p1 + 16)) ok hp1_0 zc_10 hin_10 11 (by decide) fl_1_44 rfl dX1_beginWith_13 ?_
  refine z_call hf (fun r16 h16 hf => ?_)
  refine z_cVv (As := [.ref (X.ad (p1 + 16))]) (rest := []) (w := (w + 18)) ok hw_18 zc_3 (c_Orders_copyFrom (zI_Moment_18 hw) (zI_Works_16 hp1) h16) rfl ⟨ml_1_34, w_Orders_copyFrom⟩ hy_Orders_copyFrom ⟨rfl, rfl⟩ ⟨Nat.le_of_ble_eq_true rfl, Nat.le_of_ble_eq_true rfl⟩ ⟨Nat.zero_le _, Nat.zero_le _⟩ rfl (Nat.le_of_ble_eq_true rfl) dX1_beginWith_16 ?_
  refine z_aload_n ok dX1_beginWith_19 0 rfl ?_
  refine z_getr (q := (w + 22)) ok hw_0 zc_1 hin_1 2 (by decide) fl_1_26 rfl dX1_beginWith_20 ?_
  refine z_iconst (v := 0) ok dX1_beginWith_23 (by decide) ?_
  refine z_puti ok hw_22 zc_0 hin_0 tyX0 tyX0_ok nmX0 0 (by decide) fl_1_47 rfl rfl (tyX0_ok 0 (by decide)) dX1_beginWith_24 hf (fun σ24 hf => ?_)
  obtain rfl := Option.some.inj hf
  exact hk _ _ dX1_beginWith_27
theorem c_Moment_beginWith {σ : Sg} {w : Nat} {p1 : Nat} (hw : zI_Moment w 198) (hp1 : zI_Works p1 198) {r : Sg} (h : Moment_beginWith σ w p1 = some r) : ZcV yX1_beginWith cX1_beginWith 2 rm_Moment_beginWith 198 (fun ad => [.ref (ad w), .ref (ad p1)]) σ r :=
  zmetV pn_1 rfl (fun _ => rfl) (fun _ => Nat.le_of_ble_eq_true rfl) (fun X Q ok hk => t_Moment_beginWith ok hw hp1 h hk)
theorem dX11_canal_0 : decode cX11_canal 0 = .ok (.aload_n 0, 1) := by decide +kernel
theorem dX11_canal_1 : decode cX11_canal 1 = .ok (.getfield 16, 3) := by decide +kernel
theorem dX11_canal_4 : decode cX11_canal 4 = .ok (.aload_n 0, 1) := by decide +kernel
theorem dX11_canal_5 : decode cX11_canal 5 = .ok (.getfield 9, 3) := by decide +kernel
theorem dX11_canal_8 : decode cX11_canal 8 = .ok (.aload_n 0, 1) := by decide +kernel
theorem dX11_canal_9 : decode cX11_canal 9 = .ok (.getfield 66, 3) := by decide +kernel
theorem dX11_canal_12 : decode cX11_canal 12 = .ok (.aload_n 0, 1) := by decide +kernel
theorem dX11_canal_13 : decode cX11_canal 13 = .ok (.getfield 27, 3) := by decide +kernel
theorem dX11_canal_16 : decode cX11_canal 16 = .ok (.invokevirtual 81, 3) := by decide +kernel
theorem dX11_canal_19 : decode cX11_canal 19 = .ok (.istore_n 1, 1) := by decide +kernel
theorem dX11_canal_20 : decode cX11_canal 20 = .ok (.aload_n 0, 1) := by decide +kernel
theorem dX11_canal_21 : decode cX11_canal 21 = .ok (.iconst 0, 1) := by decide +kernel
theorem dX11_canal_22 : decode cX11_canal 22 = .ok (.putfield 66, 3) := by decide +kernel
theorem dX11_canal_25 : decode cX11_canal 25 = .ok (.aload_n 0, 1) := by decide +kernel
theorem dX11_canal_26 : decode cX11_canal 26 = .ok (.aload_n 0, 1) := by decide +kernel
theorem dX11_canal_27 : decode cX11_canal 27 = .ok (.getfield 16, 3) := by decide +kernel
theorem dX11_canal_30 : decode cX11_canal 30 = .ok (.getfield 85, 3) := by decide +kernel
theorem dX11_canal_33 : decode cX11_canal 33 = .ok (.putfield 88, 3) := by decide +kernel
theorem dX11_canal_36 : decode cX11_canal 36 = .ok (.aload_n 0, 1) := by decide +kernel
theorem dX11_canal_37 : decode cX11_canal 37 = .ok (.aload_n 0, 1) := by decide +kernel
theorem dX11_canal_38 : decode cX11_canal 38 = .ok (.getfield 16, 3) := by decide +kernel
theorem dX11_canal_41 : decode cX11_canal 41 = .ok (.getfield 91, 3) := by decide +kernel
theorem dX11_canal_44 : decode cX11_canal 44 = .ok (.putfield 30, 3) := by decide +kernel
theorem dX11_canal_47 : decode cX11_canal 47 = .ok (.iload_n 1, 1) := by decide +kernel
theorem dX11_canal_48 : decode cX11_canal 48 = .ok (.ifCond .ne 9, 3) := by decide +kernel
theorem dX11_canal_51 : decode cX11_canal 51 = .ok (.aload_n 0, 1) := by decide +kernel
theorem dX11_canal_52 : decode cX11_canal 52 = .ok (.iconst 1, 1) := by decide +kernel
theorem dX11_canal_53 : decode cX11_canal 53 = .ok (.invokevirtual 69, 3) := by decide +kernel
theorem dX11_canal_56 : decode cX11_canal 56 = .ok (.ireturn, 1) := by decide +kernel
theorem dX11_canal_57 : decode cX11_canal 57 = .ok (.aload_n 0, 1) := by decide +kernel
theorem dX11_canal_58 : decode cX11_canal 58 = .ok (.getfield 23, 3) := by decide +kernel
theorem dX11_canal_61 : decode cX11_canal 61 = .ok (.astore_n 2, 1) := by decide +kernel
theorem dX11_canal_62 : decode cX11_canal 62 = .ok (.aload_n 0, 1) := by decide +kernel
theorem dX11_canal_63 : decode cX11_canal 63 = .ok (.aload_n 0, 1) := by decide +kernel
theorem dX11_canal_64 : decode cX11_canal 64 = .ok (.getfield 27, 3) := by decide +kernel
theorem dX11_canal_67 : decode cX11_canal 67 = .ok (.putfield 23, 3) := by decide +kernel
theorem dX11_canal_70 : decode cX11_canal 70 = .ok (.aload_n 0, 1) := by decide +kernel
theorem dX11_canal_71 : decode cX11_canal 71 = .ok (.aload_n 2, 1) := by decide +kernel
theorem dX11_canal_72 : decode cX11_canal 72 = .ok (.putfield 27, 3) := by decide +kernel
theorem dX11_canal_75 : decode cX11_canal 75 = .ok (.aload_n 0, 1) := by decide +kernel
theorem dX11_canal_76 : decode cX11_canal 76 = .ok (.iconst 1, 1) := by decide +kernel
theorem dX11_canal_77 : decode cX11_canal 77 = .ok (.putfield 94, 3) := by decide +kernel
theorem dX11_canal_80 : decode cX11_canal 80 = .ok (.aload_n 0, 1) := by decide +kernel
theorem dX11_canal_81 : decode cX11_canal 81 = .ok (.getfield 37, 3) := by decide +kernel
theorem dX11_canal_84 : decode cX11_canal 84 = .ok (.aload_n 0, 1) := by decide +kernel
theorem dX11_canal_85 : decode cX11_canal 85 = .ok (.getfield 23, 3) := by decide +kernel
theorem dX11_canal_88 : decode cX11_canal 88 = .ok (.invokevirtual 98, 3) := by decide +kernel
theorem dX11_canal_91 : decode cX11_canal 91 = .ok (.aload_n 0, 1) := by decide +kernel
theorem dX11_canal_92 : decode cX11_canal 92 = .ok (.getfield 55, 3) := by decide +kernel
theorem dX11_canal_95 : decode cX11_canal 95 = .ok (.iconst 0, 1) := by decide +kernel
theorem dX11_canal_96 : decode cX11_canal 96 = .ok (.putfield 102, 3) := by decide +kernel
theorem dX11_canal_99 : decode cX11_canal 99 = .ok (.aload_n 0, 1) := by decide +kernel
theorem dX11_canal_100 : decode cX11_canal 100 = .ok (.iconst 0, 1) := by decide +kernel
theorem dX11_canal_101 : decode cX11_canal 101 = .ok (.putfield 105, 3) := by decide +kernel
theorem dX11_canal_104 : decode cX11_canal 104 = .ok (.aload_n 0, 1) := by decide +kernel
theorem dX11_canal_105 : decode cX11_canal 105 = .ok (.getfield 23, 3) := by decide +kernel
theorem dX11_canal_108 : decode cX11_canal 108 = .ok (.getfield 108, 3) := by decide +kernel
theorem dX11_canal_111 : decode cX11_canal 111 = .ok (.ireturn, 1) := by decide +kernel
abbrev rm_CK_canal : Room := { frames := 10, cells := 0, slots := 0, locals := 221 }
def CK_canal (σ : Sg)  : Option (Int32 × Sg) :=
  zgt σ 0 1 fun v9 =>
  zmr2 3 29 (σ 0 4) fun q13 =>
  (Reader_readText σ 1 1600 v9 q13).bind fun r16 =>
  zlt (zb r16.1) fun v19 =>
  zpt r16.2 0 1 0 fun σ22 =>
  zgt σ22 2 6 fun v30 =>
  zpt σ22 0 6 v30 fun σ33 =>
  zgt σ33 2 7 fun v41 =>
  zpt σ33 0 7 v41 fun σ44 =>
  if v19 = 0 then (
    (CK_refuse σ44 1).bind fun r53 =>
    some (r53.1, r53.2)
  ) else (
    zmr2 3 29 (σ44 0 3) fun q58 =>
    zmr2 3 29 (σ44 0 4) fun q64 =>
    zpt σ44 0 3 (nI (q64 + 1)) fun σ67 =>
    zpt σ67 0 4 (nI (q58 + 1)) fun σ72 =>
    zbo 1 <| zpt σ72 0 5 1 fun σ77 =>
    zmr2 3 29 (σ77 0 3) fun q85 =>
    (Moment_beginWith σ77 55 q85).bind fun r88 =>
    zpt r88 124 0 0 fun σ96 =>
    zpt σ96 0 11 0 fun σ101 =>
    zmr2 3 29 (σ101 0 3) fun q105 =>
    zgt σ101 q105 0 fun v108 =>
    some (v108, σ101)
  )
set_option maxRecDepth 20000 in
theorem t_CK_canal {X : Zx} {Q : State → Prop} {σ : Sg}  (ok : Zok X cX11_canal RX11 rm_CK_canal 198 3)  {out : (Int32 × Sg)} (hf : CK_canal σ = some out) (hk : ZrI cX11_canal X Q out.1 out.2) : ZAt X Q 0 0 0 σ [(0, .ref (X.ad 0))] [] := by
  unfold CK_canal at hf
  refine z_aload_n ok dX11_canal_0 0 rfl ?_
  refine z_getr (q := 2) ok kc_0 zc_11 hin_11 2 (by decide) fl_11_16 rfl dX11_canal_1 ?_
  refine z_aload_n ok dX11_canal_4 0 rfl ?_
  refine z_getr (q := 1) ok kc_0 zc_11 hin_11 0 (by decide) fl_11_9 rfl dX11_canal_5 ?_
  refine z_aload_n ok dX11_canal_8 0 rfl ?_
  refine z_geti ok kc_0 zc_11 hin_11 1 (by decide) fl_11_66 rfl dX11_canal_9 hf (fun v9 hf => ?_)
  refine z_aload_n ok dX11_canal_12 0 rfl ?_
  refine z_getm2 (p := 3) (q := 29) ok kc_0 zc_11 hin_11 4 (by decide) fl_11_27 rfl (by decide) (by decide) dX11_canal_13 hf (fun q13 e13 hf => ?_)
  have hq13 : zI_Works q13 198 := by rcases e13 with rfl | rfl; exact kI_Works_3; exact kI_Works_29
  obtain ⟨hq13_0, hq13_1, hq13_2, hq13_3, hq13_4, hq13_5, hq13_6, hq13_7, hq13_8, hq13_9, hq13_10, hq13_11, hq13_12, hq13_13, hq13_14, hq13_15, hq13_16, hq13_17, hq13_18, hq13_19, hq13_20, hq13_21, hq13_22, hq13_23, hq13_24, hq13_25⟩ := id hq13
  refine z_call hf (fun r16 h16 hf => ?_)
  refine z_cV (As := [.ref (X.ad 1), .int v9, .ref (X.ad q13)]) (rest := []) (w := 2) ok kc_2 zc_5 (c_Reader_readText kc_1 hq13 h16) rfl ⟨ml_11_81, w_Reader_readText⟩ hy_Reader_readText ⟨rfl, rfl⟩ ⟨Nat.le_of_ble_eq_true rfl, Nat.le_of_ble_eq_true rfl⟩ ⟨Nat.zero_le _, Nat.zero_le _⟩ rfl (Nat.le_of_ble_eq_true rfl) dX11_canal_16 ?_
  refine z_nm hf (fun v19 hf => ?_)
  refine z_istore_n (lv' := [(1, .int v19), (0, .ref (X.ad 0))]) ok dX11_canal_19 (by decide) rfl ?_
  refine z_aload_n ok dX11_canal_20 1 rfl ?_
  refine z_iconst (v := 0) ok dX11_canal_21 (by decide) ?_
  refine z_puti ok kc_0 zc_11 hin_11 tyX11 tyX11_ok nmX11 1 (by decide) fl_11_66 rfl rfl (tyX11_ok 1 (by decide)) dX11_canal_22 hf (fun σ22 hf => ?_)
  refine z_aload_n ok dX11_canal_25 1 rfl ?_
  refine z_aload_n ok dX11_canal_26 1 rfl ?_
  refine z_getr (q := 2) ok kc_0 zc_11 hin_11 2 (by decide) fl_11_16 rfl dX11_canal_27 ?_
  refine z_geti ok kc_2 zc_5 hin_5 6 (by decide) fl_11_85 rfl dX11_canal_30 hf (fun v30 hf => ?_)
  refine z_puti ok kc_0 zc_11 hin_11 tyX11 tyX11_ok nmX11 6 (by decide) fl_11_88 rfl rfl (tyX11_ok 6 (by decide)) dX11_canal_33 hf (fun σ33 hf => ?_)
  refine z_aload_n ok dX11_canal_36 1 rfl ?_
  refine z_aload_n ok dX11_canal_37 1 rfl ?_
  refine z_getr (q := 2) ok kc_0 zc_11 hin_11 2 (by decide) fl_11_16 rfl dX11_canal_38 ?_
  refine z_geti ok kc_2 zc_5 hin_5 7 (by decide) fl_11_91 rfl dX11_canal_41 hf (fun v41 hf => ?_)
  refine z_puti ok kc_0 zc_11 hin_11 tyX11 tyX11_ok nmX11 7 (by decide) fl_11_30 rfl rfl (tyX11_ok 7 (by decide)) dX11_canal_44 hf (fun σ44 hf => ?_)
  refine z_iload_n ok dX11_canal_47 0 rfl ?_
  refine z_if_ne (tgt := 57) ok dX11_canal_48 (by decide) hf (fun _ hf => ?_) (fun _ hf => ?_)
  · refine z_aload_n ok dX11_canal_51 1 rfl ?_
    refine z_iconst (v := 1) ok dX11_canal_52 (by decide) ?_
    refine z_call hf (fun r53 h53 hf => ?_)
    refine z_cV (As := [.int 1]) (rest := []) (w := 0) ok kc_0 zc_11 (c_CK_refuse h53) rfl ⟨ml_11_69, w_CK_refuse⟩ hy_CK_refuse ⟨rfl, rfl⟩ ⟨Nat.le_of_ble_eq_true rfl, Nat.le_of_ble_eq_true rfl⟩ ⟨Nat.zero_le _, Nat.zero_le _⟩ rfl (Nat.le_of_ble_eq_true rfl) dX11_canal_53 ?_
    obtain rfl := Option.some.inj hf
    exact hk _ _ dX11_canal_56
  · refine z_aload_n ok dX11_canal_57 1 rfl ?_
    refine z_getm2 (p := 3) (q := 29) ok kc_0 zc_11 hin_11 3 (by decide) fl_11_23 rfl (by decide) (by decide) dX11_canal_58 hf (fun q58 e58 hf => ?_)
    have hq58 : zI_Works q58 198 := by rcases e58 with rfl | rfl; exact kI_Works_3; exact kI_Works_29
    obtain ⟨hq58_0, hq58_1, hq58_2, hq58_3, hq58_4, hq58_5, hq58_6, hq58_7, hq58_8, hq58_9, hq58_10, hq58_11, hq58_12, hq58_13, hq58_14, hq58_15, hq58_16, hq58_17, hq58_18, hq58_19, hq58_20, hq58_21, hq58_22, hq58_23, hq58_24, hq58_25⟩ := id hq58
    refine z_astore_n (lv' := [(2, .ref (X.ad q58)), (1, .int v19), (0, .ref (X.ad 0))]) ok dX11_canal_61 (by decide) rfl ?_
    refine z_aload_n ok dX11_canal_62 2 rfl ?_
    refine z_aload_n ok dX11_canal_63 2 rfl ?_
    refine z_getm2 (p := 3) (q := 29) ok kc_0 zc_11 hin_11 4 (by decide) fl_11_27 rfl (by decide) (by decide) dX11_canal_64 hf (fun q64 e64 hf => ?_)
    have hq64 : zI_Works q64 198 := by rcases e64 with rfl | rfl; exact kI_Works_3; exact kI_Works_29
    obtain ⟨hq64_0, hq64_1, hq64_2, hq64_3, hq64_4, hq64_5, hq64_6, hq64_7, hq64_8, hq64_9, hq64_10, hq64_11, hq64_12, hq64_13, hq64_14, hq64_15, hq64_16, hq64_17, hq64_18, hq64_19, hq64_20, hq64_21, hq64_22, hq64_23, hq64_24, hq64_25⟩ := id hq64
    refine z_putm (r := q64) ok kc_0 zc_11 hin_11 tyX11 tyX11_ok nmX11 3 (by decide) fl_11_23 rfl rfl (Nat.lt_trans hq64_0.2 (by decide)) (tyX11_ok 3 (by decide)) rfl rfl dX11_canal_67 hf (fun σ67 hf => ?_)
    refine z_aload_n ok dX11_canal_70 2 rfl ?_
    refine z_aload_n ok dX11_canal_71 0 rfl ?_
    refine z_putm (r := q58) ok kc_0 zc_11 hin_11 tyX11 tyX11_ok nmX11 4 (by decide) fl_11_27 rfl rfl (Nat.lt_trans hq58_0.2 (by decide)) (tyX11_ok 4 (by decide)) rfl rfl dX11_canal_72 hf (fun σ72 hf => ?_)
    refine z_aload_n ok dX11_canal_75 2 rfl ?_
    refine z_iconst (v := 1) ok dX11_canal_76 (by decide) ?_
    refine z_putz ok kc_0 zc_11 hin_11 tyX11 tyX11_ok nmX11 5 (by decide) fl_11_94 rfl rfl (tyX11_ok 5 (by decide)) dX11_canal_77 hf (fun σ77 hf => ?_)
    refine z_aload_n ok dX11_canal_80 2 rfl ?_
    refine z_getr (q := 55) ok kc_0 zc_11 hin_11 8 (by decide) fl_11_37 rfl dX11_canal_81 ?_
    refine z_aload_n ok dX11_canal_84 2 rfl ?_
    refine z_getm2 (p := 3) (q := 29) ok kc_0 zc_11 hin_11 3 (by decide) fl_11_23 rfl (by decide) (by decide) dX11_canal_85 hf (fun q85 e85 hf => ?_)
    have hq85 : zI_Works q85 198 := by rcases e85 with rfl | rfl; exact kI_Works_3; exact kI_Works_29
    obtain ⟨hq85_0, hq85_1, hq85_2, hq85_3, hq85_4, hq85_5, hq85_6, hq85_7, hq85_8, hq85_9, hq85_10, hq85_11, hq85_12, hq85_13, hq85_14, hq85_15, hq85_16, hq85_17, hq85_18, hq85_19, hq85_20, hq85_21, hq85_22, hq85_23, hq85_24, hq85_25⟩ := id hq85
    refine z_call hf (fun r88 h88 hf => ?_)
    refine z_cVv (As := [.ref (X.ad q85)]) (rest := []) (w := 55) ok kc_55 zc_1 (c_Moment_beginWith kI_Moment_55 hq85 h88) rfl ⟨ml_11_98, w_Moment_beginWith⟩ hy_Moment_beginWith ⟨rfl, rfl⟩ ⟨Nat.le_of_ble_eq_true rfl, Nat.le_of_ble_eq_true rfl⟩ ⟨Nat.zero_le _, Nat.zero_le _⟩ rfl (Nat.le_of_ble_eq_true rfl) dX11_canal_88 ?_
    refine z_aload_n ok dX11_canal_91 2 rfl ?_
    refine z_getr (q := 124) ok kc_0 zc_11 hin_11 13 (by decide) fl_11_55 rfl dX11_canal_92 ?_
    refine z_iconst (v := 0) ok dX11_canal_95 (by decide) ?_
    refine z_puti ok kc_124 zc_7 hin_7 tyX7 tyX7_ok nmX7 0 (by decide) fl_11_102 rfl rfl (tyX7_ok 0 (by decide)) dX11_canal_96 hf (fun σ96 hf => ?_)
    refine z_aload_n ok dX11_canal_99 2 rfl ?_
    refine z_iconst (v := 0) ok dX11_canal_100 (by decide) ?_
    refine z_puti ok kc_0 zc_11 hin_11 tyX11 tyX11_ok nmX11 11 (by decide) fl_11_105 rfl rfl (tyX11_ok 11 (by decide)) dX11_canal_101 hf (fun σ101 hf => ?_)
    refine z_aload_n ok dX11_canal_104 2 rfl ?_
    refine z_getm2 (p := 3) (q := 29) ok kc_0 zc_11 hin_11 3 (by decide) fl_11_23 rfl (by decide) (by decide) dX11_canal_105 hf (fun q105 e105 hf => ?_)
    have hq105 : zI_Works q105 198 := by rcases e105 with rfl | rfl; exact kI_Works_3; exact kI_Works_29
    obtain ⟨hq105_0, hq105_1, hq105_2, hq105_3, hq105_4, hq105_5, hq105_6, hq105_7, hq105_8, hq105_9, hq105_10, hq105_11, hq105_12, hq105_13, hq105_14, hq105_15, hq105_16, hq105_17, hq105_18, hq105_19, hq105_20, hq105_21, hq105_22, hq105_23, hq105_24, hq105_25⟩ := id hq105
    refine z_geti ok hq105_0 zc_10 hin_10 0 (by decide) fl_11_108 rfl dX11_canal_108 hf (fun v108 hf => ?_)
    obtain rfl := Option.some.inj hf
    exact hk _ _ dX11_canal_111
theorem c_CK_canal {σ : Sg} {r : (Int32 × Sg)} (h : CK_canal σ = some r) : ZcI yX11_canal cX11_canal 3 .int rm_CK_canal 198 (fun ad => [.ref (ad 0)]) σ r.1 r.2 :=
  zmetI pn_11 rfl (fun _ => rfl) (fun _ => Nat.le_of_ble_eq_true rfl) rfl (fun X Q ok hk => t_CK_canal ok h hk)
