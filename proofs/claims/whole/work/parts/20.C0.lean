theorem kI_Log_77 : zI_Log 77 198 := ⟨kc_77, kc_78, kc_79⟩
theorem kI_Works_29 : zI_Works 29 198 := ⟨kc_29, kc_30, kc_31, kc_32, kc_33, kc_34, kc_35, kc_36, kc_37, kc_38, kc_39, kc_40, kc_41, kc_42, kc_43, kc_44, kc_45, kc_46, kc_47, kc_48, kc_49, kc_50, kc_51, kc_52, kc_53, kc_54⟩
theorem kI_Works_3 : zI_Works 3 198 := ⟨kc_3, kc_4, kc_5, kc_6, kc_7, kc_8, kc_9, kc_10, kc_11, kc_12, kc_13, kc_14, kc_15, kc_16, kc_17, kc_18, kc_19, kc_20, kc_21, kc_22, kc_23, kc_24, kc_25, kc_26, kc_27, kc_28⟩
theorem fl_0_18 : Cond.fieldLink RX0 18 (TX0 0).1 (TX0 0).2.1 (TX0 0).2.2.1 ∈ zT := zT_of (i := 450) (by decide +kernel) rfl
theorem fl_1_10 : Cond.fieldLink RX1 10 (TX1 0).1 (TX1 0).2.1 (TX1 0).2.2.1 ∈ zT := zT_of (i := 461) (by decide +kernel) rfl
theorem fl_1_19 : Cond.fieldLink RX1 19 (TX1 1).1 (TX1 1).2.1 (TX1 1).2.2.1 ∈ zT := zT_of (i := 464) (by decide +kernel) rfl
theorem fl_1_26 : Cond.fieldLink RX1 26 (TX1 2).1 (TX1 2).2.1 (TX1 2).2.2.1 ∈ zT := zT_of (i := 467) (by decide +kernel) rfl
theorem fl_1_44 : Cond.fieldLink RX1 44 (TX10 11).1 (TX10 11).2.1 (TX10 11).2.2.1 ∈ zT := zT_of (i := 293) (by decide +kernel) rfl
theorem fl_1_47 : Cond.fieldLink RX1 47 (TX0 0).1 (TX0 0).2.1 (TX0 0).2.2.1 ∈ zT := zT_of (i := 451) (by decide +kernel) rfl
theorem fl_10_17 : Cond.fieldLink RX10 17 (TX10 5).1 (TX10 5).2.1 (TX10 5).2.2.1 ∈ zT := zT_of (i := 264) (by decide +kernel) rfl
theorem fl_10_23 : Cond.fieldLink RX10 23 (TX10 8).1 (TX10 8).2.1 (TX10 8).2.2.1 ∈ zT := zT_of (i := 279) (by decide +kernel) rfl
theorem fl_10_35 : Cond.fieldLink RX10 35 (TX10 11).1 (TX10 11).2.1 (TX10 11).2.2.1 ∈ zT := zT_of (i := 292) (by decide +kernel) rfl
theorem fl_10_42 : Cond.fieldLink RX10 42 (TX10 12).1 (TX10 12).2.1 (TX10 12).2.2.1 ∈ zT := zT_of (i := 295) (by decide +kernel) rfl
theorem fl_10_46 : Cond.fieldLink RX10 46 (TX10 0).1 (TX10 0).2.1 (TX10 0).2.2.1 ∈ zT := zT_of (i := 245) (by decide +kernel) rfl
theorem fl_10_50 : Cond.fieldLink RX10 50 (TX10 1).1 (TX10 1).2.1 (TX10 1).2.2.1 ∈ zT := zT_of (i := 248) (by decide +kernel) rfl
theorem fl_10_53 : Cond.fieldLink RX10 53 (TX10 2).1 (TX10 2).2.1 (TX10 2).2.2.1 ∈ zT := zT_of (i := 251) (by decide +kernel) rfl
theorem fl_10_56 : Cond.fieldLink RX10 56 (TX10 3).1 (TX10 3).2.1 (TX10 3).2.2.1 ∈ zT := zT_of (i := 254) (by decide +kernel) rfl
theorem fl_10_59 : Cond.fieldLink RX10 59 (TX10 7).1 (TX10 7).2.1 (TX10 7).2.2.1 ∈ zT := zT_of (i := 274) (by decide +kernel) rfl
theorem fl_10_62 : Cond.fieldLink RX10 62 (TX3 0).1 (TX3 0).2.1 (TX3 0).2.2.1 ∈ zT := zT_of (i := 200) (by decide +kernel) rfl
theorem fl_10_65 : Cond.fieldLink RX10 65 (TX8 0).1 (TX8 0).2.1 (TX8 0).2.2.1 ∈ zT := zT_of (i := 227) (by decide +kernel) rfl
theorem fl_10_9 : Cond.fieldLink RX10 9 (TX10 4).1 (TX10 4).2.1 (TX10 4).2.2.1 ∈ zT := zT_of (i := 261) (by decide +kernel) rfl
theorem fl_11_102 : Cond.fieldLink RX11 102 (TX7 0).1 (TX7 0).2.1 (TX7 0).2.2.1 ∈ zT := zT_of (i := 550) (by decide +kernel) rfl
theorem fl_11_105 : Cond.fieldLink RX11 105 (TX11 11).1 (TX11 11).2.1 (TX11 11).2.2.1 ∈ zT := zT_of (i := 585) (by decide +kernel) rfl
theorem fl_11_111 : Cond.fieldLink RX11 111 (TX10 3).1 (TX10 3).2.1 (TX10 3).2.2.1 ∈ zT := zT_of (i := 258) (by decide +kernel) rfl
theorem fl_11_114 : Cond.fieldLink RX11 114 (TX10 7).1 (TX10 7).2.1 (TX10 7).2.2.1 ∈ zT := zT_of (i := 277) (by decide +kernel) rfl
theorem fl_11_117 : Cond.fieldLink RX11 117 (TX1 1).1 (TX1 1).2.1 (TX1 1).2.2.1 ∈ zT := zT_of (i := 466) (by decide +kernel) rfl
theorem fl_11_121 : Cond.fieldLink RX11 121 (TX3 0).1 (TX3 0).2.1 (TX3 0).2.2.1 ∈ zT := zT_of (i := 202) (by decide +kernel) rfl
theorem fl_11_126 : Cond.fieldLink RX11 126 (TX1 0).1 (TX1 0).2.1 (TX1 0).2.2.1 ∈ zT := zT_of (i := 463) (by decide +kernel) rfl
theorem fl_11_130 : Cond.fieldLink RX11 130 (TX9 0).1 (TX9 0).2.1 (TX9 0).2.2.1 ∈ zT := zT_of (i := 382) (by decide +kernel) rfl
theorem fl_11_135 : Cond.fieldLink RX11 135 (TX9 1).1 (TX9 1).2.1 (TX9 1).2.2.1 ∈ zT := zT_of (i := 385) (by decide +kernel) rfl
theorem fl_11_138 : Cond.fieldLink RX11 138 (TX9 2).1 (TX9 2).2.1 (TX9 2).2.2.1 ∈ zT := zT_of (i := 388) (by decide +kernel) rfl
theorem fl_11_141 : Cond.fieldLink RX11 141 (TX1 2).1 (TX1 2).2.1 (TX1 2).2.2.1 ∈ zT := zT_of (i := 468) (by decide +kernel) rfl
theorem fl_11_179 : Cond.fieldLink RX11 179 (TX9 3).1 (TX9 3).2.1 (TX9 3).2.2.1 ∈ zT := zT_of (i := 394) (by decide +kernel) rfl
theorem fl_11_23 : Cond.fieldLink RX11 23 (TX11 3).1 (TX11 3).2.1 (TX11 3).2.2.1 ∈ zT := zT_of (i := 577) (by decide +kernel) rfl
theorem fl_11_30 : Cond.fieldLink RX11 30 (TX11 7).1 (TX11 7).2.1 (TX11 7).2.2.1 ∈ zT := zT_of (i := 581) (by decide +kernel) rfl
theorem fl_11_37 : Cond.fieldLink RX11 37 (TX11 8).1 (TX11 8).2.1 (TX11 8).2.2.1 ∈ zT := zT_of (i := 582) (by decide +kernel) rfl
theorem fl_11_55 : Cond.fieldLink RX11 55 (TX11 13).1 (TX11 13).2.1 (TX11 13).2.2.1 ∈ zT := zT_of (i := 587) (by decide +kernel) rfl
theorem fl_11_59 : Cond.fieldLink RX11 59 (TX11 14).1 (TX11 14).2.1 (TX11 14).2.2.1 ∈ zT := zT_of (i := 588) (by decide +kernel) rfl
theorem fl_11_62 : Cond.fieldLink RX11 62 (TX11 15).1 (TX11 15).2.1 (TX11 15).2.2.1 ∈ zT := zT_of (i := 589) (by decide +kernel) rfl
theorem fl_11_66 : Cond.fieldLink RX11 66 (TX11 1).1 (TX11 1).2.1 (TX11 1).2.2.1 ∈ zT := zT_of (i := 575) (by decide +kernel) rfl
theorem fl_11_88 : Cond.fieldLink RX11 88 (TX11 6).1 (TX11 6).2.1 (TX11 6).2.2.1 ∈ zT := zT_of (i := 580) (by decide +kernel) rfl
theorem fl_11_9 : Cond.fieldLink RX11 9 (TX11 0).1 (TX11 0).2.1 (TX11 0).2.2.1 ∈ zT := zT_of (i := 574) (by decide +kernel) rfl
theorem fl_3_15 : Cond.fieldLink RX3 15 (TX3 2).1 (TX3 2).2.1 (TX3 2).2.2.1 ∈ zT := zT_of (i := 205) (by decide +kernel) rfl
theorem fl_3_18 : Cond.fieldLink RX3 18 (TX3 3).1 (TX3 3).2.1 (TX3 3).2.2.1 ∈ zT := zT_of (i := 208) (by decide +kernel) rfl
theorem fl_3_21 : Cond.fieldLink RX3 21 (TX3 0).1 (TX3 0).2.1 (TX3 0).2.2.1 ∈ zT := zT_of (i := 199) (by decide +kernel) rfl
theorem fl_3_9 : Cond.fieldLink RX3 9 (TX3 1).1 (TX3 1).2.1 (TX3 1).2.2.1 ∈ zT := zT_of (i := 203) (by decide +kernel) rfl
theorem fl_5_15 : Cond.fieldLink RX5 15 (TX5 1).1 (TX5 1).2.1 (TX5 1).2.2.1 ∈ zT := zT_of (i := 158) (by decide +kernel) rfl
theorem fl_5_19 : Cond.fieldLink RX5 19 (TX5 5).1 (TX5 5).2.1 (TX5 5).2.2.1 ∈ zT := zT_of (i := 162) (by decide +kernel) rfl
theorem fl_5_231 : Cond.fieldLink RX5 231 (TX5 4).1 (TX5 4).2.1 (TX5 4).2.2.1 ∈ zT := zT_of (i := 161) (by decide +kernel) rfl
theorem fl_5_28 : Cond.fieldLink RX5 28 (TX5 2).1 (TX5 2).2.1 (TX5 2).2.2.1 ∈ zT := zT_of (i := 159) (by decide +kernel) rfl
theorem fl_5_31 : Cond.fieldLink RX5 31 (TX5 3).1 (TX5 3).2.1 (TX5 3).2.2.1 ∈ zT := zT_of (i := 160) (by decide +kernel) rfl
theorem fl_5_35 : Cond.fieldLink RX5 35 (TX5 6).1 (TX5 6).2.1 (TX5 6).2.2.1 ∈ zT := zT_of (i := 163) (by decide +kernel) rfl
theorem fl_5_38 : Cond.fieldLink RX5 38 (TX5 7).1 (TX5 7).2.1 (TX5 7).2.2.1 ∈ zT := zT_of (i := 165) (by decide +kernel) rfl
theorem fl_5_9 : Cond.fieldLink RX5 9 (TX5 0).1 (TX5 0).2.1 (TX5 0).2.2.1 ∈ zT := zT_of (i := 157) (by decide +kernel) rfl
theorem fl_8_15 : Cond.fieldLink RX8 15 (TX8 2).1 (TX8 2).2.1 (TX8 2).2.2.1 ∈ zT := zT_of (i := 232) (by decide +kernel) rfl
theorem fl_8_20 : Cond.fieldLink RX8 20 (TX8 3).1 (TX8 3).2.1 (TX8 3).2.2.1 ∈ zT := zT_of (i := 234) (by decide +kernel) rfl
theorem fl_9_15 : Cond.fieldLink RX9 15 (TX9 4).1 (TX9 4).2.1 (TX9 4).2.2.1 ∈ zT := zT_of (i := 395) (by decide +kernel) rfl
theorem fl_9_18 : Cond.fieldLink RX9 18 (TX9 5).1 (TX9 5).2.1 (TX9 5).2.2.1 ∈ zT := zT_of (i := 399) (by decide +kernel) rfl
theorem fl_9_21 : Cond.fieldLink RX9 21 (TX9 6).1 (TX9 6).2.1 (TX9 6).2.2.1 ∈ zT := zT_of (i := 403) (by decide +kernel) rfl
theorem fl_9_24 : Cond.fieldLink RX9 24 (TX9 7).1 (TX9 7).2.1 (TX9 7).2.2.1 ∈ zT := zT_of (i := 406) (by decide +kernel) rfl
theorem fl_9_27 : Cond.fieldLink RX9 27 (TX9 8).1 (TX9 8).2.1 (TX9 8).2.2.1 ∈ zT := zT_of (i := 407) (by decide +kernel) rfl
theorem fl_9_30 : Cond.fieldLink RX9 30 (TX9 9).1 (TX9 9).2.1 (TX9 9).2.2.1 ∈ zT := zT_of (i := 409) (by decide +kernel) rfl
theorem fl_9_33 : Cond.fieldLink RX9 33 (TX9 10).1 (TX9 10).2.1 (TX9 10).2.2.1 ∈ zT := zT_of (i := 411) (by decide +kernel) rfl
theorem fl_9_43 : Cond.fieldLink RX9 43 (TX9 0).1 (TX9 0).2.1 (TX9 0).2.2.1 ∈ zT := zT_of (i := 380) (by decide +kernel) rfl
theorem fl_9_47 : Cond.fieldLink RX9 47 (TX9 1).1 (TX9 1).2.1 (TX9 1).2.2.1 ∈ zT := zT_of (i := 384) (by decide +kernel) rfl
theorem fl_9_50 : Cond.fieldLink RX9 50 (TX9 2).1 (TX9 2).2.1 (TX9 2).2.2.1 ∈ zT := zT_of (i := 387) (by decide +kernel) rfl
theorem fl_9_59 : Cond.fieldLink RX9 59 (TX10 1).1 (TX10 1).2.1 (TX10 1).2.2.1 ∈ zT := zT_of (i := 249) (by decide +kernel) rfl
theorem fl_9_62 : Cond.fieldLink RX9 62 (TX10 2).1 (TX10 2).2.1 (TX10 2).2.2.1 ∈ zT := zT_of (i := 252) (by decide +kernel) rfl
theorem fl_9_63 : Cond.fieldLink RX9 63 (TX10 5).1 (TX10 5).2.1 (TX10 5).2.2.1 ∈ zT := zT_of (i := 265) (by decide +kernel) rfl
theorem fl_9_9 : Cond.fieldLink RX9 9 (TX9 3).1 (TX9 3).2.1 (TX9 3).2.2.1 ∈ zT := zT_of (i := 390) (by decide +kernel) rfl
theorem ml_0_28 : Cond.methodLink RX0 28 Lib.Math.min.name ∈ zT := zT_of (i := 878) (by decide +kernel) rfl
theorem ml_1_34 : Cond.methodLink RX1 34 yX3_copyFrom ∈ zT := zT_of (i := 861) (by decide +kernel) rfl
theorem ml_1_40 : Cond.methodLink RX1 40 yX9_beginWith ∈ zT := zT_of (i := 851) (by decide +kernel) rfl
theorem ml_11_145 : Cond.methodLink RX11 145 yX0_toldCount ∈ zT := zT_of (i := 874) (by decide +kernel) rfl
theorem ml_11_151 : Cond.methodLink RX11 151 yX11_poolsOutOfBand ∈ zT := zT_of (i := 881) (by decide +kernel) rfl
theorem ml_11_195 : Cond.methodLink RX11 195 yX10_bandOf ∈ zT := zT_of (i := 885) (by decide +kernel) rfl
theorem ml_11_69 : Cond.methodLink RX11 69 yX11_refuse ∈ zT := zT_of (i := 627) (by decide +kernel) rfl
theorem ml_11_73 : Cond.methodLink RX11 73 yX11_putNumber ∈ zT := zT_of (i := 631) (by decide +kernel) rfl
theorem ml_11_77 : Cond.methodLink RX11 77 yX11_deny ∈ zT := zT_of (i := 639) (by decide +kernel) rfl
theorem ml_3_25 : Cond.methodLink RX3 25 arraycopyName ∈ zT := zT_of (i := 865) (by decide +kernel) rfl
theorem ml_5_192 : Cond.methodLink RX5 192 yX10_poolOf ∈ zT := zT_of (i := 776) (by decide +kernel) rfl
theorem ml_5_200 : Cond.methodLink RX5 200 yX10_outletOf ∈ zT := zT_of (i := 780) (by decide +kernel) rfl
theorem ml_5_220 : Cond.methodLink RX5 220 yX5_standsSign ∈ zT := zT_of (i := 747) (by decide +kernel) rfl
theorem ml_5_244 : Cond.methodLink RX5 244 yX5_isDigit ∈ zT := zT_of (i := 740) (by decide +kernel) rfl
theorem ml_5_256 : Cond.methodLink RX5 256 yX5_isLetter ∈ zT := zT_of (i := 680) (by decide +kernel) rfl
theorem ml_5_41 : Cond.methodLink RX5 41 yX5_skipBlanks ∈ zT := zT_of (i := 655) (by decide +kernel) rfl
theorem ml_5_51 : Cond.methodLink RX5 51 yX5_fail ∈ zT := zT_of (i := 731) (by decide +kernel) rfl
theorem ml_9_53 : Cond.methodLink RX9 53 arraycopyName ∈ zT := zT_of (i := 855) (by decide +kernel) rfl
theorem ml_9_67 : Cond.methodLink RX9 67 yJ7_fill_53178 ∈ zT := zT_of (i := 858) (by decide +kernel) rfl
theorem zI_Moment_1 {w N : Nat} (h : zI_Moment w N) : zI_Water (w + 1) N := by
  obtain ⟨h0, h1, h2, h3, h4, h5, h6, h7, h8, h9, h10, h11, h12, h13, h14, h15, h16, h17, h18, h19, h20, h21, h22, h23, h24⟩ := h
  exact ⟨h1, h2, h3, h4, h5, h6, h7, h8, h9, h10, h11, h12, h13, h14, h15, h16, h17⟩
theorem zI_Moment_18 {w N : Nat} (h : zI_Moment w N) : zI_Orders (w + 18) N := by
  obtain ⟨h0, h1, h2, h3, h4, h5, h6, h7, h8, h9, h10, h11, h12, h13, h14, h15, h16, h17, h18, h19, h20, h21, h22, h23, h24⟩ := h
  exact ⟨h18, h19, h20, h21⟩
theorem zI_Works_16 {w N : Nat} (h : zI_Works w N) : zI_Orders (w + 16) N := by
  obtain ⟨h0, h1, h2, h3, h4, h5, h6, h7, h8, h9, h10, h11, h12, h13, h14, h15, h16, h17, h18, h19, h20, h21, h22, h23, h24, h25⟩ := h
  exact ⟨h16, h17, h18, h19⟩
theorem w_Log_toldCount : Cond.instanceMethod yX0_toldCount ∈ zT ∧ Cond.selects yX0_toldCount.cls yX0_toldCount yX0_toldCount ∈ zT ∧ Cond.initialized yX0_toldCount.cls ∈ zT ∧ Cond.code yX0_toldCount cX0_toldCount 1 (some .int) ∈ zT := ⟨zT_of (i := 875) (by decide +kernel) rfl, zT_of (i := 876) (by decide +kernel) rfl, zT_of (i := 131) (by decide +kernel) rfl, zT_of (i := 877) (by decide +kernel) rfl⟩
theorem hy_Log_toldCount : yX0_toldCount.cls ≠ "java/lang/invoke/MethodHandle" ∧ yX0_toldCount.cls ≠ "java/lang/invoke/VarHandle" ∧ (parseMethodDescriptor yX0_toldCount.desc).map (fun d => d.parameters.length) = some 0 := by decide +kernel
theorem w_Moment_beginWith : Cond.instanceMethod yX1_beginWith ∈ zT ∧ Cond.selects yX1_beginWith.cls yX1_beginWith yX1_beginWith ∈ zT ∧ Cond.initialized yX1_beginWith.cls ∈ zT ∧ Cond.code yX1_beginWith cX1_beginWith 2 none ∈ zT := ⟨zT_of (i := 848) (by decide +kernel) rfl, zT_of (i := 849) (by decide +kernel) rfl, zT_of (i := 128) (by decide +kernel) rfl, zT_of (i := 850) (by decide +kernel) rfl⟩
theorem hy_Moment_beginWith : yX1_beginWith.cls ≠ "java/lang/invoke/MethodHandle" ∧ yX1_beginWith.cls ≠ "java/lang/invoke/VarHandle" ∧ (parseMethodDescriptor yX1_beginWith.desc).map (fun d => d.parameters.length) = some 1 := by decide +kernel
theorem w_Orders_add : Cond.instanceMethod yX3_add ∈ zT ∧ Cond.selects yX3_add.cls yX3_add yX3_add ∈ zT ∧ Cond.initialized yX3_add.cls ∈ zT ∧ Cond.code yX3_add cX3_add 4 (some .int) ∈ zT := ⟨zT_of (i := 827) (by decide +kernel) rfl, zT_of (i := 828) (by decide +kernel) rfl, zT_of (i := 126) (by decide +kernel) rfl, zT_of (i := 829) (by decide +kernel) rfl⟩
theorem hy_Orders_add : yX3_add.cls ≠ "java/lang/invoke/MethodHandle" ∧ yX3_add.cls ≠ "java/lang/invoke/VarHandle" ∧ (parseMethodDescriptor yX3_add.desc).map (fun d => d.parameters.length) = some 3 := by decide +kernel
theorem w_Orders_copyFrom : Cond.instanceMethod yX3_copyFrom ∈ zT ∧ Cond.selects yX3_copyFrom.cls yX3_copyFrom yX3_copyFrom ∈ zT ∧ Cond.initialized yX3_copyFrom.cls ∈ zT ∧ Cond.code yX3_copyFrom cX3_copyFrom 2 none ∈ zT := ⟨zT_of (i := 862) (by decide +kernel) rfl, zT_of (i := 863) (by decide +kernel) rfl, zT_of (i := 126) (by decide +kernel) rfl, zT_of (i := 864) (by decide +kernel) rfl⟩
theorem hy_Orders_copyFrom : yX3_copyFrom.cls ≠ "java/lang/invoke/MethodHandle" ∧ yX3_copyFrom.cls ≠ "java/lang/invoke/VarHandle" ∧ (parseMethodDescriptor yX3_copyFrom.desc).map (fun d => d.parameters.length) = some 1 := by decide +kernel
theorem w_Reader_askName : Cond.instanceMethod yX5_askName ∈ zT ∧ Cond.selects yX5_askName.cls yX5_askName yX5_askName ∈ zT ∧ Cond.initialized yX5_askName.cls ∈ zT ∧ Cond.code yX5_askName cX5_askName 2 none ∈ zT := ⟨zT_of (i := 786) (by decide +kernel) rfl, zT_of (i := 17) (by decide +kernel) rfl, zT_of (i := 124) (by decide +kernel) rfl, zT_of (i := 787) (by decide +kernel) rfl⟩
theorem hy_Reader_askName : yX5_askName.cls ≠ "java/lang/invoke/MethodHandle" ∧ yX5_askName.cls ≠ "java/lang/invoke/VarHandle" ∧ (parseMethodDescriptor yX5_askName.desc).map (fun d => d.parameters.length) = some 1 := by decide +kernel
theorem w_Reader_fail : Cond.instanceMethod yX5_fail ∈ zT ∧ Cond.selects yX5_fail.cls yX5_fail yX5_fail ∈ zT ∧ Cond.initialized yX5_fail.cls ∈ zT ∧ Cond.code yX5_fail cX5_fail 3 (some .boolean) ∈ zT := ⟨zT_of (i := 733) (by decide +kernel) rfl, zT_of (i := 9) (by decide +kernel) rfl, zT_of (i := 124) (by decide +kernel) rfl, zT_of (i := 734) (by decide +kernel) rfl⟩
theorem hy_Reader_fail : yX5_fail.cls ≠ "java/lang/invoke/MethodHandle" ∧ yX5_fail.cls ≠ "java/lang/invoke/VarHandle" ∧ (parseMethodDescriptor yX5_fail.desc).map (fun d => d.parameters.length) = some 2 := by decide +kernel
theorem w_Reader_failBehindLastTurn : Cond.instanceMethod yX5_failBehindLastTurn ∈ zT ∧ Cond.selects yX5_failBehindLastTurn.cls yX5_failBehindLastTurn yX5_failBehindLastTurn ∈ zT ∧ Cond.initialized yX5_failBehindLastTurn.cls ∈ zT ∧ Cond.code yX5_failBehindLastTurn cX5_failBehindLastTurn 1 (some .boolean) ∈ zT := ⟨zT_of (i := 845) (by decide +kernel) rfl, zT_of (i := 24) (by decide +kernel) rfl, zT_of (i := 124) (by decide +kernel) rfl, zT_of (i := 846) (by decide +kernel) rfl⟩
theorem hy_Reader_failBehindLastTurn : yX5_failBehindLastTurn.cls ≠ "java/lang/invoke/MethodHandle" ∧ yX5_failBehindLastTurn.cls ≠ "java/lang/invoke/VarHandle" ∧ (parseMethodDescriptor yX5_failBehindLastTurn.desc).map (fun d => d.parameters.length) = some 0 := by decide +kernel
theorem w_Reader_isDigit : Cond.static yX5_isDigit ∈ zT ∧ Cond.initialized yX5_isDigit.cls ∈ zT ∧ Cond.code yX5_isDigit cX5_isDigit 1 (some .boolean) ∈ zT := ⟨zT_of (i := 741) (by decide +kernel) rfl, zT_of (i := 124) (by decide +kernel) rfl, zT_of (i := 742) (by decide +kernel) rfl⟩
theorem hy_Reader_isDigit : yX5_isDigit.cls ≠ "java/lang/invoke/MethodHandle" ∧ yX5_isDigit.cls ≠ "java/lang/invoke/VarHandle" ∧ (parseMethodDescriptor yX5_isDigit.desc).map (fun d => d.parameters.length) = some 1 := by decide +kernel
theorem w_Reader_isLetter : Cond.static yX5_isLetter ∈ zT ∧ Cond.initialized yX5_isLetter.cls ∈ zT ∧ Cond.code yX5_isLetter cX5_isLetter 1 (some .boolean) ∈ zT := ⟨zT_of (i := 681) (by decide +kernel) rfl, zT_of (i := 124) (by decide +kernel) rfl, zT_of (i := 682) (by decide +kernel) rfl⟩
theorem hy_Reader_isLetter : yX5_isLetter.cls ≠ "java/lang/invoke/MethodHandle" ∧ yX5_isLetter.cls ≠ "java/lang/invoke/VarHandle" ∧ (parseMethodDescriptor yX5_isLetter.desc).map (fun d => d.parameters.length) = some 1 := by decide +kernel
theorem w_Reader_isNew : Cond.instanceMethod yX5_isNew ∈ zT ∧ Cond.selects yX5_isNew.cls yX5_isNew yX5_isNew ∈ zT ∧ Cond.initialized yX5_isNew.cls ∈ zT ∧ Cond.code yX5_isNew cX5_isNew 2 (some .boolean) ∈ zT := ⟨zT_of (i := 774) (by decide +kernel) rfl, zT_of (i := 16) (by decide +kernel) rfl, zT_of (i := 124) (by decide +kernel) rfl, zT_of (i := 775) (by decide +kernel) rfl⟩
theorem hy_Reader_isNew : yX5_isNew.cls ≠ "java/lang/invoke/MethodHandle" ∧ yX5_isNew.cls ≠ "java/lang/invoke/VarHandle" ∧ (parseMethodDescriptor yX5_isNew.desc).map (fun d => d.parameters.length) = some 1 := by decide +kernel
theorem w_Reader_nameIn : Cond.static yX5_nameIn ∈ zT ∧ Cond.initialized yX5_nameIn.cls ∈ zT ∧ Cond.code yX5_nameIn cX5_nameIn 6 (some .int) ∈ zT := ⟨zT_of (i := 766) (by decide +kernel) rfl, zT_of (i := 124) (by decide +kernel) rfl, zT_of (i := 767) (by decide +kernel) rfl⟩
theorem hy_Reader_nameIn : yX5_nameIn.cls ≠ "java/lang/invoke/MethodHandle" ∧ yX5_nameIn.cls ≠ "java/lang/invoke/VarHandle" ∧ (parseMethodDescriptor yX5_nameIn.desc).map (fun d => d.parameters.length) = some 3 := by decide +kernel
theorem w_Reader_readNumber : Cond.instanceMethod yX5_readNumber ∈ zT ∧ Cond.selects yX5_readNumber.cls yX5_readNumber yX5_readNumber ∈ zT ∧ Cond.initialized yX5_readNumber.cls ∈ zT ∧ Cond.code yX5_readNumber cX5_readNumber 5 (some .int) ∈ zT := ⟨zT_of (i := 738) (by decide +kernel) rfl, zT_of (i := 10) (by decide +kernel) rfl, zT_of (i := 124) (by decide +kernel) rfl, zT_of (i := 739) (by decide +kernel) rfl⟩
theorem hy_Reader_readNumber : yX5_readNumber.cls ≠ "java/lang/invoke/MethodHandle" ∧ yX5_readNumber.cls ≠ "java/lang/invoke/VarHandle" ∧ (parseMethodDescriptor yX5_readNumber.desc).map (fun d => d.parameters.length) = some 2 := by decide +kernel
theorem w_Reader_readSign : Cond.instanceMethod yX5_readSign ∈ zT ∧ Cond.selects yX5_readSign.cls yX5_readSign yX5_readSign ∈ zT ∧ Cond.initialized yX5_readSign.cls ∈ zT ∧ Cond.code yX5_readSign cX5_readSign 2 (some .boolean) ∈ zT := ⟨zT_of (i := 745) (by decide +kernel) rfl, zT_of (i := 11) (by decide +kernel) rfl, zT_of (i := 124) (by decide +kernel) rfl, zT_of (i := 746) (by decide +kernel) rfl⟩
theorem hy_Reader_readSign : yX5_readSign.cls ≠ "java/lang/invoke/MethodHandle" ∧ yX5_readSign.cls ≠ "java/lang/invoke/VarHandle" ∧ (parseMethodDescriptor yX5_readSign.desc).map (fun d => d.parameters.length) = some 1 := by decide +kernel
theorem w_Reader_skipBlanks : Cond.instanceMethod yX5_skipBlanks ∈ zT ∧ Cond.selects yX5_skipBlanks.cls yX5_skipBlanks yX5_skipBlanks ∈ zT ∧ Cond.initialized yX5_skipBlanks.cls ∈ zT ∧ Cond.code yX5_skipBlanks cX5_skipBlanks 1 none ∈ zT := ⟨zT_of (i := 657) (by decide +kernel) rfl, zT_of (i := 3) (by decide +kernel) rfl, zT_of (i := 124) (by decide +kernel) rfl, zT_of (i := 658) (by decide +kernel) rfl⟩
theorem hy_Reader_skipBlanks : yX5_skipBlanks.cls ≠ "java/lang/invoke/MethodHandle" ∧ yX5_skipBlanks.cls ≠ "java/lang/invoke/VarHandle" ∧ (parseMethodDescriptor yX5_skipBlanks.desc).map (fun d => d.parameters.length) = some 0 := by decide +kernel
theorem w_Reader_standsSign : Cond.instanceMethod yX5_standsSign ∈ zT ∧ Cond.selects yX5_standsSign.cls yX5_standsSign yX5_standsSign ∈ zT ∧ Cond.initialized yX5_standsSign.cls ∈ zT ∧ Cond.code yX5_standsSign cX5_standsSign 2 (some .boolean) ∈ zT := ⟨zT_of (i := 749) (by decide +kernel) rfl, zT_of (i := 12) (by decide +kernel) rfl, zT_of (i := 124) (by decide +kernel) rfl, zT_of (i := 750) (by decide +kernel) rfl⟩
theorem hy_Reader_standsSign : yX5_standsSign.cls ≠ "java/lang/invoke/MethodHandle" ∧ yX5_standsSign.cls ≠ "java/lang/invoke/VarHandle" ∧ (parseMethodDescriptor yX5_standsSign.desc).map (fun d => d.parameters.length) = some 1 := by decide +kernel
theorem w_Reader_wordEnd : Cond.instanceMethod yX5_wordEnd ∈ zT ∧ Cond.selects yX5_wordEnd.cls yX5_wordEnd yX5_wordEnd ∈ zT ∧ Cond.initialized yX5_wordEnd.cls ∈ zT ∧ Cond.code yX5_wordEnd cX5_wordEnd 3 (some .int) ∈ zT := ⟨zT_of (i := 678) (by decide +kernel) rfl, zT_of (i := 8) (by decide +kernel) rfl, zT_of (i := 124) (by decide +kernel) rfl, zT_of (i := 679) (by decide +kernel) rfl⟩
theorem hy_Reader_wordEnd : yX5_wordEnd.cls ≠ "java/lang/invoke/MethodHandle" ∧ yX5_wordEnd.cls ≠ "java/lang/invoke/VarHandle" ∧ (parseMethodDescriptor yX5_wordEnd.desc).map (fun d => d.parameters.length) = some 1 := by decide +kernel
theorem w_Turns_holds : Cond.instanceMethod yX8_holds ∈ zT ∧ Cond.selects yX8_holds.cls yX8_holds yX8_holds ∈ zT ∧ Cond.initialized yX8_holds.cls ∈ zT ∧ Cond.code yX8_holds cX8_holds 4 (some .boolean) ∈ zT := ⟨zT_of (i := 840) (by decide +kernel) rfl, zT_of (i := 841) (by decide +kernel) rfl, zT_of (i := 127) (by decide +kernel) rfl, zT_of (i := 842) (by decide +kernel) rfl⟩
theorem hy_Turns_holds : yX8_holds.cls ≠ "java/lang/invoke/MethodHandle" ∧ yX8_holds.cls ≠ "java/lang/invoke/VarHandle" ∧ (parseMethodDescriptor yX8_holds.desc).map (fun d => d.parameters.length) = some 2 := by decide +kernel
theorem w_Water_beginWith : Cond.instanceMethod yX9_beginWith ∈ zT ∧ Cond.selects yX9_beginWith.cls yX9_beginWith yX9_beginWith ∈ zT ∧ Cond.initialized yX9_beginWith.cls ∈ zT ∧ Cond.code yX9_beginWith cX9_beginWith 2 none ∈ zT := ⟨zT_of (i := 852) (by decide +kernel) rfl, zT_of (i := 853) (by decide +kernel) rfl, zT_of (i := 129) (by decide +kernel) rfl, zT_of (i := 854) (by decide +kernel) rfl⟩
theorem hy_Water_beginWith : yX9_beginWith.cls ≠ "java/lang/invoke/MethodHandle" ∧ yX9_beginWith.cls ≠ "java/lang/invoke/VarHandle" ∧ (parseMethodDescriptor yX9_beginWith.desc).map (fun d => d.parameters.length) = some 1 := by decide +kernel
theorem w_Works_bandOf : Cond.instanceMethod yX10_bandOf ∈ zT ∧ Cond.selects yX10_bandOf.cls yX10_bandOf yX10_bandOf ∈ zT ∧ Cond.initialized yX10_bandOf.cls ∈ zT ∧ Cond.code yX10_bandOf cX10_bandOf 3 (some .int) ∈ zT := ⟨zT_of (i := 886) (by decide +kernel) rfl, zT_of (i := 887) (by decide +kernel) rfl, zT_of (i := 125) (by decide +kernel) rfl, zT_of (i := 888) (by decide +kernel) rfl⟩
theorem hy_Works_bandOf : yX10_bandOf.cls ≠ "java/lang/invoke/MethodHandle" ∧ yX10_bandOf.cls ≠ "java/lang/invoke/VarHandle" ∧ (parseMethodDescriptor yX10_bandOf.desc).map (fun d => d.parameters.length) = some 2 := by decide +kernel
theorem w_Works_clear : Cond.instanceMethod yX10_clear ∈ zT ∧ Cond.selects yX10_clear.cls yX10_clear yX10_clear ∈ zT ∧ Cond.initialized yX10_clear.cls ∈ zT ∧ Cond.code yX10_clear cX10_clear 1 none ∈ zT := ⟨zT_of (i := 652) (by decide +kernel) rfl, zT_of (i := 653) (by decide +kernel) rfl, zT_of (i := 125) (by decide +kernel) rfl, zT_of (i := 654) (by decide +kernel) rfl⟩
theorem hy_Works_clear : yX10_clear.cls ≠ "java/lang/invoke/MethodHandle" ∧ yX10_clear.cls ≠ "java/lang/invoke/VarHandle" ∧ (parseMethodDescriptor yX10_clear.desc).map (fun d => d.parameters.length) = some 0 := by decide +kernel
theorem w_Works_outletOf : Cond.instanceMethod yX10_outletOf ∈ zT ∧ Cond.selects yX10_outletOf.cls yX10_outletOf yX10_outletOf ∈ zT ∧ Cond.initialized yX10_outletOf.cls ∈ zT ∧ Cond.code yX10_outletOf cX10_outletOf 3 (some .int) ∈ zT := ⟨zT_of (i := 781) (by decide +kernel) rfl, zT_of (i := 782) (by decide +kernel) rfl, zT_of (i := 125) (by decide +kernel) rfl, zT_of (i := 783) (by decide +kernel) rfl⟩
theorem hy_Works_outletOf : yX10_outletOf.cls ≠ "java/lang/invoke/MethodHandle" ∧ yX10_outletOf.cls ≠ "java/lang/invoke/VarHandle" ∧ (parseMethodDescriptor yX10_outletOf.desc).map (fun d => d.parameters.length) = some 1 := by decide +kernel
theorem w_Works_poolOf : Cond.instanceMethod yX10_poolOf ∈ zT ∧ Cond.selects yX10_poolOf.cls yX10_poolOf yX10_poolOf ∈ zT ∧ Cond.initialized yX10_poolOf.cls ∈ zT ∧ Cond.code yX10_poolOf cX10_poolOf 3 (some .int) ∈ zT := ⟨zT_of (i := 777) (by decide +kernel) rfl, zT_of (i := 778) (by decide +kernel) rfl, zT_of (i := 125) (by decide +kernel) rfl, zT_of (i := 779) (by decide +kernel) rfl⟩
theorem hy_Works_poolOf : yX10_poolOf.cls ≠ "java/lang/invoke/MethodHandle" ∧ yX10_poolOf.cls ≠ "java/lang/invoke/VarHandle" ∧ (parseMethodDescriptor yX10_poolOf.desc).map (fun d => d.parameters.length) = some 1 := by decide +kernel
theorem w_CK_deny : Cond.instanceMethod yX11_deny ∈ zT ∧ Cond.selects yX11_deny.cls yX11_deny yX11_deny ∈ zT ∧ Cond.initialized yX11_deny.cls ∈ zT ∧ Cond.code yX11_deny cX11_deny 2 (some .boolean) ∈ zT := ⟨zT_of (i := 641) (by decide +kernel) rfl, zT_of (i := 2) (by decide +kernel) rfl, zT_of (i := 123) (by decide +kernel) rfl, zT_of (i := 642) (by decide +kernel) rfl⟩
theorem hy_CK_deny : yX11_deny.cls ≠ "java/lang/invoke/MethodHandle" ∧ yX11_deny.cls ≠ "java/lang/invoke/VarHandle" ∧ (parseMethodDescriptor yX11_deny.desc).map (fun d => d.parameters.length) = some 1 := by decide +kernel
theorem w_CK_end : Cond.instanceMethod yX11_end ∈ zT ∧ Cond.selects yX11_end.cls yX11_end yX11_end ∈ zT ∧ Cond.initialized yX11_end.cls ∈ zT ∧ Cond.code yX11_end cX11_end 2 (some .boolean) ∈ zT := ⟨zT_of (i := 636) (by decide +kernel) rfl, zT_of (i := 637) (by decide +kernel) rfl, zT_of (i := 123) (by decide +kernel) rfl, zT_of (i := 638) (by decide +kernel) rfl⟩
theorem hy_CK_end : yX11_end.cls ≠ "java/lang/invoke/MethodHandle" ∧ yX11_end.cls ≠ "java/lang/invoke/VarHandle" ∧ (parseMethodDescriptor yX11_end.desc).map (fun d => d.parameters.length) = some 1 := by decide +kernel
theorem w_CK_fault : Cond.instanceMethod yX11_fault ∈ zT ∧ Cond.selects yX11_fault.cls yX11_fault yX11_fault ∈ zT ∧ Cond.initialized yX11_fault.cls ∈ zT ∧ Cond.code yX11_fault cX11_fault 2 (some .int) ∈ zT := ⟨zT_of (i := 867) (by decide +kernel) rfl, zT_of (i := 868) (by decide +kernel) rfl, zT_of (i := 123) (by decide +kernel) rfl, zT_of (i := 869) (by decide +kernel) rfl⟩
theorem hy_CK_fault : yX11_fault.cls ≠ "java/lang/invoke/MethodHandle" ∧ yX11_fault.cls ≠ "java/lang/invoke/VarHandle" ∧ (parseMethodDescriptor yX11_fault.desc).map (fun d => d.parameters.length) = some 1 := by decide +kernel
theorem w_CK_feed : Cond.instanceMethod yX11_feed ∈ zT ∧ Cond.selects yX11_feed.cls yX11_feed yX11_feed ∈ zT ∧ Cond.initialized yX11_feed.cls ∈ zT ∧ Cond.code yX11_feed cX11_feed 6 (some .int) ∈ zT := ⟨zT_of (i := 624) (by decide +kernel) rfl, zT_of (i := 625) (by decide +kernel) rfl, zT_of (i := 123) (by decide +kernel) rfl, zT_of (i := 626) (by decide +kernel) rfl⟩
theorem hy_CK_feed : yX11_feed.cls ≠ "java/lang/invoke/MethodHandle" ∧ yX11_feed.cls ≠ "java/lang/invoke/VarHandle" ∧ (parseMethodDescriptor yX11_feed.desc).map (fun d => d.parameters.length) = some 5 := by decide +kernel
theorem w_CK_has : Cond.instanceMethod yX11_has ∈ zT ∧ Cond.selects yX11_has.cls yX11_has yX11_has ∈ zT ∧ Cond.initialized yX11_has.cls ∈ zT ∧ Cond.code yX11_has cX11_has 2 (some .int) ∈ zT := ⟨zT_of (i := 871) (by decide +kernel) rfl, zT_of (i := 872) (by decide +kernel) rfl, zT_of (i := 123) (by decide +kernel) rfl, zT_of (i := 873) (by decide +kernel) rfl⟩
theorem hy_CK_has : yX11_has.cls ≠ "java/lang/invoke/MethodHandle" ∧ yX11_has.cls ≠ "java/lang/invoke/VarHandle" ∧ (parseMethodDescriptor yX11_has.desc).map (fun d => d.parameters.length) = some 1 := by decide +kernel
theorem w_CK_poolsOutOfBand : Cond.instanceMethod yX11_poolsOutOfBand ∈ zT ∧ Cond.selects yX11_poolsOutOfBand.cls yX11_poolsOutOfBand yX11_poolsOutOfBand ∈ zT ∧ Cond.initialized yX11_poolsOutOfBand.cls ∈ zT ∧ Cond.code yX11_poolsOutOfBand cX11_poolsOutOfBand 3 (some .int) ∈ zT := ⟨zT_of (i := 883) (by decide +kernel) rfl, zT_of (i := 25) (by decide +kernel) rfl, zT_of (i := 123) (by decide +kernel) rfl, zT_of (i := 884) (by decide +kernel) rfl⟩
theorem hy_CK_poolsOutOfBand : yX11_poolsOutOfBand.cls ≠ "java/lang/invoke/MethodHandle" ∧ yX11_poolsOutOfBand.cls ≠ "java/lang/invoke/VarHandle" ∧ (parseMethodDescriptor yX11_poolsOutOfBand.desc).map (fun d => d.parameters.length) = some 0 := by decide +kernel
theorem w_CK_putNumber : Cond.instanceMethod yX11_putNumber ∈ zT ∧ Cond.selects yX11_putNumber.cls yX11_putNumber yX11_putNumber ∈ zT ∧ Cond.initialized yX11_putNumber.cls ∈ zT ∧ Cond.code yX11_putNumber cX11_putNumber 3 none ∈ zT := ⟨zT_of (i := 633) (by decide +kernel) rfl, zT_of (i := 1) (by decide +kernel) rfl, zT_of (i := 123) (by decide +kernel) rfl, zT_of (i := 634) (by decide +kernel) rfl⟩
theorem hy_CK_putNumber : yX11_putNumber.cls ≠ "java/lang/invoke/MethodHandle" ∧ yX11_putNumber.cls ≠ "java/lang/invoke/VarHandle" ∧ (parseMethodDescriptor yX11_putNumber.desc).map (fun d => d.parameters.length) = some 1 := by decide +kernel
theorem w_CK_refuse : Cond.instanceMethod yX11_refuse ∈ zT ∧ Cond.selects yX11_refuse.cls yX11_refuse yX11_refuse ∈ zT ∧ Cond.initialized yX11_refuse.cls ∈ zT ∧ Cond.code yX11_refuse cX11_refuse 2 (some .int) ∈ zT := ⟨zT_of (i := 629) (by decide +kernel) rfl, zT_of (i := 0) (by decide +kernel) rfl, zT_of (i := 123) (by decide +kernel) rfl, zT_of (i := 630) (by decide +kernel) rfl⟩
theorem hy_CK_refuse : yX11_refuse.cls ≠ "java/lang/invoke/MethodHandle" ∧ yX11_refuse.cls ≠ "java/lang/invoke/VarHandle" ∧ (parseMethodDescriptor yX11_refuse.desc).map (fun d => d.parameters.length) = some 1 := by decide +kernel
theorem w_J_fill : Cond.static yJ7_fill_53178 ∈ zT ∧ Cond.initialized yJ7_fill_53178.cls ∈ zT ∧ Cond.code yJ7_fill_53178 cJ7_fill_53178 4 none ∈ zT := ⟨zT_of (i := 859) (by decide +kernel) rfl, zT_of (i := 141) (by decide +kernel) rfl, zT_of (i := 860) (by decide +kernel) rfl⟩
theorem hy_J_fill : yJ7_fill_53178.cls ≠ "java/lang/invoke/MethodHandle" ∧ yJ7_fill_53178.cls ≠ "java/lang/invoke/VarHandle" ∧ (parseMethodDescriptor yJ7_fill_53178.desc).map (fun d => d.parameters.length) = some 2 := by decide +kernel
theorem dX11_refuse_0 : decode cX11_refuse 0 = .ok (.aload_n 0, 1) := by decide +kernel
theorem dX11_refuse_1 : decode cX11_refuse 1 = .ok (.getfield 62, 3) := by decide +kernel
theorem dX11_refuse_4 : decode cX11_refuse 4 = .ok (.iload_n 1, 1) := by decide +kernel
theorem dX11_refuse_5 : decode cX11_refuse 5 = .ok (.dup2, 1) := by decide +kernel
theorem dX11_refuse_6 : decode cX11_refuse 6 = .ok (.iaload, 1) := by decide +kernel
theorem dX11_refuse_7 : decode cX11_refuse 7 = .ok (.iconst 1, 1) := by decide +kernel
theorem dX11_refuse_8 : decode cX11_refuse 8 = .ok (.iadd, 1) := by decide +kernel
theorem dX11_refuse_9 : decode cX11_refuse 9 = .ok (.iastore, 1) := by decide +kernel
theorem dX11_refuse_10 : decode cX11_refuse 10 = .ok (.iconst (-1), 1) := by decide +kernel
theorem dX11_refuse_11 : decode cX11_refuse 11 = .ok (.ireturn, 1) := by decide +kernel
abbrev rm_CK_refuse : Room := { frames := 0, cells := 0, slots := 0, locals := 0 }
def CK_refuse (σ : Sg) (x1 : Int32) : Option (Int32 × Sg) :=
  zrd σ 170 6 x1 fun v6 =>
  zwr σ 170 6 x1 (v6 + 1) fun σ9 =>
  some ((-1), σ9)
set_option maxRecDepth 20000 in
theorem t_CK_refuse {X : Zx} {Q : State → Prop} {σ : Sg} {x1 : Int32} (ok : Zok X cX11_refuse RX11 rm_CK_refuse 198 2)  {out : (Int32 × Sg)} (hf : CK_refuse σ x1 = some out) (hk : ZrI cX11_refuse X Q out.1 out.2) : ZAt X Q 0 0 0 σ [(0, .ref (X.ad 0)), (1, .int x1)] [] := by
  unfold CK_refuse at hf
  refine z_aload_n ok dX11_refuse_0 0 rfl ?_
  refine z_getr (q := 170) ok kc_0 zc_11 hin_11 15 (by decide) fl_11_62 rfl dX11_refuse_1 ?_
  refine z_iload_n ok dX11_refuse_4 1 rfl ?_
  refine z_dup2 ok dX11_refuse_5 rfl rfl ?_
  refine z_iald ok kc_170 dX11_refuse_6 hf (fun v6 hf => ?_)
  refine z_iconst (v := 1) ok dX11_refuse_7 (by decide) ?_
  refine z_iadd ok dX11_refuse_8 ?_
  refine z_iast ok kc_170 dX11_refuse_9 hf (fun σ9 hf => ?_)
  refine z_iconst (v := (-1)) ok dX11_refuse_10 (by decide) ?_
  obtain rfl := Option.some.inj hf
  exact hk _ _ dX11_refuse_11
theorem c_CK_refuse {σ : Sg} {x1 : Int32} {r : (Int32 × Sg)} (h : CK_refuse σ x1 = some r) : ZcI yX11_refuse cX11_refuse 2 .int rm_CK_refuse 198 (fun ad => [.ref (ad 0), .int x1]) σ r.1 r.2 :=
  zmetI pn_11 rfl (fun _ => rfl) (fun _ => Nat.le_of_ble_eq_true rfl) rfl (fun X Q ok hk => t_CK_refuse ok h hk)
theorem dX11_putNumber_0 : decode cX11_putNumber 0 = .ok (.bipush 24, 2) := by decide +kernel
theorem dX11_putNumber_2 : decode cX11_putNumber 2 = .ok (.istore_n 2, 1) := by decide +kernel
theorem dX11_putNumber_3 : decode cX11_putNumber 3 = .ok (.iload_n 2, 1) := by decide +kernel
theorem dX11_putNumber_4 : decode cX11_putNumber 4 = .ok (.ifCond .lt 42, 3) := by decide +kernel
theorem dX11_putNumber_7 : decode cX11_putNumber 7 = .ok (.aload_n 0, 1) := by decide +kernel
theorem dX11_putNumber_8 : decode cX11_putNumber 8 = .ok (.getfield 66, 3) := by decide +kernel
theorem dX11_putNumber_11 : decode cX11_putNumber 11 = .ok (.sipush 1600, 3) := by decide +kernel
theorem dX11_putNumber_14 : decode cX11_putNumber 14 = .ok (.if_icmp .ge 32, 3) := by decide +kernel
theorem dX11_putNumber_17 : decode cX11_putNumber 17 = .ok (.aload_n 0, 1) := by decide +kernel
theorem dX11_putNumber_18 : decode cX11_putNumber 18 = .ok (.getfield 9, 3) := by decide +kernel
theorem dX11_putNumber_21 : decode cX11_putNumber 21 = .ok (.aload_n 0, 1) := by decide +kernel
theorem dX11_putNumber_22 : decode cX11_putNumber 22 = .ok (.getfield 66, 3) := by decide +kernel
theorem dX11_putNumber_25 : decode cX11_putNumber 25 = .ok (.iload_n 1, 1) := by decide +kernel
theorem dX11_putNumber_26 : decode cX11_putNumber 26 = .ok (.iload_n 2, 1) := by decide +kernel
theorem dX11_putNumber_27 : decode cX11_putNumber 27 = .ok (.ishr, 1) := by decide +kernel
theorem dX11_putNumber_28 : decode cX11_putNumber 28 = .ok (.i2b, 1) := by decide +kernel
theorem dX11_putNumber_29 : decode cX11_putNumber 29 = .ok (.bastore, 1) := by decide +kernel
theorem dX11_putNumber_30 : decode cX11_putNumber 30 = .ok (.aload_n 0, 1) := by decide +kernel
theorem dX11_putNumber_31 : decode cX11_putNumber 31 = .ok (.dup, 1) := by decide +kernel
theorem dX11_putNumber_32 : decode cX11_putNumber 32 = .ok (.getfield 66, 3) := by decide +kernel
theorem dX11_putNumber_35 : decode cX11_putNumber 35 = .ok (.iconst 1, 1) := by decide +kernel
theorem dX11_putNumber_36 : decode cX11_putNumber 36 = .ok (.iadd, 1) := by decide +kernel
theorem dX11_putNumber_37 : decode cX11_putNumber 37 = .ok (.putfield 66, 3) := by decide +kernel
theorem dX11_putNumber_40 : decode cX11_putNumber 40 = .ok (.iinc 2 (-8), 3) := by decide +kernel
theorem dX11_putNumber_43 : decode cX11_putNumber 43 = .ok (.goto (-40), 3) := by decide +kernel
theorem dX11_putNumber_46 : decode cX11_putNumber 46 = .ok (.return_, 1) := by decide +kernel
abbrev rm_CK_putNumber : Room := { frames := 0, cells := 0, slots := 0, locals := 0 }
def CK_putNumber_l3 (σ : Sg) (x1 : Int32) (x2 : Int32) : Option ((Sg × Int32) ⊕ (Sg × Int32)) :=
  if x2 < 0 then (
    some (.inr (σ, x2))
  ) else (
    zgt σ 0 1 fun v8 =>
    if 1600 ≤ v8 then (
      some (.inr (σ, x2))
    ) else (
      zgt σ 0 1 fun v22 =>
      zwr σ 1 1600 v22 (vp_nar .byte ((Int32.toInt8 (x1 >>> (x2 &&& 31))).toInt32)) fun σ29 =>
      zgt σ29 0 1 fun v32 =>
      zpt σ29 0 1 (v32 + 1) fun σ37 =>
      zlt (x2 + (-8)) fun v40 =>
      some (.inl (σ37, v40))
    )
  )
set_option maxRecDepth 20000 in
theorem t_CK_putNumber_l3 {X : Zx} {Q : State → Prop} {σ : Sg} {x1 : Int32} {x2 : Int32} (ok : Zok X cX11_putNumber RX11 rm_CK_putNumber 198 3)  {out : ((Sg × Int32) ⊕ (Sg × Int32))} (hf : CK_putNumber_l3 σ x1 x2 = some out) (hk : zout (fun (s : (Sg × Int32)) => ZAt X Q 0 0 3 s.1 [(0, .ref (X.ad 0)), (1, .int x1), (2, .int s.2)] []) (fun (s : (Sg × Int32)) => ZAt X Q 0 0 46 s.1 [] []) out) : ZAt X Q 0 0 3 σ [(0, .ref (X.ad 0)), (1, .int x1), (2, .int x2)] [] := by
  unfold CK_putNumber_l3 at hf
  refine z_iload_n ok dX11_putNumber_3 2 rfl ?_
  refine z_if_lt (tgt := 46) ok dX11_putNumber_4 (by decide) hf (fun _ hf => ?_) (fun _ hf => ?_)
  · obtain rfl := Option.some.inj hf
    exact z_sub [] rfl hk
  · refine z_aload_n ok dX11_putNumber_7 0 rfl ?_
    refine z_geti ok kc_0 zc_11 hin_11 1 (by decide) fl_11_66 rfl dX11_putNumber_8 hf (fun v8 hf => ?_)
    refine z_sipush (v := 1600) ok dX11_putNumber_11 (by decide) ?_
    refine z_icmp_ge (tgt := 46) ok dX11_putNumber_14 (by decide) hf (fun _ hf => ?_) (fun _ hf => ?_)
    · obtain rfl := Option.some.inj hf
      exact z_sub [] rfl hk
    · refine z_aload_n ok dX11_putNumber_17 0 rfl ?_
      refine z_getr (q := 1) ok kc_0 zc_11 hin_11 0 (by decide) fl_11_9 rfl dX11_putNumber_18 ?_
      refine z_aload_n ok dX11_putNumber_21 0 rfl ?_
      refine z_geti ok kc_0 zc_11 hin_11 1 (by decide) fl_11_66 rfl dX11_putNumber_22 hf (fun v22 hf => ?_)
      refine z_iload_n ok dX11_putNumber_25 1 rfl ?_
      refine z_iload_n ok dX11_putNumber_26 2 rfl ?_
      refine z_ishr ok dX11_putNumber_27 ?_
      refine z_i2b ok dX11_putNumber_28 ?_
      refine z_bast ok kc_1 dX11_putNumber_29 hf (fun σ29 hf => ?_)
      refine z_aload_n ok dX11_putNumber_30 0 rfl ?_
      refine z_dup ok dX11_putNumber_31 rfl ?_
      refine z_geti ok kc_0 zc_11 hin_11 1 (by decide) fl_11_66 rfl dX11_putNumber_32 hf (fun v32 hf => ?_)
      refine z_iconst (v := 1) ok dX11_putNumber_35 (by decide) ?_
      refine z_iadd ok dX11_putNumber_36 ?_
      refine z_puti ok kc_0 zc_11 hin_11 tyX11 tyX11_ok nmX11 1 (by decide) fl_11_66 rfl rfl (tyX11_ok 1 (by decide)) dX11_putNumber_37 hf (fun σ37 hf => ?_)
      refine z_iinc (w := (-8)) (lv' := fun v40 => [(2, .int v40), (0, .ref (X.ad 0)), (1, .int x1)]) ok dX11_putNumber_40 2 rfl (by decide) (by decide) (fun _ => rfl) hf (fun v40 hf => ?_)
      refine z_goto (tgt := 3) ok dX11_putNumber_43 (by decide) ?_
      obtain rfl := Option.some.inj hf
      exact z_sub [1, 2, 0] rfl hk
def CK_putNumber (σ : Sg) (x1 : Int32) : Option Sg :=
  zlt 24 fun v2 =>
  (zit (fun (s : (Sg × Int32)) => CK_putNumber_l3 s.1 x1 s.2) zFU (σ, v2)).bind fun r =>
  some r.1
set_option maxRecDepth 20000 in
theorem t_CK_putNumber {X : Zx} {Q : State → Prop} {σ : Sg} {x1 : Int32} (ok : Zok X cX11_putNumber RX11 rm_CK_putNumber 198 3)  {out : Sg} (hf : CK_putNumber σ x1 = some out) (hk : ZrV cX11_putNumber X Q out) : ZAt X Q 0 0 0 σ [(0, .ref (X.ad 0)), (1, .int x1)] [] := by
  unfold CK_putNumber at hf
  refine z_bipush (v := 24) ok dX11_putNumber_0 (by decide) ?_
  refine z_nm hf (fun v2 hf => ?_)
  refine z_istore_n (lv' := [(2, .int v2), (0, .ref (X.ad 0)), (1, .int x1)]) ok dX11_putNumber_2 (by decide) rfl ?_
  refine z_call hf (fun r hr hf => ?_)
  refine z_sub [1, 2, 0] rfl (z_iter (fun (s : (Sg × Int32)) => s.1) (fun (s : (Sg × Int32)) => [(0, .ref (X.ad 0)), (1, .int x1), (2, .int s.2)]) (fun s o h1 h2 => t_CK_putNumber_l3 ok h1 h2) _ _ _ hr ?_)
  show ZAt X Q 0 0 46 r.1 [] []
  obtain rfl := Option.some.inj hf
  exact hk _ _ dX11_putNumber_46
theorem c_CK_putNumber {σ : Sg} {x1 : Int32} {r : Sg} (h : CK_putNumber σ x1 = some r) : ZcV yX11_putNumber cX11_putNumber 3 rm_CK_putNumber 198 (fun ad => [.ref (ad 0), .int x1]) σ r :=
  zmetV pn_11 rfl (fun _ => rfl) (fun _ => Nat.le_of_ble_eq_true rfl) (fun X Q ok hk => t_CK_putNumber ok h hk)
theorem dX11_feed_0 : decode cX11_feed 0 = .ok (.aload_n 0, 1) := by decide +kernel
theorem dX11_feed_1 : decode cX11_feed 1 = .ok (.getfield 66, 3) := by decide +kernel
theorem dX11_feed_4 : decode cX11_feed 4 = .ok (.bipush 20, 2) := by decide +kernel
theorem dX11_feed_6 : decode cX11_feed 6 = .ok (.iadd, 1) := by decide +kernel
theorem dX11_feed_7 : decode cX11_feed 7 = .ok (.sipush 1600, 3) := by decide +kernel
theorem dX11_feed_10 : decode cX11_feed 10 = .ok (.if_icmp .le 9, 3) := by decide +kernel
theorem dX11_feed_13 : decode cX11_feed 13 = .ok (.aload_n 0, 1) := by decide +kernel
theorem dX11_feed_14 : decode cX11_feed 14 = .ok (.iconst 0, 1) := by decide +kernel
theorem dX11_feed_15 : decode cX11_feed 15 = .ok (.invokevirtual 69, 3) := by decide +kernel
theorem dX11_feed_18 : decode cX11_feed 18 = .ok (.ireturn, 1) := by decide +kernel
theorem dX11_feed_19 : decode cX11_feed 19 = .ok (.aload_n 0, 1) := by decide +kernel
theorem dX11_feed_20 : decode cX11_feed 20 = .ok (.iload_n 1, 1) := by decide +kernel
theorem dX11_feed_21 : decode cX11_feed 21 = .ok (.invokevirtual 73, 3) := by decide +kernel
theorem dX11_feed_24 : decode cX11_feed 24 = .ok (.aload_n 0, 1) := by decide +kernel
theorem dX11_feed_25 : decode cX11_feed 25 = .ok (.iload_n 2, 1) := by decide +kernel
theorem dX11_feed_26 : decode cX11_feed 26 = .ok (.invokevirtual 73, 3) := by decide +kernel
theorem dX11_feed_29 : decode cX11_feed 29 = .ok (.aload_n 0, 1) := by decide +kernel
theorem dX11_feed_30 : decode cX11_feed 30 = .ok (.iload_n 3, 1) := by decide +kernel
theorem dX11_feed_31 : decode cX11_feed 31 = .ok (.invokevirtual 73, 3) := by decide +kernel
theorem dX11_feed_34 : decode cX11_feed 34 = .ok (.aload_n 0, 1) := by decide +kernel
theorem dX11_feed_35 : decode cX11_feed 35 = .ok (.iload 4, 2) := by decide +kernel
theorem dX11_feed_37 : decode cX11_feed 37 = .ok (.invokevirtual 73, 3) := by decide +kernel
theorem dX11_feed_40 : decode cX11_feed 40 = .ok (.aload_n 0, 1) := by decide +kernel
theorem dX11_feed_41 : decode cX11_feed 41 = .ok (.iload 5, 2) := by decide +kernel
theorem dX11_feed_43 : decode cX11_feed 43 = .ok (.invokevirtual 73, 3) := by decide +kernel
theorem dX11_feed_46 : decode cX11_feed 46 = .ok (.aload_n 0, 1) := by decide +kernel
theorem dX11_feed_47 : decode cX11_feed 47 = .ok (.getfield 66, 3) := by decide +kernel
theorem dX11_feed_50 : decode cX11_feed 50 = .ok (.ireturn, 1) := by decide +kernel
abbrev rm_CK_feed : Room := { frames := 1, cells := 0, slots := 0, locals := 22 }
def CK_feed (σ : Sg) (x1 : Int32) (x2 : Int32) (x3 : Int32) (x4 : Int32) (x5 : Int32) : Option (Int32 × Sg) :=
  zgt σ 0 1 fun v1 =>
  if (v1 + 20) ≤ 1600 then (
    (CK_putNumber σ x1).bind fun r21 =>
    (CK_putNumber r21 x2).bind fun r26 =>
    (CK_putNumber r26 x3).bind fun r31 =>
    (CK_putNumber r31 x4).bind fun r37 =>
    (CK_putNumber r37 x5).bind fun r43 =>
    zgt r43 0 1 fun v47 =>
    some (v47, r43)
  ) else (
    (CK_refuse σ 0).bind fun r15 =>
    some (r15.1, r15.2)
  )
set_option maxRecDepth 20000 in
theorem t_CK_feed {X : Zx} {Q : State → Prop} {σ : Sg} {x1 : Int32} {x2 : Int32} {x3 : Int32} {x4 : Int32} {x5 : Int32} (ok : Zok X cX11_feed RX11 rm_CK_feed 198 6)  {out : (Int32 × Sg)} (hf : CK_feed σ x1 x2 x3 x4 x5 = some out) (hk : ZrI cX11_feed X Q out.1 out.2) : ZAt X Q 0 0 0 σ [(0, .ref (X.ad 0)), (1, .int x1), (2, .int x2), (3, .int x3), (4, .int x4), (5, .int x5)] [] := by
  unfold CK_feed at hf
  refine z_aload_n ok dX11_feed_0 0 rfl ?_
  refine z_geti ok kc_0 zc_11 hin_11 1 (by decide) fl_11_66 rfl dX11_feed_1 hf (fun v1 hf => ?_)
  refine z_bipush (v := 20) ok dX11_feed_4 (by decide) ?_
  refine z_iadd ok dX11_feed_6 ?_
  refine z_sipush (v := 1600) ok dX11_feed_7 (by decide) ?_
  refine z_icmp_le (tgt := 19) ok dX11_feed_10 (by decide) hf (fun _ hf => ?_) (fun _ hf => ?_)
  · refine z_aload_n ok dX11_feed_19 0 rfl ?_
    refine z_iload_n ok dX11_feed_20 1 rfl ?_
    refine z_call hf (fun r21 h21 hf => ?_)
    refine z_cVv (As := [.int x1]) (rest := []) (w := 0) ok kc_0 zc_11 (c_CK_putNumber h21) rfl ⟨ml_11_73, w_CK_putNumber⟩ hy_CK_putNumber ⟨rfl, rfl⟩ ⟨Nat.le_of_ble_eq_true rfl, Nat.le_of_ble_eq_true rfl⟩ ⟨Nat.zero_le _, Nat.zero_le _⟩ rfl (Nat.le_of_ble_eq_true rfl) dX11_feed_21 ?_
    refine z_aload_n ok dX11_feed_24 0 rfl ?_
    refine z_iload_n ok dX11_feed_25 2 rfl ?_
    refine z_call hf (fun r26 h26 hf => ?_)
    refine z_cVv (As := [.int x2]) (rest := []) (w := 0) ok kc_0 zc_11 (c_CK_putNumber h26) rfl ⟨ml_11_73, w_CK_putNumber⟩ hy_CK_putNumber ⟨rfl, rfl⟩ ⟨Nat.le_of_ble_eq_true rfl, Nat.le_of_ble_eq_true rfl⟩ ⟨Nat.zero_le _, Nat.zero_le _⟩ rfl (Nat.le_of_ble_eq_true rfl) dX11_feed_26 ?_
    refine z_aload_n ok dX11_feed_29 0 rfl ?_
    refine z_iload_n ok dX11_feed_30 3 rfl ?_
    refine z_call hf (fun r31 h31 hf => ?_)
    refine z_cVv (As := [.int x3]) (rest := []) (w := 0) ok kc_0 zc_11 (c_CK_putNumber h31) rfl ⟨ml_11_73, w_CK_putNumber⟩ hy_CK_putNumber ⟨rfl, rfl⟩ ⟨Nat.le_of_ble_eq_true rfl, Nat.le_of_ble_eq_true rfl⟩ ⟨Nat.zero_le _, Nat.zero_le _⟩ rfl (Nat.le_of_ble_eq_true rfl) dX11_feed_31 ?_
    refine z_aload_n ok dX11_feed_34 0 rfl ?_
    refine z_iload ok dX11_feed_35 4 rfl ?_
    refine z_call hf (fun r37 h37 hf => ?_)
    refine z_cVv (As := [.int x4]) (rest := []) (w := 0) ok kc_0 zc_11 (c_CK_putNumber h37) rfl ⟨ml_11_73, w_CK_putNumber⟩ hy_CK_putNumber ⟨rfl, rfl⟩ ⟨Nat.le_of_ble_eq_true rfl, Nat.le_of_ble_eq_true rfl⟩ ⟨Nat.zero_le _, Nat.zero_le _⟩ rfl (Nat.le_of_ble_eq_true rfl) dX11_feed_37 ?_
    refine z_aload_n ok dX11_feed_40 0 rfl ?_
    refine z_iload ok dX11_feed_41 5 rfl ?_
    refine z_call hf (fun r43 h43 hf => ?_)
    refine z_cVv (As := [.int x5]) (rest := []) (w := 0) ok kc_0 zc_11 (c_CK_putNumber h43) rfl ⟨ml_11_73, w_CK_putNumber⟩ hy_CK_putNumber ⟨rfl, rfl⟩ ⟨Nat.le_of_ble_eq_true rfl, Nat.le_of_ble_eq_true rfl⟩ ⟨Nat.zero_le _, Nat.zero_le _⟩ rfl (Nat.le_of_ble_eq_true rfl) dX11_feed_43 ?_
    refine z_aload_n ok dX11_feed_46 0 rfl ?_
    refine z_geti ok kc_0 zc_11 hin_11 1 (by decide) fl_11_66 rfl dX11_feed_47 hf (fun v47 hf => ?_)
    obtain rfl := Option.some.inj hf
    exact hk _ _ dX11_feed_50
  · refine z_aload_n ok dX11_feed_13 0 rfl ?_
    refine z_iconst (v := 0) ok dX11_feed_14 (by decide) ?_
    refine z_call hf (fun r15 h15 hf => ?_)
    refine z_cV (As := [.int 0]) (rest := []) (w := 0) ok kc_0 zc_11 (c_CK_refuse h15) rfl ⟨ml_11_69, w_CK_refuse⟩ hy_CK_refuse ⟨rfl, rfl⟩ ⟨Nat.le_of_ble_eq_true rfl, Nat.le_of_ble_eq_true rfl⟩ ⟨Nat.zero_le _, Nat.zero_le _⟩ rfl (Nat.le_of_ble_eq_true rfl) dX11_feed_15 ?_
    obtain rfl := Option.some.inj hf
    exact hk _ _ dX11_feed_18
theorem c_CK_feed {σ : Sg} {x1 : Int32} {x2 : Int32} {x3 : Int32} {x4 : Int32} {x5 : Int32} {r : (Int32 × Sg)} (h : CK_feed σ x1 x2 x3 x4 x5 = some r) : ZcI yX11_feed cX11_feed 6 .int rm_CK_feed 198 (fun ad => [.ref (ad 0), .int x1, .int x2, .int x3, .int x4, .int x5]) σ r.1 r.2 :=
  zmetI pn_11 rfl (fun _ => rfl) (fun _ => Nat.le_of_ble_eq_true rfl) rfl (fun X Q ok hk => t_CK_feed ok h hk)
theorem dX11_deny_0 : decode cX11_deny 0 = .ok (.aload_n 0, 1) := by decide +kernel
theorem dX11_deny_1 : decode cX11_deny 1 = .ok (.getfield 62, 3) := by decide +kernel
theorem dX11_deny_4 : decode cX11_deny 4 = .ok (.iload_n 1, 1) := by decide +kernel
theorem dX11_deny_5 : decode cX11_deny 5 = .ok (.dup2, 1) := by decide +kernel
theorem dX11_deny_6 : decode cX11_deny 6 = .ok (.iaload, 1) := by decide +kernel
theorem dX11_deny_7 : decode cX11_deny 7 = .ok (.iconst 1, 1) := by decide +kernel
theorem dX11_deny_8 : decode cX11_deny 8 = .ok (.iadd, 1) := by decide +kernel
theorem dX11_deny_9 : decode cX11_deny 9 = .ok (.iastore, 1) := by decide +kernel
theorem dX11_deny_10 : decode cX11_deny 10 = .ok (.iconst 0, 1) := by decide +kernel
theorem dX11_deny_11 : decode cX11_deny 11 = .ok (.ireturn, 1) := by decide +kernel
abbrev rm_CK_deny : Room := { frames := 0, cells := 0, slots := 0, locals := 0 }
def CK_deny (σ : Sg) (x1 : Int32) : Option (Bool × Sg) :=
  zrd σ 170 6 x1 fun v6 =>
  zwr σ 170 6 x1 (v6 + 1) fun σ9 =>
  some (false, σ9)
set_option maxRecDepth 20000 in
theorem t_CK_deny {X : Zx} {Q : State → Prop} {σ : Sg} {x1 : Int32} (ok : Zok X cX11_deny RX11 rm_CK_deny 198 2)  {out : (Bool × Sg)} (hf : CK_deny σ x1 = some out) (hk : ZrI cX11_deny X Q (zb out.1) out.2) : ZAt X Q 0 0 0 σ [(0, .ref (X.ad 0)), (1, .int x1)] [] := by
  unfold CK_deny at hf
  refine z_aload_n ok dX11_deny_0 0 rfl ?_
  refine z_getr (q := 170) ok kc_0 zc_11 hin_11 15 (by decide) fl_11_62 rfl dX11_deny_1 ?_
  refine z_iload_n ok dX11_deny_4 1 rfl ?_
  refine z_dup2 ok dX11_deny_5 rfl rfl ?_
  refine z_iald ok kc_170 dX11_deny_6 hf (fun v6 hf => ?_)
  refine z_iconst (v := 1) ok dX11_deny_7 (by decide) ?_
  refine z_iadd ok dX11_deny_8 ?_
  refine z_iast ok kc_170 dX11_deny_9 hf (fun σ9 hf => ?_)
  refine z_iconst (v := 0) ok dX11_deny_10 (by decide) ?_
  obtain rfl := Option.some.inj hf
  exact hk _ _ dX11_deny_11
theorem c_CK_deny {σ : Sg} {x1 : Int32} {r : (Bool × Sg)} (h : CK_deny σ x1 = some r) : ZcI yX11_deny cX11_deny 2 .boolean rm_CK_deny 198 (fun ad => [.ref (ad 0), .int x1]) σ (zb r.1) r.2 :=
  zmetI pn_11 rfl (fun _ => rfl) (fun _ => Nat.le_of_ble_eq_true rfl) (zb_nar _) (fun X Q ok hk => t_CK_deny ok h hk)
theorem dX11_end_0 : decode cX11_end 0 = .ok (.iload_n 1, 1) := by decide +kernel
theorem dX11_end_1 : decode cX11_end 1 = .ok (.ifCond .lt 11, 3) := by decide +kernel
theorem dX11_end_4 : decode cX11_end 4 = .ok (.iload_n 1, 1) := by decide +kernel
theorem dX11_end_5 : decode cX11_end 5 = .ok (.aload_n 0, 1) := by decide +kernel
theorem dX11_end_6 : decode cX11_end 6 = .ok (.getfield 66, 3) := by decide +kernel
theorem dX11_end_9 : decode cX11_end 9 = .ok (.if_icmp .le 9, 3) := by decide +kernel
theorem dX11_end_12 : decode cX11_end 12 = .ok (.aload_n 0, 1) := by decide +kernel
theorem dX11_end_13 : decode cX11_end 13 = .ok (.iconst 0, 1) := by decide +kernel
theorem dX11_end_14 : decode cX11_end 14 = .ok (.invokevirtual 77, 3) := by decide +kernel
theorem dX11_end_17 : decode cX11_end 17 = .ok (.ireturn, 1) := by decide +kernel
theorem dX11_end_18 : decode cX11_end 18 = .ok (.aload_n 0, 1) := by decide +kernel
theorem dX11_end_19 : decode cX11_end 19 = .ok (.iload_n 1, 1) := by decide +kernel
theorem dX11_end_20 : decode cX11_end 20 = .ok (.putfield 66, 3) := by decide +kernel
theorem dX11_end_23 : decode cX11_end 23 = .ok (.iconst 1, 1) := by decide +kernel
theorem dX11_end_24 : decode cX11_end 24 = .ok (.ireturn, 1) := by decide +kernel
abbrev rm_CK_end : Room := { frames := 1, cells := 0, slots := 0, locals := 21 }
def CK_end (σ : Sg) (x1 : Int32) : Option (Bool × Sg) :=
  if x1 < 0 then (
    (CK_deny σ 0).bind fun r14 =>
    some (r14.1, r14.2)
  ) else (
    zgt σ 0 1 fun v6 =>
    if x1 ≤ v6 then (
      zpt σ 0 1 x1 fun σ20 =>
      some (true, σ20)
    ) else (
      (CK_deny σ 0).bind fun r14 =>
      some (r14.1, r14.2)
    )
  )
set_option maxRecDepth 20000 in
theorem t_CK_end {X : Zx} {Q : State → Prop} {σ : Sg} {x1 : Int32} (ok : Zok X cX11_end RX11 rm_CK_end 198 2)  {out : (Bool × Sg)} (hf : CK_end σ x1 = some out) (hk : ZrI cX11_end X Q (zb out.1) out.2) : ZAt X Q 0 0 0 σ [(0, .ref (X.ad 0)), (1, .int x1)] [] := by
  unfold CK_end at hf
  refine z_iload_n ok dX11_end_0 1 rfl ?_
  refine z_if_lt (tgt := 12) ok dX11_end_1 (by decide) hf (fun _ hf => ?_) (fun _ hf => ?_)
  · refine z_aload_n ok dX11_end_12 0 rfl ?_
    refine z_iconst (v := 0) ok dX11_end_13 (by decide) ?_
    refine z_call hf (fun r14 h14 hf => ?_)
    refine z_cV (As := [.int 0]) (rest := []) (w := 0) ok kc_0 zc_11 (c_CK_deny h14) rfl ⟨ml_11_77, w_CK_deny⟩ hy_CK_deny ⟨rfl, rfl⟩ ⟨Nat.le_of_ble_eq_true rfl, Nat.le_of_ble_eq_true rfl⟩ ⟨Nat.zero_le _, Nat.zero_le _⟩ rfl (Nat.le_of_ble_eq_true rfl) dX11_end_14 ?_
    obtain rfl := Option.some.inj hf
    exact hk _ _ dX11_end_17
  · refine z_iload_n ok dX11_end_4 1 rfl ?_
    refine z_aload_n ok dX11_end_5 0 rfl ?_
    refine z_geti ok kc_0 zc_11 hin_11 1 (by decide) fl_11_66 rfl dX11_end_6 hf (fun v6 hf => ?_)
    refine z_icmp_le (tgt := 18) ok dX11_end_9 (by decide) hf (fun _ hf => ?_) (fun _ hf => ?_)
    · refine z_aload_n ok dX11_end_18 0 rfl ?_
      refine z_iload_n ok dX11_end_19 1 rfl ?_
      refine z_puti ok kc_0 zc_11 hin_11 tyX11 tyX11_ok nmX11 1 (by decide) fl_11_66 rfl rfl (tyX11_ok 1 (by decide)) dX11_end_20 hf (fun σ20 hf => ?_)
      refine z_iconst (v := 1) ok dX11_end_23 (by decide) ?_
      obtain rfl := Option.some.inj hf
      exact hk _ _ dX11_end_24
    · refine z_aload_n ok dX11_end_12 0 rfl ?_
      refine z_iconst (v := 0) ok dX11_end_13 (by decide) ?_
      refine z_call hf (fun r14 h14 hf => ?_)
      refine z_cV (As := [.int 0]) (rest := []) (w := 0) ok kc_0 zc_11 (c_CK_deny h14) rfl ⟨ml_11_77, w_CK_deny⟩ hy_CK_deny ⟨rfl, rfl⟩ ⟨Nat.le_of_ble_eq_true rfl, Nat.le_of_ble_eq_true rfl⟩ ⟨Nat.zero_le _, Nat.zero_le _⟩ rfl (Nat.le_of_ble_eq_true rfl) dX11_end_14 ?_
      obtain rfl := Option.some.inj hf
      exact hk _ _ dX11_end_17
theorem c_CK_end {σ : Sg} {x1 : Int32} {r : (Bool × Sg)} (h : CK_end σ x1 = some r) : ZcI yX11_end cX11_end 2 .boolean rm_CK_end 198 (fun ad => [.ref (ad 0), .int x1]) σ (zb r.1) r.2 :=
  zmetI pn_11 rfl (fun _ => rfl) (fun _ => Nat.le_of_ble_eq_true rfl) (zb_nar _) (fun X Q ok hk => t_CK_end ok h hk)
theorem dX10_clear_0 : decode cX10_clear 0 = .ok (.aload_n 0, 1) := by decide +kernel
theorem dX10_clear_1 : decode cX10_clear 1 = .ok (.iconst 0, 1) := by decide +kernel
theorem dX10_clear_2 : decode cX10_clear 2 = .ok (.putfield 46, 3) := by decide +kernel
theorem dX10_clear_5 : decode cX10_clear 5 = .ok (.aload_n 0, 1) := by decide +kernel
theorem dX10_clear_6 : decode cX10_clear 6 = .ok (.iconst 0, 1) := by decide +kernel
theorem dX10_clear_7 : decode cX10_clear 7 = .ok (.putfield 50, 3) := by decide +kernel
theorem dX10_clear_10 : decode cX10_clear 10 = .ok (.aload_n 0, 1) := by decide +kernel
theorem dX10_clear_11 : decode cX10_clear 11 = .ok (.iconst 4, 1) := by decide +kernel
theorem dX10_clear_12 : decode cX10_clear 12 = .ok (.putfield 53, 3) := by decide +kernel
theorem dX10_clear_15 : decode cX10_clear 15 = .ok (.aload_n 0, 1) := by decide +kernel
theorem dX10_clear_16 : decode cX10_clear 16 = .ok (.iconst 0, 1) := by decide +kernel
theorem dX10_clear_17 : decode cX10_clear 17 = .ok (.putfield 56, 3) := by decide +kernel
theorem dX10_clear_20 : decode cX10_clear 20 = .ok (.aload_n 0, 1) := by decide +kernel
theorem dX10_clear_21 : decode cX10_clear 21 = .ok (.iconst 0, 1) := by decide +kernel
theorem dX10_clear_22 : decode cX10_clear 22 = .ok (.putfield 59, 3) := by decide +kernel
theorem dX10_clear_25 : decode cX10_clear 25 = .ok (.aload_n 0, 1) := by decide +kernel
theorem dX10_clear_26 : decode cX10_clear 26 = .ok (.getfield 35, 3) := by decide +kernel
theorem dX10_clear_29 : decode cX10_clear 29 = .ok (.iconst 0, 1) := by decide +kernel
theorem dX10_clear_30 : decode cX10_clear 30 = .ok (.putfield 62, 3) := by decide +kernel
theorem dX10_clear_33 : decode cX10_clear 33 = .ok (.aload_n 0, 1) := by decide +kernel
theorem dX10_clear_34 : decode cX10_clear 34 = .ok (.getfield 42, 3) := by decide +kernel
theorem dX10_clear_37 : decode cX10_clear 37 = .ok (.iconst 0, 1) := by decide +kernel
theorem dX10_clear_38 : decode cX10_clear 38 = .ok (.putfield 65, 3) := by decide +kernel
theorem dX10_clear_41 : decode cX10_clear 41 = .ok (.return_, 1) := by decide +kernel
abbrev rm_Works_clear : Room := { frames := 0, cells := 0, slots := 0, locals := 0 }
def Works_clear (σ : Sg) (w : Nat) : Option Sg :=
  zpt σ w 0 0 fun σ2 =>
  zpt σ2 w 1 0 fun σ7 =>
  zpt σ7 w 2 4 fun σ12 =>
  zpt σ12 w 3 0 fun σ17 =>
  zpt σ17 w 7 0 fun σ22 =>
  zpt σ22 (w + 16) 0 0 fun σ30 =>
  zpt σ30 (w + 20) 0 0 fun σ38 =>
  some σ38
set_option maxRecDepth 20000 in
theorem t_Works_clear {X : Zx} {Q : State → Prop} {σ : Sg} {w : Nat} (ok : Zok X cX10_clear RX10 rm_Works_clear 198 1) (hw : zI_Works w 198) {out : Sg} (hf : Works_clear σ w = some out) (hk : ZrV cX10_clear X Q out) : ZAt X Q 0 0 0 σ [(0, .ref (X.ad w))] [] := by
  unfold Works_clear at hf
  obtain ⟨hw_0, hw_1, hw_2, hw_3, hw_4, hw_5, hw_6, hw_7, hw_8, hw_9, hw_10, hw_11, hw_12, hw_13, hw_14, hw_15, hw_16, hw_17, hw_18, hw_19, hw_20, hw_21, hw_22, hw_23, hw_24, hw_25⟩ := id hw
  refine z_aload_n ok dX10_clear_0 0 rfl ?_
  refine z_iconst (v := 0) ok dX10_clear_1 (by decide) ?_
  refine z_puti ok hw_0 zc_10 hin_10 tyX10 tyX10_ok nmX10 0 (by decide) fl_10_46 rfl rfl (tyX10_ok 0 (by decide)) dX10_clear_2 hf (fun σ2 hf => ?_)
  refine z_aload_n ok dX10_clear_5 0 rfl ?_
  refine z_iconst (v := 0) ok dX10_clear_6 (by decide) ?_
  refine z_puti ok hw_0 zc_10 hin_10 tyX10 tyX10_ok nmX10 1 (by decide) fl_10_50 rfl rfl (tyX10_ok 1 (by decide)) dX10_clear_7 hf (fun σ7 hf => ?_)
  refine z_aload_n ok dX10_clear_10 0 rfl ?_
  refine z_iconst (v := 4) ok dX10_clear_11 (by decide) ?_
  refine z_puti ok hw_0 zc_10 hin_10 tyX10 tyX10_ok nmX10 2 (by decide) fl_10_53 rfl rfl (tyX10_ok 2 (by decide)) dX10_clear_12 hf (fun σ12 hf => ?_)
  refine z_aload_n ok dX10_clear_15 0 rfl ?_
  refine z_iconst (v := 0) ok dX10_clear_16 (by decide) ?_
  refine z_puti ok hw_0 zc_10 hin_10 tyX10 tyX10_ok nmX10 3 (by decide) fl_10_56 rfl rfl (tyX10_ok 3 (by decide)) dX10_clear_17 hf (fun σ17 hf => ?_)
  refine z_aload_n ok dX10_clear_20 0 rfl ?_
  refine z_iconst (v := 0) ok dX10_clear_21 (by decide) ?_
  refine z_puti ok hw_0 zc_10 hin_10 tyX10 tyX10_ok nmX10 7 (by decide) fl_10_59 rfl rfl (tyX10_ok 7 (by decide)) dX10_clear_22 hf (fun σ22 hf => ?_)
  refine z_aload_n ok dX10_clear_25 0 rfl ?_
  refine z_getr (q := (w + 16)) ok hw_0 zc_10 hin_10 11 (by decide) fl_10_35 rfl dX10_clear_26 ?_
  refine z_iconst (v := 0) ok dX10_clear_29 (by decide) ?_
  refine z_puti ok hw_16 zc_3 hin_3 tyX3 tyX3_ok nmX3 0 (by decide) fl_10_62 rfl rfl (tyX3_ok 0 (by decide)) dX10_clear_30 hf (fun σ30 hf => ?_)
  refine z_aload_n ok dX10_clear_33 0 rfl ?_
  refine z_getr (q := (w + 20)) ok hw_0 zc_10 hin_10 12 (by decide) fl_10_42 rfl dX10_clear_34 ?_
  refine z_iconst (v := 0) ok dX10_clear_37 (by decide) ?_
  refine z_puti ok hw_20 zc_8 hin_8 tyX8 tyX8_ok nmX8 0 (by decide) fl_10_65 rfl rfl (tyX8_ok 0 (by decide)) dX10_clear_38 hf (fun σ38 hf => ?_)
  obtain rfl := Option.some.inj hf
  exact hk _ _ dX10_clear_41
theorem c_Works_clear {σ : Sg} {w : Nat} (hw : zI_Works w 198) {r : Sg} (h : Works_clear σ w = some r) : ZcV yX10_clear cX10_clear 1 rm_Works_clear 198 (fun ad => [.ref (ad w)]) σ r :=
  zmetV pn_10 rfl (fun _ => rfl) (fun _ => Nat.le_of_ble_eq_true rfl) (fun X Q ok hk => t_Works_clear ok hw h hk)
theorem dX5_skipBlanks_0 : decode cX5_skipBlanks 0 = .ok (.aload_n 0, 1) := by decide +kernel
theorem dX5_skipBlanks_1 : decode cX5_skipBlanks 1 = .ok (.getfield 28, 3) := by decide +kernel
theorem dX5_skipBlanks_4 : decode cX5_skipBlanks 4 = .ok (.aload_n 0, 1) := by decide +kernel
theorem dX5_skipBlanks_5 : decode cX5_skipBlanks 5 = .ok (.getfield 15, 3) := by decide +kernel
theorem dX5_skipBlanks_8 : decode cX5_skipBlanks 8 = .ok (.if_icmp .ge 49, 3) := by decide +kernel
theorem dX5_skipBlanks_11 : decode cX5_skipBlanks 11 = .ok (.aload_n 0, 1) := by decide +kernel
theorem dX5_skipBlanks_12 : decode cX5_skipBlanks 12 = .ok (.getfield 9, 3) := by decide +kernel
theorem dX5_skipBlanks_15 : decode cX5_skipBlanks 15 = .ok (.aload_n 0, 1) := by decide +kernel
theorem dX5_skipBlanks_16 : decode cX5_skipBlanks 16 = .ok (.getfield 28, 3) := by decide +kernel
theorem dX5_skipBlanks_19 : decode cX5_skipBlanks 19 = .ok (.baload, 1) := by decide +kernel
theorem dX5_skipBlanks_20 : decode cX5_skipBlanks 20 = .ok (.bipush 10, 2) := by decide +kernel
theorem dX5_skipBlanks_22 : decode cX5_skipBlanks 22 = .ok (.if_icmp .eq 17, 3) := by decide +kernel
theorem dX5_skipBlanks_25 : decode cX5_skipBlanks 25 = .ok (.aload_n 0, 1) := by decide +kernel
theorem dX5_skipBlanks_26 : decode cX5_skipBlanks 26 = .ok (.getfield 9, 3) := by decide +kernel
theorem dX5_skipBlanks_29 : decode cX5_skipBlanks 29 = .ok (.aload_n 0, 1) := by decide +kernel
theorem dX5_skipBlanks_30 : decode cX5_skipBlanks 30 = .ok (.getfield 28, 3) := by decide +kernel
theorem dX5_skipBlanks_33 : decode cX5_skipBlanks 33 = .ok (.baload, 1) := by decide +kernel
theorem dX5_skipBlanks_34 : decode cX5_skipBlanks 34 = .ok (.bipush 32, 2) := by decide +kernel
theorem dX5_skipBlanks_36 : decode cX5_skipBlanks 36 = .ok (.if_icmp .ne 21, 3) := by decide +kernel
theorem dX5_skipBlanks_39 : decode cX5_skipBlanks 39 = .ok (.aload_n 0, 1) := by decide +kernel
theorem dX5_skipBlanks_40 : decode cX5_skipBlanks 40 = .ok (.dup, 1) := by decide +kernel
theorem dX5_skipBlanks_41 : decode cX5_skipBlanks 41 = .ok (.getfield 28, 3) := by decide +kernel
theorem dX5_skipBlanks_44 : decode cX5_skipBlanks 44 = .ok (.iconst 1, 1) := by decide +kernel
theorem dX5_skipBlanks_45 : decode cX5_skipBlanks 45 = .ok (.iadd, 1) := by decide +kernel
theorem dX5_skipBlanks_46 : decode cX5_skipBlanks 46 = .ok (.putfield 28, 3) := by decide +kernel
theorem dX5_skipBlanks_49 : decode cX5_skipBlanks 49 = .ok (.aload_n 0, 1) := by decide +kernel
theorem dX5_skipBlanks_50 : decode cX5_skipBlanks 50 = .ok (.iconst 0, 1) := by decide +kernel
theorem dX5_skipBlanks_51 : decode cX5_skipBlanks 51 = .ok (.putfield 31, 3) := by decide +kernel
theorem dX5_skipBlanks_54 : decode cX5_skipBlanks 54 = .ok (.goto (-54), 3) := by decide +kernel
theorem dX5_skipBlanks_57 : decode cX5_skipBlanks 57 = .ok (.return_, 1) := by decide +kernel
abbrev rm_Reader_skipBlanks : Room := { frames := 0, cells := 0, slots := 0, locals := 0 }
def Reader_skipBlanks_l0 (σ : Sg)  : Option (Sg ⊕ Sg) :=
  zgt σ 2 2 fun v1 =>
  zgt σ 2 1 fun v5 =>
  if v5 ≤ v1 then (
    some (.inr σ)
  ) else (
    zmr1 1 (σ 2 0) <|
    zgt σ 2 2 fun v16 =>
    zrd σ 1 1600 v16 fun v19 =>
    if v19 = 10 then (
      zgt σ 2 2 fun v41 =>
      zpt σ 2 2 (v41 + 1) fun σ46 =>
      zbo 0 <| zpt σ46 2 3 0 fun σ51 =>
      some (.inl σ51)
    ) else (
      zmr1 1 (σ 2 0) <|
      zgt σ 2 2 fun v30 =>
      zrd σ 1 1600 v30 fun v33 =>
      if v33 = 32 then (
        zgt σ 2 2 fun v41 =>
        zpt σ 2 2 (v41 + 1) fun σ46 =>
        zbo 0 <| zpt σ46 2 3 0 fun σ51 =>
        some (.inl σ51)
      ) else (
        some (.inr σ)
      )
    )
  )
set_option maxRecDepth 20000 in
theorem t_Reader_skipBlanks_l0 {X : Zx} {Q : State → Prop} {σ : Sg}  (ok : Zok X cX5_skipBlanks RX5 rm_Reader_skipBlanks 198 1)  {out : (Sg ⊕ Sg)} (hf : Reader_skipBlanks_l0 σ = some out) (hk : zout (fun (s : Sg) => ZAt X Q 0 0 0 s [(0, .ref (X.ad 2))] []) (fun (s : Sg) => ZAt X Q 0 0 57 s [] []) out) : ZAt X Q 0 0 0 σ [(0, .ref (X.ad 2))] [] := by
  unfold Reader_skipBlanks_l0 at hf
  refine z_aload_n ok dX5_skipBlanks_0 0 rfl ?_
  refine z_geti ok kc_2 zc_5 hin_5 2 (by decide) fl_5_28 rfl dX5_skipBlanks_1 hf (fun v1 hf => ?_)
  refine z_aload_n ok dX5_skipBlanks_4 0 rfl ?_
  refine z_geti ok kc_2 zc_5 hin_5 1 (by decide) fl_5_15 rfl dX5_skipBlanks_5 hf (fun v5 hf => ?_)
  refine z_icmp_ge (tgt := 57) ok dX5_skipBlanks_8 (by decide) hf (fun _ hf => ?_) (fun _ hf => ?_)
  · obtain rfl := Option.some.inj hf
    exact z_sub [] rfl hk
  · refine z_aload_n ok dX5_skipBlanks_11 0 rfl ?_
    refine z_getm1 (p := 1) ok kc_2 zc_5 hin_5 0 (by decide) fl_5_9 rfl (by decide) dX5_skipBlanks_12 hf (fun hf => ?_)
    refine z_aload_n ok dX5_skipBlanks_15 0 rfl ?_
    refine z_geti ok kc_2 zc_5 hin_5 2 (by decide) fl_5_28 rfl dX5_skipBlanks_16 hf (fun v16 hf => ?_)
    refine z_bald ok kc_1 dX5_skipBlanks_19 hf (fun v19 hf => ?_)
    refine z_bipush (v := 10) ok dX5_skipBlanks_20 (by decide) ?_
    refine z_icmp_eq (tgt := 39) ok dX5_skipBlanks_22 (by decide) hf (fun _ hf => ?_) (fun _ hf => ?_)
    · refine z_aload_n ok dX5_skipBlanks_39 0 rfl ?_
      refine z_dup ok dX5_skipBlanks_40 rfl ?_
      refine z_geti ok kc_2 zc_5 hin_5 2 (by decide) fl_5_28 rfl dX5_skipBlanks_41 hf (fun v41 hf => ?_)
      refine z_iconst (v := 1) ok dX5_skipBlanks_44 (by decide) ?_
      refine z_iadd ok dX5_skipBlanks_45 ?_
      refine z_puti ok kc_2 zc_5 hin_5 tyX5 tyX5_ok nmX5 2 (by decide) fl_5_28 rfl rfl (tyX5_ok 2 (by decide)) dX5_skipBlanks_46 hf (fun σ46 hf => ?_)
      refine z_aload_n ok dX5_skipBlanks_49 0 rfl ?_
      refine z_iconst (v := 0) ok dX5_skipBlanks_50 (by decide) ?_
      refine z_putz ok kc_2 zc_5 hin_5 tyX5 tyX5_ok nmX5 3 (by decide) fl_5_31 rfl rfl (tyX5_ok 3 (by decide)) dX5_skipBlanks_51 hf (fun σ51 hf => ?_)
      refine z_goto (tgt := 0) ok dX5_skipBlanks_54 (by decide) ?_
      obtain rfl := Option.some.inj hf
      exact z_sub [0] rfl hk
    · refine z_aload_n ok dX5_skipBlanks_25 0 rfl ?_
      refine z_getm1 (p := 1) ok kc_2 zc_5 hin_5 0 (by decide) fl_5_9 rfl (by decide) dX5_skipBlanks_26 hf (fun hf => ?_)
      refine z_aload_n ok dX5_skipBlanks_29 0 rfl ?_
      refine z_geti ok kc_2 zc_5 hin_5 2 (by decide) fl_5_28 rfl dX5_skipBlanks_30 hf (fun v30 hf => ?_)
      refine z_bald ok kc_1 dX5_skipBlanks_33 hf (fun v33 hf => ?_)
      refine z_bipush (v := 32) ok dX5_skipBlanks_34 (by decide) ?_
      refine z_icmp_ne (tgt := 57) ok dX5_skipBlanks_36 (by decide) hf (fun _ hf => ?_) (fun _ hf => ?_)
      · refine z_aload_n ok dX5_skipBlanks_39 0 rfl ?_
        refine z_dup ok dX5_skipBlanks_40 rfl ?_
        refine z_geti ok kc_2 zc_5 hin_5 2 (by decide) fl_5_28 rfl dX5_skipBlanks_41 hf (fun v41 hf => ?_)
        refine z_iconst (v := 1) ok dX5_skipBlanks_44 (by decide) ?_
        refine z_iadd ok dX5_skipBlanks_45 ?_
        refine z_puti ok kc_2 zc_5 hin_5 tyX5 tyX5_ok nmX5 2 (by decide) fl_5_28 rfl rfl (tyX5_ok 2 (by decide)) dX5_skipBlanks_46 hf (fun σ46 hf => ?_)
        refine z_aload_n ok dX5_skipBlanks_49 0 rfl ?_
        refine z_iconst (v := 0) ok dX5_skipBlanks_50 (by decide) ?_
        refine z_putz ok kc_2 zc_5 hin_5 tyX5 tyX5_ok nmX5 3 (by decide) fl_5_31 rfl rfl (tyX5_ok 3 (by decide)) dX5_skipBlanks_51 hf (fun σ51 hf => ?_)
        refine z_goto (tgt := 0) ok dX5_skipBlanks_54 (by decide) ?_
        obtain rfl := Option.some.inj hf
        exact z_sub [0] rfl hk
      · obtain rfl := Option.some.inj hf
        exact z_sub [] rfl hk
def Reader_skipBlanks_j39 (σ : Sg)  : Option Sg :=
  zgt σ 2 2 fun v41 =>
  zpt σ 2 2 (v41 + 1) fun σ46 =>
  zbo 0 <| zpt σ46 2 3 0 fun σ51 =>
  (zit (fun (s : Sg) => Reader_skipBlanks_l0 s) zFU σ51).bind fun r =>
  some r
set_option maxRecDepth 20000 in
theorem t_Reader_skipBlanks_j39 {X : Zx} {Q : State → Prop} {σ : Sg}  (ok : Zok X cX5_skipBlanks RX5 rm_Reader_skipBlanks 198 1)  {out : Sg} (hf : Reader_skipBlanks_j39 σ = some out) (hk : ZrV cX5_skipBlanks X Q out) : ZAt X Q 0 0 39 σ [(0, .ref (X.ad 2))] [] := by
  unfold Reader_skipBlanks_j39 at hf
  refine z_aload_n ok dX5_skipBlanks_39 0 rfl ?_
  refine z_dup ok dX5_skipBlanks_40 rfl ?_
  refine z_geti ok kc_2 zc_5 hin_5 2 (by decide) fl_5_28 rfl dX5_skipBlanks_41 hf (fun v41 hf => ?_)
  refine z_iconst (v := 1) ok dX5_skipBlanks_44 (by decide) ?_
  refine z_iadd ok dX5_skipBlanks_45 ?_
  refine z_puti ok kc_2 zc_5 hin_5 tyX5 tyX5_ok nmX5 2 (by decide) fl_5_28 rfl rfl (tyX5_ok 2 (by decide)) dX5_skipBlanks_46 hf (fun σ46 hf => ?_)
  refine z_aload_n ok dX5_skipBlanks_49 0 rfl ?_
  refine z_iconst (v := 0) ok dX5_skipBlanks_50 (by decide) ?_
  refine z_putz ok kc_2 zc_5 hin_5 tyX5 tyX5_ok nmX5 3 (by decide) fl_5_31 rfl rfl (tyX5_ok 3 (by decide)) dX5_skipBlanks_51 hf (fun σ51 hf => ?_)
  refine z_goto (tgt := 0) ok dX5_skipBlanks_54 (by decide) ?_
  refine z_call hf (fun r hr hf => ?_)
  refine z_sub [0] rfl (z_iter (fun (s : Sg) => s) (fun (s : Sg) => [(0, .ref (X.ad 2))]) (fun s o h1 h2 => t_Reader_skipBlanks_l0 ok h1 h2) _ _ _ hr ?_)
  show ZAt X Q 0 0 57 r [] []
  obtain rfl := Option.some.inj hf
  exact hk _ _ dX5_skipBlanks_57
def Reader_skipBlanks (σ : Sg)  : Option Sg :=
  zgt σ 2 2 fun v1 =>
  zgt σ 2 1 fun v5 =>
  if v5 ≤ v1 then (
    some σ
  ) else (
    zmr1 1 (σ 2 0) <|
    zgt σ 2 2 fun v16 =>
    zrd σ 1 1600 v16 fun v19 =>
    if v19 = 10 then (
      Reader_skipBlanks_j39 σ
    ) else (
      zmr1 1 (σ 2 0) <|
      zgt σ 2 2 fun v30 =>
      zrd σ 1 1600 v30 fun v33 =>
      if v33 = 32 then (
        Reader_skipBlanks_j39 σ
      ) else (
        some σ
      )
    )
  )
set_option maxRecDepth 20000 in
theorem t_Reader_skipBlanks {X : Zx} {Q : State → Prop} {σ : Sg}  (ok : Zok X cX5_skipBlanks RX5 rm_Reader_skipBlanks 198 1)  {out : Sg} (hf : Reader_skipBlanks σ = some out) (hk : ZrV cX5_skipBlanks X Q out) : ZAt X Q 0 0 0 σ [(0, .ref (X.ad 2))] [] := by
  unfold Reader_skipBlanks at hf
  refine z_aload_n ok dX5_skipBlanks_0 0 rfl ?_
  refine z_geti ok kc_2 zc_5 hin_5 2 (by decide) fl_5_28 rfl dX5_skipBlanks_1 hf (fun v1 hf => ?_)
  refine z_aload_n ok dX5_skipBlanks_4 0 rfl ?_
  refine z_geti ok kc_2 zc_5 hin_5 1 (by decide) fl_5_15 rfl dX5_skipBlanks_5 hf (fun v5 hf => ?_)
  refine z_icmp_ge (tgt := 57) ok dX5_skipBlanks_8 (by decide) hf (fun _ hf => ?_) (fun _ hf => ?_)
  · obtain rfl := Option.some.inj hf
    exact hk _ _ dX5_skipBlanks_57
  · refine z_aload_n ok dX5_skipBlanks_11 0 rfl ?_
    refine z_getm1 (p := 1) ok kc_2 zc_5 hin_5 0 (by decide) fl_5_9 rfl (by decide) dX5_skipBlanks_12 hf (fun hf => ?_)
    refine z_aload_n ok dX5_skipBlanks_15 0 rfl ?_
    refine z_geti ok kc_2 zc_5 hin_5 2 (by decide) fl_5_28 rfl dX5_skipBlanks_16 hf (fun v16 hf => ?_)
    refine z_bald ok kc_1 dX5_skipBlanks_19 hf (fun v19 hf => ?_)
    refine z_bipush (v := 10) ok dX5_skipBlanks_20 (by decide) ?_
    refine z_icmp_eq (tgt := 39) ok dX5_skipBlanks_22 (by decide) hf (fun _ hf => ?_) (fun _ hf => ?_)
    · exact z_sub [0] rfl (t_Reader_skipBlanks_j39 ok hf hk)
    · refine z_aload_n ok dX5_skipBlanks_25 0 rfl ?_
      refine z_getm1 (p := 1) ok kc_2 zc_5 hin_5 0 (by decide) fl_5_9 rfl (by decide) dX5_skipBlanks_26 hf (fun hf => ?_)
      refine z_aload_n ok dX5_skipBlanks_29 0 rfl ?_
      refine z_geti ok kc_2 zc_5 hin_5 2 (by decide) fl_5_28 rfl dX5_skipBlanks_30 hf (fun v30 hf => ?_)
      refine z_bald ok kc_1 dX5_skipBlanks_33 hf (fun v33 hf => ?_)
      refine z_bipush (v := 32) ok dX5_skipBlanks_34 (by decide) ?_
      refine z_icmp_ne (tgt := 57) ok dX5_skipBlanks_36 (by decide) hf (fun _ hf => ?_) (fun _ hf => ?_)
      · exact z_sub [0] rfl (t_Reader_skipBlanks_j39 ok hf hk)
      · obtain rfl := Option.some.inj hf
        exact hk _ _ dX5_skipBlanks_57
theorem c_Reader_skipBlanks {σ : Sg} {r : Sg} (h : Reader_skipBlanks σ = some r) : ZcV yX5_skipBlanks cX5_skipBlanks 1 rm_Reader_skipBlanks 198 (fun ad => [.ref (ad 2)]) σ r :=
  zmetV pn_5 rfl (fun _ => rfl) (fun _ => Nat.le_of_ble_eq_true rfl) (fun X Q ok hk => t_Reader_skipBlanks ok h hk)
theorem dX5_isLetter_0 : decode cX5_isLetter 0 = .ok (.iload_n 0, 1) := by decide +kernel
theorem dX5_isLetter_1 : decode cX5_isLetter 1 = .ok (.bipush 97, 2) := by decide +kernel
theorem dX5_isLetter_3 : decode cX5_isLetter 3 = .ok (.if_icmp .lt 13, 3) := by decide +kernel
theorem dX5_isLetter_6 : decode cX5_isLetter 6 = .ok (.iload_n 0, 1) := by decide +kernel
theorem dX5_isLetter_7 : decode cX5_isLetter 7 = .ok (.bipush 122, 2) := by decide +kernel
theorem dX5_isLetter_9 : decode cX5_isLetter 9 = .ok (.if_icmp .gt 7, 3) := by decide +kernel
theorem dX5_isLetter_12 : decode cX5_isLetter 12 = .ok (.iconst 1, 1) := by decide +kernel
theorem dX5_isLetter_13 : decode cX5_isLetter 13 = .ok (.goto 4, 3) := by decide +kernel
theorem dX5_isLetter_16 : decode cX5_isLetter 16 = .ok (.iconst 0, 1) := by decide +kernel
theorem dX5_isLetter_17 : decode cX5_isLetter 17 = .ok (.ireturn, 1) := by decide +kernel
abbrev rm_Reader_isLetter : Room := { frames := 0, cells := 0, slots := 0, locals := 0 }
def Reader_isLetter (x0 : Int32) : Option Bool :=
  if x0 < 97 then (
    some false
  ) else (
    if 122 < x0 then (
      some false
    ) else (
      some true
    )
  )
set_option maxRecDepth 20000 in
theorem t_Reader_isLetter {X : Zx} {Q : State → Prop} {σ : Sg} {x0 : Int32} (ok : Zok X cX5_isLetter RX5 rm_Reader_isLetter 198 1)  {out : Bool} (hf : Reader_isLetter x0 = some out) (hk : ZrI cX5_isLetter X Q (zb out) σ) : ZAt X Q 0 0 0 σ [(0, .int x0)] [] := by
  unfold Reader_isLetter at hf
  refine z_iload_n ok dX5_isLetter_0 0 rfl ?_
  refine z_bipush (v := 97) ok dX5_isLetter_1 (by decide) ?_
  refine z_icmp_lt (tgt := 16) ok dX5_isLetter_3 (by decide) hf (fun _ hf => ?_) (fun _ hf => ?_)
  · refine z_iconst (v := 0) ok dX5_isLetter_16 (by decide) ?_
    obtain rfl := Option.some.inj hf
    exact hk _ _ dX5_isLetter_17
  · refine z_iload_n ok dX5_isLetter_6 0 rfl ?_
    refine z_bipush (v := 122) ok dX5_isLetter_7 (by decide) ?_
    refine z_icmp_gt (tgt := 16) ok dX5_isLetter_9 (by decide) hf (fun _ hf => ?_) (fun _ hf => ?_)
    · refine z_iconst (v := 0) ok dX5_isLetter_16 (by decide) ?_
      obtain rfl := Option.some.inj hf
      exact hk _ _ dX5_isLetter_17
    · refine z_iconst (v := 1) ok dX5_isLetter_12 (by decide) ?_
      refine z_goto (tgt := 17) ok dX5_isLetter_13 (by decide) ?_
      obtain rfl := Option.some.inj hf
      exact hk _ _ dX5_isLetter_17
theorem c_Reader_isLetter {σ : Sg} {x0 : Int32} {r : Bool} (h : Reader_isLetter x0 = some r) : ZcI yX5_isLetter cX5_isLetter 1 .boolean rm_Reader_isLetter 198 (fun ad => [.int x0]) σ (zb r) σ :=
  zmetI pn_5 rfl (fun _ => rfl) (fun _ => Nat.le_of_ble_eq_true rfl) (zb_nar _) (fun X Q ok hk => t_Reader_isLetter ok h hk)
theorem dX5_wordEnd_0 : decode cX5_wordEnd 0 = .ok (.iload_n 1, 1) := by decide +kernel
theorem dX5_wordEnd_1 : decode cX5_wordEnd 1 = .ok (.istore_n 2, 1) := by decide +kernel
theorem dX5_wordEnd_2 : decode cX5_wordEnd 2 = .ok (.iload_n 2, 1) := by decide +kernel
theorem dX5_wordEnd_3 : decode cX5_wordEnd 3 = .ok (.aload_n 0, 1) := by decide +kernel
theorem dX5_wordEnd_4 : decode cX5_wordEnd 4 = .ok (.getfield 15, 3) := by decide +kernel
theorem dX5_wordEnd_7 : decode cX5_wordEnd 7 = .ok (.if_icmp .ge 21, 3) := by decide +kernel
theorem dX5_wordEnd_10 : decode cX5_wordEnd 10 = .ok (.aload_n 0, 1) := by decide +kernel
theorem dX5_wordEnd_11 : decode cX5_wordEnd 11 = .ok (.getfield 9, 3) := by decide +kernel
theorem dX5_wordEnd_14 : decode cX5_wordEnd 14 = .ok (.iload_n 2, 1) := by decide +kernel
theorem dX5_wordEnd_15 : decode cX5_wordEnd 15 = .ok (.baload, 1) := by decide +kernel
theorem dX5_wordEnd_16 : decode cX5_wordEnd 16 = .ok (.invokestatic 256, 3) := by decide +kernel
theorem dX5_wordEnd_19 : decode cX5_wordEnd 19 = .ok (.ifCond .eq 9, 3) := by decide +kernel
theorem dX5_wordEnd_22 : decode cX5_wordEnd 22 = .ok (.iinc 2 1, 3) := by decide +kernel
theorem dX5_wordEnd_25 : decode cX5_wordEnd 25 = .ok (.goto (-23), 3) := by decide +kernel
theorem dX5_wordEnd_28 : decode cX5_wordEnd 28 = .ok (.iload_n 2, 1) := by decide +kernel
theorem dX5_wordEnd_29 : decode cX5_wordEnd 29 = .ok (.ireturn, 1) := by decide +kernel
abbrev rm_Reader_wordEnd : Room := { frames := 1, cells := 0, slots := 0, locals := 20 }
def Reader_wordEnd_l2 (σ : Sg) (x2 : Int32) : Option (Int32 ⊕ Int32) :=
  zgt σ 2 1 fun v4 =>
  if v4 ≤ x2 then (
    some (.inr x2)
  ) else (
    zmr1 1 (σ 2 0) <|
    zrd σ 1 1600 x2 fun v15 =>
    (Reader_isLetter v15).bind fun r16 =>
    if (zb r16) = 0 then (
      some (.inr x2)
    ) else (
      zlt (x2 + 1) fun v22 =>
      some (.inl v22)
    )
  )
set_option maxRecDepth 20000 in
theorem t_Reader_wordEnd_l2 {X : Zx} {Q : State → Prop} {σ : Sg} {x2 : Int32} (ok : Zok X cX5_wordEnd RX5 rm_Reader_wordEnd 198 3)  {out : (Int32 ⊕ Int32)} (hf : Reader_wordEnd_l2 σ x2 = some out) (hk : zout (fun (s : Int32) => ZAt X Q 0 0 2 σ [(0, .ref (X.ad 2)), (2, .int s)] []) (fun (s : Int32) => ZAt X Q 0 0 28 σ [(2, .int s)] []) out) : ZAt X Q 0 0 2 σ [(0, .ref (X.ad 2)), (2, .int x2)] [] := by
  unfold Reader_wordEnd_l2 at hf
  refine z_iload_n ok dX5_wordEnd_2 1 rfl ?_
  refine z_aload_n ok dX5_wordEnd_3 0 rfl ?_
  refine z_geti ok kc_2 zc_5 hin_5 1 (by decide) fl_5_15 rfl dX5_wordEnd_4 hf (fun v4 hf => ?_)
  refine z_icmp_ge (tgt := 28) ok dX5_wordEnd_7 (by decide) hf (fun _ hf => ?_) (fun _ hf => ?_)
  · obtain rfl := Option.some.inj hf
    exact z_sub [1] rfl hk
  · refine z_aload_n ok dX5_wordEnd_10 0 rfl ?_
    refine z_getm1 (p := 1) ok kc_2 zc_5 hin_5 0 (by decide) fl_5_9 rfl (by decide) dX5_wordEnd_11 hf (fun hf => ?_)
    refine z_iload_n ok dX5_wordEnd_14 1 rfl ?_
    refine z_bald ok kc_1 dX5_wordEnd_15 hf (fun v15 hf => ?_)
    refine z_call hf (fun r16 h16 hf => ?_)
    refine z_cS (As := [.int v15]) (rest := []) ok (c_Reader_isLetter h16) rfl ⟨ml_5_256, w_Reader_isLetter⟩ hy_Reader_isLetter ⟨rfl, rfl⟩ ⟨Nat.le_of_ble_eq_true rfl, Nat.le_of_ble_eq_true rfl⟩ ⟨Nat.zero_le _, Nat.zero_le _⟩ rfl (Nat.le_of_ble_eq_true rfl) dX5_wordEnd_16 ?_
    refine z_if_eq (tgt := 28) ok dX5_wordEnd_19 (by decide) hf (fun _ hf => ?_) (fun _ hf => ?_)
    · obtain rfl := Option.some.inj hf
      exact z_sub [1] rfl hk
    · refine z_iinc (w := 1) (lv' := fun v22 => [(2, .int v22), (0, .ref (X.ad 2))]) ok dX5_wordEnd_22 1 rfl (by decide) (by decide) (fun _ => rfl) hf (fun v22 hf => ?_)
      refine z_goto (tgt := 2) ok dX5_wordEnd_25 (by decide) ?_
      obtain rfl := Option.some.inj hf
      exact z_sub [1, 0] rfl hk
def Reader_wordEnd (σ : Sg) (x1 : Int32) : Option Int32 :=
  (zit (fun (s : Int32) => Reader_wordEnd_l2 σ s) zFU x1).bind fun r =>
  some r
set_option maxRecDepth 20000 in
theorem t_Reader_wordEnd {X : Zx} {Q : State → Prop} {σ : Sg} {x1 : Int32} (ok : Zok X cX5_wordEnd RX5 rm_Reader_wordEnd 198 3)  {out : Int32} (hf : Reader_wordEnd σ x1 = some out) (hk : ZrI cX5_wordEnd X Q out σ) : ZAt X Q 0 0 0 σ [(0, .ref (X.ad 2)), (1, .int x1)] [] := by
  unfold Reader_wordEnd at hf
  refine z_iload_n ok dX5_wordEnd_0 1 rfl ?_
  refine z_istore_n (lv' := [(2, .int x1), (0, .ref (X.ad 2)), (1, .int x1)]) ok dX5_wordEnd_1 (by decide) rfl ?_
  refine z_call hf (fun r hr hf => ?_)
  refine z_sub [1, 0] rfl (z_iter (fun (s : Int32) => σ) (fun (s : Int32) => [(0, .ref (X.ad 2)), (2, .int s)]) (fun s o h1 h2 => t_Reader_wordEnd_l2 ok h1 h2) _ _ _ hr ?_)
  show ZAt X Q 0 0 28 σ [(2, .int r)] []
  refine z_iload_n ok dX5_wordEnd_28 0 rfl ?_
  obtain rfl := Option.some.inj hf
  exact hk _ _ dX5_wordEnd_29
theorem c_Reader_wordEnd {σ : Sg} {x1 : Int32} {r : Int32} (h : Reader_wordEnd σ x1 = some r) : ZcI yX5_wordEnd cX5_wordEnd 3 .int rm_Reader_wordEnd 198 (fun ad => [.ref (ad 2), .int x1]) σ r σ :=
  zmetI pn_5 rfl (fun _ => rfl) (fun _ => Nat.le_of_ble_eq_true rfl) rfl (fun X Q ok hk => t_Reader_wordEnd ok h hk)
theorem dX5_fail_0 : decode cX5_fail 0 = .ok (.aload_n 0, 1) := by decide +kernel
theorem dX5_fail_1 : decode cX5_fail 1 = .ok (.iload_n 1, 1) := by decide +kernel
theorem dX5_fail_2 : decode cX5_fail 2 = .ok (.putfield 35, 3) := by decide +kernel
theorem dX5_fail_5 : decode cX5_fail 5 = .ok (.aload_n 0, 1) := by decide +kernel
theorem dX5_fail_6 : decode cX5_fail 6 = .ok (.iload_n 2, 1) := by decide +kernel
theorem dX5_fail_7 : decode cX5_fail 7 = .ok (.putfield 38, 3) := by decide +kernel
theorem dX5_fail_10 : decode cX5_fail 10 = .ok (.iconst 0, 1) := by decide +kernel
theorem dX5_fail_11 : decode cX5_fail 11 = .ok (.ireturn, 1) := by decide +kernel
abbrev rm_Reader_fail : Room := { frames := 0, cells := 0, slots := 0, locals := 0 }
def Reader_fail (σ : Sg) (x1 : Int32) (x2 : Int32) : Option (Bool × Sg) :=
  zpt σ 2 6 x1 fun σ2 =>
  zpt σ2 2 7 x2 fun σ7 =>
  some (false, σ7)
set_option maxRecDepth 20000 in
theorem t_Reader_fail {X : Zx} {Q : State → Prop} {σ : Sg} {x1 : Int32} {x2 : Int32} (ok : Zok X cX5_fail RX5 rm_Reader_fail 198 3)  {out : (Bool × Sg)} (hf : Reader_fail σ x1 x2 = some out) (hk : ZrI cX5_fail X Q (zb out.1) out.2) : ZAt X Q 0 0 0 σ [(0, .ref (X.ad 2)), (1, .int x1), (2, .int x2)] [] := by
  unfold Reader_fail at hf
  refine z_aload_n ok dX5_fail_0 0 rfl ?_
  refine z_iload_n ok dX5_fail_1 1 rfl ?_
  refine z_puti ok kc_2 zc_5 hin_5 tyX5 tyX5_ok nmX5 6 (by decide) fl_5_35 rfl rfl (tyX5_ok 6 (by decide)) dX5_fail_2 hf (fun σ2 hf => ?_)
  refine z_aload_n ok dX5_fail_5 0 rfl ?_
  refine z_iload_n ok dX5_fail_6 2 rfl ?_
  refine z_puti ok kc_2 zc_5 hin_5 tyX5 tyX5_ok nmX5 7 (by decide) fl_5_38 rfl rfl (tyX5_ok 7 (by decide)) dX5_fail_7 hf (fun σ7 hf => ?_)
  refine z_iconst (v := 0) ok dX5_fail_10 (by decide) ?_
  obtain rfl := Option.some.inj hf
  exact hk _ _ dX5_fail_11
theorem c_Reader_fail {σ : Sg} {x1 : Int32} {x2 : Int32} {r : (Bool × Sg)} (h : Reader_fail σ x1 x2 = some r) : ZcI yX5_fail cX5_fail 3 .boolean rm_Reader_fail 198 (fun ad => [.ref (ad 2), .int x1, .int x2]) σ (zb r.1) r.2 :=
  zmetI pn_5 rfl (fun _ => rfl) (fun _ => Nat.le_of_ble_eq_true rfl) (zb_nar _) (fun X Q ok hk => t_Reader_fail ok h hk)
theorem dX5_isDigit_0 : decode cX5_isDigit 0 = .ok (.iload_n 0, 1) := by decide +kernel
theorem dX5_isDigit_1 : decode cX5_isDigit 1 = .ok (.bipush 48, 2) := by decide +kernel
theorem dX5_isDigit_3 : decode cX5_isDigit 3 = .ok (.if_icmp .lt 13, 3) := by decide +kernel
theorem dX5_isDigit_6 : decode cX5_isDigit 6 = .ok (.iload_n 0, 1) := by decide +kernel
theorem dX5_isDigit_7 : decode cX5_isDigit 7 = .ok (.bipush 57, 2) := by decide +kernel
theorem dX5_isDigit_9 : decode cX5_isDigit 9 = .ok (.if_icmp .gt 7, 3) := by decide +kernel
theorem dX5_isDigit_12 : decode cX5_isDigit 12 = .ok (.iconst 1, 1) := by decide +kernel
theorem dX5_isDigit_13 : decode cX5_isDigit 13 = .ok (.goto 4, 3) := by decide +kernel
theorem dX5_isDigit_16 : decode cX5_isDigit 16 = .ok (.iconst 0, 1) := by decide +kernel
theorem dX5_isDigit_17 : decode cX5_isDigit 17 = .ok (.ireturn, 1) := by decide +kernel
abbrev rm_Reader_isDigit : Room := { frames := 0, cells := 0, slots := 0, locals := 0 }
def Reader_isDigit (x0 : Int32) : Option Bool :=
  if x0 < 48 then (
    some false
  ) else (
    if 57 < x0 then (
      some false
    ) else (
      some true
    )
  )
set_option maxRecDepth 20000 in
theorem t_Reader_isDigit {X : Zx} {Q : State → Prop} {σ : Sg} {x0 : Int32} (ok : Zok X cX5_isDigit RX5 rm_Reader_isDigit 198 1)  {out : Bool} (hf : Reader_isDigit x0 = some out) (hk : ZrI cX5_isDigit X Q (zb out) σ) : ZAt X Q 0 0 0 σ [(0, .int x0)] [] := by
  unfold Reader_isDigit at hf
  refine z_iload_n ok dX5_isDigit_0 0 rfl ?_
  refine z_bipush (v := 48) ok dX5_isDigit_1 (by decide) ?_
  refine z_icmp_lt (tgt := 16) ok dX5_isDigit_3 (by decide) hf (fun _ hf => ?_) (fun _ hf => ?_)
  · refine z_iconst (v := 0) ok dX5_isDigit_16 (by decide) ?_
    obtain rfl := Option.some.inj hf
    exact hk _ _ dX5_isDigit_17
  · refine z_iload_n ok dX5_isDigit_6 0 rfl ?_
    refine z_bipush (v := 57) ok dX5_isDigit_7 (by decide) ?_
    refine z_icmp_gt (tgt := 16) ok dX5_isDigit_9 (by decide) hf (fun _ hf => ?_) (fun _ hf => ?_)
    · refine z_iconst (v := 0) ok dX5_isDigit_16 (by decide) ?_
      obtain rfl := Option.some.inj hf
      exact hk _ _ dX5_isDigit_17
    · refine z_iconst (v := 1) ok dX5_isDigit_12 (by decide) ?_
      refine z_goto (tgt := 17) ok dX5_isDigit_13 (by decide) ?_
      obtain rfl := Option.some.inj hf
      exact hk _ _ dX5_isDigit_17
theorem c_Reader_isDigit {σ : Sg} {x0 : Int32} {r : Bool} (h : Reader_isDigit x0 = some r) : ZcI yX5_isDigit cX5_isDigit 1 .boolean rm_Reader_isDigit 198 (fun ad => [.int x0]) σ (zb r) σ :=
  zmetI pn_5 rfl (fun _ => rfl) (fun _ => Nat.le_of_ble_eq_true rfl) (zb_nar _) (fun X Q ok hk => t_Reader_isDigit ok h hk)
theorem dX5_readNumber_0 : decode cX5_readNumber 0 = .ok (.aload_n 0, 1) := by decide +kernel
theorem dX5_readNumber_1 : decode cX5_readNumber 1 = .ok (.invokevirtual 41, 3) := by decide +kernel
theorem dX5_readNumber_4 : decode cX5_readNumber 4 = .ok (.aload_n 0, 1) := by decide +kernel
theorem dX5_readNumber_5 : decode cX5_readNumber 5 = .ok (.getfield 28, 3) := by decide +kernel
theorem dX5_readNumber_8 : decode cX5_readNumber 8 = .ok (.istore_n 3, 1) := by decide +kernel
theorem dX5_readNumber_9 : decode cX5_readNumber 9 = .ok (.iconst 0, 1) := by decide +kernel
theorem dX5_readNumber_10 : decode cX5_readNumber 10 = .ok (.istore 4, 2) := by decide +kernel
theorem dX5_readNumber_12 : decode cX5_readNumber 12 = .ok (.iload_n 3, 1) := by decide +kernel
theorem dX5_readNumber_13 : decode cX5_readNumber 13 = .ok (.aload_n 0, 1) := by decide +kernel
theorem dX5_readNumber_14 : decode cX5_readNumber 14 = .ok (.getfield 15, 3) := by decide +kernel
theorem dX5_readNumber_17 : decode cX5_readNumber 17 = .ok (.if_icmp .ge 48, 3) := by decide +kernel
theorem dX5_readNumber_20 : decode cX5_readNumber 20 = .ok (.iload_n 3, 1) := by decide +kernel
theorem dX5_readNumber_21 : decode cX5_readNumber 21 = .ok (.aload_n 0, 1) := by decide +kernel
theorem dX5_readNumber_22 : decode cX5_readNumber 22 = .ok (.getfield 28, 3) := by decide +kernel
theorem dX5_readNumber_25 : decode cX5_readNumber 25 = .ok (.iconst 4, 1) := by decide +kernel
theorem dX5_readNumber_26 : decode cX5_readNumber 26 = .ok (.iadd, 1) := by decide +kernel
theorem dX5_readNumber_27 : decode cX5_readNumber 27 = .ok (.if_icmp .ge 38, 3) := by decide +kernel
theorem dX5_readNumber_30 : decode cX5_readNumber 30 = .ok (.aload_n 0, 1) := by decide +kernel
theorem dX5_readNumber_31 : decode cX5_readNumber 31 = .ok (.getfield 9, 3) := by decide +kernel
theorem dX5_readNumber_34 : decode cX5_readNumber 34 = .ok (.iload_n 3, 1) := by decide +kernel
theorem dX5_readNumber_35 : decode cX5_readNumber 35 = .ok (.baload, 1) := by decide +kernel
theorem dX5_readNumber_36 : decode cX5_readNumber 36 = .ok (.invokestatic 244, 3) := by decide +kernel
theorem dX5_readNumber_39 : decode cX5_readNumber 39 = .ok (.ifCond .eq 26, 3) := by decide +kernel
theorem dX5_readNumber_42 : decode cX5_readNumber 42 = .ok (.iload 4, 2) := by decide +kernel
theorem dX5_readNumber_44 : decode cX5_readNumber 44 = .ok (.bipush 10, 2) := by decide +kernel
theorem dX5_readNumber_46 : decode cX5_readNumber 46 = .ok (.imul, 1) := by decide +kernel
theorem dX5_readNumber_47 : decode cX5_readNumber 47 = .ok (.aload_n 0, 1) := by decide +kernel
theorem dX5_readNumber_48 : decode cX5_readNumber 48 = .ok (.getfield 9, 3) := by decide +kernel
theorem dX5_readNumber_51 : decode cX5_readNumber 51 = .ok (.iload_n 3, 1) := by decide +kernel
theorem dX5_readNumber_52 : decode cX5_readNumber 52 = .ok (.baload, 1) := by decide +kernel
theorem dX5_readNumber_53 : decode cX5_readNumber 53 = .ok (.bipush 48, 2) := by decide +kernel
theorem dX5_readNumber_55 : decode cX5_readNumber 55 = .ok (.isub, 1) := by decide +kernel
theorem dX5_readNumber_56 : decode cX5_readNumber 56 = .ok (.iadd, 1) := by decide +kernel
theorem dX5_readNumber_57 : decode cX5_readNumber 57 = .ok (.istore 4, 2) := by decide +kernel
theorem dX5_readNumber_59 : decode cX5_readNumber 59 = .ok (.iinc 3 1, 3) := by decide +kernel
theorem dX5_readNumber_62 : decode cX5_readNumber 62 = .ok (.goto (-50), 3) := by decide +kernel
theorem dX5_readNumber_65 : decode cX5_readNumber 65 = .ok (.aload_n 0, 1) := by decide +kernel
theorem dX5_readNumber_66 : decode cX5_readNumber 66 = .ok (.getfield 31, 3) := by decide +kernel
theorem dX5_readNumber_69 : decode cX5_readNumber 69 = .ok (.ifCond .ne 11, 3) := by decide +kernel
theorem dX5_readNumber_72 : decode cX5_readNumber 72 = .ok (.iload_n 3, 1) := by decide +kernel
theorem dX5_readNumber_73 : decode cX5_readNumber 73 = .ok (.aload_n 0, 1) := by decide +kernel
theorem dX5_readNumber_74 : decode cX5_readNumber 74 = .ok (.getfield 28, 3) := by decide +kernel
theorem dX5_readNumber_77 : decode cX5_readNumber 77 = .ok (.if_icmp .ne 16, 3) := by decide +kernel
theorem dX5_readNumber_80 : decode cX5_readNumber 80 = .ok (.aload_n 0, 1) := by decide +kernel
theorem dX5_readNumber_81 : decode cX5_readNumber 81 = .ok (.iconst 1, 1) := by decide +kernel
theorem dX5_readNumber_82 : decode cX5_readNumber 82 = .ok (.aload_n 0, 1) := by decide +kernel
theorem dX5_readNumber_83 : decode cX5_readNumber 83 = .ok (.getfield 28, 3) := by decide +kernel
theorem dX5_readNumber_86 : decode cX5_readNumber 86 = .ok (.invokevirtual 51, 3) := by decide +kernel
theorem dX5_readNumber_89 : decode cX5_readNumber 89 = .ok (.pop, 1) := by decide +kernel
theorem dX5_readNumber_90 : decode cX5_readNumber 90 = .ok (.goto 65, 3) := by decide +kernel
theorem dX5_readNumber_93 : decode cX5_readNumber 93 = .ok (.iload_n 3, 1) := by decide +kernel
theorem dX5_readNumber_94 : decode cX5_readNumber 94 = .ok (.aload_n 0, 1) := by decide +kernel
theorem dX5_readNumber_95 : decode cX5_readNumber 95 = .ok (.getfield 28, 3) := by decide +kernel
theorem dX5_readNumber_98 : decode cX5_readNumber 98 = .ok (.iconst 4, 1) := by decide +kernel
theorem dX5_readNumber_99 : decode cX5_readNumber 99 = .ok (.iadd, 1) := by decide +kernel
theorem dX5_readNumber_100 : decode cX5_readNumber 100 = .ok (.if_icmp .ne 33, 3) := by decide +kernel
theorem dX5_readNumber_103 : decode cX5_readNumber 103 = .ok (.iload_n 3, 1) := by decide +kernel
theorem dX5_readNumber_104 : decode cX5_readNumber 104 = .ok (.aload_n 0, 1) := by decide +kernel
theorem dX5_readNumber_105 : decode cX5_readNumber 105 = .ok (.getfield 15, 3) := by decide +kernel
theorem dX5_readNumber_108 : decode cX5_readNumber 108 = .ok (.if_icmp .ge 25, 3) := by decide +kernel
theorem dX5_readNumber_111 : decode cX5_readNumber 111 = .ok (.aload_n 0, 1) := by decide +kernel
theorem dX5_readNumber_112 : decode cX5_readNumber 112 = .ok (.getfield 9, 3) := by decide +kernel
theorem dX5_readNumber_115 : decode cX5_readNumber 115 = .ok (.iload_n 3, 1) := by decide +kernel
theorem dX5_readNumber_116 : decode cX5_readNumber 116 = .ok (.baload, 1) := by decide +kernel
theorem dX5_readNumber_117 : decode cX5_readNumber 117 = .ok (.invokestatic 244, 3) := by decide +kernel
theorem dX5_readNumber_120 : decode cX5_readNumber 120 = .ok (.ifCond .eq 13, 3) := by decide +kernel
theorem dX5_readNumber_123 : decode cX5_readNumber 123 = .ok (.aload_n 0, 1) := by decide +kernel
theorem dX5_readNumber_124 : decode cX5_readNumber 124 = .ok (.iconst 1, 1) := by decide +kernel
theorem dX5_readNumber_125 : decode cX5_readNumber 125 = .ok (.iload_n 3, 1) := by decide +kernel
theorem dX5_readNumber_126 : decode cX5_readNumber 126 = .ok (.invokevirtual 51, 3) := by decide +kernel
theorem dX5_readNumber_129 : decode cX5_readNumber 129 = .ok (.pop, 1) := by decide +kernel
theorem dX5_readNumber_130 : decode cX5_readNumber 130 = .ok (.goto 25, 3) := by decide +kernel
theorem dX5_readNumber_133 : decode cX5_readNumber 133 = .ok (.iload 4, 2) := by decide +kernel
theorem dX5_readNumber_135 : decode cX5_readNumber 135 = .ok (.iload_n 1, 1) := by decide +kernel
theorem dX5_readNumber_136 : decode cX5_readNumber 136 = .ok (.if_icmp .lt 9, 3) := by decide +kernel
theorem dX5_readNumber_139 : decode cX5_readNumber 139 = .ok (.iload 4, 2) := by decide +kernel
theorem dX5_readNumber_141 : decode cX5_readNumber 141 = .ok (.iload_n 2, 1) := by decide +kernel
theorem dX5_readNumber_142 : decode cX5_readNumber 142 = .ok (.if_icmp .le 13, 3) := by decide +kernel
theorem dX5_readNumber_145 : decode cX5_readNumber 145 = .ok (.aload_n 0, 1) := by decide +kernel
theorem dX5_readNumber_146 : decode cX5_readNumber 146 = .ok (.iconst 2, 1) := by decide +kernel
theorem dX5_readNumber_147 : decode cX5_readNumber 147 = .ok (.aload_n 0, 1) := by decide +kernel
theorem dX5_readNumber_148 : decode cX5_readNumber 148 = .ok (.getfield 28, 3) := by decide +kernel
theorem dX5_readNumber_151 : decode cX5_readNumber 151 = .ok (.invokevirtual 51, 3) := by decide +kernel
theorem dX5_readNumber_154 : decode cX5_readNumber 154 = .ok (.pop, 1) := by decide +kernel
theorem dX5_readNumber_155 : decode cX5_readNumber 155 = .ok (.aload_n 0, 1) := by decide +kernel
theorem dX5_readNumber_156 : decode cX5_readNumber 156 = .ok (.iload_n 3, 1) := by decide +kernel
theorem dX5_readNumber_157 : decode cX5_readNumber 157 = .ok (.putfield 28, 3) := by decide +kernel
theorem dX5_readNumber_160 : decode cX5_readNumber 160 = .ok (.aload_n 0, 1) := by decide +kernel
theorem dX5_readNumber_161 : decode cX5_readNumber 161 = .ok (.iconst 1, 1) := by decide +kernel
theorem dX5_readNumber_162 : decode cX5_readNumber 162 = .ok (.putfield 31, 3) := by decide +kernel
theorem dX5_readNumber_165 : decode cX5_readNumber 165 = .ok (.iload 4, 2) := by decide +kernel
theorem dX5_readNumber_167 : decode cX5_readNumber 167 = .ok (.ireturn, 1) := by decide +kernel
abbrev rm_Reader_readNumber : Room := { frames := 1, cells := 0, slots := 0, locals := 22 }
def Reader_readNumber_l12 (σ : Sg) (x1 : Int32) (x2 : Int32) (x3 : Int32) (x4 : Int32) : Option ((Int32 × Int32) ⊕ (Int32 × Int32)) :=
  zgt σ 2 1 fun v14 =>
  if v14 ≤ x3 then (
    some (.inr (x3, x4))
  ) else (
    zgt σ 2 2 fun v22 =>
    if (v22 + 4) ≤ x3 then (
      some (.inr (x3, x4))
    ) else (
      zmr1 1 (σ 2 0) <|
      zrd σ 1 1600 x3 fun v35 =>
      (Reader_isDigit v35).bind fun r36 =>
      if (zb r36) = 0 then (
        some (.inr (x3, x4))
      ) else (
        zmr1 1 (σ 2 0) <|
        zrd σ 1 1600 x3 fun v52 =>
        zlt ((x4 * 10) + (v52 - 48)) fun v57 =>
        zlt (x3 + 1) fun v59 =>
        some (.inl (v59, v57))
      )
    )
  )
set_option maxRecDepth 20000 in
theorem t_Reader_readNumber_l12 {X : Zx} {Q : State → Prop} {σ : Sg} {x1 : Int32} {x2 : Int32} {x3 : Int32} {x4 : Int32} (ok : Zok X cX5_readNumber RX5 rm_Reader_readNumber 198 5)  {out : ((Int32 × Int32) ⊕ (Int32 × Int32))} (hf : Reader_readNumber_l12 σ x1 x2 x3 x4 = some out) (hk : zout (fun (s : (Int32 × Int32)) => ZAt X Q 0 0 12 σ [(0, .ref (X.ad 2)), (1, .int x1), (2, .int x2), (3, .int s.1), (4, .int s.2)] []) (fun (s : (Int32 × Int32)) => ZAt X Q 0 0 65 σ [(0, .ref (X.ad 2)), (1, .int x1), (2, .int x2), (3, .int s.1), (4, .int s.2)] []) out) : ZAt X Q 0 0 12 σ [(0, .ref (X.ad 2)), (1, .int x1), (2, .int x2), (3, .int x3), (4, .int x4)] [] := by
  unfold Reader_readNumber_l12 at hf
  refine z_iload_n ok dX5_readNumber_12 3 rfl ?_
  refine z_aload_n ok dX5_readNumber_13 0 rfl ?_
  refine z_geti ok kc_2 zc_5 hin_5 1 (by decide) fl_5_15 rfl dX5_readNumber_14 hf (fun v14 hf => ?_)
  refine z_icmp_ge (tgt := 65) ok dX5_readNumber_17 (by decide) hf (fun _ hf => ?_) (fun _ hf => ?_)
  · obtain rfl := Option.some.inj hf
    exact z_sub [0, 1, 2, 3, 4] rfl hk
  · refine z_iload_n ok dX5_readNumber_20 3 rfl ?_
    refine z_aload_n ok dX5_readNumber_21 0 rfl ?_
    refine z_geti ok kc_2 zc_5 hin_5 2 (by decide) fl_5_28 rfl dX5_readNumber_22 hf (fun v22 hf => ?_)
    refine z_iconst (v := 4) ok dX5_readNumber_25 (by decide) ?_
    refine z_iadd ok dX5_readNumber_26 ?_
    refine z_icmp_ge (tgt := 65) ok dX5_readNumber_27 (by decide) hf (fun _ hf => ?_) (fun _ hf => ?_)
    · obtain rfl := Option.some.inj hf
      exact z_sub [0, 1, 2, 3, 4] rfl hk
    · refine z_aload_n ok dX5_readNumber_30 0 rfl ?_
      refine z_getm1 (p := 1) ok kc_2 zc_5 hin_5 0 (by decide) fl_5_9 rfl (by decide) dX5_readNumber_31 hf (fun hf => ?_)
      refine z_iload_n ok dX5_readNumber_34 3 rfl ?_
      refine z_bald ok kc_1 dX5_readNumber_35 hf (fun v35 hf => ?_)
      refine z_call hf (fun r36 h36 hf => ?_)
      refine z_cS (As := [.int v35]) (rest := []) ok (c_Reader_isDigit h36) rfl ⟨ml_5_244, w_Reader_isDigit⟩ hy_Reader_isDigit ⟨rfl, rfl⟩ ⟨Nat.le_of_ble_eq_true rfl, Nat.le_of_ble_eq_true rfl⟩ ⟨Nat.zero_le _, Nat.zero_le _⟩ rfl (Nat.le_of_ble_eq_true rfl) dX5_readNumber_36 ?_
      refine z_if_eq (tgt := 65) ok dX5_readNumber_39 (by decide) hf (fun _ hf => ?_) (fun _ hf => ?_)
      · obtain rfl := Option.some.inj hf
        exact z_sub [0, 1, 2, 3, 4] rfl hk
      · refine z_iload ok dX5_readNumber_42 4 rfl ?_
        refine z_bipush (v := 10) ok dX5_readNumber_44 (by decide) ?_
        refine z_imul ok dX5_readNumber_46 ?_
        refine z_aload_n ok dX5_readNumber_47 0 rfl ?_
        refine z_getm1 (p := 1) ok kc_2 zc_5 hin_5 0 (by decide) fl_5_9 rfl (by decide) dX5_readNumber_48 hf (fun hf => ?_)
        refine z_iload_n ok dX5_readNumber_51 3 rfl ?_
        refine z_bald ok kc_1 dX5_readNumber_52 hf (fun v52 hf => ?_)
        refine z_bipush (v := 48) ok dX5_readNumber_53 (by decide) ?_
        refine z_isub ok dX5_readNumber_55 ?_
        refine z_iadd ok dX5_readNumber_56 ?_
        refine z_nm hf (fun v57 hf => ?_)
        refine z_istore (lv' := [(4, .int v57), (0, .ref (X.ad 2)), (1, .int x1), (2, .int x2), (3, .int x3)]) ok dX5_readNumber_57 (by decide) rfl ?_
        refine z_iinc (w := 1) (lv' := fun v59 => [(3, .int v59), (4, .int v57), (0, .ref (X.ad 2)), (1, .int x1), (2, .int x2)]) ok dX5_readNumber_59 4 rfl (by decide) (by decide) (fun _ => rfl) hf (fun v59 hf => ?_)
        refine z_goto (tgt := 12) ok dX5_readNumber_62 (by decide) ?_
        obtain rfl := Option.some.inj hf
        exact z_sub [2, 3, 4, 0, 1] rfl hk
def Reader_readNumber_j80 (σ : Sg) (x3 : Int32) (x4 : Int32) : Option (Int32 × Sg) :=
  zgt σ 2 2 fun v83 =>
  (Reader_fail σ 1 v83).bind fun r86 =>
  zpt r86.2 2 2 x3 fun σ157 =>
  zbo 1 <| zpt σ157 2 3 1 fun σ162 =>
  some (x4, σ162)
set_option maxRecDepth 20000 in
theorem t_Reader_readNumber_j80 {X : Zx} {Q : State → Prop} {σ : Sg} {x3 : Int32} {x4 : Int32} (ok : Zok X cX5_readNumber RX5 rm_Reader_readNumber 198 5)  {out : (Int32 × Sg)} (hf : Reader_readNumber_j80 σ x3 x4 = some out) (hk : ZrI cX5_readNumber X Q out.1 out.2) : ZAt X Q 0 0 80 σ [(0, .ref (X.ad 2)), (3, .int x3), (4, .int x4)] [] := by
  unfold Reader_readNumber_j80 at hf
  refine z_aload_n ok dX5_readNumber_80 0 rfl ?_
  refine z_iconst (v := 1) ok dX5_readNumber_81 (by decide) ?_
  refine z_aload_n ok dX5_readNumber_82 0 rfl ?_
  refine z_geti ok kc_2 zc_5 hin_5 2 (by decide) fl_5_28 rfl dX5_readNumber_83 hf (fun v83 hf => ?_)
  refine z_call hf (fun r86 h86 hf => ?_)
  refine z_cV (As := [.int 1, .int v83]) (rest := []) (w := 2) ok kc_2 zc_5 (c_Reader_fail h86) rfl ⟨ml_5_51, w_Reader_fail⟩ hy_Reader_fail ⟨rfl, rfl⟩ ⟨Nat.le_of_ble_eq_true rfl, Nat.le_of_ble_eq_true rfl⟩ ⟨Nat.zero_le _, Nat.zero_le _⟩ rfl (Nat.le_of_ble_eq_true rfl) dX5_readNumber_86 ?_
  refine z_pop ok dX5_readNumber_89 rfl ?_
  refine z_goto (tgt := 155) ok dX5_readNumber_90 (by decide) ?_
  refine z_aload_n ok dX5_readNumber_155 0 rfl ?_
  refine z_iload_n ok dX5_readNumber_156 1 rfl ?_
  refine z_puti ok kc_2 zc_5 hin_5 tyX5 tyX5_ok nmX5 2 (by decide) fl_5_28 rfl rfl (tyX5_ok 2 (by decide)) dX5_readNumber_157 hf (fun σ157 hf => ?_)
  refine z_aload_n ok dX5_readNumber_160 0 rfl ?_
  refine z_iconst (v := 1) ok dX5_readNumber_161 (by decide) ?_
  refine z_putz ok kc_2 zc_5 hin_5 tyX5 tyX5_ok nmX5 3 (by decide) fl_5_31 rfl rfl (tyX5_ok 3 (by decide)) dX5_readNumber_162 hf (fun σ162 hf => ?_)
  refine z_iload ok dX5_readNumber_165 2 rfl ?_
  obtain rfl := Option.some.inj hf
  exact hk _ _ dX5_readNumber_167
def Reader_readNumber_j145 (σ : Sg) (x3 : Int32) (x4 : Int32) : Option (Int32 × Sg) :=
  zgt σ 2 2 fun v148 =>
  (Reader_fail σ 2 v148).bind fun r151 =>
  zpt r151.2 2 2 x3 fun σ157 =>
  zbo 1 <| zpt σ157 2 3 1 fun σ162 =>
  some (x4, σ162)
set_option maxRecDepth 20000 in
theorem t_Reader_readNumber_j145 {X : Zx} {Q : State → Prop} {σ : Sg} {x3 : Int32} {x4 : Int32} (ok : Zok X cX5_readNumber RX5 rm_Reader_readNumber 198 5)  {out : (Int32 × Sg)} (hf : Reader_readNumber_j145 σ x3 x4 = some out) (hk : ZrI cX5_readNumber X Q out.1 out.2) : ZAt X Q 0 0 145 σ [(0, .ref (X.ad 2)), (3, .int x3), (4, .int x4)] [] := by
  unfold Reader_readNumber_j145 at hf
  refine z_aload_n ok dX5_readNumber_145 0 rfl ?_
  refine z_iconst (v := 2) ok dX5_readNumber_146 (by decide) ?_
  refine z_aload_n ok dX5_readNumber_147 0 rfl ?_
  refine z_geti ok kc_2 zc_5 hin_5 2 (by decide) fl_5_28 rfl dX5_readNumber_148 hf (fun v148 hf => ?_)
  refine z_call hf (fun r151 h151 hf => ?_)
  refine z_cV (As := [.int 2, .int v148]) (rest := []) (w := 2) ok kc_2 zc_5 (c_Reader_fail h151) rfl ⟨ml_5_51, w_Reader_fail⟩ hy_Reader_fail ⟨rfl, rfl⟩ ⟨Nat.le_of_ble_eq_true rfl, Nat.le_of_ble_eq_true rfl⟩ ⟨Nat.zero_le _, Nat.zero_le _⟩ rfl (Nat.le_of_ble_eq_true rfl) dX5_readNumber_151 ?_
  refine z_pop ok dX5_readNumber_154 rfl ?_
  refine z_aload_n ok dX5_readNumber_155 0 rfl ?_
  refine z_iload_n ok dX5_readNumber_156 1 rfl ?_
  refine z_puti ok kc_2 zc_5 hin_5 tyX5 tyX5_ok nmX5 2 (by decide) fl_5_28 rfl rfl (tyX5_ok 2 (by decide)) dX5_readNumber_157 hf (fun σ157 hf => ?_)
  refine z_aload_n ok dX5_readNumber_160 0 rfl ?_
  refine z_iconst (v := 1) ok dX5_readNumber_161 (by decide) ?_
  refine z_putz ok kc_2 zc_5 hin_5 tyX5 tyX5_ok nmX5 3 (by decide) fl_5_31 rfl rfl (tyX5_ok 3 (by decide)) dX5_readNumber_162 hf (fun σ162 hf => ?_)
  refine z_iload ok dX5_readNumber_165 2 rfl ?_
  obtain rfl := Option.some.inj hf
  exact hk _ _ dX5_readNumber_167
def Reader_readNumber_j133 (σ : Sg) (x1 : Int32) (x2 : Int32) (x3 : Int32) (x4 : Int32) : Option (Int32 × Sg) :=
  if x4 < x1 then (
    Reader_readNumber_j145 σ x3 x4
  ) else (
    if x4 ≤ x2 then (
      zpt σ 2 2 x3 fun σ157 =>
      zbo 1 <| zpt σ157 2 3 1 fun σ162 =>
      some (x4, σ162)
    ) else (
      Reader_readNumber_j145 σ x3 x4
    )
  )
set_option maxRecDepth 20000 in
theorem t_Reader_readNumber_j133 {X : Zx} {Q : State → Prop} {σ : Sg} {x1 : Int32} {x2 : Int32} {x3 : Int32} {x4 : Int32} (ok : Zok X cX5_readNumber RX5 rm_Reader_readNumber 198 5)  {out : (Int32 × Sg)} (hf : Reader_readNumber_j133 σ x1 x2 x3 x4 = some out) (hk : ZrI cX5_readNumber X Q out.1 out.2) : ZAt X Q 0 0 133 σ [(0, .ref (X.ad 2)), (1, .int x1), (2, .int x2), (3, .int x3), (4, .int x4)] [] := by
  unfold Reader_readNumber_j133 at hf
  refine z_iload ok dX5_readNumber_133 4 rfl ?_
  refine z_iload_n ok dX5_readNumber_135 1 rfl ?_
  refine z_icmp_lt (tgt := 145) ok dX5_readNumber_136 (by decide) hf (fun _ hf => ?_) (fun _ hf => ?_)
  · exact z_sub [0, 3, 4] rfl (t_Reader_readNumber_j145 ok hf hk)
  · refine z_iload ok dX5_readNumber_139 4 rfl ?_
    refine z_iload_n ok dX5_readNumber_141 2 rfl ?_
    refine z_icmp_le (tgt := 155) ok dX5_readNumber_142 (by decide) hf (fun _ hf => ?_) (fun _ hf => ?_)
    · refine z_aload_n ok dX5_readNumber_155 0 rfl ?_
      refine z_iload_n ok dX5_readNumber_156 3 rfl ?_
      refine z_puti ok kc_2 zc_5 hin_5 tyX5 tyX5_ok nmX5 2 (by decide) fl_5_28 rfl rfl (tyX5_ok 2 (by decide)) dX5_readNumber_157 hf (fun σ157 hf => ?_)
      refine z_aload_n ok dX5_readNumber_160 0 rfl ?_
      refine z_iconst (v := 1) ok dX5_readNumber_161 (by decide) ?_
      refine z_putz ok kc_2 zc_5 hin_5 tyX5 tyX5_ok nmX5 3 (by decide) fl_5_31 rfl rfl (tyX5_ok 3 (by decide)) dX5_readNumber_162 hf (fun σ162 hf => ?_)
      refine z_iload ok dX5_readNumber_165 4 rfl ?_
      obtain rfl := Option.some.inj hf
      exact hk _ _ dX5_readNumber_167
    · exact z_sub [0, 3, 4] rfl (t_Reader_readNumber_j145 ok hf hk)
def Reader_readNumber_j65 (σ : Sg) (x1 : Int32) (x2 : Int32) (x3 : Int32) (x4 : Int32) : Option (Int32 × Sg) :=
  zgt σ 2 3 fun v66 =>
  if v66 = 0 then (
    zgt σ 2 2 fun v74 =>
    if x3 = v74 then (
      Reader_readNumber_j80 σ x3 x4
    ) else (
      zgt σ 2 2 fun v95 =>
      if x3 = (v95 + 4) then (
        zgt σ 2 1 fun v105 =>
        if v105 ≤ x3 then (
          Reader_readNumber_j133 σ x1 x2 x3 x4
        ) else (
          zmr1 1 (σ 2 0) <|
          zrd σ 1 1600 x3 fun v116 =>
          (Reader_isDigit v116).bind fun r117 =>
          if (zb r117) = 0 then (
            Reader_readNumber_j133 σ x1 x2 x3 x4
          ) else (
            (Reader_fail σ 1 x3).bind fun r126 =>
            zpt r126.2 2 2 x3 fun σ157 =>
            zbo 1 <| zpt σ157 2 3 1 fun σ162 =>
            some (x4, σ162)
          )
        )
      ) else (
        Reader_readNumber_j133 σ x1 x2 x3 x4
      )
    )
  ) else (
    Reader_readNumber_j80 σ x3 x4
  )
set_option maxRecDepth 20000 in
theorem t_Reader_readNumber_j65 {X : Zx} {Q : State → Prop} {σ : Sg} {x1 : Int32} {x2 : Int32} {x3 : Int32} {x4 : Int32} (ok : Zok X cX5_readNumber RX5 rm_Reader_readNumber 198 5)  {out : (Int32 × Sg)} (hf : Reader_readNumber_j65 σ x1 x2 x3 x4 = some out) (hk : ZrI cX5_readNumber X Q out.1 out.2) : ZAt X Q 0 0 65 σ [(0, .ref (X.ad 2)), (1, .int x1), (2, .int x2), (3, .int x3), (4, .int x4)] [] := by
  unfold Reader_readNumber_j65 at hf
  refine z_aload_n ok dX5_readNumber_65 0 rfl ?_
  refine z_geti ok kc_2 zc_5 hin_5 3 (by decide) fl_5_31 rfl dX5_readNumber_66 hf (fun v66 hf => ?_)
  refine z_if_ne (tgt := 80) ok dX5_readNumber_69 (by decide) hf (fun _ hf => ?_) (fun _ hf => ?_)
  · refine z_iload_n ok dX5_readNumber_72 3 rfl ?_
    refine z_aload_n ok dX5_readNumber_73 0 rfl ?_
    refine z_geti ok kc_2 zc_5 hin_5 2 (by decide) fl_5_28 rfl dX5_readNumber_74 hf (fun v74 hf => ?_)
    refine z_icmp_ne (tgt := 93) ok dX5_readNumber_77 (by decide) hf (fun _ hf => ?_) (fun _ hf => ?_)
    · exact z_sub [0, 3, 4] rfl (t_Reader_readNumber_j80 ok hf hk)
    · refine z_iload_n ok dX5_readNumber_93 3 rfl ?_
      refine z_aload_n ok dX5_readNumber_94 0 rfl ?_
      refine z_geti ok kc_2 zc_5 hin_5 2 (by decide) fl_5_28 rfl dX5_readNumber_95 hf (fun v95 hf => ?_)
      refine z_iconst (v := 4) ok dX5_readNumber_98 (by decide) ?_
      refine z_iadd ok dX5_readNumber_99 ?_
      refine z_icmp_ne (tgt := 133) ok dX5_readNumber_100 (by decide) hf (fun _ hf => ?_) (fun _ hf => ?_)
      · refine z_iload_n ok dX5_readNumber_103 3 rfl ?_
        refine z_aload_n ok dX5_readNumber_104 0 rfl ?_
        refine z_geti ok kc_2 zc_5 hin_5 1 (by decide) fl_5_15 rfl dX5_readNumber_105 hf (fun v105 hf => ?_)
        refine z_icmp_ge (tgt := 133) ok dX5_readNumber_108 (by decide) hf (fun _ hf => ?_) (fun _ hf => ?_)
        · exact z_sub [0, 1, 2, 3, 4] rfl (t_Reader_readNumber_j133 ok hf hk)
        · refine z_aload_n ok dX5_readNumber_111 0 rfl ?_
          refine z_getm1 (p := 1) ok kc_2 zc_5 hin_5 0 (by decide) fl_5_9 rfl (by decide) dX5_readNumber_112 hf (fun hf => ?_)
          refine z_iload_n ok dX5_readNumber_115 3 rfl ?_
          refine z_bald ok kc_1 dX5_readNumber_116 hf (fun v116 hf => ?_)
          refine z_call hf (fun r117 h117 hf => ?_)
          refine z_cS (As := [.int v116]) (rest := []) ok (c_Reader_isDigit h117) rfl ⟨ml_5_244, w_Reader_isDigit⟩ hy_Reader_isDigit ⟨rfl, rfl⟩ ⟨Nat.le_of_ble_eq_true rfl, Nat.le_of_ble_eq_true rfl⟩ ⟨Nat.zero_le _, Nat.zero_le _⟩ rfl (Nat.le_of_ble_eq_true rfl) dX5_readNumber_117 ?_
          refine z_if_eq (tgt := 133) ok dX5_readNumber_120 (by decide) hf (fun _ hf => ?_) (fun _ hf => ?_)
          · exact z_sub [0, 1, 2, 3, 4] rfl (t_Reader_readNumber_j133 ok hf hk)
          · refine z_aload_n ok dX5_readNumber_123 0 rfl ?_
            refine z_iconst (v := 1) ok dX5_readNumber_124 (by decide) ?_
            refine z_iload_n ok dX5_readNumber_125 3 rfl ?_
            refine z_call hf (fun r126 h126 hf => ?_)
            refine z_cV (As := [.int 1, .int x3]) (rest := []) (w := 2) ok kc_2 zc_5 (c_Reader_fail h126) rfl ⟨ml_5_51, w_Reader_fail⟩ hy_Reader_fail ⟨rfl, rfl⟩ ⟨Nat.le_of_ble_eq_true rfl, Nat.le_of_ble_eq_true rfl⟩ ⟨Nat.zero_le _, Nat.zero_le _⟩ rfl (Nat.le_of_ble_eq_true rfl) dX5_readNumber_126 ?_
            refine z_pop ok dX5_readNumber_129 rfl ?_
            refine z_goto (tgt := 155) ok dX5_readNumber_130 (by decide) ?_
            refine z_aload_n ok dX5_readNumber_155 0 rfl ?_
            refine z_iload_n ok dX5_readNumber_156 3 rfl ?_
            refine z_puti ok kc_2 zc_5 hin_5 tyX5 tyX5_ok nmX5 2 (by decide) fl_5_28 rfl rfl (tyX5_ok 2 (by decide)) dX5_readNumber_157 hf (fun σ157 hf => ?_)
            refine z_aload_n ok dX5_readNumber_160 0 rfl ?_
            refine z_iconst (v := 1) ok dX5_readNumber_161 (by decide) ?_
            refine z_putz ok kc_2 zc_5 hin_5 tyX5 tyX5_ok nmX5 3 (by decide) fl_5_31 rfl rfl (tyX5_ok 3 (by decide)) dX5_readNumber_162 hf (fun σ162 hf => ?_)
            refine z_iload ok dX5_readNumber_165 4 rfl ?_
            obtain rfl := Option.some.inj hf
            exact hk _ _ dX5_readNumber_167
      · exact z_sub [0, 1, 2, 3, 4] rfl (t_Reader_readNumber_j133 ok hf hk)
  · exact z_sub [0, 3, 4] rfl (t_Reader_readNumber_j80 ok hf hk)
def Reader_readNumber (σ : Sg) (x1 : Int32) (x2 : Int32) : Option (Int32 × Sg) :=
  (Reader_skipBlanks σ).bind fun r1 =>
  zgt r1 2 2 fun v5 =>
  zlt 0 fun v10 =>
  (zit (fun (s : (Int32 × Int32)) => Reader_readNumber_l12 r1 x1 x2 s.1 s.2) zFU (v5, v10)).bind fun r =>
  Reader_readNumber_j65 r1 x1 x2 r.1 r.2
set_option maxRecDepth 20000 in
theorem t_Reader_readNumber {X : Zx} {Q : State → Prop} {σ : Sg} {x1 : Int32} {x2 : Int32} (ok : Zok X cX5_readNumber RX5 rm_Reader_readNumber 198 5)  {out : (Int32 × Sg)} (hf : Reader_readNumber σ x1 x2 = some out) (hk : ZrI cX5_readNumber X Q out.1 out.2) : ZAt X Q 0 0 0 σ [(0, .ref (X.ad 2)), (1, .int x1), (2, .int x2)] [] := by
  unfold Reader_readNumber at hf
  refine z_aload_n ok dX5_readNumber_0 0 rfl ?_
  refine z_call hf (fun r1 h1 hf => ?_)
  refine z_cVv (As := []) (rest := []) (w := 2) ok kc_2 zc_5 (c_Reader_skipBlanks h1) rfl ⟨ml_5_41, w_Reader_skipBlanks⟩ hy_Reader_skipBlanks ⟨rfl, rfl⟩ ⟨Nat.le_of_ble_eq_true rfl, Nat.le_of_ble_eq_true rfl⟩ ⟨Nat.zero_le _, Nat.zero_le _⟩ rfl (Nat.le_of_ble_eq_true rfl) dX5_readNumber_1 ?_
  refine z_aload_n ok dX5_readNumber_4 0 rfl ?_
  refine z_geti ok kc_2 zc_5 hin_5 2 (by decide) fl_5_28 rfl dX5_readNumber_5 hf (fun v5 hf => ?_)
  refine z_istore_n (lv' := [(3, .int v5), (0, .ref (X.ad 2)), (1, .int x1), (2, .int x2)]) ok dX5_readNumber_8 (by decide) rfl ?_
  refine z_iconst (v := 0) ok dX5_readNumber_9 (by decide) ?_
  refine z_nm hf (fun v10 hf => ?_)
  refine z_istore (lv' := [(4, .int v10), (3, .int v5), (0, .ref (X.ad 2)), (1, .int x1), (2, .int x2)]) ok dX5_readNumber_10 (by decide) rfl ?_
  refine z_call hf (fun r hr hf => ?_)
  refine z_sub [2, 3, 4, 1, 0] rfl (z_iter (fun (s : (Int32 × Int32)) => r1) (fun (s : (Int32 × Int32)) => [(0, .ref (X.ad 2)), (1, .int x1), (2, .int x2), (3, .int s.1), (4, .int s.2)]) (fun s o h1 h2 => t_Reader_readNumber_l12 ok h1 h2) _ _ _ hr ?_)
  show ZAt X Q 0 0 65 r1 [(0, .ref (X.ad 2)), (1, .int x1), (2, .int x2), (3, .int r.1), (4, .int r.2)] []
  exact z_sub [0, 1, 2, 3, 4] rfl (t_Reader_readNumber_j65 ok hf hk)
theorem c_Reader_readNumber {σ : Sg} {x1 : Int32} {x2 : Int32} {r : (Int32 × Sg)} (h : Reader_readNumber σ x1 x2 = some r) : ZcI yX5_readNumber cX5_readNumber 5 .int rm_Reader_readNumber 198 (fun ad => [.ref (ad 2), .int x1, .int x2]) σ r.1 r.2 :=
  zmetI pn_5 rfl (fun _ => rfl) (fun _ => Nat.le_of_ble_eq_true rfl) rfl (fun X Q ok hk => t_Reader_readNumber ok h hk)
theorem dX5_standsSign_0 : decode cX5_standsSign 0 = .ok (.aload_n 0, 1) := by decide +kernel
theorem dX5_standsSign_1 : decode cX5_standsSign 1 = .ok (.invokevirtual 41, 3) := by decide +kernel
theorem dX5_standsSign_4 : decode cX5_standsSign 4 = .ok (.aload_n 0, 1) := by decide +kernel
theorem dX5_standsSign_5 : decode cX5_standsSign 5 = .ok (.getfield 28, 3) := by decide +kernel
theorem dX5_standsSign_8 : decode cX5_standsSign 8 = .ok (.aload_n 0, 1) := by decide +kernel
theorem dX5_standsSign_9 : decode cX5_standsSign 9 = .ok (.getfield 15, 3) := by decide +kernel
theorem dX5_standsSign_12 : decode cX5_standsSign 12 = .ok (.if_icmp .ge 20, 3) := by decide +kernel
theorem dX5_standsSign_15 : decode cX5_standsSign 15 = .ok (.aload_n 0, 1) := by decide +kernel
theorem dX5_standsSign_16 : decode cX5_standsSign 16 = .ok (.getfield 9, 3) := by decide +kernel
theorem dX5_standsSign_19 : decode cX5_standsSign 19 = .ok (.aload_n 0, 1) := by decide +kernel
theorem dX5_standsSign_20 : decode cX5_standsSign 20 = .ok (.getfield 28, 3) := by decide +kernel
theorem dX5_standsSign_23 : decode cX5_standsSign 23 = .ok (.baload, 1) := by decide +kernel
theorem dX5_standsSign_24 : decode cX5_standsSign 24 = .ok (.iload_n 1, 1) := by decide +kernel
theorem dX5_standsSign_25 : decode cX5_standsSign 25 = .ok (.if_icmp .ne 7, 3) := by decide +kernel
theorem dX5_standsSign_28 : decode cX5_standsSign 28 = .ok (.iconst 1, 1) := by decide +kernel
theorem dX5_standsSign_29 : decode cX5_standsSign 29 = .ok (.goto 4, 3) := by decide +kernel
theorem dX5_standsSign_32 : decode cX5_standsSign 32 = .ok (.iconst 0, 1) := by decide +kernel
theorem dX5_standsSign_33 : decode cX5_standsSign 33 = .ok (.ireturn, 1) := by decide +kernel
abbrev rm_Reader_standsSign : Room := { frames := 1, cells := 0, slots := 0, locals := 20 }
def Reader_standsSign (σ : Sg) (x1 : Int32) : Option (Bool × Sg) :=
  (Reader_skipBlanks σ).bind fun r1 =>
  zgt r1 2 2 fun v5 =>
  zgt r1 2 1 fun v9 =>
  if v9 ≤ v5 then (
    some (false, r1)
  ) else (
    zmr1 1 (r1 2 0) <|
    zgt r1 2 2 fun v20 =>
    zrd r1 1 1600 v20 fun v23 =>
    if v23 = x1 then (
      some (true, r1)
    ) else (
      some (false, r1)
    )
  )
set_option maxRecDepth 20000 in
theorem t_Reader_standsSign {X : Zx} {Q : State → Prop} {σ : Sg} {x1 : Int32} (ok : Zok X cX5_standsSign RX5 rm_Reader_standsSign 198 2)  {out : (Bool × Sg)} (hf : Reader_standsSign σ x1 = some out) (hk : ZrI cX5_standsSign X Q (zb out.1) out.2) : ZAt X Q 0 0 0 σ [(0, .ref (X.ad 2)), (1, .int x1)] [] := by
  unfold Reader_standsSign at hf
  refine z_aload_n ok dX5_standsSign_0 0 rfl ?_
  refine z_call hf (fun r1 h1 hf => ?_)
  refine z_cVv (As := []) (rest := []) (w := 2) ok kc_2 zc_5 (c_Reader_skipBlanks h1) rfl ⟨ml_5_41, w_Reader_skipBlanks⟩ hy_Reader_skipBlanks ⟨rfl, rfl⟩ ⟨Nat.le_of_ble_eq_true rfl, Nat.le_of_ble_eq_true rfl⟩ ⟨Nat.zero_le _, Nat.zero_le _⟩ rfl (Nat.le_of_ble_eq_true rfl) dX5_standsSign_1 ?_
  refine z_aload_n ok dX5_standsSign_4 0 rfl ?_
  refine z_geti ok kc_2 zc_5 hin_5 2 (by decide) fl_5_28 rfl dX5_standsSign_5 hf (fun v5 hf => ?_)
  refine z_aload_n ok dX5_standsSign_8 0 rfl ?_
  refine z_geti ok kc_2 zc_5 hin_5 1 (by decide) fl_5_15 rfl dX5_standsSign_9 hf (fun v9 hf => ?_)
  refine z_icmp_ge (tgt := 32) ok dX5_standsSign_12 (by decide) hf (fun _ hf => ?_) (fun _ hf => ?_)
  · refine z_iconst (v := 0) ok dX5_standsSign_32 (by decide) ?_
    obtain rfl := Option.some.inj hf
    exact hk _ _ dX5_standsSign_33
  · refine z_aload_n ok dX5_standsSign_15 0 rfl ?_
    refine z_getm1 (p := 1) ok kc_2 zc_5 hin_5 0 (by decide) fl_5_9 rfl (by decide) dX5_standsSign_16 hf (fun hf => ?_)
    refine z_aload_n ok dX5_standsSign_19 0 rfl ?_
    refine z_geti ok kc_2 zc_5 hin_5 2 (by decide) fl_5_28 rfl dX5_standsSign_20 hf (fun v20 hf => ?_)
    refine z_bald ok kc_1 dX5_standsSign_23 hf (fun v23 hf => ?_)
    refine z_iload_n ok dX5_standsSign_24 1 rfl ?_
    refine z_icmp_ne (tgt := 32) ok dX5_standsSign_25 (by decide) hf (fun _ hf => ?_) (fun _ hf => ?_)
    · refine z_iconst (v := 1) ok dX5_standsSign_28 (by decide) ?_
      refine z_goto (tgt := 33) ok dX5_standsSign_29 (by decide) ?_
      obtain rfl := Option.some.inj hf
      exact hk _ _ dX5_standsSign_33
    · refine z_iconst (v := 0) ok dX5_standsSign_32 (by decide) ?_
      obtain rfl := Option.some.inj hf
      exact hk _ _ dX5_standsSign_33
theorem c_Reader_standsSign {σ : Sg} {x1 : Int32} {r : (Bool × Sg)} (h : Reader_standsSign σ x1 = some r) : ZcI yX5_standsSign cX5_standsSign 2 .boolean rm_Reader_standsSign 198 (fun ad => [.ref (ad 2), .int x1]) σ (zb r.1) r.2 :=
  zmetI pn_5 rfl (fun _ => rfl) (fun _ => Nat.le_of_ble_eq_true rfl) (zb_nar _) (fun X Q ok hk => t_Reader_standsSign ok h hk)
theorem dX5_readSign_0 : decode cX5_readSign 0 = .ok (.aload_n 0, 1) := by decide +kernel
theorem dX5_readSign_1 : decode cX5_readSign 1 = .ok (.iload_n 1, 1) := by decide +kernel
theorem dX5_readSign_2 : decode cX5_readSign 2 = .ok (.invokevirtual 220, 3) := by decide +kernel
theorem dX5_readSign_5 : decode cX5_readSign 5 = .ok (.ifCond .ne 13, 3) := by decide +kernel
theorem dX5_readSign_8 : decode cX5_readSign 8 = .ok (.aload_n 0, 1) := by decide +kernel
theorem dX5_readSign_9 : decode cX5_readSign 9 = .ok (.iconst 1, 1) := by decide +kernel
theorem dX5_readSign_10 : decode cX5_readSign 10 = .ok (.aload_n 0, 1) := by decide +kernel
theorem dX5_readSign_11 : decode cX5_readSign 11 = .ok (.getfield 28, 3) := by decide +kernel
theorem dX5_readSign_14 : decode cX5_readSign 14 = .ok (.invokevirtual 51, 3) := by decide +kernel
theorem dX5_readSign_17 : decode cX5_readSign 17 = .ok (.ireturn, 1) := by decide +kernel
theorem dX5_readSign_18 : decode cX5_readSign 18 = .ok (.aload_n 0, 1) := by decide +kernel
theorem dX5_readSign_19 : decode cX5_readSign 19 = .ok (.dup, 1) := by decide +kernel
theorem dX5_readSign_20 : decode cX5_readSign 20 = .ok (.getfield 28, 3) := by decide +kernel
theorem dX5_readSign_23 : decode cX5_readSign 23 = .ok (.iconst 1, 1) := by decide +kernel
theorem dX5_readSign_24 : decode cX5_readSign 24 = .ok (.iadd, 1) := by decide +kernel
theorem dX5_readSign_25 : decode cX5_readSign 25 = .ok (.putfield 28, 3) := by decide +kernel
theorem dX5_readSign_28 : decode cX5_readSign 28 = .ok (.aload_n 0, 1) := by decide +kernel
theorem dX5_readSign_29 : decode cX5_readSign 29 = .ok (.iconst 0, 1) := by decide +kernel
theorem dX5_readSign_30 : decode cX5_readSign 30 = .ok (.putfield 31, 3) := by decide +kernel
theorem dX5_readSign_33 : decode cX5_readSign 33 = .ok (.iconst 1, 1) := by decide +kernel
theorem dX5_readSign_34 : decode cX5_readSign 34 = .ok (.ireturn, 1) := by decide +kernel
abbrev rm_Reader_readSign : Room := { frames := 2, cells := 0, slots := 0, locals := 41 }
def Reader_readSign (σ : Sg) (x1 : Int32) : Option (Bool × Sg) :=
  (Reader_standsSign σ x1).bind fun r2 =>
  if (zb r2.1) = 0 then (
    zgt r2.2 2 2 fun v11 =>
    (Reader_fail r2.2 1 v11).bind fun r14 =>
    some (r14.1, r14.2)
  ) else (
    zgt r2.2 2 2 fun v20 =>
    zpt r2.2 2 2 (v20 + 1) fun σ25 =>
    zbo 0 <| zpt σ25 2 3 0 fun σ30 =>
    some (true, σ30)
  )
set_option maxRecDepth 20000 in
theorem t_Reader_readSign {X : Zx} {Q : State → Prop} {σ : Sg} {x1 : Int32} (ok : Zok X cX5_readSign RX5 rm_Reader_readSign 198 2)  {out : (Bool × Sg)} (hf : Reader_readSign σ x1 = some out) (hk : ZrI cX5_readSign X Q (zb out.1) out.2) : ZAt X Q 0 0 0 σ [(0, .ref (X.ad 2)), (1, .int x1)] [] := by
  unfold Reader_readSign at hf
  refine z_aload_n ok dX5_readSign_0 0 rfl ?_
  refine z_iload_n ok dX5_readSign_1 1 rfl ?_
  refine z_call hf (fun r2 h2 hf => ?_)
  refine z_cV (As := [.int x1]) (rest := []) (w := 2) ok kc_2 zc_5 (c_Reader_standsSign h2) rfl ⟨ml_5_220, w_Reader_standsSign⟩ hy_Reader_standsSign ⟨rfl, rfl⟩ ⟨Nat.le_of_ble_eq_true rfl, Nat.le_of_ble_eq_true rfl⟩ ⟨Nat.zero_le _, Nat.zero_le _⟩ rfl (Nat.le_of_ble_eq_true rfl) dX5_readSign_2 ?_
  refine z_if_ne (tgt := 18) ok dX5_readSign_5 (by decide) hf (fun _ hf => ?_) (fun _ hf => ?_)
  · refine z_aload_n ok dX5_readSign_8 0 rfl ?_
    refine z_iconst (v := 1) ok dX5_readSign_9 (by decide) ?_
    refine z_aload_n ok dX5_readSign_10 0 rfl ?_
    refine z_geti ok kc_2 zc_5 hin_5 2 (by decide) fl_5_28 rfl dX5_readSign_11 hf (fun v11 hf => ?_)
    refine z_call hf (fun r14 h14 hf => ?_)
    refine z_cV (As := [.int 1, .int v11]) (rest := []) (w := 2) ok kc_2 zc_5 (c_Reader_fail h14) rfl ⟨ml_5_51, w_Reader_fail⟩ hy_Reader_fail ⟨rfl, rfl⟩ ⟨Nat.le_of_ble_eq_true rfl, Nat.le_of_ble_eq_true rfl⟩ ⟨Nat.zero_le _, Nat.zero_le _⟩ rfl (Nat.le_of_ble_eq_true rfl) dX5_readSign_14 ?_
    obtain rfl := Option.some.inj hf
    exact hk _ _ dX5_readSign_17
  · refine z_aload_n ok dX5_readSign_18 0 rfl ?_
    refine z_dup ok dX5_readSign_19 rfl ?_
    refine z_geti ok kc_2 zc_5 hin_5 2 (by decide) fl_5_28 rfl dX5_readSign_20 hf (fun v20 hf => ?_)
    refine z_iconst (v := 1) ok dX5_readSign_23 (by decide) ?_
    refine z_iadd ok dX5_readSign_24 ?_
    refine z_puti ok kc_2 zc_5 hin_5 tyX5 tyX5_ok nmX5 2 (by decide) fl_5_28 rfl rfl (tyX5_ok 2 (by decide)) dX5_readSign_25 hf (fun σ25 hf => ?_)
    refine z_aload_n ok dX5_readSign_28 0 rfl ?_
    refine z_iconst (v := 0) ok dX5_readSign_29 (by decide) ?_
    refine z_putz ok kc_2 zc_5 hin_5 tyX5 tyX5_ok nmX5 3 (by decide) fl_5_31 rfl rfl (tyX5_ok 3 (by decide)) dX5_readSign_30 hf (fun σ30 hf => ?_)
    refine z_iconst (v := 1) ok dX5_readSign_33 (by decide) ?_
    obtain rfl := Option.some.inj hf
    exact hk _ _ dX5_readSign_34
theorem c_Reader_readSign {σ : Sg} {x1 : Int32} {r : (Bool × Sg)} (h : Reader_readSign σ x1 = some r) : ZcI yX5_readSign cX5_readSign 2 .boolean rm_Reader_readSign 198 (fun ad => [.ref (ad 2), .int x1]) σ (zb r.1) r.2 :=
  zmetI pn_5 rfl (fun _ => rfl) (fun _ => Nat.le_of_ble_eq_true rfl) (zb_nar _) (fun X Q ok hk => t_Reader_readSign ok h hk)
theorem dX5_nameIn_0 : decode cX5_nameIn 0 = .ok (.iconst 0, 1) := by decide +kernel
theorem dX5_nameIn_1 : decode cX5_nameIn 1 = .ok (.istore_n 3, 1) := by decide +kernel
theorem dX5_nameIn_2 : decode cX5_nameIn 2 = .ok (.bipush 25, 2) := by decide +kernel
theorem dX5_nameIn_4 : decode cX5_nameIn 4 = .ok (.istore 4, 2) := by decide +kernel
theorem dX5_nameIn_6 : decode cX5_nameIn 6 = .ok (.iload_n 1, 1) := by decide +kernel
theorem dX5_nameIn_7 : decode cX5_nameIn 7 = .ok (.istore 5, 2) := by decide +kernel
theorem dX5_nameIn_9 : decode cX5_nameIn 9 = .ok (.iload 5, 2) := by decide +kernel
theorem dX5_nameIn_11 : decode cX5_nameIn 11 = .ok (.iload_n 2, 1) := by decide +kernel
theorem dX5_nameIn_12 : decode cX5_nameIn 12 = .ok (.if_icmp .ge 27, 3) := by decide +kernel
theorem dX5_nameIn_15 : decode cX5_nameIn 15 = .ok (.iload_n 3, 1) := by decide +kernel
theorem dX5_nameIn_16 : decode cX5_nameIn 16 = .ok (.aload_n 0, 1) := by decide +kernel
theorem dX5_nameIn_17 : decode cX5_nameIn 17 = .ok (.iload 5, 2) := by decide +kernel
theorem dX5_nameIn_19 : decode cX5_nameIn 19 = .ok (.baload, 1) := by decide +kernel
theorem dX5_nameIn_20 : decode cX5_nameIn 20 = .ok (.bipush 97, 2) := by decide +kernel
theorem dX5_nameIn_22 : decode cX5_nameIn 22 = .ok (.isub, 1) := by decide +kernel
theorem dX5_nameIn_23 : decode cX5_nameIn 23 = .ok (.iconst 1, 1) := by decide +kernel
theorem dX5_nameIn_24 : decode cX5_nameIn 24 = .ok (.iadd, 1) := by decide +kernel
theorem dX5_nameIn_25 : decode cX5_nameIn 25 = .ok (.iload 4, 2) := by decide +kernel
theorem dX5_nameIn_27 : decode cX5_nameIn 27 = .ok (.ishl, 1) := by decide +kernel
theorem dX5_nameIn_28 : decode cX5_nameIn 28 = .ok (.ior, 1) := by decide +kernel
theorem dX5_nameIn_29 : decode cX5_nameIn 29 = .ok (.istore_n 3, 1) := by decide +kernel
theorem dX5_nameIn_30 : decode cX5_nameIn 30 = .ok (.iinc 4 (-5), 3) := by decide +kernel
theorem dX5_nameIn_33 : decode cX5_nameIn 33 = .ok (.iinc 5 1, 3) := by decide +kernel
theorem dX5_nameIn_36 : decode cX5_nameIn 36 = .ok (.goto (-27), 3) := by decide +kernel
theorem dX5_nameIn_39 : decode cX5_nameIn 39 = .ok (.iload_n 3, 1) := by decide +kernel
theorem dX5_nameIn_40 : decode cX5_nameIn 40 = .ok (.ireturn, 1) := by decide +kernel
abbrev rm_Reader_nameIn : Room := { frames := 0, cells := 0, slots := 0, locals := 0 }
def Reader_nameIn_l9 (σ : Sg) (a0 : Nat) (n0 : Nat) (x2 : Int32) (x3 : Int32) (x4 : Int32) (x5 : Int32) : Option ((Int32 × Int32 × Int32) ⊕ (Int32 × Int32 × Int32)) :=
  if x2 ≤ x5 then (
    some (.inr (x3, x4, x5))
  ) else (
    zrd σ a0 n0 x5 fun v19 =>
    zlt (x3 ||| (((v19 - 97) + 1) <<< (x4 &&& 31))) fun v29 =>
    zlt (x4 + (-5)) fun v30 =>
    zlt (x5 + 1) fun v33 =>
    some (.inl (v29, v30, v33))
  )
set_option maxRecDepth 20000 in
theorem t_Reader_nameIn_l9 {X : Zx} {Q : State → Prop} {σ : Sg} {a0 : Nat} {n0 : Nat} {x2 : Int32} {x3 : Int32} {x4 : Int32} {x5 : Int32} (ok : Zok X cX5_nameIn RX5 rm_Reader_nameIn 198 6) (ha0 : zk a0 198 (.inr (1, n0, []))) {out : ((Int32 × Int32 × Int32) ⊕ (Int32 × Int32 × Int32))} (hf : Reader_nameIn_l9 σ a0 n0 x2 x3 x4 x5 = some out) (hk : zout (fun (s : (Int32 × Int32 × Int32)) => ZAt X Q 0 0 9 σ [(0, .ref (X.ad a0)), (2, .int x2), (3, .int s.1), (4, .int s.2.1), (5, .int s.2.2)] []) (fun (s : (Int32 × Int32 × Int32)) => ZAt X Q 0 0 39 σ [(3, .int s.1)] []) out) : ZAt X Q 0 0 9 σ [(0, .ref (X.ad a0)), (2, .int x2), (3, .int x3), (4, .int x4), (5, .int x5)] [] := by
  unfold Reader_nameIn_l9 at hf
  refine z_iload ok dX5_nameIn_9 4 rfl ?_
  refine z_iload_n ok dX5_nameIn_11 1 rfl ?_
  refine z_icmp_ge (tgt := 39) ok dX5_nameIn_12 (by decide) hf (fun _ hf => ?_) (fun _ hf => ?_)
  · obtain rfl := Option.some.inj hf
    exact z_sub [2] rfl hk
  · refine z_iload_n ok dX5_nameIn_15 2 rfl ?_
    refine z_aload_n ok dX5_nameIn_16 0 rfl ?_
    refine z_iload ok dX5_nameIn_17 4 rfl ?_
    refine z_bald ok ha0 dX5_nameIn_19 hf (fun v19 hf => ?_)
    refine z_bipush (v := 97) ok dX5_nameIn_20 (by decide) ?_
    refine z_isub ok dX5_nameIn_22 ?_
    refine z_iconst (v := 1) ok dX5_nameIn_23 (by decide) ?_
    refine z_iadd ok dX5_nameIn_24 ?_
    refine z_iload ok dX5_nameIn_25 3 rfl ?_
    refine z_ishl ok dX5_nameIn_27 ?_
    refine z_ior ok dX5_nameIn_28 ?_
    refine z_nm hf (fun v29 hf => ?_)
    refine z_istore_n (lv' := [(3, .int v29), (0, .ref (X.ad a0)), (2, .int x2), (4, .int x4), (5, .int x5)]) ok dX5_nameIn_29 (by decide) rfl ?_
    refine z_iinc (w := (-5)) (lv' := fun v30 => [(4, .int v30), (3, .int v29), (0, .ref (X.ad a0)), (2, .int x2), (5, .int x5)]) ok dX5_nameIn_30 3 rfl (by decide) (by decide) (fun _ => rfl) hf (fun v30 hf => ?_)
    refine z_iinc (w := 1) (lv' := fun v33 => [(5, .int v33), (4, .int v30), (3, .int v29), (0, .ref (X.ad a0)), (2, .int x2)]) ok dX5_nameIn_33 4 rfl (by decide) (by decide) (fun _ => rfl) hf (fun v33 hf => ?_)
    refine z_goto (tgt := 9) ok dX5_nameIn_36 (by decide) ?_
    obtain rfl := Option.some.inj hf
    exact z_sub [3, 4, 2, 1, 0] rfl hk
def Reader_nameIn (σ : Sg) (a0 : Nat) (n0 : Nat) (x1 : Int32) (x2 : Int32) : Option Int32 :=
  zlt 0 fun v1 =>
  zlt 25 fun v4 =>
  (zit (fun (s : (Int32 × Int32 × Int32)) => Reader_nameIn_l9 σ a0 n0 x2 s.1 s.2.1 s.2.2) zFU (v1, v4, x1)).bind fun r =>
  some r.1
set_option maxRecDepth 20000 in
theorem t_Reader_nameIn {X : Zx} {Q : State → Prop} {σ : Sg} {a0 : Nat} {n0 : Nat} {x1 : Int32} {x2 : Int32} (ok : Zok X cX5_nameIn RX5 rm_Reader_nameIn 198 6) (ha0 : zk a0 198 (.inr (1, n0, []))) {out : Int32} (hf : Reader_nameIn σ a0 n0 x1 x2 = some out) (hk : ZrI cX5_nameIn X Q out σ) : ZAt X Q 0 0 0 σ [(0, .ref (X.ad a0)), (1, .int x1), (2, .int x2)] [] := by
  unfold Reader_nameIn at hf
  refine z_iconst (v := 0) ok dX5_nameIn_0 (by decide) ?_
  refine z_nm hf (fun v1 hf => ?_)
  refine z_istore_n (lv' := [(3, .int v1), (0, .ref (X.ad a0)), (1, .int x1), (2, .int x2)]) ok dX5_nameIn_1 (by decide) rfl ?_
  refine z_bipush (v := 25) ok dX5_nameIn_2 (by decide) ?_
  refine z_nm hf (fun v4 hf => ?_)
  refine z_istore (lv' := [(4, .int v4), (3, .int v1), (0, .ref (X.ad a0)), (1, .int x1), (2, .int x2)]) ok dX5_nameIn_4 (by decide) rfl ?_
  refine z_iload_n ok dX5_nameIn_6 3 rfl ?_
  refine z_istore (lv' := [(5, .int x1), (4, .int v4), (3, .int v1), (0, .ref (X.ad a0)), (1, .int x1), (2, .int x2)]) ok dX5_nameIn_7 (by decide) rfl ?_
  refine z_call hf (fun r hr hf => ?_)
  refine z_sub [3, 5, 2, 1, 0] rfl (z_iter (fun (s : (Int32 × Int32 × Int32)) => σ) (fun (s : (Int32 × Int32 × Int32)) => [(0, .ref (X.ad a0)), (2, .int x2), (3, .int s.1), (4, .int s.2.1), (5, .int s.2.2)]) (fun s o h1 h2 => t_Reader_nameIn_l9 ok ha0 h1 h2) _ _ _ hr ?_)
  show ZAt X Q 0 0 39 σ [(3, .int r.1)] []
  refine z_iload_n ok dX5_nameIn_39 0 rfl ?_
  obtain rfl := Option.some.inj hf
  exact hk _ _ dX5_nameIn_40
theorem c_Reader_nameIn {σ : Sg} {a0 : Nat} {n0 : Nat} {x1 : Int32} {x2 : Int32} (ha0 : zk a0 198 (.inr (1, n0, []))) {r : Int32} (h : Reader_nameIn σ a0 n0 x1 x2 = some r) : ZcI yX5_nameIn cX5_nameIn 6 .int rm_Reader_nameIn 198 (fun ad => [.ref (ad a0), .int x1, .int x2]) σ r σ :=
  zmetI pn_5 rfl (fun _ => rfl) (fun _ => Nat.le_of_ble_eq_true rfl) rfl (fun X Q ok hk => t_Reader_nameIn ok ha0 h hk)
theorem dX10_poolOf_0 : decode cX10_poolOf 0 = .ok (.iconst 0, 1) := by decide +kernel
theorem dX10_poolOf_1 : decode cX10_poolOf 1 = .ok (.istore_n 2, 1) := by decide +kernel
theorem dX10_poolOf_2 : decode cX10_poolOf 2 = .ok (.iload_n 2, 1) := by decide +kernel
theorem dX10_poolOf_3 : decode cX10_poolOf 3 = .ok (.aload_n 0, 1) := by decide +kernel
theorem dX10_poolOf_4 : decode cX10_poolOf 4 = .ok (.getfield 56, 3) := by decide +kernel
theorem dX10_poolOf_7 : decode cX10_poolOf 7 = .ok (.if_icmp .ge 21, 3) := by decide +kernel
theorem dX10_poolOf_10 : decode cX10_poolOf 10 = .ok (.aload_n 0, 1) := by decide +kernel
theorem dX10_poolOf_11 : decode cX10_poolOf 11 = .ok (.getfield 9, 3) := by decide +kernel
theorem dX10_poolOf_14 : decode cX10_poolOf 14 = .ok (.iload_n 2, 1) := by decide +kernel
theorem dX10_poolOf_15 : decode cX10_poolOf 15 = .ok (.iaload, 1) := by decide +kernel
theorem dX10_poolOf_16 : decode cX10_poolOf 16 = .ok (.iload_n 1, 1) := by decide +kernel
theorem dX10_poolOf_17 : decode cX10_poolOf 17 = .ok (.if_icmp .ne 5, 3) := by decide +kernel
theorem dX10_poolOf_20 : decode cX10_poolOf 20 = .ok (.iload_n 2, 1) := by decide +kernel
theorem dX10_poolOf_21 : decode cX10_poolOf 21 = .ok (.ireturn, 1) := by decide +kernel
theorem dX10_poolOf_22 : decode cX10_poolOf 22 = .ok (.iinc 2 1, 3) := by decide +kernel
theorem dX10_poolOf_25 : decode cX10_poolOf 25 = .ok (.goto (-23), 3) := by decide +kernel
theorem dX10_poolOf_28 : decode cX10_poolOf 28 = .ok (.iconst (-1), 1) := by decide +kernel
theorem dX10_poolOf_29 : decode cX10_poolOf 29 = .ok (.ireturn, 1) := by decide +kernel
abbrev rm_Works_poolOf : Room := { frames := 0, cells := 0, slots := 0, locals := 0 }
def Works_poolOf_l2 (σ : Sg) (w : Nat) (x1 : Int32) (x2 : Int32) : Option (Int32 ⊕ (Int32 ⊕ Int32)) :=
  zgt σ w 3 fun v4 =>
  if v4 ≤ x2 then (
    some (.inr (.inr x2))
  ) else (
    zrd σ (w + 1) 8 x2 fun v15 =>
    if v15 = x1 then (
      some (.inr (.inl x2))
    ) else (
      zlt (x2 + 1) fun v22 =>
      some (.inl v22)
    )
  )
set_option maxRecDepth 20000 in
theorem t_Works_poolOf_l2 {X : Zx} {Q : State → Prop} {σ : Sg} {w : Nat} {x1 : Int32} {x2 : Int32} (ok : Zok X cX10_poolOf RX10 rm_Works_poolOf 198 3) (hw : zI_Works w 198) {out : (Int32 ⊕ (Int32 ⊕ Int32))} (hf : Works_poolOf_l2 σ w x1 x2 = some out) (hk : zout (fun (s : Int32) => ZAt X Q 0 0 2 σ [(0, .ref (X.ad w)), (1, .int x1), (2, .int s)] []) (zout (fun (r : Int32) => ZrI cX10_poolOf X Q r σ) (fun (s : Int32) => ZAt X Q 0 0 28 σ [] [])) out) : ZAt X Q 0 0 2 σ [(0, .ref (X.ad w)), (1, .int x1), (2, .int x2)] [] := by
  unfold Works_poolOf_l2 at hf
  obtain ⟨hw_0, hw_1, hw_2, hw_3, hw_4, hw_5, hw_6, hw_7, hw_8, hw_9, hw_10, hw_11, hw_12, hw_13, hw_14, hw_15, hw_16, hw_17, hw_18, hw_19, hw_20, hw_21, hw_22, hw_23, hw_24, hw_25⟩ := id hw
  refine z_iload_n ok dX10_poolOf_2 2 rfl ?_
  refine z_aload_n ok dX10_poolOf_3 0 rfl ?_
  refine z_geti ok hw_0 zc_10 hin_10 3 (by decide) fl_10_56 rfl dX10_poolOf_4 hf (fun v4 hf => ?_)
  refine z_icmp_ge (tgt := 28) ok dX10_poolOf_7 (by decide) hf (fun _ hf => ?_) (fun _ hf => ?_)
  · obtain rfl := Option.some.inj hf
    exact z_sub [] rfl hk
  · refine z_aload_n ok dX10_poolOf_10 0 rfl ?_
    refine z_getr (q := (w + 1)) ok hw_0 zc_10 hin_10 4 (by decide) fl_10_9 rfl dX10_poolOf_11 ?_
    refine z_iload_n ok dX10_poolOf_14 2 rfl ?_
    refine z_iald ok hw_1 dX10_poolOf_15 hf (fun v15 hf => ?_)
    refine z_iload_n ok dX10_poolOf_16 1 rfl ?_
    refine z_icmp_ne (tgt := 22) ok dX10_poolOf_17 (by decide) hf (fun _ hf => ?_) (fun _ hf => ?_)
    · refine z_iload_n ok dX10_poolOf_20 2 rfl ?_
      obtain rfl := Option.some.inj hf
      exact hk _ _ dX10_poolOf_21
    · refine z_iinc (w := 1) (lv' := fun v22 => [(2, .int v22), (0, .ref (X.ad w)), (1, .int x1)]) ok dX10_poolOf_22 2 rfl (by decide) (by decide) (fun _ => rfl) hf (fun v22 hf => ?_)
      refine z_goto (tgt := 2) ok dX10_poolOf_25 (by decide) ?_
      obtain rfl := Option.some.inj hf
      exact z_sub [1, 2, 0] rfl hk
def Works_poolOf (σ : Sg) (w : Nat) (x1 : Int32) : Option Int32 :=
  zlt 0 fun v1 =>
  (zit (fun (s : Int32) => Works_poolOf_l2 σ w x1 s) zFU v1).bind fun r => r.elim (fun r =>
  some r
  ) (fun r =>
  some (-1)
  )
set_option maxRecDepth 20000 in
theorem t_Works_poolOf {X : Zx} {Q : State → Prop} {σ : Sg} {w : Nat} {x1 : Int32} (ok : Zok X cX10_poolOf RX10 rm_Works_poolOf 198 3) (hw : zI_Works w 198) {out : Int32} (hf : Works_poolOf σ w x1 = some out) (hk : ZrI cX10_poolOf X Q out σ) : ZAt X Q 0 0 0 σ [(0, .ref (X.ad w)), (1, .int x1)] [] := by
  unfold Works_poolOf at hf
  obtain ⟨hw_0, hw_1, hw_2, hw_3, hw_4, hw_5, hw_6, hw_7, hw_8, hw_9, hw_10, hw_11, hw_12, hw_13, hw_14, hw_15, hw_16, hw_17, hw_18, hw_19, hw_20, hw_21, hw_22, hw_23, hw_24, hw_25⟩ := id hw
  refine z_iconst (v := 0) ok dX10_poolOf_0 (by decide) ?_
  refine z_nm hf (fun v1 hf => ?_)
  refine z_istore_n (lv' := [(2, .int v1), (0, .ref (X.ad w)), (1, .int x1)]) ok dX10_poolOf_1 (by decide) rfl ?_
  refine z_call hf (fun r hr hf => ?_)
  refine z_sub [1, 2, 0] rfl (z_iter (fun (s : Int32) => σ) (fun (s : Int32) => [(0, .ref (X.ad w)), (1, .int x1), (2, .int s)]) (fun s o h1 h2 => t_Works_poolOf_l2 ok hw h1 h2) _ _ _ hr ?_)
  cases r with
  | inl r =>
    obtain rfl := Option.some.inj hf
    exact hk
  | inr r =>
    simp only [Sum.elim_inr] at hf
    show ZAt X Q 0 0 28 σ [] []
    refine z_iconst (v := (-1)) ok dX10_poolOf_28 (by decide) ?_
    obtain rfl := Option.some.inj hf
    exact hk _ _ dX10_poolOf_29
theorem c_Works_poolOf {σ : Sg} {w : Nat} {x1 : Int32} (hw : zI_Works w 198) {r : Int32} (h : Works_poolOf σ w x1 = some r) : ZcI yX10_poolOf cX10_poolOf 3 .int rm_Works_poolOf 198 (fun ad => [.ref (ad w), .int x1]) σ r σ :=
  zmetI pn_10 rfl (fun _ => rfl) (fun _ => Nat.le_of_ble_eq_true rfl) rfl (fun X Q ok hk => t_Works_poolOf ok hw h hk)
theorem dX10_outletOf_0 : decode cX10_outletOf 0 = .ok (.iconst 0, 1) := by decide +kernel
theorem dX10_outletOf_1 : decode cX10_outletOf 1 = .ok (.istore_n 2, 1) := by decide +kernel
theorem dX10_outletOf_2 : decode cX10_outletOf 2 = .ok (.iload_n 2, 1) := by decide +kernel
theorem dX10_outletOf_3 : decode cX10_outletOf 3 = .ok (.aload_n 0, 1) := by decide +kernel
theorem dX10_outletOf_4 : decode cX10_outletOf 4 = .ok (.getfield 59, 3) := by decide +kernel
theorem dX10_outletOf_7 : decode cX10_outletOf 7 = .ok (.if_icmp .ge 21, 3) := by decide +kernel
theorem dX10_outletOf_10 : decode cX10_outletOf 10 = .ok (.aload_n 0, 1) := by decide +kernel
theorem dX10_outletOf_11 : decode cX10_outletOf 11 = .ok (.getfield 23, 3) := by decide +kernel
theorem dX10_outletOf_14 : decode cX10_outletOf 14 = .ok (.iload_n 2, 1) := by decide +kernel
theorem dX10_outletOf_15 : decode cX10_outletOf 15 = .ok (.iaload, 1) := by decide +kernel
theorem dX10_outletOf_16 : decode cX10_outletOf 16 = .ok (.iload_n 1, 1) := by decide +kernel
theorem dX10_outletOf_17 : decode cX10_outletOf 17 = .ok (.if_icmp .ne 5, 3) := by decide +kernel
theorem dX10_outletOf_20 : decode cX10_outletOf 20 = .ok (.iload_n 2, 1) := by decide +kernel
theorem dX10_outletOf_21 : decode cX10_outletOf 21 = .ok (.ireturn, 1) := by decide +kernel
theorem dX10_outletOf_22 : decode cX10_outletOf 22 = .ok (.iinc 2 1, 3) := by decide +kernel
theorem dX10_outletOf_25 : decode cX10_outletOf 25 = .ok (.goto (-23), 3) := by decide +kernel
theorem dX10_outletOf_28 : decode cX10_outletOf 28 = .ok (.iconst (-1), 1) := by decide +kernel
theorem dX10_outletOf_29 : decode cX10_outletOf 29 = .ok (.ireturn, 1) := by decide +kernel
abbrev rm_Works_outletOf : Room := { frames := 0, cells := 0, slots := 0, locals := 0 }
def Works_outletOf_l2 (σ : Sg) (w : Nat) (x1 : Int32) (x2 : Int32) : Option (Int32 ⊕ (Int32 ⊕ Int32)) :=
  zgt σ w 7 fun v4 =>
  if v4 ≤ x2 then (
    some (.inr (.inr x2))
  ) else (
    zrd σ (w + 13) 10 x2 fun v15 =>
    if v15 = x1 then (
      some (.inr (.inl x2))
    ) else (
      zlt (x2 + 1) fun v22 =>
      some (.inl v22)
    )
  )
set_option maxRecDepth 20000 in
theorem t_Works_outletOf_l2 {X : Zx} {Q : State → Prop} {σ : Sg} {w : Nat} {x1 : Int32} {x2 : Int32} (ok : Zok X cX10_outletOf RX10 rm_Works_outletOf 198 3) (hw : zI_Works w 198) {out : (Int32 ⊕ (Int32 ⊕ Int32))} (hf : Works_outletOf_l2 σ w x1 x2 = some out) (hk : zout (fun (s : Int32) => ZAt X Q 0 0 2 σ [(0, .ref (X.ad w)), (1, .int x1), (2, .int s)] []) (zout (fun (r : Int32) => ZrI cX10_outletOf X Q r σ) (fun (s : Int32) => ZAt X Q 0 0 28 σ [] [])) out) : ZAt X Q 0 0 2 σ [(0, .ref (X.ad w)), (1, .int x1), (2, .int x2)] [] := by
  unfold Works_outletOf_l2 at hf
  obtain ⟨hw_0, hw_1, hw_2, hw_3, hw_4, hw_5, hw_6, hw_7, hw_8, hw_9, hw_10, hw_11, hw_12, hw_13, hw_14, hw_15, hw_16, hw_17, hw_18, hw_19, hw_20, hw_21, hw_22, hw_23, hw_24, hw_25⟩ := id hw
  refine z_iload_n ok dX10_outletOf_2 2 rfl ?_
  refine z_aload_n ok dX10_outletOf_3 0 rfl ?_
  refine z_geti ok hw_0 zc_10 hin_10 7 (by decide) fl_10_59 rfl dX10_outletOf_4 hf (fun v4 hf => ?_)
  refine z_icmp_ge (tgt := 28) ok dX10_outletOf_7 (by decide) hf (fun _ hf => ?_) (fun _ hf => ?_)
  · obtain rfl := Option.some.inj hf
    exact z_sub [] rfl hk
  · refine z_aload_n ok dX10_outletOf_10 0 rfl ?_
    refine z_getr (q := (w + 13)) ok hw_0 zc_10 hin_10 8 (by decide) fl_10_23 rfl dX10_outletOf_11 ?_
    refine z_iload_n ok dX10_outletOf_14 2 rfl ?_
    refine z_iald ok hw_13 dX10_outletOf_15 hf (fun v15 hf => ?_)
    refine z_iload_n ok dX10_outletOf_16 1 rfl ?_
    refine z_icmp_ne (tgt := 22) ok dX10_outletOf_17 (by decide) hf (fun _ hf => ?_) (fun _ hf => ?_)
    · refine z_iload_n ok dX10_outletOf_20 2 rfl ?_
      obtain rfl := Option.some.inj hf
      exact hk _ _ dX10_outletOf_21
    · refine z_iinc (w := 1) (lv' := fun v22 => [(2, .int v22), (0, .ref (X.ad w)), (1, .int x1)]) ok dX10_outletOf_22 2 rfl (by decide) (by decide) (fun _ => rfl) hf (fun v22 hf => ?_)
      refine z_goto (tgt := 2) ok dX10_outletOf_25 (by decide) ?_
      obtain rfl := Option.some.inj hf
      exact z_sub [1, 2, 0] rfl hk
def Works_outletOf (σ : Sg) (w : Nat) (x1 : Int32) : Option Int32 :=
  zlt 0 fun v1 =>
  (zit (fun (s : Int32) => Works_outletOf_l2 σ w x1 s) zFU v1).bind fun r => r.elim (fun r =>
  some r
  ) (fun r =>
  some (-1)
  )
set_option maxRecDepth 20000 in
theorem t_Works_outletOf {X : Zx} {Q : State → Prop} {σ : Sg} {w : Nat} {x1 : Int32} (ok : Zok X cX10_outletOf RX10 rm_Works_outletOf 198 3) (hw : zI_Works w 198) {out : Int32} (hf : Works_outletOf σ w x1 = some out) (hk : ZrI cX10_outletOf X Q out σ) : ZAt X Q 0 0 0 σ [(0, .ref (X.ad w)), (1, .int x1)] [] := by
  unfold Works_outletOf at hf
  obtain ⟨hw_0, hw_1, hw_2, hw_3, hw_4, hw_5, hw_6, hw_7, hw_8, hw_9, hw_10, hw_11, hw_12, hw_13, hw_14, hw_15, hw_16, hw_17, hw_18, hw_19, hw_20, hw_21, hw_22, hw_23, hw_24, hw_25⟩ := id hw
  refine z_iconst (v := 0) ok dX10_outletOf_0 (by decide) ?_
  refine z_nm hf (fun v1 hf => ?_)
  refine z_istore_n (lv' := [(2, .int v1), (0, .ref (X.ad w)), (1, .int x1)]) ok dX10_outletOf_1 (by decide) rfl ?_
  refine z_call hf (fun r hr hf => ?_)
  refine z_sub [1, 2, 0] rfl (z_iter (fun (s : Int32) => σ) (fun (s : Int32) => [(0, .ref (X.ad w)), (1, .int x1), (2, .int s)]) (fun s o h1 h2 => t_Works_outletOf_l2 ok hw h1 h2) _ _ _ hr ?_)
  cases r with
  | inl r =>
    obtain rfl := Option.some.inj hf
    exact hk
  | inr r =>
    simp only [Sum.elim_inr] at hf
    show ZAt X Q 0 0 28 σ [] []
    refine z_iconst (v := (-1)) ok dX10_outletOf_28 (by decide) ?_
    obtain rfl := Option.some.inj hf
    exact hk _ _ dX10_outletOf_29
theorem c_Works_outletOf {σ : Sg} {w : Nat} {x1 : Int32} (hw : zI_Works w 198) {r : Int32} (h : Works_outletOf σ w x1 = some r) : ZcI yX10_outletOf cX10_outletOf 3 .int rm_Works_outletOf 198 (fun ad => [.ref (ad w), .int x1]) σ r σ :=
  zmetI pn_10 rfl (fun _ => rfl) (fun _ => Nat.le_of_ble_eq_true rfl) rfl (fun X Q ok hk => t_Works_outletOf ok hw h hk)
theorem dX5_isNew_0 : decode cX5_isNew 0 = .ok (.aload_n 0, 1) := by decide +kernel
theorem dX5_isNew_1 : decode cX5_isNew 1 = .ok (.getfield 19, 3) := by decide +kernel
theorem dX5_isNew_4 : decode cX5_isNew 4 = .ok (.iload_n 1, 1) := by decide +kernel
theorem dX5_isNew_5 : decode cX5_isNew 5 = .ok (.invokevirtual 192, 3) := by decide +kernel
theorem dX5_isNew_8 : decode cX5_isNew 8 = .ok (.iconst (-1), 1) := by decide +kernel
theorem dX5_isNew_9 : decode cX5_isNew 9 = .ok (.if_icmp .ne 19, 3) := by decide +kernel
theorem dX5_isNew_12 : decode cX5_isNew 12 = .ok (.aload_n 0, 1) := by decide +kernel
theorem dX5_isNew_13 : decode cX5_isNew 13 = .ok (.getfield 19, 3) := by decide +kernel
theorem dX5_isNew_16 : decode cX5_isNew 16 = .ok (.iload_n 1, 1) := by decide +kernel
theorem dX5_isNew_17 : decode cX5_isNew 17 = .ok (.invokevirtual 200, 3) := by decide +kernel
theorem dX5_isNew_20 : decode cX5_isNew 20 = .ok (.iconst (-1), 1) := by decide +kernel
theorem dX5_isNew_21 : decode cX5_isNew 21 = .ok (.if_icmp .ne 7, 3) := by decide +kernel
theorem dX5_isNew_24 : decode cX5_isNew 24 = .ok (.iconst 1, 1) := by decide +kernel
theorem dX5_isNew_25 : decode cX5_isNew 25 = .ok (.goto 4, 3) := by decide +kernel
theorem dX5_isNew_28 : decode cX5_isNew 28 = .ok (.iconst 0, 1) := by decide +kernel
theorem dX5_isNew_29 : decode cX5_isNew 29 = .ok (.ireturn, 1) := by decide +kernel
abbrev rm_Reader_isNew : Room := { frames := 1, cells := 0, slots := 0, locals := 22 }
def Reader_isNew (σ : Sg) (x1 : Int32) : Option Bool :=
  zmr2 3 29 (σ 2 5) fun q1 =>
  (Works_poolOf σ q1 x1).bind fun r5 =>
  if r5 = (-1) then (
    zmr2 3 29 (σ 2 5) fun q13 =>
    (Works_outletOf σ q13 x1).bind fun r17 =>
    if r17 = (-1) then (
      some true
    ) else (
      some false
    )
  ) else (
    some false
  )
set_option maxRecDepth 20000 in
theorem t_Reader_isNew {X : Zx} {Q : State → Prop} {σ : Sg} {x1 : Int32} (ok : Zok X cX5_isNew RX5 rm_Reader_isNew 198 2)  {out : Bool} (hf : Reader_isNew σ x1 = some out) (hk : ZrI cX5_isNew X Q (zb out) σ) : ZAt X Q 0 0 0 σ [(0, .ref (X.ad 2)), (1, .int x1)] [] := by
  unfold Reader_isNew at hf
  refine z_aload_n ok dX5_isNew_0 0 rfl ?_
  refine z_getm2 (p := 3) (q := 29) ok kc_2 zc_5 hin_5 5 (by decide) fl_5_19 rfl (by decide) (by decide) dX5_isNew_1 hf (fun q1 e1 hf => ?_)
  have hq1 : zI_Works q1 198 := by rcases e1 with rfl | rfl; exact kI_Works_3; exact kI_Works_29
  obtain ⟨hq1_0, hq1_1, hq1_2, hq1_3, hq1_4, hq1_5, hq1_6, hq1_7, hq1_8, hq1_9, hq1_10, hq1_11, hq1_12, hq1_13, hq1_14, hq1_15, hq1_16, hq1_17, hq1_18, hq1_19, hq1_20, hq1_21, hq1_22, hq1_23, hq1_24, hq1_25⟩ := id hq1
  refine z_iload_n ok dX5_isNew_4 1 rfl ?_
  refine z_call hf (fun r5 h5 hf => ?_)
  refine z_cV (As := [.int x1]) (rest := []) (w := q1) ok hq1_0 zc_10 (c_Works_poolOf hq1 h5) rfl ⟨ml_5_192, w_Works_poolOf⟩ hy_Works_poolOf ⟨rfl, rfl⟩ ⟨Nat.le_of_ble_eq_true rfl, Nat.le_of_ble_eq_true rfl⟩ ⟨Nat.zero_le _, Nat.zero_le _⟩ rfl (Nat.le_of_ble_eq_true rfl) dX5_isNew_5 ?_
  refine z_iconst (v := (-1)) ok dX5_isNew_8 (by decide) ?_
  refine z_icmp_ne (tgt := 28) ok dX5_isNew_9 (by decide) hf (fun _ hf => ?_) (fun _ hf => ?_)
  · refine z_aload_n ok dX5_isNew_12 0 rfl ?_
    refine z_getm2 (p := 3) (q := 29) ok kc_2 zc_5 hin_5 5 (by decide) fl_5_19 rfl (by decide) (by decide) dX5_isNew_13 hf (fun q13 e13 hf => ?_)
    have hq13 : zI_Works q13 198 := by rcases e13 with rfl | rfl; exact kI_Works_3; exact kI_Works_29
    obtain ⟨hq13_0, hq13_1, hq13_2, hq13_3, hq13_4, hq13_5, hq13_6, hq13_7, hq13_8, hq13_9, hq13_10, hq13_11, hq13_12, hq13_13, hq13_14, hq13_15, hq13_16, hq13_17, hq13_18, hq13_19, hq13_20, hq13_21, hq13_22, hq13_23, hq13_24, hq13_25⟩ := id hq13
    refine z_iload_n ok dX5_isNew_16 1 rfl ?_
    refine z_call hf (fun r17 h17 hf => ?_)
    refine z_cV (As := [.int x1]) (rest := []) (w := q13) ok hq13_0 zc_10 (c_Works_outletOf hq13 h17) rfl ⟨ml_5_200, w_Works_outletOf⟩ hy_Works_outletOf ⟨rfl, rfl⟩ ⟨Nat.le_of_ble_eq_true rfl, Nat.le_of_ble_eq_true rfl⟩ ⟨Nat.zero_le _, Nat.zero_le _⟩ rfl (Nat.le_of_ble_eq_true rfl) dX5_isNew_17 ?_
    refine z_iconst (v := (-1)) ok dX5_isNew_20 (by decide) ?_
    refine z_icmp_ne (tgt := 28) ok dX5_isNew_21 (by decide) hf (fun _ hf => ?_) (fun _ hf => ?_)
    · refine z_iconst (v := 1) ok dX5_isNew_24 (by decide) ?_
      refine z_goto (tgt := 29) ok dX5_isNew_25 (by decide) ?_
      obtain rfl := Option.some.inj hf
      exact hk _ _ dX5_isNew_29
    · refine z_iconst (v := 0) ok dX5_isNew_28 (by decide) ?_
      obtain rfl := Option.some.inj hf
      exact hk _ _ dX5_isNew_29
  · refine z_iconst (v := 0) ok dX5_isNew_28 (by decide) ?_
    obtain rfl := Option.some.inj hf
    exact hk _ _ dX5_isNew_29
theorem c_Reader_isNew {σ : Sg} {x1 : Int32} {r : Bool} (h : Reader_isNew σ x1 = some r) : ZcI yX5_isNew cX5_isNew 2 .boolean rm_Reader_isNew 198 (fun ad => [.ref (ad 2), .int x1]) σ (zb r) σ :=
  zmetI pn_5 rfl (fun _ => rfl) (fun _ => Nat.le_of_ble_eq_true rfl) (zb_nar _) (fun X Q ok hk => t_Reader_isNew ok h hk)
theorem dX5_askName_0 : decode cX5_askName 0 = .ok (.aload_n 0, 1) := by decide +kernel
theorem dX5_askName_1 : decode cX5_askName 1 = .ok (.getfield 35, 3) := by decide +kernel
theorem dX5_askName_4 : decode cX5_askName 4 = .ok (.ifCond .ne 17, 3) := by decide +kernel
theorem dX5_askName_7 : decode cX5_askName 7 = .ok (.iload_n 1, 1) := by decide +kernel
theorem dX5_askName_8 : decode cX5_askName 8 = .ok (.ifCond .ne 13, 3) := by decide +kernel
theorem dX5_askName_11 : decode cX5_askName 11 = .ok (.aload_n 0, 1) := by decide +kernel
theorem dX5_askName_12 : decode cX5_askName 12 = .ok (.iconst 3, 1) := by decide +kernel
theorem dX5_askName_13 : decode cX5_askName 13 = .ok (.aload_n 0, 1) := by decide +kernel
theorem dX5_askName_14 : decode cX5_askName 14 = .ok (.getfield 231, 3) := by decide +kernel
theorem dX5_askName_17 : decode cX5_askName 17 = .ok (.invokevirtual 51, 3) := by decide +kernel
theorem dX5_askName_20 : decode cX5_askName 20 = .ok (.pop, 1) := by decide +kernel
theorem dX5_askName_21 : decode cX5_askName 21 = .ok (.return_, 1) := by decide +kernel
abbrev rm_Reader_askName : Room := { frames := 1, cells := 0, slots := 0, locals := 22 }
def Reader_askName (σ : Sg) (x1 : Int32) : Option Sg :=
  zgt σ 2 6 fun v1 =>
  if v1 = 0 then (
    if x1 = 0 then (
      zgt σ 2 4 fun v14 =>
      (Reader_fail σ 3 v14).bind fun r17 =>
      some r17.2
    ) else (
      some σ
    )
  ) else (
    some σ
  )
set_option maxRecDepth 20000 in
theorem t_Reader_askName {X : Zx} {Q : State → Prop} {σ : Sg} {x1 : Int32} (ok : Zok X cX5_askName RX5 rm_Reader_askName 198 2)  {out : Sg} (hf : Reader_askName σ x1 = some out) (hk : ZrV cX5_askName X Q out) : ZAt X Q 0 0 0 σ [(0, .ref (X.ad 2)), (1, .int x1)] [] := by
  unfold Reader_askName at hf
  refine z_aload_n ok dX5_askName_0 0 rfl ?_
  refine z_geti ok kc_2 zc_5 hin_5 6 (by decide) fl_5_35 rfl dX5_askName_1 hf (fun v1 hf => ?_)
  refine z_if_ne (tgt := 21) ok dX5_askName_4 (by decide) hf (fun _ hf => ?_) (fun _ hf => ?_)
  · refine z_iload_n ok dX5_askName_7 1 rfl ?_
    refine z_if_ne (tgt := 21) ok dX5_askName_8 (by decide) hf (fun _ hf => ?_) (fun _ hf => ?_)
    · refine z_aload_n ok dX5_askName_11 0 rfl ?_
      refine z_iconst (v := 3) ok dX5_askName_12 (by decide) ?_
      refine z_aload_n ok dX5_askName_13 0 rfl ?_
      refine z_geti ok kc_2 zc_5 hin_5 4 (by decide) fl_5_231 rfl dX5_askName_14 hf (fun v14 hf => ?_)
      refine z_call hf (fun r17 h17 hf => ?_)
      refine z_cV (As := [.int 3, .int v14]) (rest := []) (w := 2) ok kc_2 zc_5 (c_Reader_fail h17) rfl ⟨ml_5_51, w_Reader_fail⟩ hy_Reader_fail ⟨rfl, rfl⟩ ⟨Nat.le_of_ble_eq_true rfl, Nat.le_of_ble_eq_true rfl⟩ ⟨Nat.zero_le _, Nat.zero_le _⟩ rfl (Nat.le_of_ble_eq_true rfl) dX5_askName_17 ?_
      refine z_pop ok dX5_askName_20 rfl ?_
      obtain rfl := Option.some.inj hf
      exact hk _ _ dX5_askName_21
    · obtain rfl := Option.some.inj hf
      exact hk _ _ dX5_askName_21
  · obtain rfl := Option.some.inj hf
    exact hk _ _ dX5_askName_21
theorem c_Reader_askName {σ : Sg} {x1 : Int32} {r : Sg} (h : Reader_askName σ x1 = some r) : ZcV yX5_askName cX5_askName 2 rm_Reader_askName 198 (fun ad => [.ref (ad 2), .int x1]) σ r :=
  zmetV pn_5 rfl (fun _ => rfl) (fun _ => Nat.le_of_ble_eq_true rfl) (fun X Q ok hk => t_Reader_askName ok h hk)
theorem dX3_add_0 : decode cX3_add 0 = .ok (.aload_n 0, 1) := by decide +kernel
theorem dX3_add_1 : decode cX3_add 1 = .ok (.getfield 21, 3) := by decide +kernel
theorem dX3_add_4 : decode cX3_add 4 = .ok (.bipush 16, 2) := by decide +kernel
theorem dX3_add_6 : decode cX3_add 6 = .ok (.if_icmp .lt 5, 3) := by decide +kernel
theorem dX3_add_9 : decode cX3_add 9 = .ok (.iconst (-1), 1) := by decide +kernel
theorem dX3_add_10 : decode cX3_add 10 = .ok (.ireturn, 1) := by decide +kernel
theorem dX3_add_11 : decode cX3_add 11 = .ok (.aload_n 0, 1) := by decide +kernel
theorem dX3_add_12 : decode cX3_add 12 = .ok (.getfield 9, 3) := by decide +kernel
theorem dX3_add_15 : decode cX3_add 15 = .ok (.aload_n 0, 1) := by decide +kernel
theorem dX3_add_16 : decode cX3_add 16 = .ok (.getfield 21, 3) := by decide +kernel
theorem dX3_add_19 : decode cX3_add 19 = .ok (.iload_n 1, 1) := by decide +kernel
theorem dX3_add_20 : decode cX3_add 20 = .ok (.iastore, 1) := by decide +kernel
theorem dX3_add_21 : decode cX3_add 21 = .ok (.aload_n 0, 1) := by decide +kernel
theorem dX3_add_22 : decode cX3_add 22 = .ok (.getfield 15, 3) := by decide +kernel
theorem dX3_add_25 : decode cX3_add 25 = .ok (.aload_n 0, 1) := by decide +kernel
theorem dX3_add_26 : decode cX3_add 26 = .ok (.getfield 21, 3) := by decide +kernel
theorem dX3_add_29 : decode cX3_add 29 = .ok (.iload_n 2, 1) := by decide +kernel
theorem dX3_add_30 : decode cX3_add 30 = .ok (.iastore, 1) := by decide +kernel
theorem dX3_add_31 : decode cX3_add 31 = .ok (.aload_n 0, 1) := by decide +kernel
theorem dX3_add_32 : decode cX3_add 32 = .ok (.getfield 18, 3) := by decide +kernel
theorem dX3_add_35 : decode cX3_add 35 = .ok (.aload_n 0, 1) := by decide +kernel
theorem dX3_add_36 : decode cX3_add 36 = .ok (.getfield 21, 3) := by decide +kernel
theorem dX3_add_39 : decode cX3_add 39 = .ok (.iload_n 3, 1) := by decide +kernel
theorem dX3_add_40 : decode cX3_add 40 = .ok (.iastore, 1) := by decide +kernel
theorem dX3_add_41 : decode cX3_add 41 = .ok (.aload_n 0, 1) := by decide +kernel
theorem dX3_add_42 : decode cX3_add 42 = .ok (.dup, 1) := by decide +kernel
theorem dX3_add_43 : decode cX3_add 43 = .ok (.getfield 21, 3) := by decide +kernel
theorem dX3_add_46 : decode cX3_add 46 = .ok (.iconst 1, 1) := by decide +kernel
theorem dX3_add_47 : decode cX3_add 47 = .ok (.iadd, 1) := by decide +kernel
theorem dX3_add_48 : decode cX3_add 48 = .ok (.putfield 21, 3) := by decide +kernel
theorem dX3_add_51 : decode cX3_add 51 = .ok (.aload_n 0, 1) := by decide +kernel
theorem dX3_add_52 : decode cX3_add 52 = .ok (.getfield 21, 3) := by decide +kernel
theorem dX3_add_55 : decode cX3_add 55 = .ok (.iconst 1, 1) := by decide +kernel
theorem dX3_add_56 : decode cX3_add 56 = .ok (.isub, 1) := by decide +kernel
theorem dX3_add_57 : decode cX3_add 57 = .ok (.ireturn, 1) := by decide +kernel
abbrev rm_Orders_add : Room := { frames := 0, cells := 0, slots := 0, locals := 0 }
def Orders_add (σ : Sg) (w : Nat) (x1 : Int32) (x2 : Int32) (x3 : Int32) : Option (Int32 × Sg) :=
  zgt σ w 0 fun v1 =>
  if v1 < 16 then (
    zgt σ w 0 fun v16 =>
    zwr σ (w + 1) 16 v16 x1 fun σ20 =>
    zgt σ20 w 0 fun v26 =>
    zwr σ20 (w + 2) 16 v26 x2 fun σ30 =>
    zgt σ30 w 0 fun v36 =>
    zwr σ30 (w + 3) 16 v36 x3 fun σ40 =>
    zgt σ40 w 0 fun v43 =>
    zpt σ40 w 0 (v43 + 1) fun σ48 =>
    zgt σ48 w 0 fun v52 =>
    some ((v52 - 1), σ48)
  ) else (
    some ((-1), σ)
  )
set_option maxRecDepth 20000 in
theorem t_Orders_add {X : Zx} {Q : State → Prop} {σ : Sg} {w : Nat} {x1 : Int32} {x2 : Int32} {x3 : Int32} (ok : Zok X cX3_add RX3 rm_Orders_add 198 4) (hw : zI_Orders w 198) {out : (Int32 × Sg)} (hf : Orders_add σ w x1 x2 x3 = some out) (hk : ZrI cX3_add X Q out.1 out.2) : ZAt X Q 0 0 0 σ [(0, .ref (X.ad w)), (1, .int x1), (2, .int x2), (3, .int x3)] [] := by
  unfold Orders_add at hf
  obtain ⟨hw_0, hw_1, hw_2, hw_3⟩ := id hw
  refine z_aload_n ok dX3_add_0 0 rfl ?_
  refine z_geti ok hw_0 zc_3 hin_3 0 (by decide) fl_3_21 rfl dX3_add_1 hf (fun v1 hf => ?_)
  refine z_bipush (v := 16) ok dX3_add_4 (by decide) ?_
  refine z_icmp_lt (tgt := 11) ok dX3_add_6 (by decide) hf (fun _ hf => ?_) (fun _ hf => ?_)
  · refine z_aload_n ok dX3_add_11 0 rfl ?_
    refine z_getr (q := (w + 1)) ok hw_0 zc_3 hin_3 1 (by decide) fl_3_9 rfl dX3_add_12 ?_
    refine z_aload_n ok dX3_add_15 0 rfl ?_
    refine z_geti ok hw_0 zc_3 hin_3 0 (by decide) fl_3_21 rfl dX3_add_16 hf (fun v16 hf => ?_)
    refine z_iload_n ok dX3_add_19 1 rfl ?_
    refine z_iast ok hw_1 dX3_add_20 hf (fun σ20 hf => ?_)
    refine z_aload_n ok dX3_add_21 0 rfl ?_
    refine z_getr (q := (w + 2)) ok hw_0 zc_3 hin_3 2 (by decide) fl_3_15 rfl dX3_add_22 ?_
    refine z_aload_n ok dX3_add_25 0 rfl ?_
    refine z_geti ok hw_0 zc_3 hin_3 0 (by decide) fl_3_21 rfl dX3_add_26 hf (fun v26 hf => ?_)
    refine z_iload_n ok dX3_add_29 2 rfl ?_
    refine z_iast ok hw_2 dX3_add_30 hf (fun σ30 hf => ?_)
    refine z_aload_n ok dX3_add_31 0 rfl ?_
    refine z_getr (q := (w + 3)) ok hw_0 zc_3 hin_3 3 (by decide) fl_3_18 rfl dX3_add_32 ?_
    refine z_aload_n ok dX3_add_35 0 rfl ?_
    refine z_geti ok hw_0 zc_3 hin_3 0 (by decide) fl_3_21 rfl dX3_add_36 hf (fun v36 hf => ?_)
    refine z_iload_n ok dX3_add_39 3 rfl ?_
    refine z_iast ok hw_3 dX3_add_40 hf (fun σ40 hf => ?_)
    refine z_aload_n ok dX3_add_41 0 rfl ?_
    refine z_dup ok dX3_add_42 rfl ?_
    refine z_geti ok hw_0 zc_3 hin_3 0 (by decide) fl_3_21 rfl dX3_add_43 hf (fun v43 hf => ?_)
    refine z_iconst (v := 1) ok dX3_add_46 (by decide) ?_
    refine z_iadd ok dX3_add_47 ?_
    refine z_puti ok hw_0 zc_3 hin_3 tyX3 tyX3_ok nmX3 0 (by decide) fl_3_21 rfl rfl (tyX3_ok 0 (by decide)) dX3_add_48 hf (fun σ48 hf => ?_)
    refine z_aload_n ok dX3_add_51 0 rfl ?_
    refine z_geti ok hw_0 zc_3 hin_3 0 (by decide) fl_3_21 rfl dX3_add_52 hf (fun v52 hf => ?_)
    refine z_iconst (v := 1) ok dX3_add_55 (by decide) ?_
    refine z_isub ok dX3_add_56 ?_
    obtain rfl := Option.some.inj hf
    exact hk _ _ dX3_add_57
  · refine z_iconst (v := (-1)) ok dX3_add_9 (by decide) ?_
    obtain rfl := Option.some.inj hf
    exact hk _ _ dX3_add_10
theorem c_Orders_add {σ : Sg} {w : Nat} {x1 : Int32} {x2 : Int32} {x3 : Int32} (hw : zI_Orders w 198) {r : (Int32 × Sg)} (h : Orders_add σ w x1 x2 x3 = some r) : ZcI yX3_add cX3_add 4 .int rm_Orders_add 198 (fun ad => [.ref (ad w), .int x1, .int x2, .int x3]) σ r.1 r.2 :=
  zmetI pn_3 rfl (fun _ => rfl) (fun _ => Nat.le_of_ble_eq_true rfl) rfl (fun X Q ok hk => t_Orders_add ok hw h hk)
theorem dX8_holds_0 : decode cX8_holds 0 = .ok (.iconst 0, 1) := by decide +kernel
theorem dX8_holds_1 : decode cX8_holds 1 = .ok (.istore_n 3, 1) := by decide +kernel
theorem dX8_holds_2 : decode cX8_holds 2 = .ok (.iload_n 3, 1) := by decide +kernel
theorem dX8_holds_3 : decode cX8_holds 3 = .ok (.aload_n 0, 1) := by decide +kernel
theorem dX8_holds_4 : decode cX8_holds 4 = .ok (.getfield 15, 3) := by decide +kernel
theorem dX8_holds_7 : decode cX8_holds 7 = .ok (.iload_n 1, 1) := by decide +kernel
theorem dX8_holds_8 : decode cX8_holds 8 = .ok (.iaload, 1) := by decide +kernel
theorem dX8_holds_9 : decode cX8_holds 9 = .ok (.if_icmp .ge 23, 3) := by decide +kernel
theorem dX8_holds_12 : decode cX8_holds 12 = .ok (.aload_n 0, 1) := by decide +kernel
theorem dX8_holds_13 : decode cX8_holds 13 = .ok (.getfield 20, 3) := by decide +kernel
theorem dX8_holds_16 : decode cX8_holds 16 = .ok (.iload_n 1, 1) := by decide +kernel
theorem dX8_holds_17 : decode cX8_holds 17 = .ok (.aaload, 1) := by decide +kernel
theorem dX8_holds_18 : decode cX8_holds 18 = .ok (.iload_n 3, 1) := by decide +kernel
theorem dX8_holds_19 : decode cX8_holds 19 = .ok (.iaload, 1) := by decide +kernel
theorem dX8_holds_20 : decode cX8_holds 20 = .ok (.iload_n 2, 1) := by decide +kernel
theorem dX8_holds_21 : decode cX8_holds 21 = .ok (.if_icmp .ne 5, 3) := by decide +kernel
theorem dX8_holds_24 : decode cX8_holds 24 = .ok (.iconst 1, 1) := by decide +kernel
theorem dX8_holds_25 : decode cX8_holds 25 = .ok (.ireturn, 1) := by decide +kernel
theorem dX8_holds_26 : decode cX8_holds 26 = .ok (.iinc 3 1, 3) := by decide +kernel
theorem dX8_holds_29 : decode cX8_holds 29 = .ok (.goto (-27), 3) := by decide +kernel
theorem dX8_holds_32 : decode cX8_holds 32 = .ok (.iconst 0, 1) := by decide +kernel
theorem dX8_holds_33 : decode cX8_holds 33 = .ok (.ireturn, 1) := by decide +kernel
abbrev rm_Turns_holds : Room := { frames := 0, cells := 0, slots := 0, locals := 0 }
def Turns_holds_l2 (σ : Sg) (w : Nat) (x1 : Int32) (x2 : Int32) (x3 : Int32) : Option (Int32 ⊕ (Bool ⊕ Int32)) :=
  zrd σ (w + 2) 2 x1 fun v8 =>
  if v8 ≤ x3 then (
    some (.inr (.inr x3))
  ) else (
    zelr (w + 4) 2 x1 fun q17 =>
    zrd σ q17 6 x3 fun v19 =>
    if v19 = x2 then (
      some (.inr (.inl true))
    ) else (
      zlt (x3 + 1) fun v26 =>
      some (.inl v26)
    )
  )
set_option maxRecDepth 20000 in
theorem t_Turns_holds_l2 {X : Zx} {Q : State → Prop} {σ : Sg} {w : Nat} {x1 : Int32} {x2 : Int32} {x3 : Int32} (ok : Zok X cX8_holds RX8 rm_Turns_holds 198 4) (hw : zI_Turns w 198) {out : (Int32 ⊕ (Bool ⊕ Int32))} (hf : Turns_holds_l2 σ w x1 x2 x3 = some out) (hk : zout (fun (s : Int32) => ZAt X Q 0 0 2 σ [(0, .ref (X.ad w)), (1, .int x1), (2, .int x2), (3, .int s)] []) (zout (fun (r : Bool) => ZrI cX8_holds X Q (zb r) σ) (fun (s : Int32) => ZAt X Q 0 0 32 σ [] [])) out) : ZAt X Q 0 0 2 σ [(0, .ref (X.ad w)), (1, .int x1), (2, .int x2), (3, .int x3)] [] := by
  unfold Turns_holds_l2 at hf
  obtain ⟨hw_0, hw_1, hw_2, hw_3, hw_4, hw_5⟩ := id hw
  refine z_iload_n ok dX8_holds_2 3 rfl ?_
  refine z_aload_n ok dX8_holds_3 0 rfl ?_
  refine z_getr (q := (w + 2)) ok hw_0 zc_8 hin_8 2 (by decide) fl_8_15 rfl dX8_holds_4 ?_
  refine z_iload_n ok dX8_holds_7 1 rfl ?_
  refine z_iald ok hw_2 dX8_holds_8 hf (fun v8 hf => ?_)
  refine z_icmp_ge (tgt := 32) ok dX8_holds_9 (by decide) hf (fun _ hf => ?_) (fun _ hf => ?_)
  · obtain rfl := Option.some.inj hf
    exact z_sub [] rfl hk
  · refine z_aload_n ok dX8_holds_12 0 rfl ?_
    refine z_getr (q := (w + 3)) ok hw_0 zc_8 hin_8 3 (by decide) fl_8_20 rfl dX8_holds_13 ?_
    refine z_iload_n ok dX8_holds_16 1 rfl ?_
    refine z_aaldr (p := (w + 4)) ok hw_3 (by decide) rfl dX8_holds_17 hf (fun q17 e17 hf => ?_)
    have hq17 : zk q17 198 (.inr (0, 6, [])) := (show ∀ q ∈ [(w + 4), (w + 5)], zk q 198 (.inr (0, 6, [])) from (List.forall_mem_cons.mpr ⟨hw_4, (List.forall_mem_cons.mpr ⟨hw_5, (fun _ h => absurd h List.not_mem_nil)⟩)⟩)) q17 e17
    refine z_iload_n ok dX8_holds_18 3 rfl ?_
    refine z_iald ok hq17 dX8_holds_19 hf (fun v19 hf => ?_)
    refine z_iload_n ok dX8_holds_20 2 rfl ?_
    refine z_icmp_ne (tgt := 26) ok dX8_holds_21 (by decide) hf (fun _ hf => ?_) (fun _ hf => ?_)
    · refine z_iconst (v := 1) ok dX8_holds_24 (by decide) ?_
      obtain rfl := Option.some.inj hf
      exact hk _ _ dX8_holds_25
    · refine z_iinc (w := 1) (lv' := fun v26 => [(3, .int v26), (0, .ref (X.ad w)), (1, .int x1), (2, .int x2)]) ok dX8_holds_26 3 rfl (by decide) (by decide) (fun _ => rfl) hf (fun v26 hf => ?_)
      refine z_goto (tgt := 2) ok dX8_holds_29 (by decide) ?_
      obtain rfl := Option.some.inj hf
      exact z_sub [1, 2, 3, 0] rfl hk
def Turns_holds (σ : Sg) (w : Nat) (x1 : Int32) (x2 : Int32) : Option Bool :=
  zlt 0 fun v1 =>
  (zit (fun (s : Int32) => Turns_holds_l2 σ w x1 x2 s) zFU v1).bind fun r => r.elim (fun r =>
  some r
  ) (fun r =>
  some false
  )
set_option maxRecDepth 20000 in
theorem t_Turns_holds {X : Zx} {Q : State → Prop} {σ : Sg} {w : Nat} {x1 : Int32} {x2 : Int32} (ok : Zok X cX8_holds RX8 rm_Turns_holds 198 4) (hw : zI_Turns w 198) {out : Bool} (hf : Turns_holds σ w x1 x2 = some out) (hk : ZrI cX8_holds X Q (zb out) σ) : ZAt X Q 0 0 0 σ [(0, .ref (X.ad w)), (1, .int x1), (2, .int x2)] [] := by
  unfold Turns_holds at hf
  obtain ⟨hw_0, hw_1, hw_2, hw_3, hw_4, hw_5⟩ := id hw
  refine z_iconst (v := 0) ok dX8_holds_0 (by decide) ?_
  refine z_nm hf (fun v1 hf => ?_)
  refine z_istore_n (lv' := [(3, .int v1), (0, .ref (X.ad w)), (1, .int x1), (2, .int x2)]) ok dX8_holds_1 (by decide) rfl ?_
  refine z_call hf (fun r hr hf => ?_)
  refine z_sub [1, 2, 3, 0] rfl (z_iter (fun (s : Int32) => σ) (fun (s : Int32) => [(0, .ref (X.ad w)), (1, .int x1), (2, .int x2), (3, .int s)]) (fun s o h1 h2 => t_Turns_holds_l2 ok hw h1 h2) _ _ _ hr ?_)
  cases r with
  | inl r =>
    obtain rfl := Option.some.inj hf
    exact hk
  | inr r =>
    simp only [Sum.elim_inr] at hf
    show ZAt X Q 0 0 32 σ [] []
    refine z_iconst (v := 0) ok dX8_holds_32 (by decide) ?_
    obtain rfl := Option.some.inj hf
    exact hk _ _ dX8_holds_33
theorem c_Turns_holds {σ : Sg} {w : Nat} {x1 : Int32} {x2 : Int32} (hw : zI_Turns w 198) {r : Bool} (h : Turns_holds σ w x1 x2 = some r) : ZcI yX8_holds cX8_holds 4 .boolean rm_Turns_holds 198 (fun ad => [.ref (ad w), .int x1, .int x2]) σ (zb r) σ :=
  zmetI pn_8 rfl (fun _ => rfl) (fun _ => Nat.le_of_ble_eq_true rfl) (zb_nar _) (fun X Q ok hk => t_Turns_holds ok hw h hk)
theorem dX5_failBehindLastTurn_0 : decode cX5_failBehindLastTurn 0 = .ok (.aload_n 0, 1) := by decide +kernel
theorem dX5_failBehindLastTurn_1 : decode cX5_failBehindLastTurn 1 = .ok (.dup, 1) := by decide +kernel
theorem dX5_failBehindLastTurn_2 : decode cX5_failBehindLastTurn 2 = .ok (.getfield 28, 3) := by decide +kernel
theorem dX5_failBehindLastTurn_5 : decode cX5_failBehindLastTurn 5 = .ok (.iconst 1, 1) := by decide +kernel
theorem dX5_failBehindLastTurn_6 : decode cX5_failBehindLastTurn 6 = .ok (.iadd, 1) := by decide +kernel
theorem dX5_failBehindLastTurn_7 : decode cX5_failBehindLastTurn 7 = .ok (.putfield 28, 3) := by decide +kernel
theorem dX5_failBehindLastTurn_10 : decode cX5_failBehindLastTurn 10 = .ok (.aload_n 0, 1) := by decide +kernel
theorem dX5_failBehindLastTurn_11 : decode cX5_failBehindLastTurn 11 = .ok (.invokevirtual 41, 3) := by decide +kernel
theorem dX5_failBehindLastTurn_14 : decode cX5_failBehindLastTurn 14 = .ok (.aload_n 0, 1) := by decide +kernel
theorem dX5_failBehindLastTurn_15 : decode cX5_failBehindLastTurn 15 = .ok (.getfield 28, 3) := by decide +kernel
theorem dX5_failBehindLastTurn_18 : decode cX5_failBehindLastTurn 18 = .ok (.aload_n 0, 1) := by decide +kernel
theorem dX5_failBehindLastTurn_19 : decode cX5_failBehindLastTurn 19 = .ok (.getfield 15, 3) := by decide +kernel
theorem dX5_failBehindLastTurn_22 : decode cX5_failBehindLastTurn 22 = .ok (.if_icmp .ge 15, 3) := by decide +kernel
theorem dX5_failBehindLastTurn_25 : decode cX5_failBehindLastTurn 25 = .ok (.aload_n 0, 1) := by decide +kernel
theorem dX5_failBehindLastTurn_26 : decode cX5_failBehindLastTurn 26 = .ok (.iconst 5, 1) := by decide +kernel
theorem dX5_failBehindLastTurn_27 : decode cX5_failBehindLastTurn 27 = .ok (.aload_n 0, 1) := by decide +kernel
theorem dX5_failBehindLastTurn_28 : decode cX5_failBehindLastTurn 28 = .ok (.getfield 28, 3) := by decide +kernel
theorem dX5_failBehindLastTurn_31 : decode cX5_failBehindLastTurn 31 = .ok (.invokevirtual 51, 3) := by decide +kernel
theorem dX5_failBehindLastTurn_34 : decode cX5_failBehindLastTurn 34 = .ok (.goto 12, 3) := by decide +kernel
theorem dX5_failBehindLastTurn_37 : decode cX5_failBehindLastTurn 37 = .ok (.aload_n 0, 1) := by decide +kernel
theorem dX5_failBehindLastTurn_38 : decode cX5_failBehindLastTurn 38 = .ok (.iconst 1, 1) := by decide +kernel
theorem dX5_failBehindLastTurn_39 : decode cX5_failBehindLastTurn 39 = .ok (.aload_n 0, 1) := by decide +kernel
theorem dX5_failBehindLastTurn_40 : decode cX5_failBehindLastTurn 40 = .ok (.getfield 15, 3) := by decide +kernel
theorem dX5_failBehindLastTurn_43 : decode cX5_failBehindLastTurn 43 = .ok (.invokevirtual 51, 3) := by decide +kernel
theorem dX5_failBehindLastTurn_46 : decode cX5_failBehindLastTurn 46 = .ok (.ireturn, 1) := by decide +kernel
abbrev rm_Reader_failBehindLastTurn : Room := { frames := 1, cells := 0, slots := 0, locals := 22 }
def Reader_failBehindLastTurn (σ : Sg)  : Option (Bool × Sg) :=
  zgt σ 2 2 fun v2 =>
  zpt σ 2 2 (v2 + 1) fun σ7 =>
  (Reader_skipBlanks σ7).bind fun r11 =>
  zgt r11 2 2 fun v15 =>
  zgt r11 2 1 fun v19 =>
  if v19 ≤ v15 then (
    zgt r11 2 1 fun v40 =>
    (Reader_fail r11 1 v40).bind fun r43 =>
    some (r43.1, r43.2)
  ) else (
    zgt r11 2 2 fun v28 =>
    (Reader_fail r11 5 v28).bind fun r31 =>
    some (r31.1, r31.2)
  )
set_option maxRecDepth 20000 in
theorem t_Reader_failBehindLastTurn {X : Zx} {Q : State → Prop} {σ : Sg}  (ok : Zok X cX5_failBehindLastTurn RX5 rm_Reader_failBehindLastTurn 198 1)  {out : (Bool × Sg)} (hf : Reader_failBehindLastTurn σ = some out) (hk : ZrI cX5_failBehindLastTurn X Q (zb out.1) out.2) : ZAt X Q 0 0 0 σ [(0, .ref (X.ad 2))] [] := by
  unfold Reader_failBehindLastTurn at hf
  refine z_aload_n ok dX5_failBehindLastTurn_0 0 rfl ?_
  refine z_dup ok dX5_failBehindLastTurn_1 rfl ?_
  refine z_geti ok kc_2 zc_5 hin_5 2 (by decide) fl_5_28 rfl dX5_failBehindLastTurn_2 hf (fun v2 hf => ?_)
  refine z_iconst (v := 1) ok dX5_failBehindLastTurn_5 (by decide) ?_
  refine z_iadd ok dX5_failBehindLastTurn_6 ?_
  refine z_puti ok kc_2 zc_5 hin_5 tyX5 tyX5_ok nmX5 2 (by decide) fl_5_28 rfl rfl (tyX5_ok 2 (by decide)) dX5_failBehindLastTurn_7 hf (fun σ7 hf => ?_)
  refine z_aload_n ok dX5_failBehindLastTurn_10 0 rfl ?_
  refine z_call hf (fun r11 h11 hf => ?_)
  refine z_cVv (As := []) (rest := []) (w := 2) ok kc_2 zc_5 (c_Reader_skipBlanks h11) rfl ⟨ml_5_41, w_Reader_skipBlanks⟩ hy_Reader_skipBlanks ⟨rfl, rfl⟩ ⟨Nat.le_of_ble_eq_true rfl, Nat.le_of_ble_eq_true rfl⟩ ⟨Nat.zero_le _, Nat.zero_le _⟩ rfl (Nat.le_of_ble_eq_true rfl) dX5_failBehindLastTurn_11 ?_
  refine z_aload_n ok dX5_failBehindLastTurn_14 0 rfl ?_
  refine z_geti ok kc_2 zc_5 hin_5 2 (by decide) fl_5_28 rfl dX5_failBehindLastTurn_15 hf (fun v15 hf => ?_)
  refine z_aload_n ok dX5_failBehindLastTurn_18 0 rfl ?_
  refine z_geti ok kc_2 zc_5 hin_5 1 (by decide) fl_5_15 rfl dX5_failBehindLastTurn_19 hf (fun v19 hf => ?_)
  refine z_icmp_ge (tgt := 37) ok dX5_failBehindLastTurn_22 (by decide) hf (fun _ hf => ?_) (fun _ hf => ?_)
  · refine z_aload_n ok dX5_failBehindLastTurn_37 0 rfl ?_
    refine z_iconst (v := 1) ok dX5_failBehindLastTurn_38 (by decide) ?_
    refine z_aload_n ok dX5_failBehindLastTurn_39 0 rfl ?_
    refine z_geti ok kc_2 zc_5 hin_5 1 (by decide) fl_5_15 rfl dX5_failBehindLastTurn_40 hf (fun v40 hf => ?_)
    refine z_call hf (fun r43 h43 hf => ?_)
    refine z_cV (As := [.int 1, .int v40]) (rest := []) (w := 2) ok kc_2 zc_5 (c_Reader_fail h43) rfl ⟨ml_5_51, w_Reader_fail⟩ hy_Reader_fail ⟨rfl, rfl⟩ ⟨Nat.le_of_ble_eq_true rfl, Nat.le_of_ble_eq_true rfl⟩ ⟨Nat.zero_le _, Nat.zero_le _⟩ rfl (Nat.le_of_ble_eq_true rfl) dX5_failBehindLastTurn_43 ?_
    obtain rfl := Option.some.inj hf
    exact hk _ _ dX5_failBehindLastTurn_46
  · refine z_aload_n ok dX5_failBehindLastTurn_25 0 rfl ?_
    refine z_iconst (v := 5) ok dX5_failBehindLastTurn_26 (by decide) ?_
    refine z_aload_n ok dX5_failBehindLastTurn_27 0 rfl ?_
    refine z_geti ok kc_2 zc_5 hin_5 2 (by decide) fl_5_28 rfl dX5_failBehindLastTurn_28 hf (fun v28 hf => ?_)
    refine z_call hf (fun r31 h31 hf => ?_)
    refine z_cV (As := [.int 5, .int v28]) (rest := []) (w := 2) ok kc_2 zc_5 (c_Reader_fail h31) rfl ⟨ml_5_51, w_Reader_fail⟩ hy_Reader_fail ⟨rfl, rfl⟩ ⟨Nat.le_of_ble_eq_true rfl, Nat.le_of_ble_eq_true rfl⟩ ⟨Nat.zero_le _, Nat.zero_le _⟩ rfl (Nat.le_of_ble_eq_true rfl) dX5_failBehindLastTurn_31 ?_
    refine z_goto (tgt := 46) ok dX5_failBehindLastTurn_34 (by decide) ?_
    obtain rfl := Option.some.inj hf
    exact hk _ _ dX5_failBehindLastTurn_46
theorem c_Reader_failBehindLastTurn {σ : Sg} {r : (Bool × Sg)} (h : Reader_failBehindLastTurn σ = some r) : ZcI yX5_failBehindLastTurn cX5_failBehindLastTurn 1 .boolean rm_Reader_failBehindLastTurn 198 (fun ad => [.ref (ad 2)]) σ (zb r.1) r.2 :=
  zmetI pn_5 rfl (fun _ => rfl) (fun _ => Nat.le_of_ble_eq_true rfl) (zb_nar _) (fun X Q ok hk => t_Reader_failBehindLastTurn ok h hk)
theorem dJ7_fill_53178_0 : decode cJ7_fill_53178 0 = .ok (.iconst 0, 1) := by decide +kernel
theorem dJ7_fill_53178_1 : decode cJ7_fill_53178 1 = .ok (.istore_n 2, 1) := by decide +kernel
theorem dJ7_fill_53178_2 : decode cJ7_fill_53178 2 = .ok (.aload_n 0, 1) := by decide +kernel
theorem dJ7_fill_53178_3 : decode cJ7_fill_53178 3 = .ok (.arraylength, 1) := by decide +kernel
theorem dJ7_fill_53178_4 : decode cJ7_fill_53178 4 = .ok (.istore_n 3, 1) := by decide +kernel
theorem dJ7_fill_53178_5 : decode cJ7_fill_53178 5 = .ok (.iload_n 2, 1) := by decide +kernel
theorem dJ7_fill_53178_6 : decode cJ7_fill_53178 6 = .ok (.iload_n 3, 1) := by decide +kernel
theorem dJ7_fill_53178_7 : decode cJ7_fill_53178 7 = .ok (.if_icmp .ge 13, 3) := by decide +kernel
theorem dJ7_fill_53178_10 : decode cJ7_fill_53178 10 = .ok (.aload_n 0, 1) := by decide +kernel
theorem dJ7_fill_53178_11 : decode cJ7_fill_53178 11 = .ok (.iload_n 2, 1) := by decide +kernel
theorem dJ7_fill_53178_12 : decode cJ7_fill_53178 12 = .ok (.iload_n 1, 1) := by decide +kernel
theorem dJ7_fill_53178_13 : decode cJ7_fill_53178 13 = .ok (.iastore, 1) := by decide +kernel
theorem dJ7_fill_53178_14 : decode cJ7_fill_53178 14 = .ok (.iinc 2 1, 3) := by decide +kernel
theorem dJ7_fill_53178_17 : decode cJ7_fill_53178 17 = .ok (.goto (-12), 3) := by decide +kernel
theorem dJ7_fill_53178_20 : decode cJ7_fill_53178 20 = .ok (.return_, 1) := by decide +kernel
abbrev rm_J_fill : Room := { frames := 0, cells := 0, slots := 0, locals := 0 }
def J_fill_l5 (σ : Sg) (a0 : Nat) (n0 : Nat) (x1 : Int32) (x2 : Int32) (x3 : Int32) : Option ((Sg × Int32) ⊕ (Sg × Int32)) :=
  if x3 ≤ x2 then (
    some (.inr (σ, x2))
  ) else (
    zwr σ a0 n0 x2 x1 fun σ13 =>
    zlt (x2 + 1) fun v14 =>
    some (.inl (σ13, v14))
  )
set_option maxRecDepth 20000 in
theorem t_J_fill_l5 {X : Zx} {Q : State → Prop} {σ : Sg} {a0 : Nat} {n0 : Nat} {x1 : Int32} {x2 : Int32} {x3 : Int32} (ok : Zok X cJ7_fill_53178 RJ7 rm_J_fill 198 4) (ha0 : zk a0 198 (.inr (0, n0, []))) {out : ((Sg × Int32) ⊕ (Sg × Int32))} (hf : J_fill_l5 σ a0 n0 x1 x2 x3 = some out) (hk : zout (fun (s : (Sg × Int32)) => ZAt X Q 0 0 5 s.1 [(0, .ref (X.ad a0)), (1, .int x1), (2, .int s.2), (3, .int x3)] []) (fun (s : (Sg × Int32)) => ZAt X Q 0 0 20 s.1 [] []) out) : ZAt X Q 0 0 5 σ [(0, .ref (X.ad a0)), (1, .int x1), (2, .int x2), (3, .int x3)] [] := by
  unfold J_fill_l5 at hf
  refine z_iload_n ok dJ7_fill_53178_5 2 rfl ?_
  refine z_iload_n ok dJ7_fill_53178_6 3 rfl ?_
  refine z_icmp_ge (tgt := 20) ok dJ7_fill_53178_7 (by decide) hf (fun _ hf => ?_) (fun _ hf => ?_)
  · obtain rfl := Option.some.inj hf
    exact z_sub [] rfl hk
  · refine z_aload_n ok dJ7_fill_53178_10 0 rfl ?_
    refine z_iload_n ok dJ7_fill_53178_11 2 rfl ?_
    refine z_iload_n ok dJ7_fill_53178_12 1 rfl ?_
    refine z_iast ok ha0 dJ7_fill_53178_13 hf (fun σ13 hf => ?_)
    refine z_iinc (w := 1) (lv' := fun v14 => [(2, .int v14), (0, .ref (X.ad a0)), (1, .int x1), (3, .int x3)]) ok dJ7_fill_53178_14 2 rfl (by decide) (by decide) (fun _ => rfl) hf (fun v14 hf => ?_)
    refine z_goto (tgt := 5) ok dJ7_fill_53178_17 (by decide) ?_
    obtain rfl := Option.some.inj hf
    exact z_sub [1, 2, 0, 3] rfl hk
def J_fill (σ : Sg) (a0 : Nat) (n0 : Nat) (x1 : Int32) : Option Sg :=
  zlt 0 fun v1 =>
  zlt (Int32.ofNat n0) fun v4 =>
  (zit (fun (s : (Sg × Int32)) => J_fill_l5 s.1 a0 n0 x1 s.2 v4) zFU (σ, v1)).bind fun r =>
  some r.1
set_option maxRecDepth 20000 in
theorem t_J_fill {X : Zx} {Q : State → Prop} {σ : Sg} {a0 : Nat} {n0 : Nat} {x1 : Int32} (ok : Zok X cJ7_fill_53178 RJ7 rm_J_fill 198 4) (ha0 : zk a0 198 (.inr (0, n0, []))) {out : Sg} (hf : J_fill σ a0 n0 x1 = some out) (hk : ZrV cJ7_fill_53178 X Q out) : ZAt X Q 0 0 0 σ [(0, .ref (X.ad a0)), (1, .int x1)] [] := by
  unfold J_fill at hf
  refine z_iconst (v := 0) ok dJ7_fill_53178_0 (by decide) ?_
  refine z_nm hf (fun v1 hf => ?_)
  refine z_istore_n (lv' := [(2, .int v1), (0, .ref (X.ad a0)), (1, .int x1)]) ok dJ7_fill_53178_1 (by decide) rfl ?_
  refine z_aload_n ok dJ7_fill_53178_2 1 rfl ?_
  refine z_alen ok ha0 (by decide) dJ7_fill_53178_3 ?_
  refine z_nm hf (fun v4 hf => ?_)
  refine z_istore_n (lv' := [(3, .int v4), (2, .int v1), (0, .ref (X.ad a0)), (1, .int x1)]) ok dJ7_fill_53178_4 (by decide) rfl ?_
  refine z_call hf (fun r hr hf => ?_)
  refine z_sub [2, 3, 1, 0] rfl (z_iter (fun (s : (Sg × Int32)) => s.1) (fun (s : (Sg × Int32)) => [(0, .ref (X.ad a0)), (1, .int x1), (2, .int s.2), (3, .int v4)]) (fun s o h1 h2 => t_J_fill_l5 ok ha0 h1 h2) _ _ _ hr ?_)
  show ZAt X Q 0 0 20 r.1 [] []
  obtain rfl := Option.some.inj hf
  exact hk _ _ dJ7_fill_53178_20
theorem c_J_fill {σ : Sg} {a0 : Nat} {n0 : Nat} {x1 : Int32} (ha0 : zk a0 198 (.inr (0, n0, []))) {r : Sg} (h : J_fill σ a0 n0 x1 = some r) : ZcV yJ7_fill_53178 cJ7_fill_53178 4 rm_J_fill 198 (fun ad => [.ref (ad a0), .int x1]) σ r :=
  zmetV pn_J rfl (fun _ => rfl) (fun _ => Nat.le_of_ble_eq_true rfl) (fun X Q ok hk => t_J_fill ok ha0 h hk)
theorem dX9_beginWith_0 : decode cX9_beginWith 0 = .ok (.aload_n 0, 1) := by decide +kernel
theorem dX9_beginWith_1 : decode cX9_beginWith 1 = .ok (.iconst 0, 1) := by decide +kernel
theorem dX9_beginWith_2 : decode cX9_beginWith 2 = .ok (.putfield 43, 3) := by decide +kernel
theorem dX9_beginWith_5 : decode cX9_beginWith 5 = .ok (.aload_n 0, 1) := by decide +kernel
theorem dX9_beginWith_6 : decode cX9_beginWith 6 = .ok (.aload_n 1, 1) := by decide +kernel
theorem dX9_beginWith_7 : decode cX9_beginWith 7 = .ok (.getfield 59, 3) := by decide +kernel
theorem dX9_beginWith_10 : decode cX9_beginWith 10 = .ok (.putfield 47, 3) := by decide +kernel
theorem dX9_beginWith_13 : decode cX9_beginWith 13 = .ok (.aload_n 0, 1) := by decide +kernel
theorem dX9_beginWith_14 : decode cX9_beginWith 14 = .ok (.aload_n 1, 1) := by decide +kernel
theorem dX9_beginWith_15 : decode cX9_beginWith 15 = .ok (.getfield 62, 3) := by decide +kernel
theorem dX9_beginWith_18 : decode cX9_beginWith 18 = .ok (.putfield 50, 3) := by decide +kernel
theorem dX9_beginWith_21 : decode cX9_beginWith 21 = .ok (.aload_n 1, 1) := by decide +kernel
theorem dX9_beginWith_22 : decode cX9_beginWith 22 = .ok (.getfield 63, 3) := by decide +kernel
theorem dX9_beginWith_25 : decode cX9_beginWith 25 = .ok (.iconst 0, 1) := by decide +kernel
theorem dX9_beginWith_26 : decode cX9_beginWith 26 = .ok (.aaload, 1) := by decide +kernel
theorem dX9_beginWith_27 : decode cX9_beginWith 27 = .ok (.iconst 0, 1) := by decide +kernel
theorem dX9_beginWith_28 : decode cX9_beginWith 28 = .ok (.aload_n 0, 1) := by decide +kernel
theorem dX9_beginWith_29 : decode cX9_beginWith 29 = .ok (.getfield 9, 3) := by decide +kernel
theorem dX9_beginWith_32 : decode cX9_beginWith 32 = .ok (.iconst 0, 1) := by decide +kernel
theorem dX9_beginWith_33 : decode cX9_beginWith 33 = .ok (.bipush 8, 2) := by decide +kernel
theorem dX9_beginWith_35 : decode cX9_beginWith 35 = .ok (.invokestatic 53, 3) := by decide +kernel
theorem dX9_beginWith_38 : decode cX9_beginWith 38 = .ok (.aload_n 1, 1) := by decide +kernel
theorem dX9_beginWith_39 : decode cX9_beginWith 39 = .ok (.getfield 63, 3) := by decide +kernel
theorem dX9_beginWith_42 : decode cX9_beginWith 42 = .ok (.bipush 8, 2) := by decide +kernel
theorem dX9_beginWith_44 : decode cX9_beginWith 44 = .ok (.aaload, 1) := by decide +kernel
theorem dX9_beginWith_45 : decode cX9_beginWith 45 = .ok (.iconst 0, 1) := by decide +kernel
theorem dX9_beginWith_46 : decode cX9_beginWith 46 = .ok (.aload_n 0, 1) := by decide +kernel
theorem dX9_beginWith_47 : decode cX9_beginWith 47 = .ok (.getfield 15, 3) := by decide +kernel
theorem dX9_beginWith_50 : decode cX9_beginWith 50 = .ok (.iconst 0, 1) := by decide +kernel
theorem dX9_beginWith_51 : decode cX9_beginWith 51 = .ok (.bipush 8, 2) := by decide +kernel
theorem dX9_beginWith_53 : decode cX9_beginWith 53 = .ok (.invokestatic 53, 3) := by decide +kernel
theorem dX9_beginWith_56 : decode cX9_beginWith 56 = .ok (.aload_n 1, 1) := by decide +kernel
theorem dX9_beginWith_57 : decode cX9_beginWith 57 = .ok (.getfield 63, 3) := by decide +kernel
theorem dX9_beginWith_60 : decode cX9_beginWith 60 = .ok (.iconst 5, 1) := by decide +kernel
theorem dX9_beginWith_61 : decode cX9_beginWith 61 = .ok (.aaload, 1) := by decide +kernel
theorem dX9_beginWith_62 : decode cX9_beginWith 62 = .ok (.iconst 0, 1) := by decide +kernel
theorem dX9_beginWith_63 : decode cX9_beginWith 63 = .ok (.aload_n 0, 1) := by decide +kernel
theorem dX9_beginWith_64 : decode cX9_beginWith 64 = .ok (.getfield 18, 3) := by decide +kernel
theorem dX9_beginWith_67 : decode cX9_beginWith 67 = .ok (.iconst 0, 1) := by decide +kernel
theorem dX9_beginWith_68 : decode cX9_beginWith 68 = .ok (.bipush 8, 2) := by decide +kernel
theorem dX9_beginWith_70 : decode cX9_beginWith 70 = .ok (.invokestatic 53, 3) := by decide +kernel
theorem dX9_beginWith_73 : decode cX9_beginWith 73 = .ok (.aload_n 0, 1) := by decide +kernel
theorem dX9_beginWith_74 : decode cX9_beginWith 74 = .ok (.getfield 21, 3) := by decide +kernel
theorem dX9_beginWith_77 : decode cX9_beginWith 77 = .ok (.iconst (-1), 1) := by decide +kernel
theorem dX9_beginWith_78 : decode cX9_beginWith 78 = .ok (.invokestatic 67, 3) := by decide +kernel
theorem dX9_beginWith_81 : decode cX9_beginWith 81 = .ok (.aload_n 0, 1) := by decide +kernel
theorem dX9_beginWith_82 : decode cX9_beginWith 82 = .ok (.getfield 24, 3) := by decide +kernel
theorem dX9_beginWith_85 : decode cX9_beginWith 85 = .ok (.iconst 0, 1) := by decide +kernel
theorem dX9_beginWith_86 : decode cX9_beginWith 86 = .ok (.invokestatic 67, 3) := by decide +kernel
theorem dX9_beginWith_89 : decode cX9_beginWith 89 = .ok (.aload_n 0, 1) := by decide +kernel
theorem dX9_beginWith_90 : decode cX9_beginWith 90 = .ok (.getfield 27, 3) := by decide +kernel
theorem dX9_beginWith_93 : decode cX9_beginWith 93 = .ok (.iconst 0, 1) := by decide +kernel
theorem dX9_beginWith_94 : decode cX9_beginWith 94 = .ok (.invokestatic 67, 3) := by decide +kernel
theorem dX9_beginWith_97 : decode cX9_beginWith 97 = .ok (.aload_n 0, 1) := by decide +kernel
theorem dX9_beginWith_98 : decode cX9_beginWith 98 = .ok (.getfield 30, 3) := by decide +kernel
theorem dX9_beginWith_101 : decode cX9_beginWith 101 = .ok (.iconst 0, 1) := by decide +kernel
theorem dX9_beginWith_102 : decode cX9_beginWith 102 = .ok (.invokestatic 67, 3) := by decide +kernel
theorem dX9_beginWith_105 : decode cX9_beginWith 105 = .ok (.aload_n 0, 1) := by decide +kernel
theorem dX9_beginWith_106 : decode cX9_beginWith 106 = .ok (.getfield 33, 3) := by decide +kernel
theorem dX9_beginWith_109 : decode cX9_beginWith 109 = .ok (.iconst 0, 1) := by decide +kernel
theorem dX9_beginWith_110 : decode cX9_beginWith 110 = .ok (.invokestatic 67, 3) := by decide +kernel
theorem dX9_beginWith_113 : decode cX9_beginWith 113 = .ok (.return_, 1) := by decide +kernel
abbrev rm_Water_beginWith : Room := { frames := 1, cells := 0, slots := 0, locals := 60 }
def Water_beginWith (σ : Sg) (w : Nat) (p1 : Nat) : Option Sg :=
  zpt σ w 0 0 fun σ2 =>
  zgt σ2 p1 1 fun v7 =>
  zpt σ2 w 1 v7 fun σ10 =>
  zgt σ10 p1 2 fun v15 =>
  zpt σ10 w 2 v15 fun σ18 =>
  zcp σ18 (p1 + 3) (w + 1) 8 fun σ35 =>
  zcp σ35 (p1 + 11) (w + 2) 8 fun σ53 =>
  zcp σ53 (p1 + 8) (w + 3) 8 fun σ70 =>
  (J_fill σ70 (w + 4) 8 (-1)).bind fun r78 =>
  (J_fill r78 (w + 5) 72 0).bind fun r86 =>
  (J_fill r86 (w + 6) 10 0).bind fun r94 =>
  (J_fill r94 (w + 7) 10 0).bind fun r102 =>
  (J_fill r102 (w + 8) 7 0).bind fun r110 =>
  some r110
set_option maxRecDepth 20000 in
theorem t_Water_beginWith {X : Zx} {Q : State → Prop} {σ : Sg} {w : Nat} {p1 : Nat} (ok : Zok X cX9_beginWith RX9 rm_Water_beginWith 198 2) (hw : zI_Water w 198) (hp1 : zI_Works p1 198) {out : Sg} (hf : Water_beginWith σ w p1 = some out) (hk : ZrV cX9_beginWith X Q out) : ZAt X Q 0 0 0 σ [(0, .ref (X.ad w)), (1, .ref (X.ad p1))] [] := by
  unfold Water_beginWith at hf
  obtain ⟨hw_0, hw_1, hw_2, hw_3, hw_4, hw_5, hw_6, hw_7, hw_8, hw_9, hw_10, hw_11, hw_12, hw_13, hw_14, hw_15, hw_16⟩ := id hw
  obtain ⟨hp1_0, hp1_1, hp1_2, hp1_3, hp1_4, hp1_5, hp1_6, hp1_7, hp1_8, hp1_9, hp1_10, hp1_11, hp1_12, hp1_13, hp1_14, hp1_15, hp1_16, hp1_17, hp1_18, hp1_19, hp1_20, hp1_21, hp1_22, hp1_23, hp1_24, hp1_25⟩ := id hp1
  refine z_aload_n ok dX9_beginWith_0 0 rfl ?_
  refine z_iconst (v := 0) ok dX9_beginWith_1 (by decide) ?_
  refine z_puti ok hw_0 zc_9 hin_9 tyX9 tyX9_ok nmX9 0 (by decide) fl_9_43 rfl rfl (tyX9_ok 0 (by decide)) dX9_beginWith_2 hf (fun σ2 hf => ?_)
  refine z_aload_n ok dX9_beginWith_5 0 rfl ?_
  refine z_aload_n ok dX9_beginWith_6 1 rfl ?_
  refine z_geti ok hp1_0 zc_10 hin_10 1 (by decide) fl_9_59 rfl dX9_beginWith_7 hf (fun v7 hf => ?_)
  refine z_puti ok hw_0 zc_9 hin_9 tyX9 tyX9_ok nmX9 1 (by decide) fl_9_47 rfl rfl (tyX9_ok 1 (by decide)) dX9_beginWith_10 hf (fun σ10 hf => ?_)
  refine z_aload_n ok dX9_beginWith_13 0 rfl ?_
  refine z_aload_n ok dX9_beginWith_14 1 rfl ?_
  refine z_geti ok hp1_0 zc_10 hin_10 2 (by decide) fl_9_62 rfl dX9_beginWith_15 hf (fun v15 hf => ?_)
  refine z_puti ok hw_0 zc_9 hin_9 tyX9 tyX9_ok nmX9 2 (by decide) fl_9_50 rfl rfl (tyX9_ok 2 (by decide)) dX9_beginWith_18 hf (fun σ18 hf => ?_)
  refine z_aload_n ok dX9_beginWith_21 1 rfl ?_
  refine z_getr (q := (p1 + 2)) ok hp1_0 zc_10 hin_10 5 (by decide) fl_9_63 rfl dX9_beginWith_22 ?_
  refine z_iconst (v := 0) ok dX9_beginWith_25 (by decide) ?_
  refine z_aaldc (q := (p1 + 3)) ok hp1_2 (by decide) rfl (by decide) rfl dX9_beginWith_26 ?_
  refine z_iconst (v := 0) ok dX9_beginWith_27 (by decide) ?_
  refine z_aload_n ok dX9_beginWith_28 0 rfl ?_
  refine z_getr (q := (w + 1)) ok hw_0 zc_9 hin_9 3 (by decide) fl_9_9 rfl dX9_beginWith_29 ?_
  refine z_iconst (v := 0) ok dX9_beginWith_32 (by decide) ?_
  refine z_bipush (v := 8) ok dX9_beginWith_33 (by decide) ?_
  refine z_copy ok hp1_3 hw_1 ml_9_53 (by decide) (Nat.le_of_ble_eq_true rfl) (Nat.le_of_ble_eq_true rfl) dX9_beginWith_35 hf (fun σ35 hf => ?_)
  refine z_aload_n ok dX9_beginWith_38 1 rfl ?_
  refine z_getr (q := (p1 + 2)) ok hp1_0 zc_10 hin_10 5 (by decide) fl_9_63 rfl dX9_beginWith_39 ?_
  refine z_bipush (v := 8) ok dX9_beginWith_42 (by decide) ?_
  refine z_aaldc (q := (p1 + 11)) ok hp1_2 (by decide) rfl (by decide) rfl dX9_beginWith_44 ?_
  refine z_iconst (v := 0) ok dX9_beginWith_45 (by decide) ?_
  refine z_aload_n ok dX9_beginWith_46 0 rfl ?_
  refine z_getr (q := (w + 2)) ok hw_0 zc_9 hin_9 4 (by decide) fl_9_15 rfl dX9_beginWith_47 ?_
  refine z_iconst (v := 0) ok dX9_beginWith_50 (by decide) ?_
  refine z_bipush (v := 8) ok dX9_beginWith_51 (by decide) ?_
  refine z_copy ok hp1_11 hw_2 ml_9_53 (by decide) (Nat.le_of_ble_eq_true rfl) (Nat.le_of_ble_eq_true rfl) dX9_beginWith_53 hf (fun σ53 hf => ?_)
  refine z_aload_n ok dX9_beginWith_56 1 rfl ?_
  refine z_getr (q := (p1 + 2)) ok hp1_0 zc_10 hin_10 5 (by decide) fl_9_63 rfl dX9_beginWith_57 ?_
  refine z_iconst (v := 5) ok dX9_beginWith_60 (by decide) ?_
  refine z_aaldc (q := (p1 + 8)) ok hp1_2 (by decide) rfl (by decide) rfl dX9_beginWith_61 ?_
  refine z_iconst (v := 0) ok dX9_beginWith_62 (by decide) ?_
  refine z_aload_n ok dX9_beginWith_63 0 rfl ?_
  refine z_getr (q := (w + 3)) ok hw_0 zc_9 hin_9 5 (by decide) fl_9_18 rfl dX9_beginWith_64 ?_
  refine z_iconst (v := 0) ok dX9_beginWith_67 (by decide) ?_
  refine z_bipush (v := 8) ok dX9_beginWith_68 (by decide) ?_
  refine z_copy ok hp1_8 hw_3 ml_9_53 (by decide) (Nat.le_of_ble_eq_true rfl) (Nat.le_of_ble_eq_true rfl) dX9_beginWith_70 hf (fun σ70 hf => ?_)
  refine z_aload_n ok dX9_beginWith_73 0 rfl ?_
  refine z_getr (q := (w + 4)) ok hw_0 zc_9 hin_9 6 (by decide) fl_9_21 rfl dX9_beginWith_74 ?_
  refine z_iconst (v := (-1)) ok dX9_beginWith_77 (by decide) ?_
  refine z_call hf (fun r78 h78 hf => ?_)
  refine z_cSv (As := [.ref (X.ad (w + 4)), .int (-1)]) (rest := []) ok (c_J_fill hw_4 h78) rfl ⟨ml_9_67, w_J_fill⟩ hy_J_fill ⟨rfl, rfl⟩ ⟨Nat.le_of_ble_eq_true rfl, Nat.le_of_ble_eq_true rfl⟩ ⟨Nat.zero_le _, Nat.zero_le _⟩ rfl (Nat.le_of_ble_eq_true rfl) dX9_beginWith_78 ?_
  refine z_aload_n ok dX9_beginWith_81 0 rfl ?_
  refine z_getr (q := (w + 5)) ok hw_0 zc_9 hin_9 7 (by decide) fl_9_24 rfl dX9_beginWith_82 ?_
  refine z_iconst (v := 0) ok dX9_beginWith_85 (by decide) ?_
  refine z_call hf (fun r86 h86 hf => ?_)
  refine z_cSv (As := [.ref (X.ad (w + 5)), .int 0]) (rest := []) ok (c_J_fill hw_5 h86) rfl ⟨ml_9_67, w_J_fill⟩ hy_J_fill ⟨rfl, rfl⟩ ⟨Nat.le_of_ble_eq_true rfl, Nat.le_of_ble_eq_true rfl⟩ ⟨Nat.zero_le _, Nat.zero_le _⟩ rfl (Nat.le_of_ble_eq_true rfl) dX9_beginWith_86 ?_
  refine z_aload_n ok dX9_beginWith_89 0 rfl ?_
  refine z_getr (q := (w + 6)) ok hw_0 zc_9 hin_9 8 (by decide) fl_9_27 rfl dX9_beginWith_90 ?_
  refine z_iconst (v := 0) ok dX9_beginWith_93 (by decide) ?_
  refine z_call hf (fun r94 h94 hf => ?_)
  refine z_cSv (As := [.ref (X.ad (w + 6)), .int 0]) (rest := []) ok (c_J_fill hw_6 h94) rfl ⟨ml_9_67, w_J_fill⟩ hy_J_fill ⟨rfl, rfl⟩ ⟨Nat.le_of_ble_eq_true rfl, Nat.le_of_ble_eq_true rfl⟩ ⟨Nat.zero_le _, Nat.zero_le _⟩ rfl (Nat.le_of_ble_eq_true rfl) dX9_beginWith_94 ?_
  refine z_aload_n ok dX9_beginWith_97 0 rfl ?_
  refine z_getr (q := (w + 7)) ok hw_0 zc_9 hin_9 9 (by decide) fl_9_30 rfl dX9_beginWith_98 ?_
  refine z_iconst (v := 0) ok dX9_beginWith_101 (by decide) ?_
  refine z_call hf (fun r102 h102 hf => ?_)
  refine z_cSv (As := [.ref (X.ad (w + 7)), .int 0]) (rest := []) ok (c_J_fill hw_7 h102) rfl ⟨ml_9_67, w_J_fill⟩ hy_J_fill ⟨rfl, rfl⟩ ⟨Nat.le_of_ble_eq_true rfl, Nat.le_of_ble_eq_true rfl⟩ ⟨Nat.zero_le _, Nat.zero_le _⟩ rfl (Nat.le_of_ble_eq_true rfl) dX9_beginWith_102 ?_
  refine z_aload_n ok dX9_beginWith_105 0 rfl ?_
  refine z_getr (q := (w + 8)) ok hw_0 zc_9 hin_9 10 (by decide) fl_9_33 rfl dX9_beginWith_106 ?_
  refine z_iconst (v := 0) ok dX9_beginWith_109 (by decide) ?_
  refine z_call hf (fun r110 h110 hf => ?_)
  refine z_cSv (As := [.ref (X.ad (w + 8)), .int 0]) (rest := []) ok (c_J_fill hw_8 h110) rfl ⟨ml_9_67, w_J_fill⟩ hy_J_fill ⟨rfl, rfl⟩ ⟨Nat.le_of_ble_eq_true rfl, Nat.le_of_ble_eq_true rfl⟩ ⟨Nat.zero_le _, Nat.zero_le _⟩ rfl (Nat.le_of_ble_eq_true rfl) dX9_beginWith_110 ?_
  obtain rfl := Option.some.inj hf
  exact hk _ _ dX9_beginWith_113
theorem c_Water_beginWith {σ : Sg} {w : Nat} {p1 : Nat} (hw : zI_Water w 198) (hp1 : zI_Works p1 198) {r : Sg} (h : Water_beginWith σ w p1 = some r) : ZcV yX9_beginWith cX9_beginWith 2 rm_Water_beginWith 198 (fun ad => [.ref (ad w), .ref (ad p1)]) σ r :=
  zmetV pn_9 rfl (fun _ => rfl) (fun _ => Nat.le_of_ble_eq_true rfl) (fun X Q ok hk => t_Water_beginWith ok hw hp1 h hk)
theorem dX3_copyFrom_0 : decode cX3_copyFrom 0 = .ok (.aload_n 0, 1) := by decide +kernel
theorem dX3_copyFrom_1 : decode cX3_copyFrom 1 = .ok (.aload_n 1, 1) := by decide +kernel
theorem dX3_copyFrom_2 : decode cX3_copyFrom 2 = .ok (.getfield 21, 3) := by decide +kernel
theorem dX3_copyFrom_5 : decode cX3_copyFrom 5 = .ok (.putfield 21, 3) := by decide +kernel
theorem dX3_copyFrom_8 : decode cX3_copyFrom 8 = .ok (.aload_n 1, 1) := by decide +kernel
theorem dX3_copyFrom_9 : decode cX3_copyFrom 9 = .ok (.getfield 9, 3) := by decide +kernel
theorem dX3_copyFrom_12 : decode cX3_copyFrom 12 = .ok (.iconst 0, 1) := by decide +kernel
theorem dX3_copyFrom_13 : decode cX3_copyFrom 13 = .ok (.aload_n 0, 1) := by decide +kernel
theorem dX3_copyFrom_14 : decode cX3_copyFrom 14 = .ok (.getfield 9, 3) := by decide +kernel
theorem dX3_copyFrom_17 : decode cX3_copyFrom 17 = .ok (.iconst 0, 1) := by decide +kernel
theorem dX3_copyFrom_18 : decode cX3_copyFrom 18 = .ok (.bipush 16, 2) := by decide +kernel
theorem dX3_copyFrom_20 : decode cX3_copyFrom 20 = .ok (.invokestatic 25, 3) := by decide +kernel
theorem dX3_copyFrom_23 : decode cX3_copyFrom 23 = .ok (.aload_n 1, 1) := by decide +kernel
theorem dX3_copyFrom_24 : decode cX3_copyFrom 24 = .ok (.getfield 15, 3) := by decide +kernel
theorem dX3_copyFrom_27 : decode cX3_copyFrom 27 = .ok (.iconst 0, 1) := by decide +kernel
theorem dX3_copyFrom_28 : decode cX3_copyFrom 28 = .ok (.aload_n 0, 1) := by decide +kernel
theorem dX3_copyFrom_29 : decode cX3_copyFrom 29 = .ok (.getfield 15, 3) := by decide +kernel
theorem dX3_copyFrom_32 : decode cX3_copyFrom 32 = .ok (.iconst 0, 1) := by decide +kernel
theorem dX3_copyFrom_33 : decode cX3_copyFrom 33 = .ok (.bipush 16, 2) := by decide +kernel
theorem dX3_copyFrom_35 : decode cX3_copyFrom 35 = .ok (.invokestatic 25, 3) := by decide +kernel
theorem dX3_copyFrom_38 : decode cX3_copyFrom 38 = .ok (.aload_n 1, 1) := by decide +kernel
theorem dX3_copyFrom_39 : decode cX3_copyFrom 39 = .ok (.getfield 18, 3) := by decide +kernel
theorem dX3_copyFrom_42 : decode cX3_copyFrom 42 = .ok (.iconst 0, 1) := by decide +kernel
theorem dX3_copyFrom_43 : decode cX3_copyFrom 43 = .ok (.aload_n 0, 1) := by decide +kernel
theorem dX3_copyFrom_44 : decode cX3_copyFrom 44 = .ok (.getfield 18, 3) := by decide +kernel
theorem dX3_copyFrom_47 : decode cX3_copyFrom 47 = .ok (.iconst 0, 1) := by decide +kernel
theorem dX3_copyFrom_48 : decode cX3_copyFrom 48 = .ok (.bipush 16, 2) := by decide +kernel
theorem dX3_copyFrom_50 : decode cX3_copyFrom 50 = .ok (.invokestatic 25, 3) := by decide +kernel
theorem dX3_copyFrom_53 : decode cX3_copyFrom 53 = .ok (.return_, 1) := by decide +kernel
abbrev rm_Orders_copyFrom : Room := { frames := 1, cells := 0, slots := 0, locals := 60 }
def Orders_copyFrom (σ : Sg) (w : Nat) (p1 : Nat) : Option Sg :=
  zgt σ p1 0 fun v2 =>
  zpt σ w 0 v2 fun σ5 =>
  zcp σ5 (p1 + 1) (w + 1) 16 fun σ20 =>
  zcp σ20 (p1 + 2) (w + 2) 16 fun σ35 =>
  zcp σ35 (p1 + 3) (w + 3) 16 fun σ50 =>
  some σ50
set_option maxRecDepth 20000 in
theorem t_Orders_copyFrom {X : Zx} {Q : State → Prop} {σ : Sg} {w : Nat} {p1 : Nat} (ok : Zok X cX3_copyFrom RX3 rm_Orders_copyFrom 198 2) (hw : zI_Orders w 198) (hp1 : zI_Orders p1 198) {out : Sg} (hf : Orders_copyFrom σ w p1 = some out) (hk : ZrV cX3_copyFrom X Q out) : ZAt X Q 0 0 0 σ [(0, .ref (X.ad w)), (1, .ref (X.ad p1))] [] := by
  unfold Orders_copyFrom at hf
  obtain ⟨hw_0, hw_1, hw_2, hw_3⟩ := id hw
  obtain ⟨hp1_0, hp1_1, hp1_2, hp1_3⟩ := id hp1
  refine z_aload_n ok dX3_copyFrom_0 0 rfl ?_
  refine z_aload_n ok dX3_copyFrom_1 1 rfl ?_
  refine z_geti ok hp1_0 zc_3 hin_3 0 (by decide) fl_3_21 rfl dX3_copyFrom_2 hf (fun v2 hf => ?_)
  refine z_puti ok hw_0 zc_3 hin_3 tyX3 tyX3_ok nmX3 0 (by decide) fl_3_21 rfl rfl (tyX3_ok 0 (by decide)) dX3_copyFrom_5 hf (fun σ5 hf => ?_)
  refine z_aload_n ok dX3_copyFrom_8 1 rfl ?_
  refine z_getr (q := (p1 + 1)) ok hp1_0 zc_3 hin_3 1 (by decide) fl_3_9 rfl dX3_copyFrom_9 ?_
  refine z_iconst (v := 0) ok dX3_copyFrom_12 (by decide) ?_
  refine z_aload_n ok dX3_copyFrom_13 0 rfl ?_
  refine z_getr (q := (w + 1)) ok hw_0 zc_3 hin_3 1 (by decide) fl_3_9 rfl dX3_copyFrom_14 ?_
  refine z_iconst (v := 0) ok dX3_copyFrom_17 (by decide) ?_
  refine z_bipush (v := 16) ok dX3_copyFrom_18 (by decide) ?_
  refine z_copy ok hp1_1 hw_1 ml_3_25 (by decide) (Nat.le_of_ble_eq_true rfl) (Nat.le_of_ble_eq_true rfl) dX3_copyFrom_20 hf (fun σ20 hf => ?_)
  refine z_aload_n ok dX3_copyFrom_23 1 rfl ?_
  refine z_getr (q := (p1 + 2)) ok hp1_0 zc_3 hin_3 2 (by decide) fl_3_15 rfl dX3_copyFrom_24 ?_
  refine z_iconst (v := 0) ok dX3_copyFrom_27 (by decide) ?_
  refine z_aload_n ok dX3_copyFrom_28 0 rfl ?_
  refine z_getr (q := (w + 2)) ok hw_0 zc_3 hin_3 2 (by decide) fl_3_15 rfl dX3_copyFrom_29 ?_
  refine z_iconst (v := 0) ok dX3_copyFrom_32 (by decide) ?_
  refine z_bipush (v := 16) ok dX3_copyFrom_33 (by decide) ?_
  refine z_copy ok hp1_2 hw_2 ml_3_25 (by decide) (Nat.le_of_ble_eq_true rfl) (Nat.le_of_ble_eq_true rfl) dX3_copyFrom_35 hf (fun σ35 hf => ?_)
  refine z_aload_n ok dX3_copyFrom_38 1 rfl ?_
  refine z_getr (q := (p1 + 3)) ok hp1_0 zc_3 hin_3 3 (by decide) fl_3_18 rfl dX3_copyFrom_39 ?_
  refine z_iconst (v := 0) ok dX3_copyFrom_42 (by decide) ?_
  refine z_aload_n ok dX3_copyFrom_43 0 rfl ?_
  refine z_getr (q := (w + 3)) ok hw_0 zc_3 hin_3 3 (by decide) fl_3_18 rfl dX3_copyFrom_44 ?_
  refine z_iconst (v := 0) ok dX3_copyFrom_47 (by decide) ?_
  refine z_bipush (v := 16) ok dX3_copyFrom_48 (by decide) ?_
  refine z_copy ok hp1_3 hw_3 ml_3_25 (by decide) (Nat.le_of_ble_eq_true rfl) (Nat.le_of_ble_eq_true rfl) dX3_copyFrom_50 hf (fun σ50 hf => ?_)
  obtain rfl := Option.some.inj hf
  exact hk _ _ dX3_copyFrom_53
theorem c_Orders_copyFrom {σ : Sg} {w : Nat} {p1 : Nat} (hw : zI_Orders w 198) (hp1 : zI_Orders p1 198) {r : Sg} (h : Orders_copyFrom σ w p1 = some r) : ZcV yX3_copyFrom cX3_copyFrom 2 rm_Orders_copyFrom 198 (fun ad => [.ref (ad w), .ref (ad p1)]) σ r :=
  zmetV pn_3 rfl (fun _ => rfl) (fun _ => Nat.le_of_ble_eq_true rfl) (fun X Q ok hk => t_Orders_copyFrom ok hw hp1 h hk)
theorem dX1_beginWith_0 : decode cX1_beginWith 0 = .ok (.aload_n 0, 1) := by decide +kernel
theorem dX1_beginWith_1 : decode cX1_beginWith 1 = .ok (.getfield 10, 3) := by decide +kernel
theorem dX1_beginWith_4 : decode cX1_beginWith 4 = .ok (.aload_n 1, 1) := by decide +kernel
theorem dX1_beginWith_5 : decode cX1_beginWith 5 = .ok (.invokevirtual 40, 3) := by decide +kernel
theorem dX1_beginWith_8 : decode cX1_beginWith 8 = .ok (.aload_n 0, 1) := by decide +kernel
theorem dX1_beginWith_9 : decode cX1_beginWith 9 = .ok (.getfield 19, 3) := by decide +kernel
theorem dX1_beginWith_12 : decode cX1_beginWith 12 = .ok (.aload_n 1, 1) := by decide +kernel
theorem dX1_beginWith_13 : decode cX1_beginWith 13 = .ok (.getfield 44, 3) := by decide +kernel
theorem dX1_beginWith_16 : decode cX1_beginWith 16 = .ok (.invokevirtual 34, 3) := by decide +kernel
theorem dX1_beginWith_19 : decode cX1_beginWith 19 = .ok (.aload_n 0, 1) := by decide +kernel
theorem dX1_beginWith_20 : decode cX1_beginWith 20 = .ok (.getfield 26, 3) := by decide +kernel
theorem dX1_beginWith_23 : decode cX1_beginWith 23 = .ok (.iconst 0, 1) := by decide +kernel
theorem dX1_beginWith_24 : decode cX1_beginWith 24 = .ok (.putfield 47, 3) := by decide +kernel
theorem dX1_beginWith_27 : decode cX1_beginWith 27 = .ok (.return_, 1) := by decide +kernel
abbrev rm_Moment_beginWith : Room := { frames := 2, cells := 0, slots := 0, locals := 81 }
def Moment_beginWith (σ : Sg) (w : Nat) (p1 : Nat) : Option Sg :=
  (Water_beginWith σ (w + 1) p1).bind fun r5 =>
  (Orders_copyFrom r5 (w + 18) (p1 + 16)).bind fun r16 =>
  zpt r16 (w + 22) 0 0 fun σ24 =>
  some σ24
set_option maxRecDepth 20000 in
theorem t_Moment_beginWith {X : Zx} {Q : State → Prop} {σ : Sg} {w : Nat} {p1 : Nat} (ok : Zok X cX1_beginWith RX1 rm_Moment_beginWith 198 2) (hw : zI_Moment w 198) (hp1 : zI_Works p1 198) {out : Sg} (hf : Moment_beginWith σ w p1 = some out) (hk : ZrV cX1_beginWith X Q out) : ZAt X Q 0 0 0 σ [(0, .ref (X.ad w)), (1, .ref (X.ad p1))] [] := by
  unfold Moment_beginWith at hf
  obtain ⟨hw_0, hw_1, hw_2, hw_3, hw_4, hw_5, hw_6, hw_7, hw_8, hw_9, hw_10, hw_11, hw_12, hw_13, hw_14, hw_15, hw_16, hw_17, hw_18, hw_19, hw_20, hw_21, hw_22, hw_23, hw_24⟩ := id hw
  obtain ⟨hp1_0, hp1_1, hp1_2, hp1_3, hp1_4, hp1_5, hp1_6, hp1_7, hp1_8, hp1_9, hp1_10, hp1_11, hp1_12, hp1_13, hp1_14, hp1_15, hp1_16, hp1_17, hp1_18, hp1_19, hp1_20, hp1_21, hp1_22, hp1_23, hp1_24, hp1_25⟩ := id hp1
  refine z_aload_n ok dX1_beginWith_0 0 rfl ?_
  refine z_getr (q := (w + 1)) ok hw_0 zc_1 hin_1 0 (by decide) fl_1_10 rfl dX1_beginWith_1 ?_
  refine z_aload_n ok dX1_beginWith_4 1 rfl ?_
  refine z_call hf (fun r5 h5 hf => ?_)
  refine z_cVv (As := [.ref (X.ad p1)]) (rest := []) (w := (w + 1)) ok hw_1 zc_9 (c_Water_beginWith (zI_Moment_1 hw) hp1 h5) rfl ⟨ml_1_40, w_Water_beginWith⟩ hy_Water_beginWith ⟨rfl, rfl⟩ ⟨Nat.le_of_ble_eq_true rfl, Nat.le_of_ble_eq_true rfl⟩ ⟨Nat.zero_le _, Nat.zero_le _⟩ rfl (Nat.le_of_ble_eq_true rfl) dX1_beginWith_5 ?_
  refine z_aload_n ok dX1_beginWith_8 0 rfl ?_
  refine z_getr (q := (w + 18)) ok hw_0 zc_1 hin_1 1 (by decide) fl_1_19 rfl dX1_beginWith_9 ?_
  refine z_aload_n ok dX1_beginWith_12 1 rfl ?_
  refine z_getr (q := (p1 + 16)) ok hp1_0 zc_10 hin_10 11 (by decide) fl_1_44 rfl dX1_beginWith_13 ?_
  refine z_call hf (fun r16 h16 hf => ?_)
  refine z_cVv (As := [.ref (X.ad (p1 + 16))]) (rest := []) (w := (w + 18)) ok hw_18 zc_3 (c_Orders_copyFrom (zI_Moment_18 hw) (zI_Works_16 hp1) h16) rfl ⟨ml_1_34, w_Orders_copyFrom⟩ hy_Orders_copyFrom ⟨rfl, rfl⟩ ⟨Nat.le_of_ble_eq_true rfl, Nat.le_of_ble_eq_true rfl⟩ ⟨Nat.zero_le _, Nat.zero_le _⟩ rfl (Nat.le_of_ble_eq_true rfl) dX1_beginWith_16 ?_
  refine z_aload_n ok dX1_beginWith_19 0 rfl ?_
  refine z_getr (q := (w + 22)) ok hw_0 zc_1 hin_1 2 (by decide) fl_1_26 rfl dX1_beginWith_20 ?_
  refine z_iconst (v := 0) ok dX1_beginWith_23 (by decide) ?_
  refine z_puti ok hw_22 zc_0 hin_0 tyX0 tyX0_ok nmX0 0 (by decide) fl_1_47 rfl rfl (tyX0_ok 0 (by decide)) dX1_beginWith_24 hf (fun σ24 hf => ?_)
  obtain rfl := Option.some.inj hf
  exact hk _ _ dX1_beginWith_27
theorem c_Moment_beginWith {σ : Sg} {w : Nat} {p1 : Nat} (hw : zI_Moment w 198) (hp1 : zI_Works p1 198) {r : Sg} (h : Moment_beginWith σ w p1 = some r) : ZcV yX1_beginWith cX1_beginWith 2 rm_Moment_beginWith 198 (fun ad => [.ref (ad w), .ref (ad p1)]) σ r :=
  zmetV pn_1 rfl (fun _ => rfl) (fun _ => Nat.le_of_ble_eq_true rfl) (fun X Q ok hk => t_Moment_beginWith ok hw hp1 h hk)
theorem dX11_fault_0 : decode cX11_fault 0 = .ok (.iload_n 1, 1) := by decide +kernel
theorem dX11_fault_1 : decode cX11_fault 1 = .ok (.lookupswitch 41 #[(0, 27), (1, 34)], 27) := by decide +kernel
theorem dX11_fault_28 : decode cX11_fault 28 = .ok (.aload_n 0, 1) := by decide +kernel
theorem dX11_fault_29 : decode cX11_fault 29 = .ok (.getfield 88, 3) := by decide +kernel
theorem dX11_fault_32 : decode cX11_fault 32 = .ok (.goto 11, 3) := by decide +kernel
theorem dX11_fault_35 : decode cX11_fault 35 = .ok (.aload_n 0, 1) := by decide +kernel
theorem dX11_fault_36 : decode cX11_fault 36 = .ok (.getfield 30, 3) := by decide +kernel
theorem dX11_fault_39 : decode cX11_fault 39 = .ok (.goto 4, 3) := by decide +kernel
theorem dX11_fault_42 : decode cX11_fault 42 = .ok (.iconst (-1), 1) := by decide +kernel
theorem dX11_fault_43 : decode cX11_fault 43 = .ok (.ireturn, 1) := by decide +kernel
abbrev rm_CK_fault : Room := { frames := 0, cells := 0, slots := 0, locals := 0 }
def CK_fault (σ : Sg) (x1 : Int32) : Option Int32 :=
  if x1 = 0 then (
    zgt σ 0 6 fun v29 =>
    some v29
  ) else (
  if x1 = 1 then (
    zgt σ 0 7 fun v36 =>
    some v36
  ) else (
    some (-1)
  ))
set_option maxRecDepth 20000 in
theorem t_CK_fault {X : Zx} {Q : State → Prop} {σ : Sg} {x1 : Int32} (ok : Zok X cX11_fault RX11 rm_CK_fault 198 2)  {out : Int32} (hf : CK_fault σ x1 = some out) (hk : ZrI cX11_fault X Q out σ) : ZAt X Q 0 0 0 σ [(0, .ref (X.ad 0)), (1, .int x1)] [] := by
  unfold CK_fault at hf
  refine z_iload_n ok dX11_fault_0 1 rfl ?_
  refine z_swc (v := 0) hf (fun hf => ?_) (fun n1_0 hf => ?_)
  · refine z_lookup (off := 27) (tgt := 28) ok dX11_fault_1 (by decide) (by decide) (by decide) ?_
    refine z_aload_n ok dX11_fault_28 0 rfl ?_
    refine z_geti ok kc_0 zc_11 hin_11 6 (by decide) fl_11_88 rfl dX11_fault_29 hf (fun v29 hf => ?_)
    refine z_goto (tgt := 43) ok dX11_fault_32 (by decide) ?_
    obtain rfl := Option.some.inj hf
    exact hk _ _ dX11_fault_43
  refine z_swc (v := 1) hf (fun hf => ?_) (fun n1_1 hf => ?_)
  · refine z_lookup (off := 34) (tgt := 35) ok dX11_fault_1 (by decide) (by decide) (by decide) ?_
    refine z_aload_n ok dX11_fault_35 0 rfl ?_
    refine z_geti ok kc_0 zc_11 hin_11 7 (by decide) fl_11_30 rfl dX11_fault_36 hf (fun v36 hf => ?_)
    refine z_goto (tgt := 43) ok dX11_fault_39 (by decide) ?_
    obtain rfl := Option.some.inj hf
    exact hk _ _ dX11_fault_43
  refine z_lookdef (tgt := 42) ok dX11_fault_1 (by decide) (by decide) (List.forall_mem_cons.mpr ⟨n1_0, (List.forall_mem_cons.mpr ⟨n1_1, (fun _ h => absurd h List.not_mem_nil)⟩)⟩) (by decide) ?_
  refine z_iconst (v := (-1)) ok dX11_fault_42 (by decide) ?_
  obtain rfl := Option.some.inj hf
  exact hk _ _ dX11_fault_43
theorem c_CK_fault {σ : Sg} {x1 : Int32} {r : Int32} (h : CK_fault σ x1 = some r) : ZcI yX11_fault cX11_fault 2 .int rm_CK_fault 198 (fun ad => [.ref (ad 0), .int x1]) σ r σ :=
  zmetI pn_11 rfl (fun _ => rfl) (fun _ => Nat.le_of_ble_eq_true rfl) rfl (fun X Q ok hk => t_CK_fault ok h hk)
theorem dX0_toldCount_0 : decode cX0_toldCount 0 = .ok (.aload_n 0, 1) := by decide +kernel
theorem dX0_toldCount_1 : decode cX0_toldCount 1 = .ok (.getfield 18, 3) := by decide +kernel
theorem dX0_toldCount_4 : decode cX0_toldCount 4 = .ok (.bipush 40, 2) := by decide +kernel
theorem dX0_toldCount_6 : decode cX0_toldCount 6 = .ok (.invokestatic 28, 3) := by decide +kernel
theorem dX0_toldCount_9 : decode cX0_toldCount 9 = .ok (.ireturn, 1) := by decide +kernel
abbrev rm_Log_toldCount : Room := { frames := 1, cells := 0, slots := 0, locals := 21 }
def Log_toldCount (σ : Sg) (w : Nat) : Option Int32 :=
  zgt σ w 0 fun v1 =>
  some (if 40 < v1 then 40 else v1)
set_option maxRecDepth 20000 in
theorem t_Log_toldCount {X : Zx} {Q : State → Prop} {σ : Sg} {w : Nat} (ok : Zok X cX0_toldCount RX0 rm_Log_toldCount 198 1) (hw : zI_Log w 198) {out : Int32} (hf : Log_toldCount σ w = some out) (hk : ZrI cX0_toldCount X Q out σ) : ZAt X Q 0 0 0 σ [(0, .ref (X.ad w))] [] := by
  unfold Log_toldCount at hf
  obtain ⟨hw_0, hw_1, hw_2⟩ := id hw
  refine z_aload_n ok dX0_toldCount_0 0 rfl ?_
  refine z_geti ok hw_0 zc_0 hin_0 0 (by decide) fl_0_18 rfl dX0_toldCount_1 hf (fun v1 hf => ?_)
  refine z_bipush (v := 40) ok dX0_toldCount_4 (by decide) ?_
  refine z_mmin ok ml_0_28 (Nat.le_of_ble_eq_true rfl) (Nat.le_of_ble_eq_true rfl) ⟨Nat.zero_le _, Nat.zero_le _⟩ dX0_toldCount_6 ?_
  obtain rfl := Option.some.inj hf
  exact hk _ _ dX0_toldCount_9
theorem c_Log_toldCount {σ : Sg} {w : Nat} (hw : zI_Log w 198) {r : Int32} (h : Log_toldCount σ w = some r) : ZcI yX0_toldCount cX0_toldCount 1 .int rm_Log_toldCount 198 (fun ad => [.ref (ad w)]) σ r σ :=
  zmetI pn_0 rfl (fun _ => rfl) (fun _ => Nat.le_of_ble_eq_true rfl) rfl (fun X Q ok hk => t_Log_toldCount ok hw h hk)
theorem dX10_bandOf_0 : decode cX10_bandOf 0 = .ok (.iload_n 2, 1) := by decide +kernel
theorem dX10_bandOf_1 : decode cX10_bandOf 1 = .ok (.aload_n 0, 1) := by decide +kernel
theorem dX10_bandOf_2 : decode cX10_bandOf 2 = .ok (.getfield 17, 3) := by decide +kernel
theorem dX10_bandOf_5 : decode cX10_bandOf 5 = .ok (.iconst 1, 1) := by decide +kernel
theorem dX10_bandOf_6 : decode cX10_bandOf 6 = .ok (.aaload, 1) := by decide +kernel
theorem dX10_bandOf_7 : decode cX10_bandOf 7 = .ok (.iload_n 1, 1) := by decide +kernel
theorem dX10_bandOf_8 : decode cX10_bandOf 8 = .ok (.iaload, 1) := by decide +kernel
theorem dX10_bandOf_9 : decode cX10_bandOf 9 = .ok (.if_icmp .ge 5, 3) := by decide +kernel
theorem dX10_bandOf_12 : decode cX10_bandOf 12 = .ok (.iconst 1, 1) := by decide +kernel
theorem dX10_bandOf_13 : decode cX10_bandOf 13 = .ok (.ireturn, 1) := by decide +kernel
theorem dX10_bandOf_14 : decode cX10_bandOf 14 = .ok (.iload_n 2, 1) := by decide +kernel
theorem dX10_bandOf_15 : decode cX10_bandOf 15 = .ok (.aload_n 0, 1) := by decide +kernel
theorem dX10_bandOf_16 : decode cX10_bandOf 16 = .ok (.getfield 17, 3) := by decide +kernel
theorem dX10_bandOf_19 : decode cX10_bandOf 19 = .ok (.iconst 2, 1) := by decide +kernel
theorem dX10_bandOf_20 : decode cX10_bandOf 20 = .ok (.aaload, 1) := by decide +kernel
theorem dX10_bandOf_21 : decode cX10_bandOf 21 = .ok (.iload_n 1, 1) := by decide +kernel
theorem dX10_bandOf_22 : decode cX10_bandOf 22 = .ok (.iaload, 1) := by decide +kernel
theorem dX10_bandOf_23 : decode cX10_bandOf 23 = .ok (.if_icmp .le 7, 3) := by decide +kernel
theorem dX10_bandOf_26 : decode cX10_bandOf 26 = .ok (.iconst 2, 1) := by decide +kernel
theorem dX10_bandOf_27 : decode cX10_bandOf 27 = .ok (.goto 4, 3) := by decide +kernel
theorem dX10_bandOf_30 : decode cX10_bandOf 30 = .ok (.iconst 0, 1) := by decide +kernel
theorem dX10_bandOf_31 : decode cX10_bandOf 31 = .ok (.ireturn, 1) := by decide +kernel
abbrev rm_Works_bandOf : Room := { frames := 0, cells := 0, slots := 0, locals := 0 }
def Works_bandOf (σ : Sg) (w : Nat) (x1 : Int32) (x2 : Int32) : Option Int32 :=
  zrd σ (w + 4) 8 x1 fun v8 =>
  if v8 ≤ x2 then (
    zrd σ (w + 5) 8 x1 fun v22 =>
    if x2 ≤ v22 then (
      some 0
    ) else (
      some 2
    )
  ) else (
    some 1
  )
set_option maxRecDepth 20000 in
theorem t_Works_bandOf {X : Zx} {Q : State → Prop} {σ : Sg} {w : Nat} {x1 : Int32} {x2 : Int32} (ok : Zok X cX10_bandOf RX10 rm_Works_bandOf 198 3) (hw : zI_Works w 198) {out : Int32} (hf : Works_bandOf σ w x1 x2 = some out) (hk : ZrI cX10_bandOf X Q out σ) : ZAt X Q 0 0 0 σ [(0, .ref (X.ad w)), (1, .int x1), (2, .int x2)] [] := by
  unfold Works_bandOf at hf
  obtain ⟨hw_0, hw_1, hw_2, hw_3, hw_4, hw_5, hw_6, hw_7, hw_8, hw_9, hw_10, hw_11, hw_12, hw_13, hw_14, hw_15, hw_16, hw_17, hw_18, hw_19, hw_20, hw_21, hw_22, hw_23, hw_24, hw_25⟩ := id hw
  refine z_iload_n ok dX10_bandOf_0 2 rfl ?_
  refine z_aload_n ok dX10_bandOf_1 0 rfl ?_
  refine z_getr (q := (w + 2)) ok hw_0 zc_10 hin_10 5 (by decide) fl_10_17 rfl dX10_bandOf_2 ?_
  refine z_iconst (v := 1) ok dX10_bandOf_5 (by decide) ?_
  refine z_aaldc (q := (w + 4)) ok hw_2 (by decide) rfl (by decide) rfl dX10_bandOf_6 ?_
  refine z_iload_n ok dX10_bandOf_7 1 rfl ?_
  refine z_iald ok hw_4 dX10_bandOf_8 hf (fun v8 hf => ?_)
  refine z_icmp_ge (tgt := 14) ok dX10_bandOf_9 (by decide) hf (fun _ hf => ?_) (fun _ hf => ?_)
  · refine z_iload_n ok dX10_bandOf_14 2 rfl ?_
    refine z_aload_n ok dX10_bandOf_15 0 rfl ?_
    refine z_getr (q := (w + 2)) ok hw_0 zc_10 hin_10 5 (by decide) fl_10_17 rfl dX10_bandOf_16 ?_
    refine z_iconst (v := 2) ok dX10_bandOf_19 (by decide) ?_
    refine z_aaldc (q := (w + 5)) ok hw_2 (by decide) rfl (by decide) rfl dX10_bandOf_20 ?_
    refine z_iload_n ok dX10_bandOf_21 1 rfl ?_
    refine z_iald ok hw_5 dX10_bandOf_22 hf (fun v22 hf => ?_)
    refine z_icmp_le (tgt := 30) ok dX10_bandOf_23 (by decide) hf (fun _ hf => ?_) (fun _ hf => ?_)
    · refine z_iconst (v := 0) ok dX10_bandOf_30 (by decide) ?_
      obtain rfl := Option.some.inj hf
      exact hk _ _ dX10_bandOf_31
    · refine z_iconst (v := 2) ok dX10_bandOf_26 (by decide) ?_
      refine z_goto (tgt := 31) ok dX10_bandOf_27 (by decide) ?_
      obtain rfl := Option.some.inj hf
      exact hk _ _ dX10_bandOf_31
  · refine z_iconst (v := 1) ok dX10_bandOf_12 (by decide) ?_
    obtain rfl := Option.some.inj hf
    exact hk _ _ dX10_bandOf_13
theorem c_Works_bandOf {σ : Sg} {w : Nat} {x1 : Int32} {x2 : Int32} (hw : zI_Works w 198) {r : Int32} (h : Works_bandOf σ w x1 x2 = some r) : ZcI yX10_bandOf cX10_bandOf 3 .int rm_Works_bandOf 198 (fun ad => [.ref (ad w), .int x1, .int x2]) σ r σ :=
  zmetI pn_10 rfl (fun _ => rfl) (fun _ => Nat.le_of_ble_eq_true rfl) rfl (fun X Q ok hk => t_Works_bandOf ok hw h hk)
theorem dX11_poolsOutOfBand_0 : decode cX11_poolsOutOfBand 0 = .ok (.iconst 0, 1) := by decide +kernel
theorem dX11_poolsOutOfBand_1 : decode cX11_poolsOutOfBand 1 = .ok (.istore_n 1, 1) := by decide +kernel
theorem dX11_poolsOutOfBand_2 : decode cX11_poolsOutOfBand 2 = .ok (.iconst 0, 1) := by decide +kernel
theorem dX11_poolsOutOfBand_3 : decode cX11_poolsOutOfBand 3 = .ok (.istore_n 2, 1) := by decide +kernel
theorem dX11_poolsOutOfBand_4 : decode cX11_poolsOutOfBand 4 = .ok (.iload_n 2, 1) := by decide +kernel
theorem dX11_poolsOutOfBand_5 : decode cX11_poolsOutOfBand 5 = .ok (.aload_n 0, 1) := by decide +kernel
theorem dX11_poolsOutOfBand_6 : decode cX11_poolsOutOfBand 6 = .ok (.getfield 23, 3) := by decide +kernel
theorem dX11_poolsOutOfBand_9 : decode cX11_poolsOutOfBand 9 = .ok (.getfield 111, 3) := by decide +kernel
theorem dX11_poolsOutOfBand_12 : decode cX11_poolsOutOfBand 12 = .ok (.if_icmp .ge 38, 3) := by decide +kernel
theorem dX11_poolsOutOfBand_15 : decode cX11_poolsOutOfBand 15 = .ok (.aload_n 0, 1) := by decide +kernel
theorem dX11_poolsOutOfBand_16 : decode cX11_poolsOutOfBand 16 = .ok (.getfield 23, 3) := by decide +kernel
theorem dX11_poolsOutOfBand_19 : decode cX11_poolsOutOfBand 19 = .ok (.iload_n 2, 1) := by decide +kernel
theorem dX11_poolsOutOfBand_20 : decode cX11_poolsOutOfBand 20 = .ok (.aload_n 0, 1) := by decide +kernel
theorem dX11_poolsOutOfBand_21 : decode cX11_poolsOutOfBand 21 = .ok (.getfield 37, 3) := by decide +kernel
theorem dX11_poolsOutOfBand_24 : decode cX11_poolsOutOfBand 24 = .ok (.getfield 126, 3) := by decide +kernel
theorem dX11_poolsOutOfBand_27 : decode cX11_poolsOutOfBand 27 = .ok (.getfield 179, 3) := by decide +kernel
theorem dX11_poolsOutOfBand_30 : decode cX11_poolsOutOfBand 30 = .ok (.iload_n 2, 1) := by decide +kernel
theorem dX11_poolsOutOfBand_31 : decode cX11_poolsOutOfBand 31 = .ok (.iaload, 1) := by decide +kernel
theorem dX11_poolsOutOfBand_32 : decode cX11_poolsOutOfBand 32 = .ok (.invokevirtual 195, 3) := by decide +kernel
theorem dX11_poolsOutOfBand_35 : decode cX11_poolsOutOfBand 35 = .ok (.ifCond .eq 9, 3) := by decide +kernel
theorem dX11_poolsOutOfBand_38 : decode cX11_poolsOutOfBand 38 = .ok (.iload_n 1, 1) := by decide +kernel
theorem dX11_poolsOutOfBand_39 : decode cX11_poolsOutOfBand 39 = .ok (.iconst 1, 1) := by decide +kernel
theorem dX11_poolsOutOfBand_40 : decode cX11_poolsOutOfBand 40 = .ok (.iload_n 2, 1) := by decide +kernel
theorem dX11_poolsOutOfBand_41 : decode cX11_poolsOutOfBand 41 = .ok (.ishl, 1) := by decide +kernel
theorem dX11_poolsOutOfBand_42 : decode cX11_poolsOutOfBand 42 = .ok (.ior, 1) := by decide +kernel
theorem dX11_poolsOutOfBand_43 : decode cX11_poolsOutOfBand 43 = .ok (.istore_n 1, 1) := by decide +kernel
theorem dX11_poolsOutOfBand_44 : decode cX11_poolsOutOfBand 44 = .ok (.iinc 2 1, 3) := by decide +kernel
theorem dX11_poolsOutOfBand_47 : decode cX11_poolsOutOfBand 47 = .ok (.goto (-43), 3) := by decide +kernel
theorem dX11_poolsOutOfBand_50 : decode cX11_poolsOutOfBand 50 = .ok (.iload_n 1, 1) := by decide +kernel
theorem dX11_poolsOutOfBand_51 : decode cX11_poolsOutOfBand 51 = .ok (.ireturn, 1) := by decide +kernel
abbrev rm_CK_poolsOutOfBand : Room := { frames := 1, cells := 0, slots := 0, locals := 22 }
def CK_poolsOutOfBand_l4 (σ : Sg) (x1 : Int32) (x2 : Int32) : Option ((Int32 × Int32) ⊕ (Int32 × Int32)) :=
  zmr2 3 29 (σ 0 3) fun q6 =>
  zgt σ q6 3 fun v9 =>
  if v9 ≤ x2 then (
    some (.inr (x1, x2))
  ) else (
    zmr2 3 29 (σ 0 3) fun q16 =>
    zrd σ 57 8 x2 fun v31 =>
    (Works_bandOf σ q16 x2 v31).bind fun r32 =>
    if r32 = 0 then (
      zlt (x2 + 1) fun v44 =>
      some (.inl (x1, v44))
    ) else (
      zlt (x1 ||| (1 <<< (x2 &&& 31))) fun v43 =>
      zlt (x2 + 1) fun v44 =>
      some (.inl (v43, v44))
    )
  )
set_option maxRecDepth 20000 in
theorem t_CK_poolsOutOfBand_l4 {X : Zx} {Q : State → Prop} {σ : Sg} {x1 : Int32} {x2 : Int32} (ok : Zok X cX11_poolsOutOfBand RX11 rm_CK_poolsOutOfBand 198 3)  {out : ((Int32 × Int32) ⊕ (Int32 × Int32))} (hf : CK_poolsOutOfBand_l4 σ x1 x2 = some out) (hk : zout (fun (s : (Int32 × Int32)) => ZAt X Q 0 0 4 σ [(0, .ref (X.ad 0)), (1, .int s.1), (2, .int s.2)] []) (fun (s : (Int32 × Int32)) => ZAt X Q 0 0 50 σ [(1, .int s.1)] []) out) : ZAt X Q 0 0 4 σ [(0, .ref (X.ad 0)), (1, .int x1), (2, .int x2)] [] := by
  unfold CK_poolsOutOfBand_l4 at hf
  refine z_iload_n ok dX11_poolsOutOfBand_4 2 rfl ?_
  refine z_aload_n ok dX11_poolsOutOfBand_5 0 rfl ?_
  refine z_getm2 (p := 3) (q := 29) ok kc_0 zc_11 hin_11 3 (by decide) fl_11_23 rfl (by decide) (by decide) dX11_poolsOutOfBand_6 hf (fun q6 e6 hf => ?_)
  have hq6 : zI_Works q6 198 := by rcases e6 with rfl | rfl; exact kI_Works_3; exact kI_Works_29
  obtain ⟨hq6_0, hq6_1, hq6_2, hq6_3, hq6_4, hq6_5, hq6_6, hq6_7, hq6_8, hq6_9, hq6_10, hq6_11, hq6_12, hq6_13, hq6_14, hq6_15, hq6_16, hq6_17, hq6_18, hq6_19, hq6_20, hq6_21, hq6_22, hq6_23, hq6_24, hq6_25⟩ := id hq6
  refine z_geti ok hq6_0 zc_10 hin_10 3 (by decide) fl_11_111 rfl dX11_poolsOutOfBand_9 hf (fun v9 hf => ?_)
  refine z_icmp_ge (tgt := 50) ok dX11_poolsOutOfBand_12 (by decide) hf (fun _ hf => ?_) (fun _ hf => ?_)
  · obtain rfl := Option.some.inj hf
    exact z_sub [1] rfl hk
  · refine z_aload_n ok dX11_poolsOutOfBand_15 0 rfl ?_
    refine z_getm2 (p := 3) (q := 29) ok kc_0 zc_11 hin_11 3 (by decide) fl_11_23 rfl (by decide) (by decide) dX11_poolsOutOfBand_16 hf (fun q16 e16 hf => ?_)
    have hq16 : zI_Works q16 198 := by rcases e16 with rfl | rfl; exact kI_Works_3; exact kI_Works_29
    obtain ⟨hq16_0, hq16_1, hq16_2, hq16_3, hq16_4, hq16_5, hq16_6, hq16_7, hq16_8, hq16_9, hq16_10, hq16_11, hq16_12, hq16_13, hq16_14, hq16_15, hq16_16, hq16_17, hq16_18, hq16_19, hq16_20, hq16_21, hq16_22, hq16_23, hq16_24, hq16_25⟩ := id hq16
    refine z_iload_n ok dX11_poolsOutOfBand_19 2 rfl ?_
    refine z_aload_n ok dX11_poolsOutOfBand_20 0 rfl ?_
    refine z_getr (q := 55) ok kc_0 zc_11 hin_11 8 (by decide) fl_11_37 rfl dX11_poolsOutOfBand_21 ?_
    refine z_getr (q := 56) ok kc_55 zc_1 hin_1 0 (by decide) fl_11_126 rfl dX11_poolsOutOfBand_24 ?_
    refine z_getr (q := 57) ok kc_56 zc_9 hin_9 3 (by decide) fl_11_179 rfl dX11_poolsOutOfBand_27 ?_
    refine z_iload_n ok dX11_poolsOutOfBand_30 2 rfl ?_
    refine z_iald ok kc_57 dX11_poolsOutOfBand_31 hf (fun v31 hf => ?_)
    refine z_call hf (fun r32 h32 hf => ?_)
    refine z_cV (As := [.int x2, .int v31]) (rest := []) (w := q16) ok hq16_0 zc_10 (c_Works_bandOf hq16 h32) rfl ⟨ml_11_195, w_Works_bandOf⟩ hy_Works_bandOf ⟨rfl, rfl⟩ ⟨Nat.le_of_ble_eq_true rfl, Nat.le_of_ble_eq_true rfl⟩ ⟨Nat.zero_le _, Nat.zero_le _⟩ rfl (Nat.le_of_ble_eq_true rfl) dX11_poolsOutOfBand_32 ?_
    refine z_if_eq (tgt := 44) ok dX11_poolsOutOfBand_35 (by decide) hf (fun _ hf => ?_) (fun _ hf => ?_)
    · refine z_iinc (w := 1) (lv' := fun v44 => [(2, .int v44), (0, .ref (X.ad 0)), (1, .int x1)]) ok dX11_poolsOutOfBand_44 2 rfl (by decide) (by decide) (fun _ => rfl) hf (fun v44 hf => ?_)
      refine z_goto (tgt := 4) ok dX11_poolsOutOfBand_47 (by decide) ?_
      obtain rfl := Option.some.inj hf
      exact z_sub [1, 2, 0] rfl hk
    · refine z_iload_n ok dX11_poolsOutOfBand_38 1 rfl ?_
      refine z_iconst (v := 1) ok dX11_poolsOutOfBand_39 (by decide) ?_
      refine z_iload_n ok dX11_poolsOutOfBand_40 2 rfl ?_
      refine z_ishl ok dX11_poolsOutOfBand_41 ?_
      refine z_ior ok dX11_poolsOutOfBand_42 ?_
      refine z_nm hf (fun v43 hf => ?_)
      refine z_istore_n (lv' := [(1, .int v43), (0, .ref (X.ad 0)), (2, .int x2)]) ok dX11_poolsOutOfBand_43 (by decide) rfl ?_
      refine z_iinc (w := 1) (lv' := fun v44 => [(2, .int v44), (1, .int v43), (0, .ref (X.ad 0))]) ok dX11_poolsOutOfBand_44 2 rfl (by decide) (by decide) (fun _ => rfl) hf (fun v44 hf => ?_)
      refine z_goto (tgt := 4) ok dX11_poolsOutOfBand_47 (by decide) ?_
      obtain rfl := Option.some.inj hf
      exact z_sub [2, 1, 0] rfl hk
def CK_poolsOutOfBand (σ : Sg)  : Option Int32 :=
  zlt 0 fun v1 =>
  zlt 0 fun v3 =>
  (zit (fun (s : (Int32 × Int32)) => CK_poolsOutOfBand_l4 σ s.1 s.2) zFU (v1, v3)).bind fun r =>
  some r.1
set_option maxRecDepth 20000 in
theorem t_CK_poolsOutOfBand {X : Zx} {Q : State → Prop} {σ : Sg}  (ok : Zok X cX11_poolsOutOfBand RX11 rm_CK_poolsOutOfBand 198 3)  {out : Int32} (hf : CK_poolsOutOfBand σ = some out) (hk : ZrI cX11_poolsOutOfBand X Q out σ) : ZAt X Q 0 0 0 σ [(0, .ref (X.ad 0))] [] := by
  unfold CK_poolsOutOfBand at hf
  refine z_iconst (v := 0) ok dX11_poolsOutOfBand_0 (by decide) ?_
  refine z_nm hf (fun v1 hf => ?_)
  refine z_istore_n (lv' := [(1, .int v1), (0, .ref (X.ad 0))]) ok dX11_poolsOutOfBand_1 (by decide) rfl ?_
  refine z_iconst (v := 0) ok dX11_poolsOutOfBand_2 (by decide) ?_
  refine z_nm hf (fun v3 hf => ?_)
  refine z_istore_n (lv' := [(2, .int v3), (1, .int v1), (0, .ref (X.ad 0))]) ok dX11_poolsOutOfBand_3 (by decide) rfl ?_
  refine z_call hf (fun r hr hf => ?_)
  refine z_sub [2, 1, 0] rfl (z_iter (fun (s : (Int32 × Int32)) => σ) (fun (s : (Int32 × Int32)) => [(0, .ref (X.ad 0)), (1, .int s.1), (2, .int s.2)]) (fun s o h1 h2 => t_CK_poolsOutOfBand_l4 ok h1 h2) _ _ _ hr ?_)
  show ZAt X Q 0 0 50 σ [(1, .int r.1)] []
  refine z_iload_n ok dX11_poolsOutOfBand_50 0 rfl ?_
  obtain rfl := Option.some.inj hf
  exact hk _ _ dX11_poolsOutOfBand_51
theorem c_CK_poolsOutOfBand {σ : Sg} {r : Int32} (h : CK_poolsOutOfBand σ = some r) : ZcI yX11_poolsOutOfBand cX11_poolsOutOfBand 3 .int rm_CK_poolsOutOfBand 198 (fun ad => [.ref (ad 0)]) σ r σ :=
  zmetI pn_11 rfl (fun _ => rfl) (fun _ => Nat.le_of_ble_eq_true rfl) rfl (fun X Q ok hk => t_CK_poolsOutOfBand ok h hk)
theorem dX11_has_0 : decode cX11_has 0 = .ok (.iload_n 1, 1) := by decide +kernel
theorem dX11_has_1 : decode cX11_has 1 = .ok (.tableswitch 175 0 10 #[59, 69, 79, 92, 105, 118, 131, 144, 154, 161, 168], 59) := by decide +kernel
theorem dX11_has_60 : decode cX11_has 60 = .ok (.aload_n 0, 1) := by decide +kernel
theorem dX11_has_61 : decode cX11_has 61 = .ok (.getfield 23, 3) := by decide +kernel
theorem dX11_has_64 : decode cX11_has 64 = .ok (.getfield 111, 3) := by decide +kernel
theorem dX11_has_67 : decode cX11_has 67 = .ok (.goto 110, 3) := by decide +kernel
theorem dX11_has_70 : decode cX11_has 70 = .ok (.aload_n 0, 1) := by decide +kernel
theorem dX11_has_71 : decode cX11_has 71 = .ok (.getfield 23, 3) := by decide +kernel
theorem dX11_has_74 : decode cX11_has 74 = .ok (.getfield 114, 3) := by decide +kernel
theorem dX11_has_77 : decode cX11_has 77 = .ok (.goto 100, 3) := by decide +kernel
theorem dX11_has_80 : decode cX11_has 80 = .ok (.aload_n 0, 1) := by decide +kernel
theorem dX11_has_81 : decode cX11_has 81 = .ok (.getfield 37, 3) := by decide +kernel
theorem dX11_has_84 : decode cX11_has 84 = .ok (.getfield 117, 3) := by decide +kernel
theorem dX11_has_87 : decode cX11_has 87 = .ok (.getfield 121, 3) := by decide +kernel
theorem dX11_has_90 : decode cX11_has 90 = .ok (.goto 87, 3) := by decide +kernel
theorem dX11_has_93 : decode cX11_has 93 = .ok (.aload_n 0, 1) := by decide +kernel
theorem dX11_has_94 : decode cX11_has 94 = .ok (.getfield 37, 3) := by decide +kernel
theorem dX11_has_97 : decode cX11_has 97 = .ok (.getfield 126, 3) := by decide +kernel
theorem dX11_has_100 : decode cX11_has 100 = .ok (.getfield 130, 3) := by decide +kernel
theorem dX11_has_103 : decode cX11_has 103 = .ok (.goto 74, 3) := by decide +kernel
theorem dX11_has_106 : decode cX11_has 106 = .ok (.aload_n 0, 1) := by decide +kernel
theorem dX11_has_107 : decode cX11_has 107 = .ok (.getfield 37, 3) := by decide +kernel
theorem dX11_has_110 : decode cX11_has 110 = .ok (.getfield 126, 3) := by decide +kernel
theorem dX11_has_113 : decode cX11_has 113 = .ok (.getfield 135, 3) := by decide +kernel
theorem dX11_has_116 : decode cX11_has 116 = .ok (.goto 61, 3) := by decide +kernel
theorem dX11_has_119 : decode cX11_has 119 = .ok (.aload_n 0, 1) := by decide +kernel
theorem dX11_has_120 : decode cX11_has 120 = .ok (.getfield 37, 3) := by decide +kernel
theorem dX11_has_123 : decode cX11_has 123 = .ok (.getfield 126, 3) := by decide +kernel
theorem dX11_has_126 : decode cX11_has 126 = .ok (.getfield 138, 3) := by decide +kernel
theorem dX11_has_129 : decode cX11_has 129 = .ok (.goto 48, 3) := by decide +kernel
theorem dX11_has_132 : decode cX11_has 132 = .ok (.aload_n 0, 1) := by decide +kernel
theorem dX11_has_133 : decode cX11_has 133 = .ok (.getfield 37, 3) := by decide +kernel
theorem dX11_has_136 : decode cX11_has 136 = .ok (.getfield 141, 3) := by decide +kernel
theorem dX11_has_139 : decode cX11_has 139 = .ok (.invokevirtual 145, 3) := by decide +kernel
theorem dX11_has_142 : decode cX11_has 142 = .ok (.goto 35, 3) := by decide +kernel
theorem dX11_has_145 : decode cX11_has 145 = .ok (.aload_n 0, 1) := by decide +kernel
theorem dX11_has_146 : decode cX11_has 146 = .ok (.getfield 55, 3) := by decide +kernel
theorem dX11_has_149 : decode cX11_has 149 = .ok (.getfield 102, 3) := by decide +kernel
theorem dX11_has_152 : decode cX11_has 152 = .ok (.goto 25, 3) := by decide +kernel
theorem dX11_has_155 : decode cX11_has 155 = .ok (.aload_n 0, 1) := by decide +kernel
theorem dX11_has_156 : decode cX11_has 156 = .ok (.getfield 105, 3) := by decide +kernel
theorem dX11_has_159 : decode cX11_has 159 = .ok (.goto 18, 3) := by decide +kernel
theorem dX11_has_162 : decode cX11_has 162 = .ok (.aload_n 0, 1) := by decide +kernel
theorem dX11_has_163 : decode cX11_has 163 = .ok (.getfield 59, 3) := by decide +kernel
theorem dX11_has_166 : decode cX11_has 166 = .ok (.goto 11, 3) := by decide +kernel
theorem dX11_has_169 : decode cX11_has 169 = .ok (.aload_n 0, 1) := by decide +kernel
theorem dX11_has_170 : decode cX11_has 170 = .ok (.invokevirtual 151, 3) := by decide +kernel
theorem dX11_has_173 : decode cX11_has 173 = .ok (.goto 4, 3) := by decide +kernel
theorem dX11_has_176 : decode cX11_has 176 = .ok (.iconst (-1), 1) := by decide +kernel
theorem dX11_has_177 : decode cX11_has 177 = .ok (.ireturn, 1) := by decide +kernel
abbrev rm_CK_has : Room := { frames := 2, cells := 0, slots := 0, locals := 44 }
def CK_has (σ : Sg) (x1 : Int32) : Option Int32 :=
  if x1 = 0 then (
    zmr2 3 29 (σ 0 3) fun q61 =>
    zgt σ q61 3 fun v64 =>
    some v64
  ) else (
  if x1 = 1 then (
    zmr2 3 29 (σ 0 3) fun q71 =>
    zgt σ q71 7 fun v74 =>
    some v74
  ) else (
  if x1 = 2 then (
    zgt σ 73 0 fun v87 =>
    some v87
  ) else (
  if x1 = 3 then (
    zgt σ 56 0 fun v100 =>
    some v100
  ) else (
  if x1 = 4 then (
    zgt σ 56 1 fun v113 =>
    some v113
  ) else (
  if x1 = 5 then (
    zgt σ 56 2 fun v126 =>
    some v126
  ) else (
  if x1 = 6 then (
    (Log_toldCount σ 77).bind fun r139 =>
    some r139
  ) else (
  if x1 = 7 then (
    zgt σ 124 0 fun v149 =>
    some v149
  ) else (
  if x1 = 8 then (
    zgt σ 0 11 fun v156 =>
    some v156
  ) else (
  if x1 = 9 then (
    zgt σ 0 14 fun v163 =>
    some v163
  ) else (
  if x1 = 10 then (
    (CK_poolsOutOfBand σ).bind fun r170 =>
    some r170
  ) else (
    some (-1)
  )))))))))))
set_option maxRecDepth 20000 in
theorem t_CK_has {X : Zx} {Q : State → Prop} {σ : Sg} {x1 : Int32} (ok : Zok X cX11_has RX11 rm_CK_has 198 2)  {out : Int32} (hf : CK_has σ x1 = some out) (hk : ZrI cX11_has X Q out σ) : ZAt X Q 0 0 0 σ [(0, .ref (X.ad 0)), (1, .int x1)] [] := by
  unfold CK_has at hf
  refine z_iload_n ok dX11_has_0 1 rfl ?_
  refine z_swc (v := 0) hf (fun hf => ?_) (fun n1_0 hf => ?_)
  · refine z_tableIn (tgt := 60) ok dX11_has_1 (by decide) (by decide) rfl (by decide) ?_
    refine z_aload_n ok dX11_has_60 0 rfl ?_
    refine z_getm2 (p := 3) (q := 29) ok kc_0 zc_11 hin_11 3 (by decide) fl_11_23 rfl (by decide) (by decide) dX11_has_61 hf (fun q61 e61 hf => ?_)
    have hq61 : zI_Works q61 198 := by rcases e61 with rfl | rfl; exact kI_Works_3; exact kI_Works_29
    obtain ⟨hq61_0, hq61_1, hq61_2, hq61_3, hq61_4, hq61_5, hq61_6, hq61_7, hq61_8, hq61_9, hq61_10, hq61_11, hq61_12, hq61_13, hq61_14, hq61_15, hq61_16, hq61_17, hq61_18, hq61_19, hq61_20, hq61_21, hq61_22, hq61_23, hq61_24, hq61_25⟩ := id hq61
    refine z_geti ok hq61_0 zc_10 hin_10 3 (by decide) fl_11_111 rfl dX11_has_64 hf (fun v64 hf => ?_)
    refine z_goto (tgt := 177) ok dX11_has_67 (by decide) ?_
    obtain rfl := Option.some.inj hf
    exact hk _ _ dX11_has_177
  refine z_swc (v := 1) hf (fun hf => ?_) (fun n1_1 hf => ?_)
  · refine z_tableIn (tgt := 70) ok dX11_has_1 (by decide) (by decide) rfl (by decide) ?_
    refine z_aload_n ok dX11_has_70 0 rfl ?_
    refine z_getm2 (p := 3) (q := 29) ok kc_0 zc_11 hin_11 3 (by decide) fl_11_23 rfl (by decide) (by decide) dX11_has_71 hf (fun q71 e71 hf => ?_)
    have hq71 : zI_Works q71 198 := by rcases e71 with rfl | rfl; exact kI_Works_3; exact kI_Works_29
    obtain ⟨hq71_0, hq71_1, hq71_2, hq71_3, hq71_4, hq71_5, hq71_6, hq71_7, hq71_8, hq71_9, hq71_10, hq71_11, hq71_12, hq71_13, hq71_14, hq71_15, hq71_16, hq71_17, hq71_18, hq71_19, hq71_20, hq71_21, hq71_22, hq71_23, hq71_24, hq71_25⟩ := id hq71
    refine z_geti ok hq71_0 zc_10 hin_10 7 (by decide) fl_11_114 rfl dX11_has_74 hf (fun v74 hf => ?_)
    refine z_goto (tgt := 177) ok dX11_has_77 (by decide) ?_
    obtain rfl := Option.some.inj hf
    exact hk _ _ dX11_has_177
  refine z_swc (v := 2) hf (fun hf => ?_) (fun n1_2 hf => ?_)
  · refine z_tableIn (tgt := 80) ok dX11_has_1 (by decide) (by decide) rfl (by decide) ?_
    refine z_aload_n ok dX11_has_80 0 rfl ?_
    refine z_getr (q := 55) ok kc_0 zc_11 hin_11 8 (by decide) fl_11_37 rfl dX11_has_81 ?_
    refine z_getr (q := 73) ok kc_55 zc_1 hin_1 1 (by decide) fl_11_117 rfl dX11_has_84 ?_
    refine z_geti ok kc_73 zc_3 hin_3 0 (by decide) fl_11_121 rfl dX11_has_87 hf (fun v87 hf => ?_)
    refine z_goto (tgt := 177) ok dX11_has_90 (by decide) ?_
    obtain rfl := Option.some.inj hf
    exact hk _ _ dX11_has_177
  refine z_swc (v := 3) hf (fun hf => ?_) (fun n1_3 hf => ?_)
  · refine z_tableIn (tgt := 93) ok dX11_has_1 (by decide) (by decide) rfl (by decide) ?_
    refine z_aload_n ok dX11_has_93 0 rfl ?_
    refine z_getr (q := 55) ok kc_0 zc_11 hin_11 8 (by decide) fl_11_37 rfl dX11_has_94 ?_
    refine z_getr (q := 56) ok kc_55 zc_1 hin_1 0 (by decide) fl_11_126 rfl dX11_has_97 ?_
    refine z_geti ok kc_56 zc_9 hin_9 0 (by decide) fl_11_130 rfl dX11_has_100 hf (fun v100 hf => ?_)
    refine z_goto (tgt := 177) ok dX11_has_103 (by decide) ?_
    obtain rfl := Option.some.inj hf
    exact hk _ _ dX11_has_177
  refine z_swc (v := 4) hf (fun hf => ?_) (fun n1_4 hf => ?_)
  · refine z_tableIn (tgt := 106) ok dX11_has_1 (by decide) (by decide) rfl (by decide) ?_
    refine z_aload_n ok dX11_has_106 0 rfl ?_
    refine z_getr (q := 55) ok kc_0 zc_11 hin_11 8 (by decide) fl_11_37 rfl dX11_has_107 ?_
    refine z_getr (q := 56) ok kc_55 zc_1 hin_1 0 (by decide) fl_11_126 rfl dX11_has_110 ?_
    refine z_geti ok kc_56 zc_9 hin_9 1 (by decide) fl_11_135 rfl dX11_has_113 hf (fun v113 hf => ?_)
    refine z_goto (tgt := 177) ok dX11_has_116 (by decide) ?_
    obtain rfl := Option.some.inj hf
    exact hk _ _ dX11_has_177
  refine z_swc (v := 5) hf (fun hf => ?_) (fun n1_5 hf => ?_)
  · refine z_tableIn (tgt := 119) ok dX11_has_1 (by decide) (by decide) rfl (by decide) ?_
    refine z_aload_n ok dX11_has_119 0 rfl ?_
    refine z_getr (q := 55) ok kc_0 zc_11 hin_11 8 (by decide) fl_11_37 rfl dX11_has_120 ?_
    refine z_getr (q := 56) ok kc_55 zc_1 hin_1 0 (by decide) fl_11_126 rfl dX11_has_123 ?_
    refine z_geti ok kc_56 zc_9 hin_9 2 (by decide) fl_11_138 rfl dX11_has_126 hf (fun v126 hf => ?_)
    refine z_goto (tgt := 177) ok dX11_has_129 (by decide) ?_
    obtain rfl := Option.some.inj hf
    exact hk _ _ dX11_has_177
  refine z_swc (v := 6) hf (fun hf => ?_) (fun n1_6 hf => ?_)
  · refine z_tableIn (tgt := 132) ok dX11_has_1 (by decide) (by decide) rfl (by decide) ?_
    refine z_aload_n ok dX11_has_132 0 rfl ?_
    refine z_getr (q := 55) ok kc_0 zc_11 hin_11 8 (by decide) fl_11_37 rfl dX11_has_133 ?_
    refine z_getr (q := 77) ok kc_55 zc_1 hin_1 2 (by decide) fl_11_141 rfl dX11_has_136 ?_
    refine z_call hf (fun r139 h139 hf => ?_)
    refine z_cV (As := []) (rest := []) (w := 77) ok kc_77 zc_0 (c_Log_toldCount kI_Log_77 h139) rfl ⟨ml_11_145, w_Log_toldCount⟩ hy_Log_toldCount ⟨rfl, rfl⟩ ⟨Nat.le_of_ble_eq_true rfl, Nat.le_of_ble_eq_true rfl⟩ ⟨Nat.zero_le _, Nat.zero_le _⟩ rfl (Nat.le_of_ble_eq_true rfl) dX11_has_139 ?_
    refine z_goto (tgt := 177) ok dX11_has_142 (by decide) ?_
    obtain rfl := Option.some.inj hf
    exact hk _ _ dX11_has_177
  refine z_swc (v := 7) hf (fun hf => ?_) (fun n1_7 hf => ?_)
  · refine z_tableIn (tgt := 145) ok dX11_has_1 (by decide) (by decide) rfl (by decide) ?_
    refine z_aload_n ok dX11_has_145 0 rfl ?_
    refine z_getr (q := 124) ok kc_0 zc_11 hin_11 13 (by decide) fl_11_55 rfl dX11_has_146 ?_
    refine z_geti ok kc_124 zc_7 hin_7 0 (by decide) fl_11_102 rfl dX11_has_149 hf (fun v149 hf => ?_)
    refine z_goto (tgt := 177) ok dX11_has_152 (by decide) ?_
    obtain rfl := Option.some.inj hf
    exact hk _ _ dX11_has_177
  refine z_swc (v := 8) hf (fun hf => ?_) (fun n1_8 hf => ?_)
  · refine z_tableIn (tgt := 155) ok dX11_has_1 (by decide) (by decide) rfl (by decide) ?_
    refine z_aload_n ok dX11_has_155 0 rfl ?_
    refine z_geti ok kc_0 zc_11 hin_11 11 (by decide) fl_11_105 rfl dX11_has_156 hf (fun v156 hf => ?_)
    refine z_goto (tgt := 177) ok dX11_has_159 (by decide) ?_
    obtain rfl := Option.some.inj hf
    exact hk _ _ dX11_has_177
  refine z_swc (v := 9) hf (fun hf => ?_) (fun n1_9 hf => ?_)
  · refine z_tableIn (tgt := 162) ok dX11_has_1 (by decide) (by decide) rfl (by decide) ?_
    refine z_aload_n ok dX11_has_162 0 rfl ?_
    refine z_geti ok kc_0 zc_11 hin_11 14 (by decide) fl_11_59 rfl dX11_has_163 hf (fun v163 hf => ?_)
    refine z_goto (tgt := 177) ok dX11_has_166 (by decide) ?_
    obtain rfl := Option.some.inj hf
    exact hk _ _ dX11_has_177
  refine z_swc (v := 10) hf (fun hf => ?_) (fun n1_10 hf => ?_)
  · refine z_tableIn (tgt := 169) ok dX11_has_1 (by decide) (by decide) rfl (by decide) ?_
    refine z_aload_n ok dX11_has_169 0 rfl ?_
    refine z_call hf (fun r170 h170 hf => ?_)
    refine z_cV (As := []) (rest := []) (w := 0) ok kc_0 zc_11 (c_CK_poolsOutOfBand h170) rfl ⟨ml_11_151, w_CK_poolsOutOfBand⟩ hy_CK_poolsOutOfBand ⟨rfl, rfl⟩ ⟨Nat.le_of_ble_eq_true rfl, Nat.le_of_ble_eq_true rfl⟩ ⟨Nat.zero_le _, Nat.zero_le _⟩ rfl (Nat.le_of_ble_eq_true rfl) dX11_has_170 ?_
    refine z_goto (tgt := 177) ok dX11_has_173 (by decide) ?_
    obtain rfl := Option.some.inj hf
    exact hk _ _ dX11_has_177
  refine z_tableOut (tgt := 176) ok dX11_has_1 (zsw_out 0 10 [0, 1, 2, 3, 4, 5, 6, 7, 8, 9, 10] (by decide) (List.forall_mem_cons.mpr ⟨n1_0, (List.forall_mem_cons.mpr ⟨n1_1, (List.forall_mem_cons.mpr ⟨n1_2, (List.forall_mem_cons.mpr ⟨n1_3, (List.forall_mem_cons.mpr ⟨n1_4, (List.forall_mem_cons.mpr ⟨n1_5, (List.forall_mem_cons.mpr ⟨n1_6, (List.forall_mem_cons.mpr ⟨n1_7, (List.forall_mem_cons.mpr ⟨n1_8, (List.forall_mem_cons.mpr ⟨n1_9, (List.forall_mem_cons.mpr ⟨n1_10, (fun _ h => absurd h List.not_mem_nil)⟩)⟩)⟩)⟩)⟩)⟩)⟩)⟩)⟩)⟩)⟩)) (by decide) ?_
  refine z_iconst (v := (-1)) ok dX11_has_176 (by decide) ?_
  obtain rfl := Option.some.inj hf
  exact hk _ _ dX11_has_177
theorem c_CK_has {σ : Sg} {x1 : Int32} {r : Int32} (h : CK_has σ x1 = some r) : ZcI yX11_has cX11_has 2 .int rm_CK_has 198 (fun ad => [.ref (ad 0), .int x1]) σ r σ :=
  zmetI pn_11 rfl (fun _ => rfl) (fun _ => Nat.le_of_ble_eq_true rfl) rfl (fun X Q ok hk => t_CK_has ok h hk)
