theorem dX11_init_0 : decode cX11_init 0 = .ok (.aload_n 0, 1) := by decide +kernel
theorem dX11_init_1 : decode cX11_init 1 = .ok (.invokespecial 1, 3) := by decide +kernel
theorem dX11_init_4 : decode cX11_init 4 = .ok (.aload_n 0, 1) := by decide +kernel
theorem dX11_init_5 : decode cX11_init 5 = .ok (.sipush 1600, 3) := by decide +kernel
theorem dX11_init_8 : decode cX11_init 8 = .ok (.newarray .byte, 2) := by decide +kernel
theorem dX11_init_10 : decode cX11_init 10 = .ok (.putfield 9, 3) := by decide +kernel
theorem dX11_init_13 : decode cX11_init 13 = .ok (.aload_n 0, 1) := by decide +kernel
theorem dX11_init_14 : decode cX11_init 14 = .ok (.new 13, 3) := by decide +kernel
theorem dX11_init_17 : decode cX11_init 17 = .ok (.dup, 1) := by decide +kernel
theorem dX11_init_18 : decode cX11_init 18 = .ok (.invokespecial 15, 3) := by decide +kernel
theorem dX11_init_21 : decode cX11_init 21 = .ok (.putfield 16, 3) := by decide +kernel
theorem dX11_init_24 : decode cX11_init 24 = .ok (.aload_n 0, 1) := by decide +kernel
theorem dX11_init_25 : decode cX11_init 25 = .ok (.new 20, 3) := by decide +kernel
theorem dX11_init_28 : decode cX11_init 28 = .ok (.dup, 1) := by decide +kernel
theorem dX11_init_29 : decode cX11_init 29 = .ok (.invokespecial 22, 3) := by decide +kernel
theorem dX11_init_32 : decode cX11_init 32 = .ok (.putfield 23, 3) := by decide +kernel
theorem dX11_init_35 : decode cX11_init 35 = .ok (.aload_n 0, 1) := by decide +kernel
theorem dX11_init_36 : decode cX11_init 36 = .ok (.new 20, 3) := by decide +kernel
theorem dX11_init_39 : decode cX11_init 39 = .ok (.dup, 1) := by decide +kernel
theorem dX11_init_40 : decode cX11_init 40 = .ok (.invokespecial 22, 3) := by decide +kernel
theorem dX11_init_43 : decode cX11_init 43 = .ok (.putfield 27, 3) := by decide +kernel
theorem dX11_init_46 : decode cX11_init 46 = .ok (.aload_n 0, 1) := by decide +kernel
theorem dX11_init_47 : decode cX11_init 47 = .ok (.iconst (-1), 1) := by decide +kernel
theorem dX11_init_48 : decode cX11_init 48 = .ok (.putfield 30, 3) := by decide +kernel
theorem dX11_init_51 : decode cX11_init 51 = .ok (.aload_n 0, 1) := by decide +kernel
theorem dX11_init_52 : decode cX11_init 52 = .ok (.new 34, 3) := by decide +kernel
theorem dX11_init_55 : decode cX11_init 55 = .ok (.dup, 1) := by decide +kernel
theorem dX11_init_56 : decode cX11_init 56 = .ok (.invokespecial 36, 3) := by decide +kernel
theorem dX11_init_59 : decode cX11_init 59 = .ok (.putfield 37, 3) := by decide +kernel
theorem dX11_init_62 : decode cX11_init 62 = .ok (.aload_n 0, 1) := by decide +kernel
theorem dX11_init_63 : decode cX11_init 63 = .ok (.bipush 20, 2) := by decide +kernel
theorem dX11_init_65 : decode cX11_init 65 = .ok (.anewarray 34, 3) := by decide +kernel
theorem dX11_init_68 : decode cX11_init 68 = .ok (.putfield 41, 3) := by decide +kernel
theorem dX11_init_71 : decode cX11_init 71 = .ok (.aload_n 0, 1) := by decide +kernel
theorem dX11_init_72 : decode cX11_init 72 = .ok (.new 45, 3) := by decide +kernel
theorem dX11_init_75 : decode cX11_init 75 = .ok (.dup, 1) := by decide +kernel
theorem dX11_init_76 : decode cX11_init 76 = .ok (.invokespecial 47, 3) := by decide +kernel
theorem dX11_init_79 : decode cX11_init 79 = .ok (.putfield 48, 3) := by decide +kernel
theorem dX11_init_82 : decode cX11_init 82 = .ok (.aload_n 0, 1) := by decide +kernel
theorem dX11_init_83 : decode cX11_init 83 = .ok (.new 52, 3) := by decide +kernel
theorem dX11_init_86 : decode cX11_init 86 = .ok (.dup, 1) := by decide +kernel
theorem dX11_init_87 : decode cX11_init 87 = .ok (.invokespecial 54, 3) := by decide +kernel
theorem dX11_init_90 : decode cX11_init 90 = .ok (.putfield 55, 3) := by decide +kernel
theorem dX11_init_93 : decode cX11_init 93 = .ok (.aload_n 0, 1) := by decide +kernel
theorem dX11_init_94 : decode cX11_init 94 = .ok (.iconst 1, 1) := by decide +kernel
theorem dX11_init_95 : decode cX11_init 95 = .ok (.putfield 59, 3) := by decide +kernel
theorem dX11_init_98 : decode cX11_init 98 = .ok (.aload_n 0, 1) := by decide +kernel
theorem dX11_init_99 : decode cX11_init 99 = .ok (.bipush 6, 2) := by decide +kernel
theorem dX11_init_101 : decode cX11_init 101 = .ok (.newarray .int, 2) := by decide +kernel
theorem dX11_init_103 : decode cX11_init 103 = .ok (.putfield 62, 3) := by decide +kernel
theorem dX11_init_106 : decode cX11_init 106 = .ok (.return_, 1) := by decide +kernel
theorem mo_11_1 : Cond.methodLink RX11 1 Lib.objectInit ∈ zT := zT_of (i := 148) (by decide +kernel) rfl
theorem fi_11_9 : Cond.fieldLink RX11 9 (TX11 0).1 (TX11 0).2.1 (TX11 0).2.2.1 ∈ zT := zT_of (i := 574) (by decide +kernel) rfl
theorem cl_11_13 : Cond.classLink RX11 13 RX5 ∈ zT := zT_of (i := 151) (by decide +kernel) rfl
theorem fi_11_16 : Cond.fieldLink RX11 16 (TX11 2).1 (TX11 2).2.1 (TX11 2).2.2.1 ∈ zT := zT_of (i := 576) (by decide +kernel) rfl
theorem cl_11_20 : Cond.classLink RX11 20 RX10 ∈ zT := zT_of (i := 185) (by decide +kernel) rfl
theorem fi_11_23 : Cond.fieldLink RX11 23 (TX11 3).1 (TX11 3).2.1 (TX11 3).2.2.1 ∈ zT := zT_of (i := 577) (by decide +kernel) rfl
theorem fi_11_27 : Cond.fieldLink RX11 27 (TX11 4).1 (TX11 4).2.1 (TX11 4).2.2.1 ∈ zT := zT_of (i := 578) (by decide +kernel) rfl
theorem fi_11_30 : Cond.fieldLink RX11 30 (TX11 7).1 (TX11 7).2.1 (TX11 7).2.2.1 ∈ zT := zT_of (i := 581) (by decide +kernel) rfl
theorem cl_11_34 : Cond.classLink RX11 34 RX1 ∈ zT := zT_of (i := 324) (by decide +kernel) rfl
theorem fi_11_37 : Cond.fieldLink RX11 37 (TX11 8).1 (TX11 8).2.1 (TX11 8).2.2.1 ∈ zT := zT_of (i := 582) (by decide +kernel) rfl
theorem fi_11_41 : Cond.fieldLink RX11 41 (TX11 9).1 (TX11 9).2.1 (TX11 9).2.2.1 ∈ zT := zT_of (i := 583) (by decide +kernel) rfl
theorem cl_11_45 : Cond.classLink RX11 45 RX4 ∈ zT := zT_of (i := 477) (by decide +kernel) rfl
theorem fi_11_48 : Cond.fieldLink RX11 48 (TX11 12).1 (TX11 12).2.1 (TX11 12).2.2.1 ∈ zT := zT_of (i := 586) (by decide +kernel) rfl
theorem cl_11_52 : Cond.classLink RX11 52 RX7 ∈ zT := zT_of (i := 542) (by decide +kernel) rfl
theorem fi_11_55 : Cond.fieldLink RX11 55 (TX11 13).1 (TX11 13).2.1 (TX11 13).2.2.1 ∈ zT := zT_of (i := 587) (by decide +kernel) rfl
theorem fi_11_59 : Cond.fieldLink RX11 59 (TX11 14).1 (TX11 14).2.1 (TX11 14).2.2.1 ∈ zT := zT_of (i := 588) (by decide +kernel) rfl
theorem fi_11_62 : Cond.fieldLink RX11 62 (TX11 15).1 (TX11 15).2.1 (TX11 15).2.2.1 ∈ zT := zT_of (i := 589) (by decide +kernel) rfl
abbrev rm_CK_init : Room := { frames := 4, cells := 170, slots := 10143, locals := 72 }
def ks_CK_init : List Kd := [.inl (11, [some (some (1)), none, some (some (2)), some none, some none, none, none, none, some (some (55)), some (some (80)), none, none, some (some (81)), some (some (124)), none, some (some (170))]), .inr (1, 1600, []), .inl (5, [some none, none, none, none, none, some none, none, none]), .inl (10, [none, none, none, none, some (some (4)), some (some (5)), some (some (15)), none, some (some (16)), some (some (17)), some (some (18)), some (some (19)), some (some (23))]), .inr (0, 8, []), .inr (2, 9, [6, 7, 8, 9, 10, 11, 12, 13, 14]), .inr (0, 8, []), .inr (0, 8, []), .inr (0, 8, []), .inr (0, 8, []), .inr (0, 8, []), .inr (0, 8, []), .inr (0, 8, []), .inr (0, 8, []), .inr (0, 8, []), .inr (0, 8, []), .inr (0, 10, []), .inr (0, 10, []), .inr (0, 10, []), .inl (3, [none, some (some (20)), some (some (21)), some (some (22))]), .inr (0, 16, []), .inr (0, 16, []), .inr (0, 16, []), .inl (8, [none, some (some (24)), some (some (25)), some (some (26))]), .inr (0, 2, []), .inr (0, 2, []), .inr (2, 2, [27, 28]), .inr (0, 6, []), .inr (0, 6, []), .inl (10, [none, none, none, none, some (some (30)), some (some (31)), some (some (41)), none, some (some (42)), some (some (43)), some (some (44)), some (some (45)), some (some (49))]), .inr (0, 8, []), .inr (2, 9, [32, 33, 34, 35, 36, 37, 38, 39, 40]), .inr (0, 8, []), .inr (0, 8, []), .inr (0, 8, []), .inr (0, 8, []), .inr (0, 8, []), .inr (0, 8, []), .inr (0, 8, []), .inr (0, 8, []), .inr (0, 8, []), .inr (0, 8, []), .inr (0, 10, []), .inr (0, 10, []), .inr (0, 10, []), .inl (3, [none, some (some (46)), some (some (47)), some (some (48))]), .inr (0, 16, []), .inr (0, 16, []), .inr (0, 16, []), .inl (8, [none, some (some (50)), some (some (51)), some (some (52))]), .inr (0, 2, []), .inr (0, 2, []), .inr (2, 2, [53, 54]), .inr (0, 6, []), .inr (0, 6, []), .inl (1, [some (some (56)), some (some (73)), some (some (77))]), .inl (9, [none, none, none, some (some (57)), some (some (58)), some (some (59)), some (some (60)), some (some (61)), some (some (62)), some (some (63)), some (some (64)), some (some (65))]), .inr (0, 8, []), .inr (0, 8, []), .inr (0, 8, []), .inr (0, 8, []), .inr (0, 72, []), .inr (0, 10, []), .inr (0, 10, []), .inr (0, 7, []), .inl (2, [some (some (66)), some (some (67)), some (some (68)), some (some (69)), some (some (70)), some (some (71)), some (some (72))]), .inr (0, 8, []), .inr (0, 8, []), .inr (0, 8, []), .inr (0, 8, []), .inr (0, 8, []), .inr (0, 8, []), .inr (0, 8, []), .inl (3, [none, some (some (74)), some (some (75)), some (some (76))]), .inr (0, 16, []), .inr (0, 16, []), .inr (0, 16, []), .inl (0, [none, some (some (78)), some (some (79))]), .inr (0, 120, []), .inr (0, 1280, []), .inr (4, 20, []), .inl (4, [some (some (82)), some (some (99)), some (some (103)), some none, some none, none, none, none]), .inl (9, [none, none, none, some (some (83)), some (some (84)), some (some (85)), some (some (86)), some (some (87)), some (some (88)), some (some (89)), some (some (90)), some (some (91))]), .inr (0, 8, []), .inr (0, 8, []), .inr (0, 8, []), .inr (0, 8, []), .inr (0, 72, []), .inr (0, 10, []), .inr (0, 10, []), .inr (0, 7, []), .inl (2, [some (some (92)), some (some (93)), some (some (94)), some (some (95)), some (some (96)), some (some (97)), some (some (98))]), .inr (0, 8, []), .inr (0, 8, []), .inr (0, 8, []), .inr (0, 8, []), .inr (0, 8, []), .inr (0, 8, []), .inr (0, 8, []), .inl (3, [none, some (some (100)), some (some (101)), some (some (102))]), .inr (0, 16, []), .inr (0, 16, []), .inr (0, 16, []), .inl (6, [none, none, none, some (some (104)), some (some (115))]), .inr (3, 10, [105, 106, 107, 108, 109, 110, 111, 112, 113, 114]), .inr (1, 273, []), .inr (1, 273, []), .inr (1, 273, []), .inr (1, 273, []), .inr (1, 273, []), .inr (1, 273, []), .inr (1, 273, []), .inr (1, 273, []), .inr (1, 273, []), .inr (1, 273, []), .inr (2, 8, [116, 117, 118, 119, 120, 121, 122, 123]), .inr (0, 201, []), .inr (0, 201, []), .inr (0, 201, []), .inr (0, 201, []), .inr (0, 201, []), .inr (0, 201, []), .inr (0, 201, []), .inr (0, 201, []), .inl (7, [none, none, some (some (125)), some (some (126)), none, some (some (127)), some (some (128))]), .inr (0, 10, []), .inr (0, 10, []), .inr (0, 41, []), .inr (2, 41, [129, 130, 131, 132, 133, 134, 135, 136, 137, 138, 139, 140, 141, 142, 143, 144, 145, 146, 147, 148, 149, 150, 151, 152, 153, 154, 155, 156, 157, 158, 159, 160, 161, 162, 163, 164, 165, 166, 167, 168, 169]), .inr (0, 41, []), .inr (0, 41, []), .inr (0, 41, []), .inr (0, 41, []), .inr (0, 41, []), .inr (0, 41, []), .inr (0, 41, []), .inr (0, 41, []), .inr (0, 41, []), .inr (0, 41, []), .inr (0, 41, []), .inr (0, 41, []), .inr (0, 41, []), .inr (0, 41, []), .inr (0, 41, []), .inr (0, 41, []), .inr (0, 41, []), .inr (0, 41, []), .inr (0, 41, []), .inr (0, 41, []), .inr (0, 41, []), .inr (0, 41, []), .inr (0, 41, []), .inr (0, 41, []), .inr (0, 41, []), .inr (0, 41, []), .inr (0, 41, []), .inr (0, 41, []), .inr (0, 41, []), .inr (0, 41, []), .inr (0, 41, []), .inr (0, 41, []), .inr (0, 41, []), .inr (0, 41, []), .inr (0, 41, []), .inr (0, 41, []), .inr (0, 41, []), .inr (0, 41, []), .inr (0, 41, []), .inr (0, 41, []), .inr (0, 41, []), .inr (0, 6, [])]
theorem w_CK_init : Cond.instanceMethod yX11_init ∈ zT ∧ Cond.initialized yX11_init.cls ∈ zT ∧ Cond.code yX11_init cX11_init 1 none ∈ zT := ⟨zT_of (i := 146) (by decide +kernel) rfl, zT_of (i := 123) (by decide +kernel) rfl, zT_of (i := 147) (by decide +kernel) rfl⟩
theorem hy_CK_init : yX11_init.cls ≠ "java/lang/invoke/MethodHandle" ∧ yX11_init.cls ≠ "java/lang/invoke/VarHandle" ∧ (parseMethodDescriptor yX11_init.desc).map (fun d => d.parameters.length) = some 0 := by decide +kernel
def sg_CK_init : Sg := (zup (zup (zup (zup zz0 0 3 (nI (3 + 1))) 0 4 (nI (29 + 1))) 0 7 (-1)) 0 14 1)
set_option maxRecDepth 100000 in
set_option maxHeartbeats 4000000 in
theorem c_CK_init : ZiV yX11_init cX11_init 1 rm_CK_init fk_11 ks_CK_init sg_CK_init 170 10143 :=
  zmetB pn_11 rfl rfl (by decide) (fun X Q ok hr => by
    refine zB_aload ok dX11_init_0 0 rfl ?_
    refine zB_obj ok mo_11_1 zo_i.1 zo_i.2 (Nat.le_of_ble_eq_true rfl) (Nat.le_of_ble_eq_true rfl) dX11_init_1 ?_
    refine zB_aload ok dX11_init_4 0 rfl ?_
    refine zB_sipush (v := 1600) ok dX11_init_5 (by decide) ?_
    refine zB_newa (n := 1600) (t := 1) ok (by simp) za_byte (by decide) (by decide) rfl ⟨Nat.le_of_ble_eq_true rfl, Nat.le_of_ble_eq_true rfl⟩ dX11_init_8 ?_
    refine zB_ks (ks' := [.inl (11, [some none, none, some none, some none, some none, none, none, none, some none, some none, none, none, some none, some none, none, some none]), .inr (1, 1600, [])]) rfl ?_
    refine zB_putF (ci := 11) (q := 1) ok rfl zc_11 hin_11 tyX11 tyX11_ok nmX11 (s := 0) (by decide) fi_11_9 ⟨rfl, rfl⟩ (tyX11_ok 0 (by decide)) rfl rfl (by decide) dX11_init_10 ?_
    refine zB_ks (ks' := [.inl (11, [some (some (1)), none, some none, some none, some none, none, none, none, some none, some none, none, none, some none, some none, none, some none]), .inr (1, 1600, [])]) rfl ?_
    refine zB_aload ok dX11_init_13 0 rfl ?_
    refine zB_new (ci := 5) ok cl_11_13 zn_5.1 zn_5.2 zc_5 hin_5 tyX5 tyX5_ok zf_5 rfl ⟨Nat.le_of_ble_eq_true rfl, Nat.le_of_ble_eq_true rfl⟩ dX11_init_14 ?_
    refine zB_dup ok dX11_init_17 rfl ?_
    refine zB_init (host := "CanalKeeper") (ks := [.inl (11, [some (some (1)), none, some none, some none, some none, none, none, none, some none, some none, none, none, some none, some none, none, some none]), .inr (1, 1600, [])]) ok c_Reader_init zg_5 (fun _ _ => rfl) (by decide +kernel) w_Reader_init hy_Reader_init rfl ⟨rfl, rfl⟩ ⟨Nat.le_of_ble_eq_true rfl, Nat.le_of_ble_eq_true rfl⟩ ⟨Nat.le_of_ble_eq_true rfl, Nat.le_of_ble_eq_true rfl⟩ (Nat.le_of_ble_eq_true rfl) dX11_init_18 ?_
    refine zB_ks (ks' := [.inl (11, [some (some (1)), none, some none, some none, some none, none, none, none, some none, some none, none, none, some none, some none, none, some none]), .inr (1, 1600, []), .inl (5, [some none, none, none, none, none, some none, none, none])]) rfl ?_
    refine zB_putF (ci := 11) (q := 2) ok rfl zc_11 hin_11 tyX11 tyX11_ok nmX11 (s := 2) (by decide) fi_11_16 ⟨rfl, rfl⟩ (tyX11_ok 2 (by decide)) rfl rfl (by decide) dX11_init_21 ?_
    refine zB_ks (ks' := [.inl (11, [some (some (1)), none, some (some (2)), some none, some none, none, none, none, some none, some none, none, none, some none, some none, none, some none]), .inr (1, 1600, []), .inl (5, [some none, none, none, none, none, some none, none, none])]) rfl ?_
    refine zB_aload ok dX11_init_24 0 rfl ?_
    refine zB_new (ci := 10) ok cl_11_20 zn_10.1 zn_10.2 zc_10 hin_10 tyX10 tyX10_ok zf_10 rfl ⟨Nat.le_of_ble_eq_true rfl, Nat.le_of_ble_eq_true rfl⟩ dX11_init_25 ?_
    refine zB_dup ok dX11_init_28 rfl ?_
    refine zB_init (host := "CanalKeeper") (ks := [.inl (11, [some (some (1)), none, some (some (2)), some none, some none, none, none, none, some none, some none, none, none, some none, some none, none, some none]), .inr (1, 1600, []), .inl (5, [some none, none, none, none, none, some none, none, none])]) ok c_Works_init zg_10 (fun _ _ => rfl) (by decide +kernel) w_Works_init hy_Works_init rfl ⟨rfl, rfl⟩ ⟨Nat.le_of_ble_eq_true rfl, Nat.le_of_ble_eq_true rfl⟩ ⟨Nat.le_of_ble_eq_true rfl, Nat.le_of_ble_eq_true rfl⟩ (Nat.le_of_ble_eq_true rfl) dX11_init_29 ?_
    refine zB_ks (ks' := [.inl (11, [some (some (1)), none, some (some (2)), some none, some none, none, none, none, some none, some none, none, none, some none, some none, none, some none]), .inr (1, 1600, []), .inl (5, [some none, none, none, none, none, some none, none, none]), .inl (10, [none, none, none, none, some (some (4)), some (some (5)), some (some (15)), none, some (some (16)), some (some (17)), some (some (18)), some (some (19)), some (some (23))]), .inr (0, 8, []), .inr (2, 9, [6, 7, 8, 9, 10, 11, 12, 13, 14]), .inr (0, 8, []), .inr (0, 8, []), .inr (0, 8, []), .inr (0, 8, []), .inr (0, 8, []), .inr (0, 8, []), .inr (0, 8, []), .inr (0, 8, []), .inr (0, 8, []), .inr (0, 8, []), .inr (0, 10, []), .inr (0, 10, []), .inr (0, 10, []), .inl (3, [none, some (some (20)), some (some (21)), some (some (22))]), .inr (0, 16, []), .inr (0, 16, []), .inr (0, 16, []), .inl (8, [none, some (some (24)), some (some (25)), some (some (26))]), .inr (0, 2, []), .inr (0, 2, []), .inr (2, 2, [27, 28]), .inr (0, 6, []), .inr (0, 6, [])]) rfl ?_
    refine zB_putm (ci := 11) (q := 3) ok rfl zc_11 hin_11 tyX11 tyX11_ok nmX11 (s := 3) (by decide) fi_11_23 rfl (tyX11_ok 3 (by decide)) rfl rfl rfl (by decide) rfl dX11_init_32 ?_
    refine zB_aload ok dX11_init_35 0 rfl ?_
    refine zB_new (ci := 10) ok cl_11_20 zn_10.1 zn_10.2 zc_10 hin_10 tyX10 tyX10_ok zf_10 ((fun j (hj : 29 ≤ j) => by (repeat rw [zup_ne (show j ≠ _ by omega)]); rfl) _ (Nat.le_refl _)) ⟨Nat.le_of_ble_eq_true rfl, Nat.le_of_ble_eq_true rfl⟩ dX11_init_36 ?_
    refine zB_dup ok dX11_init_39 rfl ?_
    refine zB_init (host := "CanalKeeper") (ks := [.inl (11, [some (some (1)), none, some (some (2)), some none, some none, none, none, none, some none, some none, none, none, some none, some none, none, some none]), .inr (1, 1600, []), .inl (5, [some none, none, none, none, none, some none, none, none]), .inl (10, [none, none, none, none, some (some (4)), some (some (5)), some (some (15)), none, some (some (16)), some (some (17)), some (some (18)), some (some (19)), some (some (23))]), .inr (0, 8, []), .inr (2, 9, [6, 7, 8, 9, 10, 11, 12, 13, 14]), .inr (0, 8, []), .inr (0, 8, []), .inr (0, 8, []), .inr (0, 8, []), .inr (0, 8, []), .inr (0, 8, []), .inr (0, 8, []), .inr (0, 8, []), .inr (0, 8, []), .inr (0, 8, []), .inr (0, 10, []), .inr (0, 10, []), .inr (0, 10, []), .inl (3, [none, some (some (20)), some (some (21)), some (some (22))]), .inr (0, 16, []), .inr (0, 16, []), .inr (0, 16, []), .inl (8, [none, some (some (24)), some (some (25)), some (some (26))]), .inr (0, 2, []), .inr (0, 2, []), .inr (2, 2, [27, 28]), .inr (0, 6, []), .inr (0, 6, [])]) ok c_Works_init zg_10 (fun j (hj : 29 ≤ j) => by (repeat rw [zup_ne (show j ≠ _ by omega)]); rfl) (by decide +kernel) w_Works_init hy_Works_init rfl ⟨rfl, rfl⟩ ⟨Nat.le_of_ble_eq_true rfl, Nat.le_of_ble_eq_true rfl⟩ ⟨Nat.le_of_ble_eq_true rfl, Nat.le_of_ble_eq_true rfl⟩ (Nat.le_of_ble_eq_true rfl) dX11_init_40 ?_
    refine zB_ks (ks' := [.inl (11, [some (some (1)), none, some (some (2)), some none, some none, none, none, none, some none, some none, none, none, some none, some none, none, some none]), .inr (1, 1600, []), .inl (5, [some none, none, none, none, none, some none, none, none]), .inl (10, [none, none, none, none, some (some (4)), some (some (5)), some (some (15)), none, some (some (16)), some (some (17)), some (some (18)), some (some (19)), some (some (23))]), .inr (0, 8, []), .inr (2, 9, [6, 7, 8, 9, 10, 11, 12, 13, 14]), .inr (0, 8, []), .inr (0, 8, []), .inr (0, 8, []), .inr (0, 8, []), .inr (0, 8, []), .inr (0, 8, []), .inr (0, 8, []), .inr (0, 8, []), .inr (0, 8, []), .inr (0, 8, []), .inr (0, 10, []), .inr (0, 10, []), .inr (0, 10, []), .inl (3, [none, some (some (20)), some (some (21)), some (some (22))]), .inr (0, 16, []), .inr (0, 16, []), .inr (0, 16, []), .inl (8, [none, some (some (24)), some (some (25)), some (some (26))]), .inr (0, 2, []), .inr (0, 2, []), .inr (2, 2, [27, 28]), .inr (0, 6, []), .inr (0, 6, []), .inl (10, [none, none, none, none, some (some (30)), some (some (31)), some (some (41)), none, some (some (42)), some (some (43)), some (some (44)), some (some (45)), some (some (49))]), .inr (0, 8, []), .inr (2, 9, [32, 33, 34, 35, 36, 37, 38, 39, 40]), .inr (0, 8, []), .inr (0, 8, []), .inr (0, 8, []), .inr (0, 8, []), .inr (0, 8, []), .inr (0, 8, []), .inr (0, 8, []), .inr (0, 8, []), .inr (0, 8, []), .inr (0, 8, []), .inr (0, 10, []), .inr (0, 10, []), .inr (0, 10, []), .inl (3, [none, some (some (46)), some (some (47)), some (some (48))]), .inr (0, 16, []), .inr (0, 16, []), .inr (0, 16, []), .inl (8, [none, some (some (50)), some (some (51)), some (some (52))]), .inr (0, 2, []), .inr (0, 2, []), .inr (2, 2, [53, 54]), .inr (0, 6, []), .inr (0, 6, [])]) rfl ?_
    refine zB_putm (ci := 11) (q := 29) ok rfl zc_11 hin_11 tyX11 tyX11_ok nmX11 (s := 4) (by decide) fi_11_27 rfl (tyX11_ok 4 (by decide)) rfl rfl rfl (by decide) rfl dX11_init_43 ?_
    refine zB_aload ok dX11_init_46 0 rfl ?_
    refine zB_iconst (v := (-1)) ok dX11_init_47 (by decide) ?_
    refine zB_puti (ci := 11) ok rfl zc_11 hin_11 tyX11 tyX11_ok nmX11 (s := 7) (by decide) fi_11_30 rfl (tyX11_ok 7 (by decide)) rfl rfl rfl rfl dX11_init_48 ?_
    refine zB_aload ok dX11_init_51 0 rfl ?_
    refine zB_new (ci := 1) ok cl_11_34 zn_1.1 zn_1.2 zc_1 hin_1 tyX1 tyX1_ok zf_1 ((fun j (hj : 55 ≤ j) => by (repeat rw [zup_ne (show j ≠ _ by omega)]); rfl) _ (Nat.le_refl _)) ⟨Nat.le_of_ble_eq_true rfl, Nat.le_of_ble_eq_true rfl⟩ dX11_init_52 ?_
    refine zB_dup ok dX11_init_55 rfl ?_
    refine zB_init (host := "CanalKeeper") (ks := [.inl (11, [some (some (1)), none, some (some (2)), some none, some none, none, none, none, some none, some none, none, none, some none, some none, none, some none]), .inr (1, 1600, []), .inl (5, [some none, none, none, none, none, some none, none, none]), .inl (10, [none, none, none, none, some (some (4)), some (some (5)), some (some (15)), none, some (some (16)), some (some (17)), some (some (18)), some (some (19)), some (some (23))]), .inr (0, 8, []), .inr (2, 9, [6, 7, 8, 9, 10, 11, 12, 13, 14]), .inr (0, 8, []), .inr (0, 8, []), .inr (0, 8, []), .inr (0, 8, []), .inr (0, 8, []), .inr (0, 8, []), .inr (0, 8, []), .inr (0, 8, []), .inr (0, 8, []), .inr (0, 8, []), .inr (0, 10, []), .inr (0, 10, []), .inr (0, 10, []), .inl (3, [none, some (some (20)), some (some (21)), some (some (22))]), .inr (0, 16, []), .inr (0, 16, []), .inr (0, 16, []), .inl (8, [none, some (some (24)), some (some (25)), some (some (26))]), .inr (0, 2, []), .inr (0, 2, []), .inr (2, 2, [27, 28]), .inr (0, 6, []), .inr (0, 6, []), .inl (10, [none, none, none, none, some (some (30)), some (some (31)), some (some (41)), none, some (some (42)), some (some (43)), some (some (44)), some (some (45)), some (some (49))]), .inr (0, 8, []), .inr (2, 9, [32, 33, 34, 35, 36, 37, 38, 39, 40]), .inr (0, 8, []), .inr (0, 8, []), .inr (0, 8, []), .inr (0, 8, []), .inr (0, 8, []), .inr (0, 8, []), .inr (0, 8, []), .inr (0, 8, []), .inr (0, 8, []), .inr (0, 8, []), .inr (0, 10, []), .inr (0, 10, []), .inr (0, 10, []), .inl (3, [none, some (some (46)), some (some (47)), some (some (48))]), .inr (0, 16, []), .inr (0, 16, []), .inr (0, 16, []), .inl (8, [none, some (some (50)), some (some (51)), some (some (52))]), .inr (0, 2, []), .inr (0, 2, []), .inr (2, 2, [53, 54]), .inr (0, 6, []), .inr (0, 6, [])]) ok c_Moment_init zg_1 (fun j (hj : 55 ≤ j) => by (repeat rw [zup_ne (show j ≠ _ by omega)]); rfl) (by decide +kernel) w_Moment_init hy_Moment_init rfl ⟨rfl, rfl⟩ ⟨Nat.le_of_ble_eq_true rfl, Nat.le_of_ble_eq_true rfl⟩ ⟨Nat.le_of_ble_eq_true rfl, Nat.le_of_ble_eq_true rfl⟩ (Nat.le_of_ble_eq_true rfl) dX11_init_56 ?_
    refine zB_ks (ks' := [.inl (11, [some (some (1)), none, some (some (2)), some none, some none, none, none, none, some none, some none, none, none, some none, some none, none, some none]), .inr (1, 1600, []), .inl (5, [some none, none, none, none, none, some none, none, none]), .inl (10, [none, none, none, none, some (some (4)), some (some (5)), some (some (15)), none, some (some (16)), some (some (17)), some (some (18)), some (some (19)), some (some (23))]), .inr (0, 8, []), .inr (2, 9, [6, 7, 8, 9, 10, 11, 12, 13, 14]), .inr (0, 8, []), .inr (0, 8, []), .inr (0, 8, []), .inr (0, 8, []), .inr (0, 8, []), .inr (0, 8, []), .inr (0, 8, []), .inr (0, 8, []), .inr (0, 8, []), .inr (0, 8, []), .inr (0, 10, []), .inr (0, 10, []), .inr (0, 10, []), .inl (3, [none, some (some (20)), some (some (21)), some (some (22))]), .inr (0, 16, []), .inr (0, 16, []), .inr (0, 16, []), .inl (8, [none, some (some (24)), some (some (25)), some (some (26))]), .inr (0, 2, []), .inr (0, 2, []), .inr (2, 2, [27, 28]), .inr (0, 6, []), .inr (0, 6, []), .inl (10, [none, none, none, none, some (some (30)), some (some (31)), some (some (41)), none, some (some (42)), some (some (43)), some (some (44)), some (some (45)), some (some (49))]), .inr (0, 8, []), .inr (2, 9, [32, 33, 34, 35, 36, 37, 38, 39, 40]), .inr (0, 8, []), .inr (0, 8, []), .inr (0, 8, []), .inr (0, 8, []), .inr (0, 8, []), .inr (0, 8, []), .inr (0, 8, []), .inr (0, 8, []), .inr (0, 8, []), .inr (0, 8, []), .inr (0, 10, []), .inr (0, 10, []), .inr (0, 10, []), .inl (3, [none, some (some (46)), some (some (47)), some (some (48))]), .inr (0, 16, []), .inr (0, 16, []), .inr (0, 16, []), .inl (8, [none, some (some (50)), some (some (51)), some (some (52))]), .inr (0, 2, []), .inr (0, 2, []), .inr (2, 2, [53, 54]), .inr (0, 6, []), .inr (0, 6, []), .inl (1, [some (some (56)), some (some (73)), some (some (77))]), .inl (9, [none, none, none, some (some (57)), some (some (58)), some (some (59)), some (some (60)), some (some (61)), some (some (62)), some (some (63)), some (some (64)), some (some (65))]), .inr (0, 8, []), .inr (0, 8, []), .inr (0, 8, []), .inr (0, 8, []), .inr (0, 72, []), .inr (0, 10, []), .inr (0, 10, []), .inr (0, 7, []), .inl (2, [some (some (66)), some (some (67)), some (some (68)), some (some (69)), some (some (70)), some (some (71)), some (some (72))]), .inr (0, 8, []), .inr (0, 8, []), .inr (0, 8, []), .inr (0, 8, []), .inr (0, 8, []), .inr (0, 8, []), .inr (0, 8, []), .inl (3, [none, some (some (74)), some (some (75)), some (some (76))]), .inr (0, 16, []), .inr (0, 16, []), .inr (0, 16, []), .inl (0, [none, some (some (78)), some (some (79))]), .inr (0, 120, []), .inr (0, 1280, [])]) rfl ?_
    refine zB_putF (ci := 11) (q := 55) ok rfl zc_11 hin_11 tyX11 tyX11_ok nmX11 (s := 8) (by decide) fi_11_37 ⟨rfl, rfl⟩ (tyX11_ok 8 (by decide)) rfl rfl (by decide) dX11_init_59 ?_
    refine zB_ks (ks' := [.inl (11, [some (some (1)), none, some (some (2)), some none, some none, none, none, none, some (some (55)), some none, none, none, some none, some none, none, some none]), .inr (1, 1600, []), .inl (5, [some none, none, none, none, none, some none, none, none]), .inl (10, [none, none, none, none, some (some (4)), some (some (5)), some (some (15)), none, some (some (16)), some (some (17)), some (some (18)), some (some (19)), some (some (23))]), .inr (0, 8, []), .inr (2, 9, [6, 7, 8, 9, 10, 11, 12, 13, 14]), .inr (0, 8, []), .inr (0, 8, []), .inr (0, 8, []), .inr (0, 8, []), .inr (0, 8, []), .inr (0, 8, []), .inr (0, 8, []), .inr (0, 8, []), .inr (0, 8, []), .inr (0, 8, []), .inr (0, 10, []), .inr (0, 10, []), .inr (0, 10, []), .inl (3, [none, some (some (20)), some (some (21)), some (some (22))]), .inr (0, 16, []), .inr (0, 16, []), .inr (0, 16, []), .inl (8, [none, some (some (24)), some (some (25)), some (some (26))]), .inr (0, 2, []), .inr (0, 2, []), .inr (2, 2, [27, 28]), .inr (0, 6, []), .inr (0, 6, []), .inl (10, [none, none, none, none, some (some (30)), some (some (31)), some (some (41)), none, some (some (42)), some (some (43)), some (some (44)), some (some (45)), some (some (49))]), .inr (0, 8, []), .inr (2, 9, [32, 33, 34, 35, 36, 37, 38, 39, 40]), .inr (0, 8, []), .inr (0, 8, []), .inr (0, 8, []), .inr (0, 8, []), .inr (0, 8, []), .inr (0, 8, []), .inr (0, 8, []), .inr (0, 8, []), .inr (0, 8, []), .inr (0, 8, []), .inr (0, 10, []), .inr (0, 10, []), .inr (0, 10, []), .inl (3, [none, some (some (46)), some (some (47)), some (some (48))]), .inr (0, 16, []), .inr (0, 16, []), .inr (0, 16, []), .inl (8, [none, some (some (50)), some (some (51)), some (some (52))]), .inr (0, 2, []), .inr (0, 2, []), .inr (2, 2, [53, 54]), .inr (0, 6, []), .inr (0, 6, []), .inl (1, [some (some (56)), some (some (73)), some (some (77))]), .inl (9, [none, none, none, some (some (57)), some (some (58)), some (some (59)), some (some (60)), some (some (61)), some (some (62)), some (some (63)), some (some (64)), some (some (65))]), .inr (0, 8, []), .inr (0, 8, []), .inr (0, 8, []), .inr (0, 8, []), .inr (0, 72, []), .inr (0, 10, []), .inr (0, 10, []), .inr (0, 7, []), .inl (2, [some (some (66)), some (some (67)), some (some (68)), some (some (69)), some (some (70)), some (some (71)), some (some (72))]), .inr (0, 8, []), .inr (0, 8, []), .inr (0, 8, []), .inr (0, 8, []), .inr (0, 8, []), .inr (0, 8, []), .inr (0, 8, []), .inl (3, [none, some (some (74)), some (some (75)), some (some (76))]), .inr (0, 16, []), .inr (0, 16, []), .inr (0, 16, []), .inl (0, [none, some (some (78)), some (some (79))]), .inr (0, 120, []), .inr (0, 1280, [])]) rfl ?_
    refine zB_aload ok dX11_init_62 0 rfl ?_
    refine zB_bipush (v := 20) ok dX11_init_63 (by decide) ?_
    refine zB_anew (n := 20) ok cl_11_34 (by decide) (by decide) ((fun j (hj : 80 ≤ j) => by (repeat rw [zup_ne (show j ≠ _ by omega)]); rfl) _ (Nat.le_refl _)) ⟨Nat.le_of_ble_eq_true rfl, Nat.le_of_ble_eq_true rfl⟩ dX11_init_65 ?_
    refine zB_ks (ks' := [.inl (11, [some (some (1)), none, some (some (2)), some none, some none, none, none, none, some (some (55)), some none, none, none, some none, some none, none, some none]), .inr (1, 1600, []), .inl (5, [some none, none, none, none, none, some none, none, none]), .inl (10, [none, none, none, none, some (some (4)), some (some (5)), some (some (15)), none, some (some (16)), some (some (17)), some (some (18)), some (some (19)), some (some (23))]), .inr (0, 8, []), .inr (2, 9, [6, 7, 8, 9, 10, 11, 12, 13, 14]), .inr (0, 8, []), .inr (0, 8, []), .inr (0, 8, []), .inr (0, 8, []), .inr (0, 8, []), .inr (0, 8, []), .inr (0, 8, []), .inr (0, 8, []), .inr (0, 8, []), .inr (0, 8, []), .inr (0, 10, []), .inr (0, 10, []), .inr (0, 10, []), .inl (3, [none, some (some (20)), some (some (21)), some (some (22))]), .inr (0, 16, []), .inr (0, 16, []), .inr (0, 16, []), .inl (8, [none, some (some (24)), some (some (25)), some (some (26))]), .inr (0, 2, []), .inr (0, 2, []), .inr (2, 2, [27, 28]), .inr (0, 6, []), .inr (0, 6, []), .inl (10, [none, none, none, none, some (some (30)), some (some (31)), some (some (41)), none, some (some (42)), some (some (43)), some (some (44)), some (some (45)), some (some (49))]), .inr (0, 8, []), .inr (2, 9, [32, 33, 34, 35, 36, 37, 38, 39, 40]), .inr (0, 8, []), .inr (0, 8, []), .inr (0, 8, []), .inr (0, 8, []), .inr (0, 8, []), .inr (0, 8, []), .inr (0, 8, []), .inr (0, 8, []), .inr (0, 8, []), .inr (0, 8, []), .inr (0, 10, []), .inr (0, 10, []), .inr (0, 10, []), .inl (3, [none, some (some (46)), some (some (47)), some (some (48))]), .inr (0, 16, []), .inr (0, 16, []), .inr (0, 16, []), .inl (8, [none, some (some (50)), some (some (51)), some (some (52))]), .inr (0, 2, []), .inr (0, 2, []), .inr (2, 2, [53, 54]), .inr (0, 6, []), .inr (0, 6, []), .inl (1, [some (some (56)), some (some (73)), some (some (77))]), .inl (9, [none, none, none, some (some (57)), some (some (58)), some (some (59)), some (some (60)), some (some (61)), some (some (62)), some (some (63)), some (some (64)), some (some (65))]), .inr (0, 8, []), .inr (0, 8, []), .inr (0, 8, []), .inr (0, 8, []), .inr (0, 72, []), .inr (0, 10, []), .inr (0, 10, []), .inr (0, 7, []), .inl (2, [some (some (66)), some (some (67)), some (some (68)), some (some (69)), some (some (70)), some (some (71)), some (some (72))]), .inr (0, 8, []), .inr (0, 8, []), .inr (0, 8, []), .inr (0, 8, []), .inr (0, 8, []), .inr (0, 8, []), .inr (0, 8, []), .inl (3, [none, some (some (74)), some (some (75)), some (some (76))]), .inr (0, 16, []), .inr (0, 16, []), .inr (0, 16, []), .inl (0, [none, some (some (78)), some (some (79))]), .inr (0, 120, []), .inr (0, 1280, []), .inr (4, 20, [])]) rfl ?_
    refine zB_putF (ci := 11) (q := 80) ok rfl zc_11 hin_11 tyX11 tyX11_ok nmX11 (s := 9) (by decide) fi_11_41 ⟨rfl, rfl⟩ (tyX11_ok 9 (by decide)) rfl rfl (by decide) dX11_init_68 ?_
    refine zB_ks (ks' := [.inl (11, [some (some (1)), none, some (some (2)), some none, some none, none, none, none, some (some (55)), some (some (80)), none, none, some none, some none, none, some none]), .inr (1, 1600, []), .inl (5, [some none, none, none, none, none, some none, none, none]), .inl (10, [none, none, none, none, some (some (4)), some (some (5)), some (some (15)), none, some (some (16)), some (some (17)), some (some (18)), some (some (19)), some (some (23))]), .inr (0, 8, []), .inr (2, 9, [6, 7, 8, 9, 10, 11, 12, 13, 14]), .inr (0, 8, []), .inr (0, 8, []), .inr (0, 8, []), .inr (0, 8, []), .inr (0, 8, []), .inr (0, 8, []), .inr (0, 8, []), .inr (0, 8, []), .inr (0, 8, []), .inr (0, 8, []), .inr (0, 10, []), .inr (0, 10, []), .inr (0, 10, []), .inl (3, [none, some (some (20)), some (some (21)), some (some (22))]), .inr (0, 16, []), .inr (0, 16, []), .inr (0, 16, []), .inl (8, [none, some (some (24)), some (some (25)), some (some (26))]), .inr (0, 2, []), .inr (0, 2, []), .inr (2, 2, [27, 28]), .inr (0, 6, []), .inr (0, 6, []), .inl (10, [none, none, none, none, some (some (30)), some (some (31)), some (some (41)), none, some (some (42)), some (some (43)), some (some (44)), some (some (45)), some (some (49))]), .inr (0, 8, []), .inr (2, 9, [32, 33, 34, 35, 36, 37, 38, 39, 40]), .inr (0, 8, []), .inr (0, 8, []), .inr (0, 8, []), .inr (0, 8, []), .inr (0, 8, []), .inr (0, 8, []), .inr (0, 8, []), .inr (0, 8, []), .inr (0, 8, []), .inr (0, 8, []), .inr (0, 10, []), .inr (0, 10, []), .inr (0, 10, []), .inl (3, [none, some (some (46)), some (some (47)), some (some (48))]), .inr (0, 16, []), .inr (0, 16, []), .inr (0, 16, []), .inl (8, [none, some (some (50)), some (some (51)), some (some (52))]), .inr (0, 2, []), .inr (0, 2, []), .inr (2, 2, [53, 54]), .inr (0, 6, []), .inr (0, 6, []), .inl (1, [some (some (56)), some (some (73)), some (some (77))]), .inl (9, [none, none, none, some (some (57)), some (some (58)), some (some (59)), some (some (60)), some (some (61)), some (some (62)), some (some (63)), some (some (64)), some (some (65))]), .inr (0, 8, []), .inr (0, 8, []), .inr (0, 8, []), .inr (0, 8, []), .inr (0, 72, []), .inr (0, 10, []), .inr (0, 10, []), .inr (0, 7, []), .inl (2, [some (some (66)), some (some (67)), some (some (68)), some (some (69)), some (some (70)), some (some (71)), some (some (72))]), .inr (0, 8, []), .inr (0, 8, []), .inr (0, 8, []), .inr (0, 8, []), .inr (0, 8, []), .inr (0, 8, []), .inr (0, 8, []), .inl (3, [none, some (some (74)), some (some (75)), some (some (76))]), .inr (0, 16, []), .inr (0, 16, []), .inr (0, 16, []), .inl (0, [none, some (some (78)), some (some (79))]), .inr (0, 120, []), .inr (0, 1280, []), .inr (4, 20, [])]) rfl ?_
    refine zB_aload ok dX11_init_71 0 rfl ?_
    refine zB_new (ci := 4) ok cl_11_45 zn_4.1 zn_4.2 zc_4 hin_4 tyX4 tyX4_ok zf_4 ((fun j (hj : 81 ≤ j) => by (repeat rw [zup_ne (show j ≠ _ by omega)]); rfl) _ (Nat.le_refl _)) ⟨Nat.le_of_ble_eq_true rfl, Nat.le_of_ble_eq_true rfl⟩ dX11_init_72 ?_
    refine zB_dup ok dX11_init_75 rfl ?_
    refine zB_init (host := "CanalKeeper") (ks := [.inl (11, [some (some (1)), none, some (some (2)), some none, some none, none, none, none, some (some (55)), some (some (80)), none, none, some none, some none, none, some none]), .inr (1, 1600, []), .inl (5, [some none, none, none, none, none, some none, none, none]), .inl (10, [none, none, none, none, some (some (4)), some (some (5)), some (some (15)), none, some (some (16)), some (some (17)), some (some (18)), some (some (19)), some (some (23))]), .inr (0, 8, []), .inr (2, 9, [6, 7, 8, 9, 10, 11, 12, 13, 14]), .inr (0, 8, []), .inr (0, 8, []), .inr (0, 8, []), .inr (0, 8, []), .inr (0, 8, []), .inr (0, 8, []), .inr (0, 8, []), .inr (0, 8, []), .inr (0, 8, []), .inr (0, 8, []), .inr (0, 10, []), .inr (0, 10, []), .inr (0, 10, []), .inl (3, [none, some (some (20)), some (some (21)), some (some (22))]), .inr (0, 16, []), .inr (0, 16, []), .inr (0, 16, []), .inl (8, [none, some (some (24)), some (some (25)), some (some (26))]), .inr (0, 2, []), .inr (0, 2, []), .inr (2, 2, [27, 28]), .inr (0, 6, []), .inr (0, 6, []), .inl (10, [none, none, none, none, some (some (30)), some (some (31)), some (some (41)), none, some (some (42)), some (some (43)), some (some (44)), some (some (45)), some (some (49))]), .inr (0, 8, []), .inr (2, 9, [32, 33, 34, 35, 36, 37, 38, 39, 40]), .inr (0, 8, []), .inr (0, 8, []), .inr (0, 8, []), .inr (0, 8, []), .inr (0, 8, []), .inr (0, 8, []), .inr (0, 8, []), .inr (0, 8, []), .inr (0, 8, []), .inr (0, 8, []), .inr (0, 10, []), .inr (0, 10, []), .inr (0, 10, []), .inl (3, [none, some (some (46)), some (some (47)), some (some (48))]), .inr (0, 16, []), .inr (0, 16, []), .inr (0, 16, []), .inl (8, [none, some (some (50)), some (some (51)), some (some (52))]), .inr (0, 2, []), .inr (0, 2, []), .inr (2, 2, [53, 54]), .inr (0, 6, []), .inr (0, 6, []), .inl (1, [some (some (56)), some (some (73)), some (some (77))]), .inl (9, [none, none, none, some (some (57)), some (some (58)), some (some (59)), some (some (60)), some (some (61)), some (some (62)), some (some (63)), some (some (64)), some (some (65))]), .inr (0, 8, []), .inr (0, 8, []), .inr (0, 8, []), .inr (0, 8, []), .inr (0, 72, []), .inr (0, 10, []), .inr (0, 10, []), .inr (0, 7, []), .inl (2, [some (some (66)), some (some (67)), some (some (68)), some (some (69)), some (some (70)), some (some (71)), some (some (72))]), .inr (0, 8, []), .inr (0, 8, []), .inr (0, 8, []), .inr (0, 8, []), .inr (0, 8, []), .inr (0, 8, []), .inr (0, 8, []), .inl (3, [none, some (some (74)), some (some (75)), some (some (76))]), .inr (0, 16, []), .inr (0, 16, []), .inr (0, 16, []), .inl (0, [none, some (some (78)), some (some (79))]), .inr (0, 120, []), .inr (0, 1280, []), .inr (4, 20, [])]) ok c_Outlook_init zg_4 (fun j (hj : 81 ≤ j) => by (repeat rw [zup_ne (show j ≠ _ by omega)]); rfl) (by decide +kernel) w_Outlook_init hy_Outlook_init rfl ⟨rfl, rfl⟩ ⟨Nat.le_of_ble_eq_true rfl, Nat.le_of_ble_eq_true rfl⟩ ⟨Nat.le_of_ble_eq_true rfl, Nat.le_of_ble_eq_true rfl⟩ (Nat.le_of_ble_eq_true rfl) dX11_init_76 ?_
    refine zB_ks (ks' := [.inl (11, [some (some (1)), none, some (some (2)), some none, some none, none, none, none, some (some (55)), some (some (80)), none, none, some none, some none, none, some none]), .inr (1, 1600, []), .inl (5, [some none, none, none, none, none, some none, none, none]), .inl (10, [none, none, none, none, some (some (4)), some (some (5)), some (some (15)), none, some (some (16)), some (some (17)), some (some (18)), some (some (19)), some (some (23))]), .inr (0, 8, []), .inr (2, 9, [6, 7, 8, 9, 10, 11, 12, 13, 14]), .inr (0, 8, []), .inr (0, 8, []), .inr (0, 8, []), .inr (0, 8, []), .inr (0, 8, []), .inr (0, 8, []), .inr (0, 8, []), .inr (0, 8, []), .inr (0, 8, []), .inr (0, 8, []), .inr (0, 10, []), .inr (0, 10, []), .inr (0, 10, []), .inl (3, [none, some (some (20)), some (some (21)), some (some (22))]), .inr (0, 16, []), .inr (0, 16, []), .inr (0, 16, []), .inl (8, [none, some (some (24)), some (some (25)), some (some (26))]), .inr (0, 2, []), .inr (0, 2, []), .inr (2, 2, [27, 28]), .inr (0, 6, []), .inr (0, 6, []), .inl (10, [none, none, none, none, some (some (30)), some (some (31)), some (some (41)), none, some (some (42)), some (some (43)), some (some (44)), some (some (45)), some (some (49))]), .inr (0, 8, []), .inr (2, 9, [32, 33, 34, 35, 36, 37, 38, 39, 40]), .inr (0, 8, []), .inr (0, 8, []), .inr (0, 8, []), .inr (0, 8, []), .inr (0, 8, []), .inr (0, 8, []), .inr (0, 8, []), .inr (0, 8, []), .inr (0, 8, []), .inr (0, 8, []), .inr (0, 10, []), .inr (0, 10, []), .inr (0, 10, []), .inl (3, [none, some (some (46)), some (some (47)), some (some (48))]), .inr (0, 16, []), .inr (0, 16, []), .inr (0, 16, []), .inl (8, [none, some (some (50)), some (some (51)), some (some (52))]), .inr (0, 2, []), .inr (0, 2, []), .inr (2, 2, [53, 54]), .inr (0, 6, []), .inr (0, 6, []), .inl (1, [some (some (56)), some (some (73)), some (some (77))]), .inl (9, [none, none, none, some (some (57)), some (some (58)), some (some (59)), some (some (60)), some (some (61)), some (some (62)), some (some (63)), some (some (64)), some (some (65))]), .inr (0, 8, []), .inr (0, 8, []), .inr (0, 8, []), .inr (0, 8, []), .inr (0, 72, []), .inr (0, 10, []), .inr (0, 10, []), .inr (0, 7, []), .inl (2, [some (some (66)), some (some (67)), some (some (68)), some (some (69)), some (some (70)), some (some (71)), some (some (72))]), .inr (0, 8, []), .inr (0, 8, []), .inr (0, 8, []), .inr (0, 8, []), .inr (0, 8, []), .inr (0, 8, []), .inr (0, 8, []), .inl (3, [none, some (some (74)), some (some (75)), some (some (76))]), .inr (0, 16, []), .inr (0, 16, []), .inr (0, 16, []), .inl (0, [none, some (some (78)), some (some (79))]), .inr (0, 120, []), .inr (0, 1280, []), .inr (4, 20, []), .inl (4, [some (some (82)), some (some (99)), some (some (103)), some none, some none, none, none, none]), .inl (9, [none, none, none, some (some (83)), some (some (84)), some (some (85)), some (some (86)), some (some (87)), some (some (88)), some (some (89)), some (some (90)), some (some (91))]), .inr (0, 8, []), .inr (0, 8, []), .inr (0, 8, []), .inr (0, 8, []), .inr (0, 72, []), .inr (0, 10, []), .inr (0, 10, []), .inr (0, 7, []), .inl (2, [some (some (92)), some (some (93)), some (some (94)), some (some (95)), some (some (96)), some (some (97)), some (some (98))]), .inr (0, 8, []), .inr (0, 8, []), .inr (0, 8, []), .inr (0, 8, []), .inr (0, 8, []), .inr (0, 8, []), .inr (0, 8, []), .inl (3, [none, some (some (100)), some (some (101)), some (some (102))]), .inr (0, 16, []), .inr (0, 16, []), .inr (0, 16, []), .inl (6, [none, none, none, some (some (104)), some (some (115))]), .inr (3, 10, [105, 106, 107, 108, 109, 110, 111, 112, 113, 114]), .inr (1, 273, []), .inr (1, 273, []), .inr (1, 273, []), .inr (1, 273, []), .inr (1, 273, []), .inr (1, 273, []), .inr (1, 273, []), .inr (1, 273, []), .inr (1, 273, []), .inr (1, 273, []), .inr (2, 8, [116, 117, 118, 119, 120, 121, 122, 123]), .inr (0, 201, []), .inr (0, 201, []), .inr (0, 201, []), .inr (0, 201, []), .inr (0, 201, []), .inr (0, 201, []), .inr (0, 201, []), .inr (0, 201, [])]) rfl ?_
    refine zB_putF (ci := 11) (q := 81) ok rfl zc_11 hin_11 tyX11 tyX11_ok nmX11 (s := 12) (by decide) fi_11_48 ⟨rfl, rfl⟩ (tyX11_ok 12 (by decide)) rfl rfl (by decide) dX11_init_79 ?_
    refine zB_ks (ks' := [.inl (11, [some (some (1)), none, some (some (2)), some none, some none, none, none, none, some (some (55)), some (some (80)), none, none, some (some (81)), some none, none, some none]), .inr (1, 1600, []), .inl (5, [some none, none, none, none, none, some none, none, none]), .inl (10, [none, none, none, none, some (some (4)), some (some (5)), some (some (15)), none, some (some (16)), some (some (17)), some (some (18)), some (some (19)), some (some (23))]), .inr (0, 8, []), .inr (2, 9, [6, 7, 8, 9, 10, 11, 12, 13, 14]), .inr (0, 8, []), .inr (0, 8, []), .inr (0, 8, []), .inr (0, 8, []), .inr (0, 8, []), .inr (0, 8, []), .inr (0, 8, []), .inr (0, 8, []), .inr (0, 8, []), .inr (0, 8, []), .inr (0, 10, []), .inr (0, 10, []), .inr (0, 10, []), .inl (3, [none, some (some (20)), some (some (21)), some (some (22))]), .inr (0, 16, []), .inr (0, 16, []), .inr (0, 16, []), .inl (8, [none, some (some (24)), some (some (25)), some (some (26))]), .inr (0, 2, []), .inr (0, 2, []), .inr (2, 2, [27, 28]), .inr (0, 6, []), .inr (0, 6, []), .inl (10, [none, none, none, none, some (some (30)), some (some (31)), some (some (41)), none, some (some (42)), some (some (43)), some (some (44)), some (some (45)), some (some (49))]), .inr (0, 8, []), .inr (2, 9, [32, 33, 34, 35, 36, 37, 38, 39, 40]), .inr (0, 8, []), .inr (0, 8, []), .inr (0, 8, []), .inr (0, 8, []), .inr (0, 8, []), .inr (0, 8, []), .inr (0, 8, []), .inr (0, 8, []), .inr (0, 8, []), .inr (0, 8, []), .inr (0, 10, []), .inr (0, 10, []), .inr (0, 10, []), .inl (3, [none, some (some (46)), some (some (47)), some (some (48))]), .inr (0, 16, []), .inr (0, 16, []), .inr (0, 16, []), .inl (8, [none, some (some (50)), some (some (51)), some (some (52))]), .inr (0, 2, []), .inr (0, 2, []), .inr (2, 2, [53, 54]), .inr (0, 6, []), .inr (0, 6, []), .inl (1, [some (some (56)), some (some (73)), some (some (77))]), .inl (9, [none, none, none, some (some (57)), some (some (58)), some (some (59)), some (some (60)), some (some (61)), some (some (62)), some (some (63)), some (some (64)), some (some (65))]), .inr (0, 8, []), .inr (0, 8, []), .inr (0, 8, []), .inr (0, 8, []), .inr (0, 72, []), .inr (0, 10, []), .inr (0, 10, []), .inr (0, 7, []), .inl (2, [some (some (66)), some (some (67)), some (some (68)), some (some (69)), some (some (70)), some (some (71)), some (some (72))]), .inr (0, 8, []), .inr (0, 8, []), .inr (0, 8, []), .inr (0, 8, []), .inr (0, 8, []), .inr (0, 8, []), .inr (0, 8, []), .inl (3, [none, some (some (74)), some (some (75)), some (some (76))]), .inr (0, 16, []), .inr (0, 16, []), .inr (0, 16, []), .inl (0, [none, some (some (78)), some (some (79))]), .inr (0, 120, []), .inr (0, 1280, []), .inr (4, 20, []), .inl (4, [some (some (82)), some (some (99)), some (some (103)), some none, some none, none, none, none]), .inl (9, [none, none, none, some (some (83)), some (some (84)), some (some (85)), some (some (86)), some (some (87)), some (some (88)), some (some (89)), some (some (90)), some (some (91))]), .inr (0, 8, []), .inr (0, 8, []), .inr (0, 8, []), .inr (0, 8, []), .inr (0, 72, []), .inr (0, 10, []), .inr (0, 10, []), .inr (0, 7, []), .inl (2, [some (some (92)), some (some (93)), some (some (94)), some (some (95)), some (some (96)), some (some (97)), some (some (98))]), .inr (0, 8, []), .inr (0, 8, []), .inr (0, 8, []), .inr (0, 8, []), .inr (0, 8, []), .inr (0, 8, []), .inr (0, 8, []), .inl (3, [none, some (some (100)), some (some (101)), some (some (102))]), .inr (0, 16, []), .inr (0, 16, []), .inr (0, 16, []), .inl (6, [none, none, none, some (some (104)), some (some (115))]), .inr (3, 10, [105, 106, 107, 108, 109, 110, 111, 112, 113, 114]), .inr (1, 273, []), .inr (1, 273, []), .inr (1, 273, []), .inr (1, 273, []), .inr (1, 273, []), .inr (1, 273, []), .inr (1, 273, []), .inr (1, 273, []), .inr (1, 273, []), .inr (1, 273, []), .inr (2, 8, [116, 117, 118, 119, 120, 121, 122, 123]), .inr (0, 201, []), .inr (0, 201, []), .inr (0, 201, []), .inr (0, 201, []), .inr (0, 201, []), .inr (0, 201, []), .inr (0, 201, []), .inr (0, 201, [])]) rfl ?_
    refine zB_aload ok dX11_init_82 0 rfl ?_
    refine zB_new (ci := 7) ok cl_11_52 zn_7.1 zn_7.2 zc_7 hin_7 tyX7 tyX7_ok zf_7 ((fun j (hj : 124 ≤ j) => by (repeat rw [zup_ne (show j ≠ _ by omega)]); rfl) _ (Nat.le_refl _)) ⟨Nat.le_of_ble_eq_true rfl, Nat.le_of_ble_eq_true rfl⟩ dX11_init_83 ?_
    refine zB_dup ok dX11_init_86 rfl ?_
    refine zB_init (host := "CanalKeeper") (ks := [.inl (11, [some (some (1)), none, some (some (2)), some none, some none, none, none, none, some (some (55)), some (some (80)), none, none, some (some (81)), some none, none, some none]), .inr (1, 1600, []), .inl (5, [some none, none, none, none, none, some none, none, none]), .inl (10, [none, none, none, none, some (some (4)), some (some (5)), some (some (15)), none, some (some (16)), some (some (17)), some (some (18)), some (some (19)), some (some (23))]), .inr (0, 8, []), .inr (2, 9, [6, 7, 8, 9, 10, 11, 12, 13, 14]), .inr (0, 8, []), .inr (0, 8, []), .inr (0, 8, []), .inr (0, 8, []), .inr (0, 8, []), .inr (0, 8, []), .inr (0, 8, []), .inr (0, 8, []), .inr (0, 8, []), .inr (0, 8, []), .inr (0, 10, []), .inr (0, 10, []), .inr (0, 10, []), .inl (3, [none, some (some (20)), some (some (21)), some (some (22))]), .inr (0, 16, []), .inr (0, 16, []), .inr (0, 16, []), .inl (8, [none, some (some (24)), some (some (25)), some (some (26))]), .inr (0, 2, []), .inr (0, 2, []), .inr (2, 2, [27, 28]), .inr (0, 6, []), .inr (0, 6, []), .inl (10, [none, none, none, none, some (some (30)), some (some (31)), some (some (41)), none, some (some (42)), some (some (43)), some (some (44)), some (some (45)), some (some (49))]), .inr (0, 8, []), .inr (2, 9, [32, 33, 34, 35, 36, 37, 38, 39, 40]), .inr (0, 8, []), .inr (0, 8, []), .inr (0, 8, []), .inr (0, 8, []), .inr (0, 8, []), .inr (0, 8, []), .inr (0, 8, []), .inr (0, 8, []), .inr (0, 8, []), .inr (0, 8, []), .inr (0, 10, []), .inr (0, 10, []), .inr (0, 10, []), .inl (3, [none, some (some (46)), some (some (47)), some (some (48))]), .inr (0, 16, []), .inr (0, 16, []), .inr (0, 16, []), .inl (8, [none, some (some (50)), some (some (51)), some (some (52))]), .inr (0, 2, []), .inr (0, 2, []), .inr (2, 2, [53, 54]), .inr (0, 6, []), .inr (0, 6, []), .inl (1, [some (some (56)), some (some (73)), some (some (77))]), .inl (9, [none, none, none, some (some (57)), some (some (58)), some (some (59)), some (some (60)), some (some (61)), some (some (62)), some (some (63)), some (some (64)), some (some (65))]), .inr (0, 8, []), .inr (0, 8, []), .inr (0, 8, []), .inr (0, 8, []), .inr (0, 72, []), .inr (0, 10, []), .inr (0, 10, []), .inr (0, 7, []), .inl (2, [some (some (66)), some (some (67)), some (some (68)), some (some (69)), some (some (70)), some (some (71)), some (some (72))]), .inr (0, 8, []), .inr (0, 8, []), .inr (0, 8, []), .inr (0, 8, []), .inr (0, 8, []), .inr (0, 8, []), .inr (0, 8, []), .inl (3, [none, some (some (74)), some (some (75)), some (some (76))]), .inr (0, 16, []), .inr (0, 16, []), .inr (0, 16, []), .inl (0, [none, some (some (78)), some (some (79))]), .inr (0, 120, []), .inr (0, 1280, []), .inr (4, 20, []), .inl (4, [some (some (82)), some (some (99)), some (some (103)), some none, some none, none, none, none]), .inl (9, [none, none, none, some (some (83)), some (some (84)), some (some (85)), some (some (86)), some (some (87)), some (some (88)), some (some (89)), some (some (90)), some (some (91))]), .inr (0, 8, []), .inr (0, 8, []), .inr (0, 8, []), .inr (0, 8, []), .inr (0, 72, []), .inr (0, 10, []), .inr (0, 10, []), .inr (0, 7, []), .inl (2, [some (some (92)), some (some (93)), some (some (94)), some (some (95)), some (some (96)), some (some (97)), some (some (98))]), .inr (0, 8, []), .inr (0, 8, []), .inr (0, 8, []), .inr (0, 8, []), .inr (0, 8, []), .inr (0, 8, []), .inr (0, 8, []), .inl (3, [none, some (some (100)), some (some (101)), some (some (102))]), .inr (0, 16, []), .inr (0, 16, []), .inr (0, 16, []), .inl (6, [none, none, none, some (some (104)), some (some (115))]), .inr (3, 10, [105, 106, 107, 108, 109, 110, 111, 112, 113, 114]), .inr (1, 273, []), .inr (1, 273, []), .inr (1, 273, []), .inr (1, 273, []), .inr (1, 273, []), .inr (1, 273, []), .inr (1, 273, []), .inr (1, 273, []), .inr (1, 273, []), .inr (1, 273, []), .inr (2, 8, [116, 117, 118, 119, 120, 121, 122, 123]), .inr (0, 201, []), .inr (0, 201, []), .inr (0, 201, []), .inr (0, 201, []), .inr (0, 201, []), .inr (0, 201, []), .inr (0, 201, []), .inr (0, 201, [])]) ok c_Sight_init zg_7 (fun j (hj : 124 ≤ j) => by (repeat rw [zup_ne (show j ≠ _ by omega)]); rfl) (by decide +kernel) w_Sight_init hy_Sight_init rfl ⟨rfl, rfl⟩ ⟨Nat.le_of_ble_eq_true rfl, Nat.le_of_ble_eq_true rfl⟩ ⟨Nat.le_of_ble_eq_true rfl, Nat.le_of_ble_eq_true rfl⟩ (Nat.le_of_ble_eq_true rfl) dX11_init_87 ?_
    refine zB_ks (ks' := [.inl (11, [some (some (1)), none, some (some (2)), some none, some none, none, none, none, some (some (55)), some (some (80)), none, none, some (some (81)), some none, none, some none]), .inr (1, 1600, []), .inl (5, [some none, none, none, none, none, some none, none, none]), .inl (10, [none, none, none, none, some (some (4)), some (some (5)), some (some (15)), none, some (some (16)), some (some (17)), some (some (18)), some (some (19)), some (some (23))]), .inr (0, 8, []), .inr (2, 9, [6, 7, 8, 9, 10, 11, 12, 13, 14]), .inr (0, 8, []), .inr (0, 8, []), .inr (0, 8, []), .inr (0, 8, []), .inr (0, 8, []), .inr (0, 8, []), .inr (0, 8, []), .inr (0, 8, []), .inr (0, 8, []), .inr (0, 8, []), .inr (0, 10, []), .inr (0, 10, []), .inr (0, 10, []), .inl (3, [none, some (some (20)), some (some (21)), some (some (22))]), .inr (0, 16, []), .inr (0, 16, []), .inr (0, 16, []), .inl (8, [none, some (some (24)), some (some (25)), some (some (26))]), .inr (0, 2, []), .inr (0, 2, []), .inr (2, 2, [27, 28]), .inr (0, 6, []), .inr (0, 6, []), .inl (10, [none, none, none, none, some (some (30)), some (some (31)), some (some (41)), none, some (some (42)), some (some (43)), some (some (44)), some (some (45)), some (some (49))]), .inr (0, 8, []), .inr (2, 9, [32, 33, 34, 35, 36, 37, 38, 39, 40]), .inr (0, 8, []), .inr (0, 8, []), .inr (0, 8, []), .inr (0, 8, []), .inr (0, 8, []), .inr (0, 8, []), .inr (0, 8, []), .inr (0, 8, []), .inr (0, 8, []), .inr (0, 8, []), .inr (0, 10, []), .inr (0, 10, []), .inr (0, 10, []), .inl (3, [none, some (some (46)), some (some (47)), some (some (48))]), .inr (0, 16, []), .inr (0, 16, []), .inr (0, 16, []), .inl (8, [none, some (some (50)), some (some (51)), some (some (52))]), .inr (0, 2, []), .inr (0, 2, []), .inr (2, 2, [53, 54]), .inr (0, 6, []), .inr (0, 6, []), .inl (1, [some (some (56)), some (some (73)), some (some (77))]), .inl (9, [none, none, none, some (some (57)), some (some (58)), some (some (59)), some (some (60)), some (some (61)), some (some (62)), some (some (63)), some (some (64)), some (some (65))]), .inr (0, 8, []), .inr (0, 8, []), .inr (0, 8, []), .inr (0, 8, []), .inr (0, 72, []), .inr (0, 10, []), .inr (0, 10, []), .inr (0, 7, []), .inl (2, [some (some (66)), some (some (67)), some (some (68)), some (some (69)), some (some (70)), some (some (71)), some (some (72))]), .inr (0, 8, []), .inr (0, 8, []), .inr (0, 8, []), .inr (0, 8, []), .inr (0, 8, []), .inr (0, 8, []), .inr (0, 8, []), .inl (3, [none, some (some (74)), some (some (75)), some (some (76))]), .inr (0, 16, []), .inr (0, 16, []), .inr (0, 16, []), .inl (0, [none, some (some (78)), some (some (79))]), .inr (0, 120, []), .inr (0, 1280, []), .inr (4, 20, []), .inl (4, [some (some (82)), some (some (99)), some (some (103)), some none, some none, none, none, none]), .inl (9, [none, none, none, some (some (83)), some (some (84)), some (some (85)), some (some (86)), some (some (87)), some (some (88)), some (some (89)), some (some (90)), some (some (91))]), .inr (0, 8, []), .inr (0, 8, []), .inr (0, 8, []), .inr (0, 8, []), .inr (0, 72, []), .inr (0, 10, []), .inr (0, 10, []), .inr (0, 7, []), .inl (2, [some (some (92)), some (some (93)), some (some (94)), some (some (95)), some (some (96)), some (some (97)), some (some (98))]), .inr (0, 8, []), .inr (0, 8, []), .inr (0, 8, []), .inr (0, 8, []), .inr (0, 8, []), .inr (0, 8, []), .inr (0, 8, []), .inl (3, [none, some (some (100)), some (some (101)), some (some (102))]), .inr (0, 16, []), .inr (0, 16, []), .inr (0, 16, []), .inl (6, [none, none, none, some (some (104)), some (some (115))]), .inr (3, 10, [105, 106, 107, 108, 109, 110, 111, 112, 113, 114]), .inr (1, 273, []), .inr (1, 273, []), .inr (1, 273, []), .inr (1, 273, []), .inr (1, 273, []), .inr (1, 273, []), .inr (1, 273, []), .inr (1, 273, []), .inr (1, 273, []), .inr (1, 273, []), .inr (2, 8, [116, 117, 118, 119, 120, 121, 122, 123]), .inr (0, 201, []), .inr (0, 201, []), .inr (0, 201, []), .inr (0, 201, []), .inr (0, 201, []), .inr (0, 201, []), .inr (0, 201, []), .inr (0, 201, []), .inl (7, [none, none, some (some (125)), some (some (126)), none, some (some (127)), some (some (128))]), .inr (0, 10, []), .inr (0, 10, []), .inr (0, 41, []), .inr (2, 41, [129, 130, 131, 132, 133, 134, 135, 136, 137, 138, 139, 140, 141, 142, 143, 144, 145, 146, 147, 148, 149, 150, 151, 152, 153, 154, 155, 156, 157, 158, 159, 160, 161, 162, 163, 164, 165, 166, 167, 168, 169]), .inr (0, 41, []), .inr (0, 41, []), .inr (0, 41, []), .inr (0, 41, []), .inr (0, 41, []), .inr (0, 41, []), .inr (0, 41, []), .inr (0, 41, []), .inr (0, 41, []), .inr (0, 41, []), .inr (0, 41, []), .inr (0, 41, []), .inr (0, 41, []), .inr (0, 41, []), .inr (0, 41, []), .inr (0, 41, []), .inr (0, 41, []), .inr (0, 41, []), .inr (0, 41, []), .inr (0, 41, []), .inr (0, 41, []), .inr (0, 41, []), .inr (0, 41, []), .inr (0, 41, []), .inr (0, 41, []), .inr (0, 41, []), .inr (0, 41, []), .inr (0, 41, []), .inr (0, 41, []), .inr (0, 41, []), .inr (0, 41, []), .inr (0, 41, []), .inr (0, 41, []), .inr (0, 41, []), .inr (0, 41, []), .inr (0, 41, []), .inr (0, 41, []), .inr (0, 41, []), .inr (0, 41, []), .inr (0, 41, []), .inr (0, 41, [])]) rfl ?_
    refine zB_putF (ci := 11) (q := 124) ok rfl zc_11 hin_11 tyX11 tyX11_ok nmX11 (s := 13) (by decide) fi_11_55 ⟨rfl, rfl⟩ (tyX11_ok 13 (by decide)) rfl rfl (by decide) dX11_init_90 ?_
    refine zB_ks (ks' := [.inl (11, [some (some (1)), none, some (some (2)), some none, some none, none, none, none, some (some (55)), some (some (80)), none, none, some (some (81)), some (some (124)), none, some none]), .inr (1, 1600, []), .inl (5, [some none, none, none, none, none, some none, none, none]), .inl (10, [none, none, none, none, some (some (4)), some (some (5)), some (some (15)), none, some (some (16)), some (some (17)), some (some (18)), some (some (19)), some (some (23))]), .inr (0, 8, []), .inr (2, 9, [6, 7, 8, 9, 10, 11, 12, 13, 14]), .inr (0, 8, []), .inr (0, 8, []), .inr (0, 8, []), .inr (0, 8, []), .inr (0, 8, []), .inr (0, 8, []), .inr (0, 8, []), .inr (0, 8, []), .inr (0, 8, []), .inr (0, 8, []), .inr (0, 10, []), .inr (0, 10, []), .inr (0, 10, []), .inl (3, [none, some (some (20)), some (some (21)), some (some (22))]), .inr (0, 16, []), .inr (0, 16, []), .inr (0, 16, []), .inl (8, [none, some (some (24)), some (some (25)), some (some (26))]), .inr (0, 2, []), .inr (0, 2, []), .inr (2, 2, [27, 28]), .inr (0, 6, []), .inr (0, 6, []), .inl (10, [none, none, none, none, some (some (30)), some (some (31)), some (some (41)), none, some (some (42)), some (some (43)), some (some (44)), some (some (45)), some (some (49))]), .inr (0, 8, []), .inr (2, 9, [32, 33, 34, 35, 36, 37, 38, 39, 40]), .inr (0, 8, []), .inr (0, 8, []), .inr (0, 8, []), .inr (0, 8, []), .inr (0, 8, []), .inr (0, 8, []), .inr (0, 8, []), .inr (0, 8, []), .inr (0, 8, []), .inr (0, 8, []), .inr (0, 10, []), .inr (0, 10, []), .inr (0, 10, []), .inl (3, [none, some (some (46)), some (some (47)), some (some (48))]), .inr (0, 16, []), .inr (0, 16, []), .inr (0, 16, []), .inl (8, [none, some (some (50)), some (some (51)), some (some (52))]), .inr (0, 2, []), .inr (0, 2, []), .inr (2, 2, [53, 54]), .inr (0, 6, []), .inr (0, 6, []), .inl (1, [some (some (56)), some (some (73)), some (some (77))]), .inl (9, [none, none, none, some (some (57)), some (some (58)), some (some (59)), some (some (60)), some (some (61)), some (some (62)), some (some (63)), some (some (64)), some (some (65))]), .inr (0, 8, []), .inr (0, 8, []), .inr (0, 8, []), .inr (0, 8, []), .inr (0, 72, []), .inr (0, 10, []), .inr (0, 10, []), .inr (0, 7, []), .inl (2, [some (some (66)), some (some (67)), some (some (68)), some (some (69)), some (some (70)), some (some (71)), some (some (72))]), .inr (0, 8, []), .inr (0, 8, []), .inr (0, 8, []), .inr (0, 8, []), .inr (0, 8, []), .inr (0, 8, []), .inr (0, 8, []), .inl (3, [none, some (some (74)), some (some (75)), some (some (76))]), .inr (0, 16, []), .inr (0, 16, []), .inr (0, 16, []), .inl (0, [none, some (some (78)), some (some (79))]), .inr (0, 120, []), .inr (0, 1280, []), .inr (4, 20, []), .inl (4, [some (some (82)), some (some (99)), some (some (103)), some none, some none, none, none, none]), .inl (9, [none, none, none, some (some (83)), some (some (84)), some (some (85)), some (some (86)), some (some (87)), some (some (88)), some (some (89)), some (some (90)), some (some (91))]), .inr (0, 8, []), .inr (0, 8, []), .inr (0, 8, []), .inr (0, 8, []), .inr (0, 72, []), .inr (0, 10, []), .inr (0, 10, []), .inr (0, 7, []), .inl (2, [some (some (92)), some (some (93)), some (some (94)), some (some (95)), some (some (96)), some (some (97)), some (some (98))]), .inr (0, 8, []), .inr (0, 8, []), .inr (0, 8, []), .inr (0, 8, []), .inr (0, 8, []), .inr (0, 8, []), .inr (0, 8, []), .inl (3, [none, some (some (100)), some (some (101)), some (some (102))]), .inr (0, 16, []), .inr (0, 16, []), .inr (0, 16, []), .inl (6, [none, none, none, some (some (104)), some (some (115))]), .inr (3, 10, [105, 106, 107, 108, 109, 110, 111, 112, 113, 114]), .inr (1, 273, []), .inr (1, 273, []), .inr (1, 273, []), .inr (1, 273, []), .inr (1, 273, []), .inr (1, 273, []), .inr (1, 273, []), .inr (1, 273, []), .inr (1, 273, []), .inr (1, 273, []), .inr (2, 8, [116, 117, 118, 119, 120, 121, 122, 123]), .inr (0, 201, []), .inr (0, 201, []), .inr (0, 201, []), .inr (0, 201, []), .inr (0, 201, []), .inr (0, 201, []), .inr (0, 201, []), .inr (0, 201, []), .inl (7, [none, none, some (some (125)), some (some (126)), none, some (some (127)), some (some (128))]), .inr (0, 10, []), .inr (0, 10, []), .inr (0, 41, []), .inr (2, 41, [129, 130, 131, 132, 133, 134, 135, 136, 137, 138, 139, 140, 141, 142, 143, 144, 145, 146, 147, 148, 149, 150, 151, 152, 153, 154, 155, 156, 157, 158, 159, 160, 161, 162, 163, 164, 165, 166, 167, 168, 169]), .inr (0, 41, []), .inr (0, 41, []), .inr (0, 41, []), .inr (0, 41, []), .inr (0, 41, []), .inr (0, 41, []), .inr (0, 41, []), .inr (0, 41, []), .inr (0, 41, []), .inr (0, 41, []), .inr (0, 41, []), .inr (0, 41, []), .inr (0, 41, []), .inr (0, 41, []), .inr (0, 41, []), .inr (0, 41, []), .inr (0, 41, []), .inr (0, 41, []), .inr (0, 41, []), .inr (0, 41, []), .inr (0, 41, []), .inr (0, 41, []), .inr (0, 41, []), .inr (0, 41, []), .inr (0, 41, []), .inr (0, 41, []), .inr (0, 41, []), .inr (0, 41, []), .inr (0, 41, []), .inr (0, 41, []), .inr (0, 41, []), .inr (0, 41, []), .inr (0, 41, []), .inr (0, 41, []), .inr (0, 41, []), .inr (0, 41, []), .inr (0, 41, []), .inr (0, 41, []), .inr (0, 41, []), .inr (0, 41, []), .inr (0, 41, [])]) rfl ?_
    refine zB_aload ok dX11_init_93 0 rfl ?_
    refine zB_iconst (v := 1) ok dX11_init_94 (by decide) ?_
    refine zB_puti (ci := 11) ok rfl zc_11 hin_11 tyX11 tyX11_ok nmX11 (s := 14) (by decide) fi_11_59 rfl (tyX11_ok 14 (by decide)) rfl rfl rfl rfl dX11_init_95 ?_
    refine zB_aload ok dX11_init_98 0 rfl ?_
    refine zB_bipush (v := 6) ok dX11_init_99 (by decide) ?_
    refine zB_newa (n := 6) (t := 0) ok (by simp) za_int (by decide) (by decide) ((fun j (hj : 170 ≤ j) => by (repeat rw [zup_ne (show j ≠ _ by omega)]); rfl) _ (Nat.le_refl _)) ⟨Nat.le_of_ble_eq_true rfl, Nat.le_of_ble_eq_true rfl⟩ dX11_init_101 ?_
    refine zB_ks (ks' := [.inl (11, [some (some (1)), none, some (some (2)), some none, some none, none, none, none, some (some (55)), some (some (80)), none, none, some (some (81)), some (some (124)), none, some none]), .inr (1, 1600, []), .inl (5, [some none, none, none, none, none, some none, none, none]), .inl (10, [none, none, none, none, some (some (4)), some (some (5)), some (some (15)), none, some (some (16)), some (some (17)), some (some (18)), some (some (19)), some (some (23))]), .inr (0, 8, []), .inr (2, 9, [6, 7, 8, 9, 10, 11, 12, 13, 14]), .inr (0, 8, []), .inr (0, 8, []), .inr (0, 8, []), .inr (0, 8, []), .inr (0, 8, []), .inr (0, 8, []), .inr (0, 8, []), .inr (0, 8, []), .inr (0, 8, []), .inr (0, 8, []), .inr (0, 10, []), .inr (0, 10, []), .inr (0, 10, []), .inl (3, [none, some (some (20)), some (some (21)), some (some (22))]), .inr (0, 16, []), .inr (0, 16, []), .inr (0, 16, []), .inl (8, [none, some (some (24)), some (some (25)), some (some (26))]), .inr (0, 2, []), .inr (0, 2, []), .inr (2, 2, [27, 28]), .inr (0, 6, []), .inr (0, 6, []), .inl (10, [none, none, none, none, some (some (30)), some (some (31)), some (some (41)), none, some (some (42)), some (some (43)), some (some (44)), some (some (45)), some (some (49))]), .inr (0, 8, []), .inr (2, 9, [32, 33, 34, 35, 36, 37, 38, 39, 40]), .inr (0, 8, []), .inr (0, 8, []), .inr (0, 8, []), .inr (0, 8, []), .inr (0, 8, []), .inr (0, 8, []), .inr (0, 8, []), .inr (0, 8, []), .inr (0, 8, []), .inr (0, 8, []), .inr (0, 10, []), .inr (0, 10, []), .inr (0, 10, []), .inl (3, [none, some (some (46)), some (some (47)), some (some (48))]), .inr (0, 16, []), .inr (0, 16, []), .inr (0, 16, []), .inl (8, [none, some (some (50)), some (some (51)), some (some (52))]), .inr (0, 2, []), .inr (0, 2, []), .inr (2, 2, [53, 54]), .inr (0, 6, []), .inr (0, 6, []), .inl (1, [some (some (56)), some (some (73)), some (some (77))]), .inl (9, [none, none, none, some (some (57)), some (some (58)), some (some (59)), some (some (60)), some (some (61)), some (some (62)), some (some (63)), some (some (64)), some (some (65))]), .inr (0, 8, []), .inr (0, 8, []), .inr (0, 8, []), .inr (0, 8, []), .inr (0, 72, []), .inr (0, 10, []), .inr (0, 10, []), .inr (0, 7, []), .inl (2, [some (some (66)), some (some (67)), some (some (68)), some (some (69)), some (some (70)), some (some (71)), some (some (72))]), .inr (0, 8, []), .inr (0, 8, []), .inr (0, 8, []), .inr (0, 8, []), .inr (0, 8, []), .inr (0, 8, []), .inr (0, 8, []), .inl (3, [none, some (some (74)), some (some (75)), some (some (76))]), .inr (0, 16, []), .inr (0, 16, []), .inr (0, 16, []), .inl (0, [none, some (some (78)), some (some (79))]), .inr (0, 120, []), .inr (0, 1280, []), .inr (4, 20, []), .inl (4, [some (some (82)), some (some (99)), some (some (103)), some none, some none, none, none, none]), .inl (9, [none, none, none, some (some (83)), some (some (84)), some (some (85)), some (some (86)), some (some (87)), some (some (88)), some (some (89)), some (some (90)), some (some (91))]), .inr (0, 8, []), .inr (0, 8, []), .inr (0, 8, []), .inr (0, 8, []), .inr (0, 72, []), .inr (0, 10, []), .inr (0, 10, []), .inr (0, 7, []), .inl (2, [some (some (92)), some (some (93)), some (some (94)), some (some (95)), some (some (96)), some (some (97)), some (some (98))]), .inr (0, 8, []), .inr (0, 8, []), .inr (0, 8, []), .inr (0, 8, []), .inr (0, 8, []), .inr (0, 8, []), .inr (0, 8, []), .inl (3, [none, some (some (100)), some (some (101)), some (some (102))]), .inr (0, 16, []), .inr (0, 16, []), .inr (0, 16, []), .inl (6, [none, none, none, some (some (104)), some (some (115))]), .inr (3, 10, [105, 106, 107, 108, 109, 110, 111, 112, 113, 114]), .inr (1, 273, []), .inr (1, 273, []), .inr (1, 273, []), .inr (1, 273, []), .inr (1, 273, []), .inr (1, 273, []), .inr (1, 273, []), .inr (1, 273, []), .inr (1, 273, []), .inr (1, 273, []), .inr (2, 8, [116, 117, 118, 119, 120, 121, 122, 123]), .inr (0, 201, []), .inr (0, 201, []), .inr (0, 201, []), .inr (0, 201, []), .inr (0, 201, []), .inr (0, 201, []), .inr (0, 201, []), .inr (0, 201, []), .inl (7, [none, none, some (some (125)), some (some (126)), none, some (some (127)), some (some (128))]), .inr (0, 10, []), .inr (0, 10, []), .inr (0, 41, []), .inr (2, 41, [129, 130, 131, 132, 133, 134, 135, 136, 137, 138, 139, 140, 141, 142, 143, 144, 145, 146, 147, 148, 149, 150, 151, 152, 153, 154, 155, 156, 157, 158, 159, 160, 161, 162, 163, 164, 165, 166, 167, 168, 169]), .inr (0, 41, []), .inr (0, 41, []), .inr (0, 41, []), .inr (0, 41, []), .inr (0, 41, []), .inr (0, 41, []), .inr (0, 41, []), .inr (0, 41, []), .inr (0, 41, []), .inr (0, 41, []), .inr (0, 41, []), .inr (0, 41, []), .inr (0, 41, []), .inr (0, 41, []), .inr (0, 41, []), .inr (0, 41, []), .inr (0, 41, []), .inr (0, 41, []), .inr (0, 41, []), .inr (0, 41, []), .inr (0, 41, []), .inr (0, 41, []), .inr (0, 41, []), .inr (0, 41, []), .inr (0, 41, []), .inr (0, 41, []), .inr (0, 41, []), .inr (0, 41, []), .inr (0, 41, []), .inr (0, 41, []), .inr (0, 41, []), .inr (0, 41, []), .inr (0, 41, []), .inr (0, 41, []), .inr (0, 41, []), .inr (0, 41, []), .inr (0, 41, []), .inr (0, 41, []), .inr (0, 41, []), .inr (0, 41, []), .inr (0, 41, []), .inr (0, 6, [])]) rfl ?_
    refine zB_putF (ci := 11) (q := 170) ok rfl zc_11 hin_11 tyX11 tyX11_ok nmX11 (s := 15) (by decide) fi_11_62 ⟨rfl, rfl⟩ (tyX11_ok 15 (by decide)) rfl rfl (by decide) dX11_init_103 ?_
    refine zB_ks (ks' := [.inl (11, [some (some (1)), none, some (some (2)), some none, some none, none, none, none, some (some (55)), some (some (80)), none, none, some (some (81)), some (some (124)), none, some (some (170))]), .inr (1, 1600, []), .inl (5, [some none, none, none, none, none, some none, none, none]), .inl (10, [none, none, none, none, some (some (4)), some (some (5)), some (some (15)), none, some (some (16)), some (some (17)), some (some (18)), some (some (19)), some (some (23))]), .inr (0, 8, []), .inr (2, 9, [6, 7, 8, 9, 10, 11, 12, 13, 14]), .inr (0, 8, []), .inr (0, 8, []), .inr (0, 8, []), .inr (0, 8, []), .inr (0, 8, []), .inr (0, 8, []), .inr (0, 8, []), .inr (0, 8, []), .inr (0, 8, []), .inr (0, 8, []), .inr (0, 10, []), .inr (0, 10, []), .inr (0, 10, []), .inl (3, [none, some (some (20)), some (some (21)), some (some (22))]), .inr (0, 16, []), .inr (0, 16, []), .inr (0, 16, []), .inl (8, [none, some (some (24)), some (some (25)), some (some (26))]), .inr (0, 2, []), .inr (0, 2, []), .inr (2, 2, [27, 28]), .inr (0, 6, []), .inr (0, 6, []), .inl (10, [none, none, none, none, some (some (30)), some (some (31)), some (some (41)), none, some (some (42)), some (some (43)), some (some (44)), some (some (45)), some (some (49))]), .inr (0, 8, []), .inr (2, 9, [32, 33, 34, 35, 36, 37, 38, 39, 40]), .inr (0, 8, []), .inr (0, 8, []), .inr (0, 8, []), .inr (0, 8, []), .inr (0, 8, []), .inr (0, 8, []), .inr (0, 8, []), .inr (0, 8, []), .inr (0, 8, []), .inr (0, 8, []), .inr (0, 10, []), .inr (0, 10, []), .inr (0, 10, []), .inl (3, [none, some (some (46)), some (some (47)), some (some (48))]), .inr (0, 16, []), .inr (0, 16, []), .inr (0, 16, []), .inl (8, [none, some (some (50)), some (some (51)), some (some (52))]), .inr (0, 2, []), .inr (0, 2, []), .inr (2, 2, [53, 54]), .inr (0, 6, []), .inr (0, 6, []), .inl (1, [some (some (56)), some (some (73)), some (some (77))]), .inl (9, [none, none, none, some (some (57)), some (some (58)), some (some (59)), some (some (60)), some (some (61)), some (some (62)), some (some (63)), some (some (64)), some (some (65))]), .inr (0, 8, []), .inr (0, 8, []), .inr (0, 8, []), .inr (0, 8, []), .inr (0, 72, []), .inr (0, 10, []), .inr (0, 10, []), .inr (0, 7, []), .inl (2, [some (some (66)), some (some (67)), some (some (68)), some (some (69)), some (some (70)), some (some (71)), some (some (72))]), .inr (0, 8, []), .inr (0, 8, []), .inr (0, 8, []), .inr (0, 8, []), .inr (0, 8, []), .inr (0, 8, []), .inr (0, 8, []), .inl (3, [none, some (some (74)), some (some (75)), some (some (76))]), .inr (0, 16, []), .inr (0, 16, []), .inr (0, 16, []), .inl (0, [none, some (some (78)), some (some (79))]), .inr (0, 120, []), .inr (0, 1280, []), .inr (4, 20, []), .inl (4, [some (some (82)), some (some (99)), some (some (103)), some none, some none, none, none, none]), .inl (9, [none, none, none, some (some (83)), some (some (84)), some (some (85)), some (some (86)), some (some (87)), some (some (88)), some (some (89)), some (some (90)), some (some (91))]), .inr (0, 8, []), .inr (0, 8, []), .inr (0, 8, []), .inr (0, 8, []), .inr (0, 72, []), .inr (0, 10, []), .inr (0, 10, []), .inr (0, 7, []), .inl (2, [some (some (92)), some (some (93)), some (some (94)), some (some (95)), some (some (96)), some (some (97)), some (some (98))]), .inr (0, 8, []), .inr (0, 8, []), .inr (0, 8, []), .inr (0, 8, []), .inr (0, 8, []), .inr (0, 8, []), .inr (0, 8, []), .inl (3, [none, some (some (100)), some (some (101)), some (some (102))]), .inr (0, 16, []), .inr (0, 16, []), .inr (0, 16, []), .inl (6, [none, none, none, some (some (104)), some (some (115))]), .inr (3, 10, [105, 106, 107, 108, 109, 110, 111, 112, 113, 114]), .inr (1, 273, []), .inr (1, 273, []), .inr (1, 273, []), .inr (1, 273, []), .inr (1, 273, []), .inr (1, 273, []), .inr (1, 273, []), .inr (1, 273, []), .inr (1, 273, []), .inr (1, 273, []), .inr (2, 8, [116, 117, 118, 119, 120, 121, 122, 123]), .inr (0, 201, []), .inr (0, 201, []), .inr (0, 201, []), .inr (0, 201, []), .inr (0, 201, []), .inr (0, 201, []), .inr (0, 201, []), .inr (0, 201, []), .inl (7, [none, none, some (some (125)), some (some (126)), none, some (some (127)), some (some (128))]), .inr (0, 10, []), .inr (0, 10, []), .inr (0, 41, []), .inr (2, 41, [129, 130, 131, 132, 133, 134, 135, 136, 137, 138, 139, 140, 141, 142, 143, 144, 145, 146, 147, 148, 149, 150, 151, 152, 153, 154, 155, 156, 157, 158, 159, 160, 161, 162, 163, 164, 165, 166, 167, 168, 169]), .inr (0, 41, []), .inr (0, 41, []), .inr (0, 41, []), .inr (0, 41, []), .inr (0, 41, []), .inr (0, 41, []), .inr (0, 41, []), .inr (0, 41, []), .inr (0, 41, []), .inr (0, 41, []), .inr (0, 41, []), .inr (0, 41, []), .inr (0, 41, []), .inr (0, 41, []), .inr (0, 41, []), .inr (0, 41, []), .inr (0, 41, []), .inr (0, 41, []), .inr (0, 41, []), .inr (0, 41, []), .inr (0, 41, []), .inr (0, 41, []), .inr (0, 41, []), .inr (0, 41, []), .inr (0, 41, []), .inr (0, 41, []), .inr (0, 41, []), .inr (0, 41, []), .inr (0, 41, []), .inr (0, 41, []), .inr (0, 41, []), .inr (0, 41, []), .inr (0, 41, []), .inr (0, 41, []), .inr (0, 41, []), .inr (0, 41, []), .inr (0, 41, []), .inr (0, 41, []), .inr (0, 41, []), .inr (0, 41, []), .inr (0, 41, []), .inr (0, 6, [])]) rfl ?_
    exact hr _ _ dX11_init_106)
theorem dX12_init_0 : decode cX12_init 0 = .ok (.aload_n 0, 1) := by decide +kernel
theorem dX12_init_1 : decode cX12_init 1 = .ok (.invokespecial 1, 3) := by decide +kernel
theorem dX12_init_4 : decode cX12_init 4 = .ok (.aload_n 0, 1) := by decide +kernel
theorem dX12_init_5 : decode cX12_init 5 = .ok (.iconst 0, 1) := by decide +kernel
theorem dX12_init_6 : decode cX12_init 6 = .ok (.putfield 7, 3) := by decide +kernel
theorem dX12_init_9 : decode cX12_init 9 = .ok (.aload_n 0, 1) := by decide +kernel
theorem dX12_init_10 : decode cX12_init 10 = .ok (.iconst 0, 1) := by decide +kernel
theorem dX12_init_11 : decode cX12_init 11 = .ok (.putfield 13, 3) := by decide +kernel
theorem dX12_init_14 : decode cX12_init 14 = .ok (.aload_n 0, 1) := by decide +kernel
theorem dX12_init_15 : decode cX12_init 15 = .ok (.iconst 0, 1) := by decide +kernel
theorem dX12_init_16 : decode cX12_init 16 = .ok (.putfield 16, 3) := by decide +kernel
theorem dX12_init_19 : decode cX12_init 19 = .ok (.aload_n 0, 1) := by decide +kernel
theorem dX12_init_20 : decode cX12_init 20 = .ok (.bipush 72, 2) := by decide +kernel
theorem dX12_init_22 : decode cX12_init 22 = .ok (.newarray .int, 2) := by decide +kernel
theorem dX12_init_24 : decode cX12_init 24 = .ok (.putfield 19, 3) := by decide +kernel
theorem dX12_init_27 : decode cX12_init 27 = .ok (.aload_n 0, 1) := by decide +kernel
theorem dX12_init_28 : decode cX12_init 28 = .ok (.bipush 20, 2) := by decide +kernel
theorem dX12_init_30 : decode cX12_init 30 = .ok (.newarray .int, 2) := by decide +kernel
theorem dX12_init_32 : decode cX12_init 32 = .ok (.putfield 23, 3) := by decide +kernel
theorem dX12_init_35 : decode cX12_init 35 = .ok (.aload_n 0, 1) := by decide +kernel
theorem dX12_init_36 : decode cX12_init 36 = .ok (.bipush 16, 2) := by decide +kernel
theorem dX12_init_38 : decode cX12_init 38 = .ok (.newarray .int, 2) := by decide +kernel
theorem dX12_init_40 : decode cX12_init 40 = .ok (.putfield 26, 3) := by decide +kernel
theorem dX12_init_43 : decode cX12_init 43 = .ok (.aload_n 0, 1) := by decide +kernel
theorem dX12_init_44 : decode cX12_init 44 = .ok (.bipush 48, 2) := by decide +kernel
theorem dX12_init_46 : decode cX12_init 46 = .ok (.newarray .int, 2) := by decide +kernel
theorem dX12_init_48 : decode cX12_init 48 = .ok (.putfield 29, 3) := by decide +kernel
theorem dX12_init_51 : decode cX12_init 51 = .ok (.aload_n 0, 1) := by decide +kernel
theorem dX12_init_52 : decode cX12_init 52 = .ok (.bipush 60, 2) := by decide +kernel
theorem dX12_init_54 : decode cX12_init 54 = .ok (.newarray .int, 2) := by decide +kernel
theorem dX12_init_56 : decode cX12_init 56 = .ok (.putfield 32, 3) := by decide +kernel
theorem dX12_init_59 : decode cX12_init 59 = .ok (.aload_n 0, 1) := by decide +kernel
theorem dX12_init_60 : decode cX12_init 60 = .ok (.iconst 0, 1) := by decide +kernel
theorem dX12_init_61 : decode cX12_init 61 = .ok (.putfield 35, 3) := by decide +kernel
theorem dX12_init_64 : decode cX12_init 64 = .ok (.aload_n 0, 1) := by decide +kernel
theorem dX12_init_65 : decode cX12_init 65 = .ok (.iconst 0, 1) := by decide +kernel
theorem dX12_init_66 : decode cX12_init 66 = .ok (.putfield 38, 3) := by decide +kernel
theorem dX12_init_69 : decode cX12_init 69 = .ok (.aload_n 0, 1) := by decide +kernel
theorem dX12_init_70 : decode cX12_init 70 = .ok (.iconst 0, 1) := by decide +kernel
theorem dX12_init_71 : decode cX12_init 71 = .ok (.putfield 41, 3) := by decide +kernel
theorem dX12_init_74 : decode cX12_init 74 = .ok (.aload_n 0, 1) := by decide +kernel
theorem dX12_init_75 : decode cX12_init 75 = .ok (.iconst 0, 1) := by decide +kernel
theorem dX12_init_76 : decode cX12_init 76 = .ok (.putfield 44, 3) := by decide +kernel
theorem dX12_init_79 : decode cX12_init 79 = .ok (.aload_n 0, 1) := by decide +kernel
theorem dX12_init_80 : decode cX12_init 80 = .ok (.iconst 0, 1) := by decide +kernel
theorem dX12_init_81 : decode cX12_init 81 = .ok (.putfield 47, 3) := by decide +kernel
theorem dX12_init_84 : decode cX12_init 84 = .ok (.aload_n 0, 1) := by decide +kernel
theorem dX12_init_85 : decode cX12_init 85 = .ok (.iconst 0, 1) := by decide +kernel
theorem dX12_init_86 : decode cX12_init 86 = .ok (.putfield 50, 3) := by decide +kernel
theorem dX12_init_89 : decode cX12_init 89 = .ok (.aload_n 0, 1) := by decide +kernel
theorem dX12_init_90 : decode cX12_init 90 = .ok (.bipush 72, 2) := by decide +kernel
theorem dX12_init_92 : decode cX12_init 92 = .ok (.newarray .int, 2) := by decide +kernel
theorem dX12_init_94 : decode cX12_init 94 = .ok (.putfield 53, 3) := by decide +kernel
theorem dX12_init_97 : decode cX12_init 97 = .ok (.aload_n 0, 1) := by decide +kernel
theorem dX12_init_98 : decode cX12_init 98 = .ok (.bipush 20, 2) := by decide +kernel
theorem dX12_init_100 : decode cX12_init 100 = .ok (.newarray .int, 2) := by decide +kernel
theorem dX12_init_102 : decode cX12_init 102 = .ok (.putfield 56, 3) := by decide +kernel
theorem dX12_init_105 : decode cX12_init 105 = .ok (.aload_n 0, 1) := by decide +kernel
theorem dX12_init_106 : decode cX12_init 106 = .ok (.bipush 16, 2) := by decide +kernel
theorem dX12_init_108 : decode cX12_init 108 = .ok (.newarray .int, 2) := by decide +kernel
theorem dX12_init_110 : decode cX12_init 110 = .ok (.putfield 59, 3) := by decide +kernel
theorem dX12_init_113 : decode cX12_init 113 = .ok (.aload_n 0, 1) := by decide +kernel
theorem dX12_init_114 : decode cX12_init 114 = .ok (.bipush 48, 2) := by decide +kernel
theorem dX12_init_116 : decode cX12_init 116 = .ok (.newarray .int, 2) := by decide +kernel
theorem dX12_init_118 : decode cX12_init 118 = .ok (.putfield 62, 3) := by decide +kernel
theorem dX12_init_121 : decode cX12_init 121 = .ok (.aload_n 0, 1) := by decide +kernel
theorem dX12_init_122 : decode cX12_init 122 = .ok (.bipush 48, 2) := by decide +kernel
theorem dX12_init_124 : decode cX12_init 124 = .ok (.newarray .int, 2) := by decide +kernel
theorem dX12_init_126 : decode cX12_init 126 = .ok (.putfield 65, 3) := by decide +kernel
theorem dX12_init_129 : decode cX12_init 129 = .ok (.aload_n 0, 1) := by decide +kernel
theorem dX12_init_130 : decode cX12_init 130 = .ok (.bipush 60, 2) := by decide +kernel
theorem dX12_init_132 : decode cX12_init 132 = .ok (.newarray .int, 2) := by decide +kernel
theorem dX12_init_134 : decode cX12_init 134 = .ok (.putfield 68, 3) := by decide +kernel
theorem dX12_init_137 : decode cX12_init 137 = .ok (.aload_n 0, 1) := by decide +kernel
theorem dX12_init_138 : decode cX12_init 138 = .ok (.sipush 1607, 3) := by decide +kernel
theorem dX12_init_141 : decode cX12_init 141 = .ok (.newarray .int, 2) := by decide +kernel
theorem dX12_init_143 : decode cX12_init 143 = .ok (.putfield 71, 3) := by decide +kernel
theorem dX12_init_146 : decode cX12_init 146 = .ok (.aload_n 0, 1) := by decide +kernel
theorem dX12_init_147 : decode cX12_init 147 = .ok (.sipush 205, 3) := by decide +kernel
theorem dX12_init_150 : decode cX12_init 150 = .ok (.newarray .int, 2) := by decide +kernel
theorem dX12_init_152 : decode cX12_init 152 = .ok (.putfield 74, 3) := by decide +kernel
theorem dX12_init_155 : decode cX12_init 155 = .ok (.aload_n 0, 1) := by decide +kernel
theorem dX12_init_156 : decode cX12_init 156 = .ok (.sipush 32140, 3) := by decide +kernel
theorem dX12_init_159 : decode cX12_init 159 = .ok (.newarray .int, 2) := by decide +kernel
theorem dX12_init_161 : decode cX12_init 161 = .ok (.putfield 77, 3) := by decide +kernel
theorem dX12_init_164 : decode cX12_init 164 = .ok (.aload_n 0, 1) := by decide +kernel
theorem dX12_init_165 : decode cX12_init 165 = .ok (.iconst 0, 1) := by decide +kernel
theorem dX12_init_166 : decode cX12_init 166 = .ok (.putfield 80, 3) := by decide +kernel
theorem dX12_init_169 : decode cX12_init 169 = .ok (.aload_n 0, 1) := by decide +kernel
theorem dX12_init_170 : decode cX12_init 170 = .ok (.iconst 1, 1) := by decide +kernel
theorem dX12_init_171 : decode cX12_init 171 = .ok (.putfield 83, 3) := by decide +kernel
theorem dX12_init_174 : decode cX12_init 174 = .ok (.aload_n 0, 1) := by decide +kernel
theorem dX12_init_175 : decode cX12_init 175 = .ok (.iconst 0, 1) := by decide +kernel
theorem dX12_init_176 : decode cX12_init 176 = .ok (.putfield 86, 3) := by decide +kernel
theorem dX12_init_179 : decode cX12_init 179 = .ok (.aload_n 0, 1) := by decide +kernel
theorem dX12_init_180 : decode cX12_init 180 = .ok (.iconst 0, 1) := by decide +kernel
theorem dX12_init_181 : decode cX12_init 181 = .ok (.putfield 90, 3) := by decide +kernel
theorem dX12_init_184 : decode cX12_init 184 = .ok (.aload_n 0, 1) := by decide +kernel
theorem dX12_init_185 : decode cX12_init 185 = .ok (.sipush 1600, 3) := by decide +kernel
theorem dX12_init_188 : decode cX12_init 188 = .ok (.newarray .int, 2) := by decide +kernel
theorem dX12_init_190 : decode cX12_init 190 = .ok (.putfield 93, 3) := by decide +kernel
theorem dX12_init_193 : decode cX12_init 193 = .ok (.aload_n 0, 1) := by decide +kernel
theorem dX12_init_194 : decode cX12_init 194 = .ok (.iconst 0, 1) := by decide +kernel
theorem dX12_init_195 : decode cX12_init 195 = .ok (.putfield 96, 3) := by decide +kernel
theorem dX12_init_198 : decode cX12_init 198 = .ok (.aload_n 0, 1) := by decide +kernel
theorem dX12_init_199 : decode cX12_init 199 = .ok (.bipush 6, 2) := by decide +kernel
theorem dX12_init_201 : decode cX12_init 201 = .ok (.newarray .int, 2) := by decide +kernel
theorem dX12_init_203 : decode cX12_init 203 = .ok (.putfield 99, 3) := by decide +kernel
theorem dX12_init_206 : decode cX12_init 206 = .ok (.aload_n 0, 1) := by decide +kernel
theorem dX12_init_207 : decode cX12_init 207 = .ok (.iconst 0, 1) := by decide +kernel
theorem dX12_init_208 : decode cX12_init 208 = .ok (.putfield 102, 3) := by decide +kernel
theorem dX12_init_211 : decode cX12_init 211 = .ok (.aload_n 0, 1) := by decide +kernel
theorem dX12_init_212 : decode cX12_init 212 = .ok (.iconst (-1), 1) := by decide +kernel
theorem dX12_init_213 : decode cX12_init 213 = .ok (.putfield 105, 3) := by decide +kernel
theorem dX12_init_216 : decode cX12_init 216 = .ok (.aload_n 0, 1) := by decide +kernel
theorem dX12_init_217 : decode cX12_init 217 = .ok (.iconst 0, 1) := by decide +kernel
theorem dX12_init_218 : decode cX12_init 218 = .ok (.putfield 108, 3) := by decide +kernel
theorem dX12_init_221 : decode cX12_init 221 = .ok (.aload_n 0, 1) := by decide +kernel
theorem dX12_init_222 : decode cX12_init 222 = .ok (.iconst 0, 1) := by decide +kernel
theorem dX12_init_223 : decode cX12_init 223 = .ok (.putfield 111, 3) := by decide +kernel
theorem dX12_init_226 : decode cX12_init 226 = .ok (.aload_n 0, 1) := by decide +kernel
theorem dX12_init_227 : decode cX12_init 227 = .ok (.iconst 0, 1) := by decide +kernel
theorem dX12_init_228 : decode cX12_init 228 = .ok (.putfield 114, 3) := by decide +kernel
theorem dX12_init_231 : decode cX12_init 231 = .ok (.aload_n 0, 1) := by decide +kernel
theorem dX12_init_232 : decode cX12_init 232 = .ok (.iconst 0, 1) := by decide +kernel
theorem dX12_init_233 : decode cX12_init 233 = .ok (.putfield 117, 3) := by decide +kernel
theorem dX12_init_236 : decode cX12_init 236 = .ok (.aload_n 0, 1) := by decide +kernel
theorem dX12_init_237 : decode cX12_init 237 = .ok (.iconst (-1), 1) := by decide +kernel
theorem dX12_init_238 : decode cX12_init 238 = .ok (.putfield 120, 3) := by decide +kernel
theorem dX12_init_241 : decode cX12_init 241 = .ok (.aload_n 0, 1) := by decide +kernel
theorem dX12_init_242 : decode cX12_init 242 = .ok (.bipush 104, 2) := by decide +kernel
theorem dX12_init_244 : decode cX12_init 244 = .ok (.newarray .int, 2) := by decide +kernel
theorem dX12_init_246 : decode cX12_init 246 = .ok (.dup, 1) := by decide +kernel
theorem dX12_init_247 : decode cX12_init 247 = .ok (.iconst 0, 1) := by decide +kernel
theorem dX12_init_248 : decode cX12_init 248 = .ok (.iconst 3, 1) := by decide +kernel
theorem dX12_init_249 : decode cX12_init 249 = .ok (.iastore, 1) := by decide +kernel
theorem dX12_init_250 : decode cX12_init 250 = .ok (.dup, 1) := by decide +kernel
theorem dX12_init_251 : decode cX12_init 251 = .ok (.iconst 1, 1) := by decide +kernel
theorem dX12_init_252 : decode cX12_init 252 = .ok (.iconst 1, 1) := by decide +kernel
theorem dX12_init_253 : decode cX12_init 253 = .ok (.iastore, 1) := by decide +kernel
theorem dX12_init_254 : decode cX12_init 254 = .ok (.dup, 1) := by decide +kernel
theorem dX12_init_255 : decode cX12_init 255 = .ok (.iconst 2, 1) := by decide +kernel
theorem dX12_init_256 : decode cX12_init 256 = .ok (.bipush 14, 2) := by decide +kernel
theorem dX12_init_258 : decode cX12_init 258 = .ok (.iastore, 1) := by decide +kernel
theorem dX12_init_259 : decode cX12_init 259 = .ok (.dup, 1) := by decide +kernel
theorem dX12_init_260 : decode cX12_init 260 = .ok (.iconst 3, 1) := by decide +kernel
theorem dX12_init_261 : decode cX12_init 261 = .ok (.iconst 1, 1) := by decide +kernel
theorem dX12_init_262 : decode cX12_init 262 = .ok (.iastore, 1) := by decide +kernel
theorem dX12_init_263 : decode cX12_init 263 = .ok (.dup, 1) := by decide +kernel
theorem dX12_init_264 : decode cX12_init 264 = .ok (.iconst 4, 1) := by decide +kernel
theorem dX12_init_265 : decode cX12_init 265 = .ok (.bipush 12, 2) := by decide +kernel
theorem dX12_init_267 : decode cX12_init 267 = .ok (.iastore, 1) := by decide +kernel
theorem dX12_init_268 : decode cX12_init 268 = .ok (.dup, 1) := by decide +kernel
theorem dX12_init_269 : decode cX12_init 269 = .ok (.iconst 5, 1) := by decide +kernel
theorem dX12_init_270 : decode cX12_init 270 = .ok (.iconst 0, 1) := by decide +kernel
theorem dX12_init_271 : decode cX12_init 271 = .ok (.iastore, 1) := by decide +kernel
theorem dX12_init_272 : decode cX12_init 272 = .ok (.dup, 1) := by decide +kernel
theorem dX12_init_273 : decode cX12_init 273 = .ok (.bipush 6, 2) := by decide +kernel
theorem dX12_init_275 : decode cX12_init 275 = .ok (.bipush 7, 2) := by decide +kernel
theorem dX12_init_277 : decode cX12_init 277 = .ok (.iastore, 1) := by decide +kernel
theorem dX12_init_278 : decode cX12_init 278 = .ok (.dup, 1) := by decide +kernel
theorem dX12_init_279 : decode cX12_init 279 = .ok (.bipush 7, 2) := by decide +kernel
theorem dX12_init_281 : decode cX12_init 281 = .ok (.bipush 9, 2) := by decide +kernel
theorem dX12_init_283 : decode cX12_init 283 = .ok (.iastore, 1) := by decide +kernel
theorem dX12_init_284 : decode cX12_init 284 = .ok (.dup, 1) := by decide +kernel
theorem dX12_init_285 : decode cX12_init 285 = .ok (.bipush 8, 2) := by decide +kernel
theorem dX12_init_287 : decode cX12_init 287 = .ok (.bipush 22, 2) := by decide +kernel
theorem dX12_init_289 : decode cX12_init 289 = .ok (.iastore, 1) := by decide +kernel
theorem dX12_init_290 : decode cX12_init 290 = .ok (.dup, 1) := by decide +kernel
theorem dX12_init_291 : decode cX12_init 291 = .ok (.bipush 9, 2) := by decide +kernel
theorem dX12_init_293 : decode cX12_init 293 = .ok (.iconst 5, 1) := by decide +kernel
theorem dX12_init_294 : decode cX12_init 294 = .ok (.iastore, 1) := by decide +kernel
theorem dX12_init_295 : decode cX12_init 295 = .ok (.dup, 1) := by decide +kernel
theorem dX12_init_296 : decode cX12_init 296 = .ok (.bipush 10, 2) := by decide +kernel
theorem dX12_init_298 : decode cX12_init 298 = .ok (.bipush 19, 2) := by decide +kernel
theorem dX12_init_300 : decode cX12_init 300 = .ok (.iastore, 1) := by decide +kernel
theorem dX12_init_301 : decode cX12_init 301 = .ok (.dup, 1) := by decide +kernel
theorem dX12_init_302 : decode cX12_init 302 = .ok (.bipush 11, 2) := by decide +kernel
theorem dX12_init_304 : decode cX12_init 304 = .ok (.iconst 0, 1) := by decide +kernel
theorem dX12_init_305 : decode cX12_init 305 = .ok (.iastore, 1) := by decide +kernel
theorem dX12_init_306 : decode cX12_init 306 = .ok (.dup, 1) := by decide +kernel
theorem dX12_init_307 : decode cX12_init 307 = .ok (.bipush 12, 2) := by decide +kernel
theorem dX12_init_309 : decode cX12_init 309 = .ok (.bipush 11, 2) := by decide +kernel
theorem dX12_init_311 : decode cX12_init 311 = .ok (.iastore, 1) := by decide +kernel
theorem dX12_init_312 : decode cX12_init 312 = .ok (.dup, 1) := by decide +kernel
theorem dX12_init_313 : decode cX12_init 313 = .ok (.bipush 13, 2) := by decide +kernel
theorem dX12_init_315 : decode cX12_init 315 = .ok (.iconst 5, 1) := by decide +kernel
theorem dX12_init_316 : decode cX12_init 316 = .ok (.iastore, 1) := by decide +kernel
theorem dX12_init_317 : decode cX12_init 317 = .ok (.dup, 1) := by decide +kernel
theorem dX12_init_318 : decode cX12_init 318 = .ok (.bipush 14, 2) := by decide +kernel
theorem dX12_init_320 : decode cX12_init 320 = .ok (.iconst 5, 1) := by decide +kernel
theorem dX12_init_321 : decode cX12_init 321 = .ok (.iastore, 1) := by decide +kernel
theorem dX12_init_322 : decode cX12_init 322 = .ok (.dup, 1) := by decide +kernel
theorem dX12_init_323 : decode cX12_init 323 = .ok (.bipush 15, 2) := by decide +kernel
theorem dX12_init_325 : decode cX12_init 325 = .ok (.bipush 16, 2) := by decide +kernel
theorem dX12_init_327 : decode cX12_init 327 = .ok (.iastore, 1) := by decide +kernel
theorem dX12_init_328 : decode cX12_init 328 = .ok (.dup, 1) := by decide +kernel
theorem dX12_init_329 : decode cX12_init 329 = .ok (.bipush 16, 2) := by decide +kernel
theorem dX12_init_331 : decode cX12_init 331 = .ok (.iconst 0, 1) := by decide +kernel
theorem dX12_init_332 : decode cX12_init 332 = .ok (.iastore, 1) := by decide +kernel
theorem dX12_init_333 : decode cX12_init 333 = .ok (.dup, 1) := by decide +kernel
theorem dX12_init_334 : decode cX12_init 334 = .ok (.bipush 17, 2) := by decide +kernel
theorem dX12_init_336 : decode cX12_init 336 = .ok (.bipush 16, 2) := by decide +kernel
theorem dX12_init_338 : decode cX12_init 338 = .ok (.iastore, 1) := by decide +kernel
theorem dX12_init_339 : decode cX12_init 339 = .ok (.dup, 1) := by decide +kernel
theorem dX12_init_340 : decode cX12_init 340 = .ok (.bipush 18, 2) := by decide +kernel
theorem dX12_init_342 : decode cX12_init 342 = .ok (.bipush 15, 2) := by decide +kernel
theorem dX12_init_344 : decode cX12_init 344 = .ok (.iastore, 1) := by decide +kernel
theorem dX12_init_345 : decode cX12_init 345 = .ok (.dup, 1) := by decide +kernel
theorem dX12_init_346 : decode cX12_init 346 = .ok (.bipush 19, 2) := by decide +kernel
theorem dX12_init_348 : decode cX12_init 348 = .ok (.bipush 15, 2) := by decide +kernel
theorem dX12_init_350 : decode cX12_init 350 = .ok (.iastore, 1) := by decide +kernel
theorem dX12_init_351 : decode cX12_init 351 = .ok (.dup, 1) := by decide +kernel
theorem dX12_init_352 : decode cX12_init 352 = .ok (.bipush 20, 2) := by decide +kernel
theorem dX12_init_354 : decode cX12_init 354 = .ok (.bipush 12, 2) := by decide +kernel
theorem dX12_init_356 : decode cX12_init 356 = .ok (.iastore, 1) := by decide +kernel
theorem dX12_init_357 : decode cX12_init 357 = .ok (.dup, 1) := by decide +kernel
theorem dX12_init_358 : decode cX12_init 358 = .ok (.bipush 21, 2) := by decide +kernel
theorem dX12_init_360 : decode cX12_init 360 = .ok (.iconst 0, 1) := by decide +kernel
theorem dX12_init_361 : decode cX12_init 361 = .ok (.iastore, 1) := by decide +kernel
theorem dX12_init_362 : decode cX12_init 362 = .ok (.dup, 1) := by decide +kernel
theorem dX12_init_363 : decode cX12_init 363 = .ok (.bipush 22, 2) := by decide +kernel
theorem dX12_init_365 : decode cX12_init 365 = .ok (.bipush 8, 2) := by decide +kernel
theorem dX12_init_367 : decode cX12_init 367 = .ok (.iastore, 1) := by decide +kernel
theorem dX12_init_368 : decode cX12_init 368 = .ok (.dup, 1) := by decide +kernel
theorem dX12_init_369 : decode cX12_init 369 = .ok (.bipush 23, 2) := by decide +kernel
theorem dX12_init_371 : decode cX12_init 371 = .ok (.bipush 15, 2) := by decide +kernel
theorem dX12_init_373 : decode cX12_init 373 = .ok (.iastore, 1) := by decide +kernel
theorem dX12_init_374 : decode cX12_init 374 = .ok (.dup, 1) := by decide +kernel
theorem dX12_init_375 : decode cX12_init 375 = .ok (.bipush 24, 2) := by decide +kernel
theorem dX12_init_377 : decode cX12_init 377 = .ok (.bipush 12, 2) := by decide +kernel
theorem dX12_init_379 : decode cX12_init 379 = .ok (.iastore, 1) := by decide +kernel
theorem dX12_init_380 : decode cX12_init 380 = .ok (.dup, 1) := by decide +kernel
theorem dX12_init_381 : decode cX12_init 381 = .ok (.bipush 25, 2) := by decide +kernel
theorem dX12_init_383 : decode cX12_init 383 = .ok (.iconst 4, 1) := by decide +kernel
theorem dX12_init_384 : decode cX12_init 384 = .ok (.iastore, 1) := by decide +kernel
theorem dX12_init_385 : decode cX12_init 385 = .ok (.dup, 1) := by decide +kernel
theorem dX12_init_386 : decode cX12_init 386 = .ok (.bipush 26, 2) := by decide +kernel
theorem dX12_init_388 : decode cX12_init 388 = .ok (.bipush 19, 2) := by decide +kernel
theorem dX12_init_390 : decode cX12_init 390 = .ok (.iastore, 1) := by decide +kernel
theorem dX12_init_391 : decode cX12_init 391 = .ok (.dup, 1) := by decide +kernel
theorem dX12_init_392 : decode cX12_init 392 = .ok (.bipush 27, 2) := by decide +kernel
theorem dX12_init_394 : decode cX12_init 394 = .ok (.iconst 0, 1) := by decide +kernel
theorem dX12_init_395 : decode cX12_init 395 = .ok (.iastore, 1) := by decide +kernel
theorem dX12_init_396 : decode cX12_init 396 = .ok (.dup, 1) := by decide +kernel
theorem dX12_init_397 : decode cX12_init 397 = .ok (.bipush 28, 2) := by decide +kernel
theorem dX12_init_399 : decode cX12_init 399 = .ok (.bipush 12, 2) := by decide +kernel
theorem dX12_init_401 : decode cX12_init 401 = .ok (.iastore, 1) := by decide +kernel
theorem dX12_init_402 : decode cX12_init 402 = .ok (.dup, 1) := by decide +kernel
theorem dX12_init_403 : decode cX12_init 403 = .ok (.bipush 29, 2) := by decide +kernel
theorem dX12_init_405 : decode cX12_init 405 = .ok (.bipush 15, 2) := by decide +kernel
theorem dX12_init_407 : decode cX12_init 407 = .ok (.iastore, 1) := by decide +kernel
theorem dX12_init_408 : decode cX12_init 408 = .ok (.dup, 1) := by decide +kernel
theorem dX12_init_409 : decode cX12_init 409 = .ok (.bipush 30, 2) := by decide +kernel
theorem dX12_init_411 : decode cX12_init 411 = .ok (.bipush 23, 2) := by decide +kernel
theorem dX12_init_413 : decode cX12_init 413 = .ok (.iastore, 1) := by decide +kernel
theorem dX12_init_414 : decode cX12_init 414 = .ok (.dup, 1) := by decide +kernel
theorem dX12_init_415 : decode cX12_init 415 = .ok (.bipush 31, 2) := by decide +kernel
theorem dX12_init_417 : decode cX12_init 417 = .ok (.iconst 0, 1) := by decide +kernel
theorem dX12_init_418 : decode cX12_init 418 = .ok (.iastore, 1) := by decide +kernel
theorem dX12_init_419 : decode cX12_init 419 = .ok (.dup, 1) := by decide +kernel
theorem dX12_init_420 : decode cX12_init 420 = .ok (.bipush 32, 2) := by decide +kernel
theorem dX12_init_422 : decode cX12_init 422 = .ok (.bipush 8, 2) := by decide +kernel
theorem dX12_init_424 : decode cX12_init 424 = .ok (.iastore, 1) := by decide +kernel
theorem dX12_init_425 : decode cX12_init 425 = .ok (.dup, 1) := by decide +kernel
theorem dX12_init_426 : decode cX12_init 426 = .ok (.bipush 33, 2) := by decide +kernel
theorem dX12_init_428 : decode cX12_init 428 = .ok (.bipush 9, 2) := by decide +kernel
theorem dX12_init_430 : decode cX12_init 430 = .ok (.iastore, 1) := by decide +kernel
theorem dX12_init_431 : decode cX12_init 431 = .ok (.dup, 1) := by decide +kernel
theorem dX12_init_432 : decode cX12_init 432 = .ok (.bipush 34, 2) := by decide +kernel
theorem dX12_init_434 : decode cX12_init 434 = .ok (.bipush 7, 2) := by decide +kernel
theorem dX12_init_436 : decode cX12_init 436 = .ok (.iastore, 1) := by decide +kernel
theorem dX12_init_437 : decode cX12_init 437 = .ok (.dup, 1) := by decide +kernel
theorem dX12_init_438 : decode cX12_init 438 = .ok (.bipush 35, 2) := by decide +kernel
theorem dX12_init_440 : decode cX12_init 440 = .ok (.bipush 8, 2) := by decide +kernel
theorem dX12_init_442 : decode cX12_init 442 = .ok (.iastore, 1) := by decide +kernel
theorem dX12_init_443 : decode cX12_init 443 = .ok (.dup, 1) := by decide +kernel
theorem dX12_init_444 : decode cX12_init 444 = .ok (.bipush 36, 2) := by decide +kernel
theorem dX12_init_446 : decode cX12_init 446 = .ok (.iconst 0, 1) := by decide +kernel
theorem dX12_init_447 : decode cX12_init 447 = .ok (.iastore, 1) := by decide +kernel
theorem dX12_init_448 : decode cX12_init 448 = .ok (.dup, 1) := by decide +kernel
theorem dX12_init_449 : decode cX12_init 449 = .ok (.bipush 37, 2) := by decide +kernel
theorem dX12_init_451 : decode cX12_init 451 = .ok (.iconst 3, 1) := by decide +kernel
theorem dX12_init_452 : decode cX12_init 452 = .ok (.iastore, 1) := by decide +kernel
theorem dX12_init_453 : decode cX12_init 453 = .ok (.dup, 1) := by decide +kernel
theorem dX12_init_454 : decode cX12_init 454 = .ok (.bipush 38, 2) := by decide +kernel
theorem dX12_init_456 : decode cX12_init 456 = .ok (.bipush 18, 2) := by decide +kernel
theorem dX12_init_458 : decode cX12_init 458 = .ok (.iastore, 1) := by decide +kernel
theorem dX12_init_459 : decode cX12_init 459 = .ok (.dup, 1) := by decide +kernel
theorem dX12_init_460 : decode cX12_init 460 = .ok (.bipush 39, 2) := by decide +kernel
theorem dX12_init_462 : decode cX12_init 462 = .ok (.iconst 5, 1) := by decide +kernel
theorem dX12_init_463 : decode cX12_init 463 = .ok (.iastore, 1) := by decide +kernel
theorem dX12_init_464 : decode cX12_init 464 = .ok (.dup, 1) := by decide +kernel
theorem dX12_init_465 : decode cX12_init 465 = .ok (.bipush 40, 2) := by decide +kernel
theorem dX12_init_467 : decode cX12_init 467 = .ok (.bipush 19, 2) := by decide +kernel
theorem dX12_init_469 : decode cX12_init 469 = .ok (.iastore, 1) := by decide +kernel
theorem dX12_init_470 : decode cX12_init 470 = .ok (.dup, 1) := by decide +kernel
theorem dX12_init_471 : decode cX12_init 471 = .ok (.bipush 41, 2) := by decide +kernel
theorem dX12_init_473 : decode cX12_init 473 = .ok (.bipush 20, 2) := by decide +kernel
theorem dX12_init_475 : decode cX12_init 475 = .ok (.iastore, 1) := by decide +kernel
theorem dX12_init_476 : decode cX12_init 476 = .ok (.dup, 1) := by decide +kernel
theorem dX12_init_477 : decode cX12_init 477 = .ok (.bipush 42, 2) := by decide +kernel
theorem dX12_init_479 : decode cX12_init 479 = .ok (.iconst 0, 1) := by decide +kernel
theorem dX12_init_480 : decode cX12_init 480 = .ok (.iastore, 1) := by decide +kernel
theorem dX12_init_481 : decode cX12_init 481 = .ok (.dup, 1) := by decide +kernel
theorem dX12_init_482 : decode cX12_init 482 = .ok (.bipush 43, 2) := by decide +kernel
theorem dX12_init_484 : decode cX12_init 484 = .ok (.iconst 4, 1) := by decide +kernel
theorem dX12_init_485 : decode cX12_init 485 = .ok (.iastore, 1) := by decide +kernel
theorem dX12_init_486 : decode cX12_init 486 = .ok (.dup, 1) := by decide +kernel
theorem dX12_init_487 : decode cX12_init 487 = .ok (.bipush 44, 2) := by decide +kernel
theorem dX12_init_489 : decode cX12_init 489 = .ok (.iconst 5, 1) := by decide +kernel
theorem dX12_init_490 : decode cX12_init 490 = .ok (.iastore, 1) := by decide +kernel
theorem dX12_init_491 : decode cX12_init 491 = .ok (.dup, 1) := by decide +kernel
theorem dX12_init_492 : decode cX12_init 492 = .ok (.bipush 45, 2) := by decide +kernel
theorem dX12_init_494 : decode cX12_init 494 = .ok (.bipush 12, 2) := by decide +kernel
theorem dX12_init_496 : decode cX12_init 496 = .ok (.iastore, 1) := by decide +kernel
theorem dX12_init_497 : decode cX12_init 497 = .ok (.dup, 1) := by decide +kernel
theorem dX12_init_498 : decode cX12_init 498 = .ok (.bipush 46, 2) := by decide +kernel
theorem dX12_init_500 : decode cX12_init 500 = .ok (.iconst 1, 1) := by decide +kernel
theorem dX12_init_501 : decode cX12_init 501 = .ok (.iastore, 1) := by decide +kernel
theorem dX12_init_502 : decode cX12_init 502 = .ok (.dup, 1) := by decide +kernel
theorem dX12_init_503 : decode cX12_init 503 = .ok (.bipush 47, 2) := by decide +kernel
theorem dX12_init_505 : decode cX12_init 505 = .ok (.bipush 25, 2) := by decide +kernel
theorem dX12_init_507 : decode cX12_init 507 = .ok (.iastore, 1) := by decide +kernel
theorem dX12_init_508 : decode cX12_init 508 = .ok (.dup, 1) := by decide +kernel
theorem dX12_init_509 : decode cX12_init 509 = .ok (.bipush 48, 2) := by decide +kernel
theorem dX12_init_511 : decode cX12_init 511 = .ok (.iconst 0, 1) := by decide +kernel
theorem dX12_init_512 : decode cX12_init 512 = .ok (.iastore, 1) := by decide +kernel
theorem dX12_init_513 : decode cX12_init 513 = .ok (.dup, 1) := by decide +kernel
theorem dX12_init_514 : decode cX12_init 514 = .ok (.bipush 49, 2) := by decide +kernel
theorem dX12_init_516 : decode cX12_init 516 = .ok (.bipush 12, 2) := by decide +kernel
theorem dX12_init_518 : decode cX12_init 518 = .ok (.iastore, 1) := by decide +kernel
theorem dX12_init_519 : decode cX12_init 519 = .ok (.dup, 1) := by decide +kernel
theorem dX12_init_520 : decode cX12_init 520 = .ok (.bipush 50, 2) := by decide +kernel
theorem dX12_init_522 : decode cX12_init 522 = .ok (.iconst 5, 1) := by decide +kernel
theorem dX12_init_523 : decode cX12_init 523 = .ok (.iastore, 1) := by decide +kernel
theorem dX12_init_524 : decode cX12_init 524 = .ok (.dup, 1) := by decide +kernel
theorem dX12_init_525 : decode cX12_init 525 = .ok (.bipush 51, 2) := by decide +kernel
theorem dX12_init_527 : decode cX12_init 527 = .ok (.iconst 1, 1) := by decide +kernel
theorem dX12_init_528 : decode cX12_init 528 = .ok (.iastore, 1) := by decide +kernel
theorem dX12_init_529 : decode cX12_init 529 = .ok (.dup, 1) := by decide +kernel
theorem dX12_init_530 : decode cX12_init 530 = .ok (.bipush 52, 2) := by decide +kernel
theorem dX12_init_532 : decode cX12_init 532 = .ok (.bipush 11, 2) := by decide +kernel
theorem dX12_init_534 : decode cX12_init 534 = .ok (.iastore, 1) := by decide +kernel
theorem dX12_init_535 : decode cX12_init 535 = .ok (.dup, 1) := by decide +kernel
theorem dX12_init_536 : decode cX12_init 536 = .ok (.bipush 53, 2) := by decide +kernel
theorem dX12_init_538 : decode cX12_init 538 = .ok (.iconst 0, 1) := by decide +kernel
theorem dX12_init_539 : decode cX12_init 539 = .ok (.iastore, 1) := by decide +kernel
theorem dX12_init_540 : decode cX12_init 540 = .ok (.dup, 1) := by decide +kernel
theorem dX12_init_541 : decode cX12_init 541 = .ok (.bipush 54, 2) := by decide +kernel
theorem dX12_init_543 : decode cX12_init 543 = .ok (.bipush 7, 2) := by decide +kernel
theorem dX12_init_545 : decode cX12_init 545 = .ok (.iastore, 1) := by decide +kernel
theorem dX12_init_546 : decode cX12_init 546 = .ok (.dup, 1) := by decide +kernel
theorem dX12_init_547 : decode cX12_init 547 = .ok (.bipush 55, 2) := by decide +kernel
theorem dX12_init_549 : decode cX12_init 549 = .ok (.iconst 1, 1) := by decide +kernel
theorem dX12_init_550 : decode cX12_init 550 = .ok (.iastore, 1) := by decide +kernel
theorem dX12_init_551 : decode cX12_init 551 = .ok (.dup, 1) := by decide +kernel
theorem dX12_init_552 : decode cX12_init 552 = .ok (.bipush 56, 2) := by decide +kernel
theorem dX12_init_554 : decode cX12_init 554 = .ok (.bipush 20, 2) := by decide +kernel
theorem dX12_init_556 : decode cX12_init 556 = .ok (.iastore, 1) := by decide +kernel
theorem dX12_init_557 : decode cX12_init 557 = .ok (.dup, 1) := by decide +kernel
theorem dX12_init_558 : decode cX12_init 558 = .ok (.bipush 57, 2) := by decide +kernel
theorem dX12_init_560 : decode cX12_init 560 = .ok (.iconst 5, 1) := by decide +kernel
theorem dX12_init_561 : decode cX12_init 561 = .ok (.iastore, 1) := by decide +kernel
theorem dX12_init_562 : decode cX12_init 562 = .ok (.dup, 1) := by decide +kernel
theorem dX12_init_563 : decode cX12_init 563 = .ok (.bipush 58, 2) := by decide +kernel
theorem dX12_init_565 : decode cX12_init 565 = .ok (.iconst 0, 1) := by decide +kernel
theorem dX12_init_566 : decode cX12_init 566 = .ok (.iastore, 1) := by decide +kernel
theorem dX12_init_567 : decode cX12_init 567 = .ok (.dup, 1) := by decide +kernel
theorem dX12_init_568 : decode cX12_init 568 = .ok (.bipush 59, 2) := by decide +kernel
theorem dX12_init_570 : decode cX12_init 570 = .ok (.iconst 2, 1) := by decide +kernel
theorem dX12_init_571 : decode cX12_init 571 = .ok (.iastore, 1) := by decide +kernel
theorem dX12_init_572 : decode cX12_init 572 = .ok (.dup, 1) := by decide +kernel
theorem dX12_init_573 : decode cX12_init 573 = .ok (.bipush 60, 2) := by decide +kernel
theorem dX12_init_575 : decode cX12_init 575 = .ok (.bipush 25, 2) := by decide +kernel
theorem dX12_init_577 : decode cX12_init 577 = .ok (.iastore, 1) := by decide +kernel
theorem dX12_init_578 : decode cX12_init 578 = .ok (.dup, 1) := by decide +kernel
theorem dX12_init_579 : decode cX12_init 579 = .ok (.bipush 61, 2) := by decide +kernel
theorem dX12_init_581 : decode cX12_init 581 = .ok (.iconst 0, 1) := by decide +kernel
theorem dX12_init_582 : decode cX12_init 582 = .ok (.iastore, 1) := by decide +kernel
theorem dX12_init_583 : decode cX12_init 583 = .ok (.dup, 1) := by decide +kernel
theorem dX12_init_584 : decode cX12_init 584 = .ok (.bipush 62, 2) := by decide +kernel
theorem dX12_init_586 : decode cX12_init 586 = .ok (.bipush 15, 2) := by decide +kernel
theorem dX12_init_588 : decode cX12_init 588 = .ok (.iastore, 1) := by decide +kernel
theorem dX12_init_589 : decode cX12_init 589 = .ok (.dup, 1) := by decide +kernel
theorem dX12_init_590 : decode cX12_init 590 = .ok (.bipush 63, 2) := by decide +kernel
theorem dX12_init_592 : decode cX12_init 592 = .ok (.bipush 16, 2) := by decide +kernel
theorem dX12_init_594 : decode cX12_init 594 = .ok (.iastore, 1) := by decide +kernel
theorem dX12_init_595 : decode cX12_init 595 = .ok (.dup, 1) := by decide +kernel
theorem dX12_init_596 : decode cX12_init 596 = .ok (.bipush 64, 2) := by decide +kernel
theorem dX12_init_598 : decode cX12_init 598 = .ok (.iconst 5, 1) := by decide +kernel
theorem dX12_init_599 : decode cX12_init 599 = .ok (.iastore, 1) := by decide +kernel
theorem dX12_init_600 : decode cX12_init 600 = .ok (.dup, 1) := by decide +kernel
theorem dX12_init_601 : decode cX12_init 601 = .ok (.bipush 65, 2) := by decide +kernel
theorem dX12_init_603 : decode cX12_init 603 = .ok (.bipush 14, 2) := by decide +kernel
theorem dX12_init_605 : decode cX12_init 605 = .ok (.iastore, 1) := by decide +kernel
theorem dX12_init_606 : decode cX12_init 606 = .ok (.dup, 1) := by decide +kernel
theorem dX12_init_607 : decode cX12_init 607 = .ok (.bipush 66, 2) := by decide +kernel
theorem dX12_init_609 : decode cX12_init 609 = .ok (.iconst 0, 1) := by decide +kernel
theorem dX12_init_610 : decode cX12_init 610 = .ok (.iastore, 1) := by decide +kernel
theorem dX12_init_611 : decode cX12_init 611 = .ok (.dup, 1) := by decide +kernel
theorem dX12_init_612 : decode cX12_init 612 = .ok (.bipush 67, 2) := by decide +kernel
theorem dX12_init_614 : decode cX12_init 614 = .ok (.bipush 15, 2) := by decide +kernel
theorem dX12_init_616 : decode cX12_init 616 = .ok (.iastore, 1) := by decide +kernel
theorem dX12_init_617 : decode cX12_init 617 = .ok (.dup, 1) := by decide +kernel
theorem dX12_init_618 : decode cX12_init 618 = .ok (.bipush 68, 2) := by decide +kernel
theorem dX12_init_620 : decode cX12_init 620 = .ok (.bipush 21, 2) := by decide +kernel
theorem dX12_init_622 : decode cX12_init 622 = .ok (.iastore, 1) := by decide +kernel
theorem dX12_init_623 : decode cX12_init 623 = .ok (.dup, 1) := by decide +kernel
theorem dX12_init_624 : decode cX12_init 624 = .ok (.bipush 69, 2) := by decide +kernel
theorem dX12_init_626 : decode cX12_init 626 = .ok (.bipush 20, 2) := by decide +kernel
theorem dX12_init_628 : decode cX12_init 628 = .ok (.iastore, 1) := by decide +kernel
theorem dX12_init_629 : decode cX12_init 629 = .ok (.dup, 1) := by decide +kernel
theorem dX12_init_630 : decode cX12_init 630 = .ok (.bipush 70, 2) := by decide +kernel
theorem dX12_init_632 : decode cX12_init 632 = .ok (.bipush 12, 2) := by decide +kernel
theorem dX12_init_634 : decode cX12_init 634 = .ok (.iastore, 1) := by decide +kernel
theorem dX12_init_635 : decode cX12_init 635 = .ok (.dup, 1) := by decide +kernel
theorem dX12_init_636 : decode cX12_init 636 = .ok (.bipush 71, 2) := by decide +kernel
theorem dX12_init_638 : decode cX12_init 638 = .ok (.iconst 5, 1) := by decide +kernel
theorem dX12_init_639 : decode cX12_init 639 = .ok (.iastore, 1) := by decide +kernel
theorem dX12_init_640 : decode cX12_init 640 = .ok (.dup, 1) := by decide +kernel
theorem dX12_init_641 : decode cX12_init 641 = .ok (.bipush 72, 2) := by decide +kernel
theorem dX12_init_643 : decode cX12_init 643 = .ok (.bipush 20, 2) := by decide +kernel
theorem dX12_init_645 : decode cX12_init 645 = .ok (.iastore, 1) := by decide +kernel
theorem dX12_init_646 : decode cX12_init 646 = .ok (.dup, 1) := by decide +kernel
theorem dX12_init_647 : decode cX12_init 647 = .ok (.bipush 73, 2) := by decide +kernel
theorem dX12_init_649 : decode cX12_init 649 = .ok (.iconst 0, 1) := by decide +kernel
theorem dX12_init_650 : decode cX12_init 650 = .ok (.iastore, 1) := by decide +kernel
theorem dX12_init_651 : decode cX12_init 651 = .ok (.dup, 1) := by decide +kernel
theorem dX12_init_652 : decode cX12_init 652 = .ok (.bipush 74, 2) := by decide +kernel
theorem dX12_init_654 : decode cX12_init 654 = .ok (.iconst 1, 1) := by decide +kernel
theorem dX12_init_655 : decode cX12_init 655 = .ok (.iastore, 1) := by decide +kernel
theorem dX12_init_656 : decode cX12_init 656 = .ok (.dup, 1) := by decide +kernel
theorem dX12_init_657 : decode cX12_init 657 = .ok (.bipush 75, 2) := by decide +kernel
theorem dX12_init_659 : decode cX12_init 659 = .ok (.bipush 20, 2) := by decide +kernel
theorem dX12_init_661 : decode cX12_init 661 = .ok (.iastore, 1) := by decide +kernel
theorem dX12_init_662 : decode cX12_init 662 = .ok (.dup, 1) := by decide +kernel
theorem dX12_init_663 : decode cX12_init 663 = .ok (.bipush 76, 2) := by decide +kernel
theorem dX12_init_665 : decode cX12_init 665 = .ok (.iconst 0, 1) := by decide +kernel
theorem dX12_init_666 : decode cX12_init 666 = .ok (.iastore, 1) := by decide +kernel
theorem dX12_init_667 : decode cX12_init 667 = .ok (.dup, 1) := by decide +kernel
theorem dX12_init_668 : decode cX12_init 668 = .ok (.bipush 77, 2) := by decide +kernel
theorem dX12_init_670 : decode cX12_init 670 = .ok (.bipush 20, 2) := by decide +kernel
theorem dX12_init_672 : decode cX12_init 672 = .ok (.iastore, 1) := by decide +kernel
theorem dX12_init_673 : decode cX12_init 673 = .ok (.dup, 1) := by decide +kernel
theorem dX12_init_674 : decode cX12_init 674 = .ok (.bipush 78, 2) := by decide +kernel
theorem dX12_init_676 : decode cX12_init 676 = .ok (.iconst 1, 1) := by decide +kernel
theorem dX12_init_677 : decode cX12_init 677 = .ok (.iastore, 1) := by decide +kernel
theorem dX12_init_678 : decode cX12_init 678 = .ok (.dup, 1) := by decide +kernel
theorem dX12_init_679 : decode cX12_init 679 = .ok (.bipush 79, 2) := by decide +kernel
theorem dX12_init_681 : decode cX12_init 681 = .ok (.bipush 11, 2) := by decide +kernel
theorem dX12_init_683 : decode cX12_init 683 = .ok (.iastore, 1) := by decide +kernel
theorem dX12_init_684 : decode cX12_init 684 = .ok (.dup, 1) := by decide +kernel
theorem dX12_init_685 : decode cX12_init 685 = .ok (.bipush 80, 2) := by decide +kernel
theorem dX12_init_687 : decode cX12_init 687 = .ok (.iconst 5, 1) := by decide +kernel
theorem dX12_init_688 : decode cX12_init 688 = .ok (.iastore, 1) := by decide +kernel
theorem dX12_init_689 : decode cX12_init 689 = .ok (.dup, 1) := by decide +kernel
theorem dX12_init_690 : decode cX12_init 690 = .ok (.bipush 81, 2) := by decide +kernel
theorem dX12_init_692 : decode cX12_init 692 = .ok (.bipush 19, 2) := by decide +kernel
theorem dX12_init_694 : decode cX12_init 694 = .ok (.iastore, 1) := by decide +kernel
theorem dX12_init_695 : decode cX12_init 695 = .ok (.dup, 1) := by decide +kernel
theorem dX12_init_696 : decode cX12_init 696 = .ok (.bipush 82, 2) := by decide +kernel
theorem dX12_init_698 : decode cX12_init 698 = .ok (.iconst 0, 1) := by decide +kernel
theorem dX12_init_699 : decode cX12_init 699 = .ok (.iastore, 1) := by decide +kernel
theorem dX12_init_700 : decode cX12_init 700 = .ok (.dup, 1) := by decide +kernel
theorem dX12_init_701 : decode cX12_init 701 = .ok (.bipush 83, 2) := by decide +kernel
theorem dX12_init_703 : decode cX12_init 703 = .ok (.bipush 15, 2) := by decide +kernel
theorem dX12_init_705 : decode cX12_init 705 = .ok (.iastore, 1) := by decide +kernel
theorem dX12_init_706 : decode cX12_init 706 = .ok (.dup, 1) := by decide +kernel
theorem dX12_init_707 : decode cX12_init 707 = .ok (.bipush 84, 2) := by decide +kernel
theorem dX12_init_709 : decode cX12_init 709 = .ok (.bipush 18, 2) := by decide +kernel
theorem dX12_init_711 : decode cX12_init 711 = .ok (.iastore, 1) := by decide +kernel
theorem dX12_init_712 : decode cX12_init 712 = .ok (.dup, 1) := by decide +kernel
theorem dX12_init_713 : decode cX12_init 713 = .ok (.bipush 85, 2) := by decide +kernel
theorem dX12_init_715 : decode cX12_init 715 = .ok (.iconst 4, 1) := by decide +kernel
theorem dX12_init_716 : decode cX12_init 716 = .ok (.iastore, 1) := by decide +kernel
theorem dX12_init_717 : decode cX12_init 717 = .ok (.dup, 1) := by decide +kernel
theorem dX12_init_718 : decode cX12_init 718 = .ok (.bipush 86, 2) := by decide +kernel
theorem dX12_init_720 : decode cX12_init 720 = .ok (.iconst 5, 1) := by decide +kernel
theorem dX12_init_721 : decode cX12_init 721 = .ok (.iastore, 1) := by decide +kernel
theorem dX12_init_722 : decode cX12_init 722 = .ok (.dup, 1) := by decide +kernel
theorem dX12_init_723 : decode cX12_init 723 = .ok (.bipush 87, 2) := by decide +kernel
theorem dX12_init_725 : decode cX12_init 725 = .ok (.bipush 18, 2) := by decide +kernel
theorem dX12_init_727 : decode cX12_init 727 = .ok (.iastore, 1) := by decide +kernel
theorem dX12_init_728 : decode cX12_init 728 = .ok (.dup, 1) := by decide +kernel
theorem dX12_init_729 : decode cX12_init 729 = .ok (.bipush 88, 2) := by decide +kernel
theorem dX12_init_731 : decode cX12_init 731 = .ok (.iconst 0, 1) := by decide +kernel
theorem dX12_init_732 : decode cX12_init 732 = .ok (.iastore, 1) := by decide +kernel
theorem dX12_init_733 : decode cX12_init 733 = .ok (.dup, 1) := by decide +kernel
theorem dX12_init_734 : decode cX12_init 734 = .ok (.bipush 89, 2) := by decide +kernel
theorem dX12_init_736 : decode cX12_init 736 = .ok (.bipush 6, 2) := by decide +kernel
theorem dX12_init_738 : decode cX12_init 738 = .ok (.iastore, 1) := by decide +kernel
theorem dX12_init_739 : decode cX12_init 739 = .ok (.dup, 1) := by decide +kernel
theorem dX12_init_740 : decode cX12_init 740 = .ok (.bipush 90, 2) := by decide +kernel
theorem dX12_init_742 : decode cX12_init 742 = .ok (.bipush 18, 2) := by decide +kernel
theorem dX12_init_744 : decode cX12_init 744 = .ok (.iastore, 1) := by decide +kernel
theorem dX12_init_745 : decode cX12_init 745 = .ok (.dup, 1) := by decide +kernel
theorem dX12_init_746 : decode cX12_init 746 = .ok (.bipush 91, 2) := by decide +kernel
theorem dX12_init_748 : decode cX12_init 748 = .ok (.bipush 15, 2) := by decide +kernel
theorem dX12_init_750 : decode cX12_init 750 = .ok (.iastore, 1) := by decide +kernel
theorem dX12_init_751 : decode cX12_init 751 = .ok (.dup, 1) := by decide +kernel
theorem dX12_init_752 : decode cX12_init 752 = .ok (.bipush 92, 2) := by decide +kernel
theorem dX12_init_754 : decode cX12_init 754 = .ok (.bipush 13, 2) := by decide +kernel
theorem dX12_init_756 : decode cX12_init 756 = .ok (.iastore, 1) := by decide +kernel
theorem dX12_init_757 : decode cX12_init 757 = .ok (.dup, 1) := by decide +kernel
theorem dX12_init_758 : decode cX12_init 758 = .ok (.bipush 93, 2) := by decide +kernel
theorem dX12_init_760 : decode cX12_init 760 = .ok (.iconst 0, 1) := by decide +kernel
theorem dX12_init_761 : decode cX12_init 761 = .ok (.iastore, 1) := by decide +kernel
theorem dX12_init_762 : decode cX12_init 762 = .ok (.dup, 1) := by decide +kernel
theorem dX12_init_763 : decode cX12_init 763 = .ok (.bipush 94, 2) := by decide +kernel
theorem dX12_init_765 : decode cX12_init 765 = .ok (.bipush 6, 2) := by decide +kernel
theorem dX12_init_767 : decode cX12_init 767 = .ok (.iastore, 1) := by decide +kernel
theorem dX12_init_768 : decode cX12_init 768 = .ok (.dup, 1) := by decide +kernel
theorem dX12_init_769 : decode cX12_init 769 = .ok (.bipush 95, 2) := by decide +kernel
theorem dX12_init_771 : decode cX12_init 771 = .ok (.bipush 15, 2) := by decide +kernel
theorem dX12_init_773 : decode cX12_init 773 = .ok (.iastore, 1) := by decide +kernel
theorem dX12_init_774 : decode cX12_init 774 = .ok (.dup, 1) := by decide +kernel
theorem dX12_init_775 : decode cX12_init 775 = .ok (.bipush 96, 2) := by decide +kernel
theorem dX12_init_777 : decode cX12_init 777 = .ok (.bipush 18, 2) := by decide +kernel
theorem dX12_init_779 : decode cX12_init 779 = .ok (.iastore, 1) := by decide +kernel
theorem dX12_init_780 : decode cX12_init 780 = .ok (.dup, 1) := by decide +kernel
theorem dX12_init_781 : decode cX12_init 781 = .ok (.bipush 97, 2) := by decide +kernel
theorem dX12_init_783 : decode cX12_init 783 = .ok (.iconst 0, 1) := by decide +kernel
theorem dX12_init_784 : decode cX12_init 784 = .ok (.iastore, 1) := by decide +kernel
theorem dX12_init_785 : decode cX12_init 785 = .ok (.dup, 1) := by decide +kernel
theorem dX12_init_786 : decode cX12_init 786 = .ok (.bipush 98, 2) := by decide +kernel
theorem dX12_init_788 : decode cX12_init 788 = .ok (.bipush 20, 2) := by decide +kernel
theorem dX12_init_790 : decode cX12_init 790 = .ok (.iastore, 1) := by decide +kernel
theorem dX12_init_791 : decode cX12_init 791 = .ok (.dup, 1) := by decide +kernel
theorem dX12_init_792 : decode cX12_init 792 = .ok (.bipush 99, 2) := by decide +kernel
theorem dX12_init_794 : decode cX12_init 794 = .ok (.bipush 21, 2) := by decide +kernel
theorem dX12_init_796 : decode cX12_init 796 = .ok (.iastore, 1) := by decide +kernel
theorem dX12_init_797 : decode cX12_init 797 = .ok (.dup, 1) := by decide +kernel
theorem dX12_init_798 : decode cX12_init 798 = .ok (.bipush 100, 2) := by decide +kernel
theorem dX12_init_800 : decode cX12_init 800 = .ok (.bipush 18, 2) := by decide +kernel
theorem dX12_init_802 : decode cX12_init 802 = .ok (.iastore, 1) := by decide +kernel
theorem dX12_init_803 : decode cX12_init 803 = .ok (.dup, 1) := by decide +kernel
theorem dX12_init_804 : decode cX12_init 804 = .ok (.bipush 101, 2) := by decide +kernel
theorem dX12_init_806 : decode cX12_init 806 = .ok (.bipush 14, 2) := by decide +kernel
theorem dX12_init_808 : decode cX12_init 808 = .ok (.iastore, 1) := by decide +kernel
theorem dX12_init_809 : decode cX12_init 809 = .ok (.dup, 1) := by decide +kernel
theorem dX12_init_810 : decode cX12_init 810 = .ok (.bipush 102, 2) := by decide +kernel
theorem dX12_init_812 : decode cX12_init 812 = .ok (.bipush 19, 2) := by decide +kernel
theorem dX12_init_814 : decode cX12_init 814 = .ok (.iastore, 1) := by decide +kernel
theorem dX12_init_815 : decode cX12_init 815 = .ok (.dup, 1) := by decide +kernel
theorem dX12_init_816 : decode cX12_init 816 = .ok (.bipush 103, 2) := by decide +kernel
theorem dX12_init_818 : decode cX12_init 818 = .ok (.iconst 0, 1) := by decide +kernel
theorem dX12_init_819 : decode cX12_init 819 = .ok (.iastore, 1) := by decide +kernel
theorem dX12_init_820 : decode cX12_init 820 = .ok (.putfield 123, 3) := by decide +kernel
theorem dX12_init_823 : decode cX12_init 823 = .ok (.aload_n 0, 1) := by decide +kernel
theorem dX12_init_824 : decode cX12_init 824 = .ok (.bipush 8, 2) := by decide +kernel
theorem dX12_init_826 : decode cX12_init 826 = .ok (.newarray .int, 2) := by decide +kernel
theorem dX12_init_828 : decode cX12_init 828 = .ok (.putfield 126, 3) := by decide +kernel
theorem dX12_init_831 : decode cX12_init 831 = .ok (.aload_n 0, 1) := by decide +kernel
theorem dX12_init_832 : decode cX12_init 832 = .ok (.bipush 8, 2) := by decide +kernel
theorem dX12_init_834 : decode cX12_init 834 = .ok (.newarray .int, 2) := by decide +kernel
theorem dX12_init_836 : decode cX12_init 836 = .ok (.putfield 129, 3) := by decide +kernel
theorem dX12_init_839 : decode cX12_init 839 = .ok (.aload_n 0, 1) := by decide +kernel
theorem dX12_init_840 : decode cX12_init 840 = .ok (.bipush 8, 2) := by decide +kernel
theorem dX12_init_842 : decode cX12_init 842 = .ok (.newarray .int, 2) := by decide +kernel
theorem dX12_init_844 : decode cX12_init 844 = .ok (.putfield 132, 3) := by decide +kernel
theorem dX12_init_847 : decode cX12_init 847 = .ok (.aload_n 0, 1) := by decide +kernel
theorem dX12_init_848 : decode cX12_init 848 = .ok (.bipush 8, 2) := by decide +kernel
theorem dX12_init_850 : decode cX12_init 850 = .ok (.newarray .int, 2) := by decide +kernel
theorem dX12_init_852 : decode cX12_init 852 = .ok (.putfield 135, 3) := by decide +kernel
theorem dX12_init_855 : decode cX12_init 855 = .ok (.aload_n 0, 1) := by decide +kernel
theorem dX12_init_856 : decode cX12_init 856 = .ok (.bipush 8, 2) := by decide +kernel
theorem dX12_init_858 : decode cX12_init 858 = .ok (.newarray .int, 2) := by decide +kernel
theorem dX12_init_860 : decode cX12_init 860 = .ok (.putfield 138, 3) := by decide +kernel
theorem dX12_init_863 : decode cX12_init 863 = .ok (.aload_n 0, 1) := by decide +kernel
theorem dX12_init_864 : decode cX12_init 864 = .ok (.iconst 0, 1) := by decide +kernel
theorem dX12_init_865 : decode cX12_init 865 = .ok (.putfield 141, 3) := by decide +kernel
theorem dX12_init_868 : decode cX12_init 868 = .ok (.aload_n 0, 1) := by decide +kernel
theorem dX12_init_869 : decode cX12_init 869 = .ok (.iconst 0, 1) := by decide +kernel
theorem dX12_init_870 : decode cX12_init 870 = .ok (.putfield 144, 3) := by decide +kernel
theorem dX12_init_873 : decode cX12_init 873 = .ok (.aload_n 0, 1) := by decide +kernel
theorem dX12_init_874 : decode cX12_init 874 = .ok (.bipush 10, 2) := by decide +kernel
theorem dX12_init_876 : decode cX12_init 876 = .ok (.newarray .int, 2) := by decide +kernel
theorem dX12_init_878 : decode cX12_init 878 = .ok (.putfield 147, 3) := by decide +kernel
theorem dX12_init_881 : decode cX12_init 881 = .ok (.aload_n 0, 1) := by decide +kernel
theorem dX12_init_882 : decode cX12_init 882 = .ok (.bipush 10, 2) := by decide +kernel
theorem dX12_init_884 : decode cX12_init 884 = .ok (.newarray .int, 2) := by decide +kernel
theorem dX12_init_886 : decode cX12_init 886 = .ok (.putfield 150, 3) := by decide +kernel
theorem dX12_init_889 : decode cX12_init 889 = .ok (.aload_n 0, 1) := by decide +kernel
theorem dX12_init_890 : decode cX12_init 890 = .ok (.sipush 1681, 3) := by decide +kernel
theorem dX12_init_893 : decode cX12_init 893 = .ok (.newarray .int, 2) := by decide +kernel
theorem dX12_init_895 : decode cX12_init 895 = .ok (.putfield 153, 3) := by decide +kernel
theorem dX12_init_898 : decode cX12_init 898 = .ok (.aload_n 0, 1) := by decide +kernel
theorem dX12_init_899 : decode cX12_init 899 = .ok (.bipush 41, 2) := by decide +kernel
theorem dX12_init_901 : decode cX12_init 901 = .ok (.newarray .int, 2) := by decide +kernel
theorem dX12_init_903 : decode cX12_init 903 = .ok (.putfield 156, 3) := by decide +kernel
theorem dX12_init_906 : decode cX12_init 906 = .ok (.return_, 1) := by decide +kernel
theorem mo_12_1 : Cond.methodLink RX12 1 Lib.objectInit ∈ zT := zT_of (i := 1398) (by decide +kernel) rfl
theorem fi_12_7 : Cond.fieldLink RX12 7 (TX12 0).1 (TX12 0).2.1 (TX12 0).2.2.1 ∈ zT := zT_of (i := 1399) (by decide +kernel) rfl
theorem fi_12_13 : Cond.fieldLink RX12 13 (TX12 1).1 (TX12 1).2.1 (TX12 1).2.2.1 ∈ zT := zT_of (i := 1400) (by decide +kernel) rfl
theorem fi_12_16 : Cond.fieldLink RX12 16 (TX12 2).1 (TX12 2).2.1 (TX12 2).2.2.1 ∈ zT := zT_of (i := 1401) (by decide +kernel) rfl
theorem fi_12_19 : Cond.fieldLink RX12 19 (TX12 3).1 (TX12 3).2.1 (TX12 3).2.2.1 ∈ zT := zT_of (i := 1402) (by decide +kernel) rfl
theorem fi_12_23 : Cond.fieldLink RX12 23 (TX12 4).1 (TX12 4).2.1 (TX12 4).2.2.1 ∈ zT := zT_of (i := 1403) (by decide +kernel) rfl
theorem fi_12_26 : Cond.fieldLink RX12 26 (TX12 5).1 (TX12 5).2.1 (TX12 5).2.2.1 ∈ zT := zT_of (i := 1404) (by decide +kernel) rfl
theorem fi_12_29 : Cond.fieldLink RX12 29 (TX12 6).1 (TX12 6).2.1 (TX12 6).2.2.1 ∈ zT := zT_of (i := 1405) (by decide +kernel) rfl
theorem fi_12_32 : Cond.fieldLink RX12 32 (TX12 7).1 (TX12 7).2.1 (TX12 7).2.2.1 ∈ zT := zT_of (i := 1406) (by decide +kernel) rfl
theorem fi_12_35 : Cond.fieldLink RX12 35 (TX12 8).1 (TX12 8).2.1 (TX12 8).2.2.1 ∈ zT := zT_of (i := 1407) (by decide +kernel) rfl
theorem fi_12_38 : Cond.fieldLink RX12 38 (TX12 9).1 (TX12 9).2.1 (TX12 9).2.2.1 ∈ zT := zT_of (i := 1408) (by decide +kernel) rfl
theorem fi_12_41 : Cond.fieldLink RX12 41 (TX12 10).1 (TX12 10).2.1 (TX12 10).2.2.1 ∈ zT := zT_of (i := 1409) (by decide +kernel) rfl
theorem fi_12_44 : Cond.fieldLink RX12 44 (TX12 11).1 (TX12 11).2.1 (TX12 11).2.2.1 ∈ zT := zT_of (i := 1410) (by decide +kernel) rfl
theorem fi_12_47 : Cond.fieldLink RX12 47 (TX12 12).1 (TX12 12).2.1 (TX12 12).2.2.1 ∈ zT := zT_of (i := 1411) (by decide +kernel) rfl
theorem fi_12_50 : Cond.fieldLink RX12 50 (TX12 13).1 (TX12 13).2.1 (TX12 13).2.2.1 ∈ zT := zT_of (i := 1412) (by decide +kernel) rfl
theorem fi_12_53 : Cond.fieldLink RX12 53 (TX12 14).1 (TX12 14).2.1 (TX12 14).2.2.1 ∈ zT := zT_of (i := 1413) (by decide +kernel) rfl
theorem fi_12_56 : Cond.fieldLink RX12 56 (TX12 15).1 (TX12 15).2.1 (TX12 15).2.2.1 ∈ zT := zT_of (i := 1414) (by decide +kernel) rfl
theorem fi_12_59 : Cond.fieldLink RX12 59 (TX12 16).1 (TX12 16).2.1 (TX12 16).2.2.1 ∈ zT := zT_of (i := 1415) (by decide +kernel) rfl
theorem fi_12_62 : Cond.fieldLink RX12 62 (TX12 17).1 (TX12 17).2.1 (TX12 17).2.2.1 ∈ zT := zT_of (i := 1416) (by decide +kernel) rfl
theorem fi_12_65 : Cond.fieldLink RX12 65 (TX12 18).1 (TX12 18).2.1 (TX12 18).2.2.1 ∈ zT := zT_of (i := 1417) (by decide +kernel) rfl
theorem fi_12_68 : Cond.fieldLink RX12 68 (TX12 19).1 (TX12 19).2.1 (TX12 19).2.2.1 ∈ zT := zT_of (i := 1418) (by decide +kernel) rfl
theorem fi_12_71 : Cond.fieldLink RX12 71 (TX12 20).1 (TX12 20).2.1 (TX12 20).2.2.1 ∈ zT := zT_of (i := 1419) (by decide +kernel) rfl
theorem fi_12_74 : Cond.fieldLink RX12 74 (TX12 21).1 (TX12 21).2.1 (TX12 21).2.2.1 ∈ zT := zT_of (i := 1420) (by decide +kernel) rfl
theorem fi_12_77 : Cond.fieldLink RX12 77 (TX12 22).1 (TX12 22).2.1 (TX12 22).2.2.1 ∈ zT := zT_of (i := 1421) (by decide +kernel) rfl
theorem fi_12_80 : Cond.fieldLink RX12 80 (TX12 23).1 (TX12 23).2.1 (TX12 23).2.2.1 ∈ zT := zT_of (i := 1422) (by decide +kernel) rfl
theorem fi_12_83 : Cond.fieldLink RX12 83 (TX12 24).1 (TX12 24).2.1 (TX12 24).2.2.1 ∈ zT := zT_of (i := 1423) (by decide +kernel) rfl
theorem fi_12_86 : Cond.fieldLink RX12 86 (TX12 25).1 (TX12 25).2.1 (TX12 25).2.2.1 ∈ zT := zT_of (i := 1424) (by decide +kernel) rfl
theorem fi_12_90 : Cond.fieldLink RX12 90 (TX12 26).1 (TX12 26).2.1 (TX12 26).2.2.1 ∈ zT := zT_of (i := 1425) (by decide +kernel) rfl
theorem fi_12_93 : Cond.fieldLink RX12 93 (TX12 27).1 (TX12 27).2.1 (TX12 27).2.2.1 ∈ zT := zT_of (i := 1426) (by decide +kernel) rfl
theorem fi_12_96 : Cond.fieldLink RX12 96 (TX12 28).1 (TX12 28).2.1 (TX12 28).2.2.1 ∈ zT := zT_of (i := 1427) (by decide +kernel) rfl
theorem fi_12_99 : Cond.fieldLink RX12 99 (TX12 29).1 (TX12 29).2.1 (TX12 29).2.2.1 ∈ zT := zT_of (i := 1428) (by decide +kernel) rfl
theorem fi_12_102 : Cond.fieldLink RX12 102 (TX12 30).1 (TX12 30).2.1 (TX12 30).2.2.1 ∈ zT := zT_of (i := 1429) (by decide +kernel) rfl
theorem fi_12_105 : Cond.fieldLink RX12 105 (TX12 31).1 (TX12 31).2.1 (TX12 31).2.2.1 ∈ zT := zT_of (i := 1430) (by decide +kernel) rfl
theorem fi_12_108 : Cond.fieldLink RX12 108 (TX12 32).1 (TX12 32).2.1 (TX12 32).2.2.1 ∈ zT := zT_of (i := 1431) (by decide +kernel) rfl
theorem fi_12_111 : Cond.fieldLink RX12 111 (TX12 33).1 (TX12 33).2.1 (TX12 33).2.2.1 ∈ zT := zT_of (i := 1432) (by decide +kernel) rfl
theorem fi_12_114 : Cond.fieldLink RX12 114 (TX12 34).1 (TX12 34).2.1 (TX12 34).2.2.1 ∈ zT := zT_of (i := 1433) (by decide +kernel) rfl
theorem fi_12_117 : Cond.fieldLink RX12 117 (TX12 35).1 (TX12 35).2.1 (TX12 35).2.2.1 ∈ zT := zT_of (i := 1434) (by decide +kernel) rfl
theorem fi_12_120 : Cond.fieldLink RX12 120 (TX12 36).1 (TX12 36).2.1 (TX12 36).2.2.1 ∈ zT := zT_of (i := 1435) (by decide +kernel) rfl
theorem fi_12_123 : Cond.fieldLink RX12 123 (TX12 37).1 (TX12 37).2.1 (TX12 37).2.2.1 ∈ zT := zT_of (i := 1436) (by decide +kernel) rfl
theorem fi_12_126 : Cond.fieldLink RX12 126 (TX12 38).1 (TX12 38).2.1 (TX12 38).2.2.1 ∈ zT := zT_of (i := 1437) (by decide +kernel) rfl
theorem fi_12_129 : Cond.fieldLink RX12 129 (TX12 39).1 (TX12 39).2.1 (TX12 39).2.2.1 ∈ zT := zT_of (i := 1438) (by decide +kernel) rfl
theorem fi_12_132 : Cond.fieldLink RX12 132 (TX12 40).1 (TX12 40).2.1 (TX12 40).2.2.1 ∈ zT := zT_of (i := 1439) (by decide +kernel) rfl
theorem fi_12_135 : Cond.fieldLink RX12 135 (TX12 41).1 (TX12 41).2.1 (TX12 41).2.2.1 ∈ zT := zT_of (i := 1440) (by decide +kernel) rfl
theorem fi_12_138 : Cond.fieldLink RX12 138 (TX12 42).1 (TX12 42).2.1 (TX12 42).2.2.1 ∈ zT := zT_of (i := 1441) (by decide +kernel) rfl
theorem fi_12_141 : Cond.fieldLink RX12 141 (TX12 43).1 (TX12 43).2.1 (TX12 43).2.2.1 ∈ zT := zT_of (i := 1442) (by decide +kernel) rfl
theorem fi_12_144 : Cond.fieldLink RX12 144 (TX12 44).1 (TX12 44).2.1 (TX12 44).2.2.1 ∈ zT := zT_of (i := 1443) (by decide +kernel) rfl
theorem fi_12_147 : Cond.fieldLink RX12 147 (TX12 45).1 (TX12 45).2.1 (TX12 45).2.2.1 ∈ zT := zT_of (i := 1444) (by decide +kernel) rfl
theorem fi_12_150 : Cond.fieldLink RX12 150 (TX12 46).1 (TX12 46).2.1 (TX12 46).2.2.1 ∈ zT := zT_of (i := 1445) (by decide +kernel) rfl
theorem fi_12_153 : Cond.fieldLink RX12 153 (TX12 47).1 (TX12 47).2.1 (TX12 47).2.2.1 ∈ zT := zT_of (i := 1446) (by decide +kernel) rfl
theorem fi_12_156 : Cond.fieldLink RX12 156 (TX12 48).1 (TX12 48).2.1 (TX12 48).2.2.1 ∈ zT := zT_of (i := 1447) (by decide +kernel) rfl
abbrev rm_M_init : Room := { frames := 1, cells := 26, slots := 37924, locals := 12 }
def ks_M_init : List Kd := [.inl (12, [none, none, none, some (some (1)), some (some (2)), some (some (3)), some (some (4)), some (some (5)), none, none, none, none, none, none, some (some (6)), some (some (7)), some (some (8)), some (some (9)), some (some (10)), some (some (11)), some (some (12)), some (some (13)), some (some (14)), none, none, none, none, some (some (15)), none, some (some (16)), none, none, none, none, none, none, none, some (some (17)), some (some (18)), some (some (19)), some (some (20)), some (some (21)), some (some (22)), none, none, some (some (23)), some (some (24)), some (some (25)), some (some (26))]), .inr (0, 72, []), .inr (0, 20, []), .inr (0, 16, []), .inr (0, 48, []), .inr (0, 60, []), .inr (0, 72, []), .inr (0, 20, []), .inr (0, 16, []), .inr (0, 48, []), .inr (0, 48, []), .inr (0, 60, []), .inr (0, 1607, []), .inr (0, 205, []), .inr (0, 32140, []), .inr (0, 1600, []), .inr (0, 6, []), .inr (0, 104, []), .inr (0, 8, []), .inr (0, 8, []), .inr (0, 8, []), .inr (0, 8, []), .inr (0, 8, []), .inr (0, 10, []), .inr (0, 10, []), .inr (0, 1681, []), .inr (0, 41, [])]
theorem w_M_init : Cond.instanceMethod yX12_init ∈ zT ∧ Cond.initialized yX12_init.cls ∈ zT ∧ Cond.code yX12_init cX12_init 1 none ∈ zT := ⟨zT_of (i := 1396) (by decide +kernel) rfl, zT_of (i := 135) (by decide +kernel) rfl, zT_of (i := 1397) (by decide +kernel) rfl⟩
theorem hy_M_init : yX12_init.cls ≠ "java/lang/invoke/MethodHandle" ∧ yX12_init.cls ≠ "java/lang/invoke/VarHandle" ∧ (parseMethodDescriptor yX12_init.desc).map (fun d => d.parameters.length) = some 0 := by decide +kernel
def sg_M_init : Sg := (zup (zup (zup (zup (zup (zup (zup (zup (zup (zup (zup (zup (zup (zup (zup (zup (zup (zup (zup (zup (zup (zup (zup (zup (zup (zup (zup (zup (zup (zup (zup (zup (zup (zup (zup (zup (zup (zup (zup (zup (zup (zup (zup (zup (zup (zup (zup (zup (zup (zup (zup (zup (zup (zup (zup (zup (zup (zup (zup (zup (zup (zup (zup (zup (zup (zup (zup (zup (zup (zup (zup (zup (zup (zup (zup (zup (zup (zup (zup (zup (zup (zup (zup (zup (zup (zup (zup (zup (zup (zup (zup (zup (zup (zup (zup (zup (zup (zup (zup (zup (zup (zup (zup (zup (zup (zup (zup (zup (zup (zup (zup (zup (zup (zup (zup (zup (zup (zup (zup (zup (zup (zup (zup (zup (zup (zup (zup zz0 0 0 0) 0 1 0) 0 2 0) 0 8 0) 0 9 0) 0 10 0) 0 11 0) 0 12 0) 0 13 0) 0 23 0) 0 24 1) 0 25 0) 0 26 0) 0 28 0) 0 30 0) 0 31 (-1)) 0 32 0) 0 33 0) 0 34 0) 0 35 0) 0 36 (-1)) 17 ((0 : Int32).toNatClampNeg) 3) 17 ((1 : Int32).toNatClampNeg) 1) 17 ((2 : Int32).toNatClampNeg) 14) 17 ((3 : Int32).toNatClampNeg) 1) 17 ((4 : Int32).toNatClampNeg) 12) 17 ((5 : Int32).toNatClampNeg) 0) 17 ((6 : Int32).toNatClampNeg) 7) 17 ((7 : Int32).toNatClampNeg) 9) 17 ((8 : Int32).toNatClampNeg) 22) 17 ((9 : Int32).toNatClampNeg) 5) 17 ((10 : Int32).toNatClampNeg) 19) 17 ((11 : Int32).toNatClampNeg) 0) 17 ((12 : Int32).toNatClampNeg) 11) 17 ((13 : Int32).toNatClampNeg) 5) 17 ((14 : Int32).toNatClampNeg) 5) 17 ((15 : Int32).toNatClampNeg) 16) 17 ((16 : Int32).toNatClampNeg) 0) 17 ((17 : Int32).toNatClampNeg) 16) 17 ((18 : Int32).toNatClampNeg) 15) 17 ((19 : Int32).toNatClampNeg) 15) 17 ((20 : Int32).toNatClampNeg) 12) 17 ((21 : Int32).toNatClampNeg) 0) 17 ((22 : Int32).toNatClampNeg) 8) 17 ((23 : Int32).toNatClampNeg) 15) 17 ((24 : Int32).toNatClampNeg) 12) 17 ((25 : Int32).toNatClampNeg) 4) 17 ((26 : Int32).toNatClampNeg) 19) 17 ((27 : Int32).toNatClampNeg) 0) 17 ((28 : Int32).toNatClampNeg) 12) 17 ((29 : Int32).toNatClampNeg) 15) 17 ((30 : Int32).toNatClampNeg) 23) 17 ((31 : Int32).toNatClampNeg) 0) 17 ((32 : Int32).toNatClampNeg) 8) 17 ((33 : Int32).toNatClampNeg) 9) 17 ((34 : Int32).toNatClampNeg) 7) 17 ((35 : Int32).toNatClampNeg) 8) 17 ((36 : Int32).toNatClampNeg) 0) 17 ((37 : Int32).toNatClampNeg) 3) 17 ((38 : Int32).toNatClampNeg) 18) 17 ((39 : Int32).toNatClampNeg) 5) 17 ((40 : Int32).toNatClampNeg) 19) 17 ((41 : Int32).toNatClampNeg) 20) 17 ((42 : Int32).toNatClampNeg) 0) 17 ((43 : Int32).toNatClampNeg) 4) 17 ((44 : Int32).toNatClampNeg) 5) 17 ((45 : Int32).toNatClampNeg) 12) 17 ((46 : Int32).toNatClampNeg) 1) 17 ((47 : Int32).toNatClampNeg) 25) 17 ((48 : Int32).toNatClampNeg) 0) 17 ((49 : Int32).toNatClampNeg) 12) 17 ((50 : Int32).toNatClampNeg) 5) 17 ((51 : Int32).toNatClampNeg) 1) 17 ((52 : Int32).toNatClampNeg) 11) 17 ((53 : Int32).toNatClampNeg) 0) 17 ((54 : Int32).toNatClampNeg) 7) 17 ((55 : Int32).toNatClampNeg) 1) 17 ((56 : Int32).toNatClampNeg) 20) 17 ((57 : Int32).toNatClampNeg) 5) 17 ((58 : Int32).toNatClampNeg) 0) 17 ((59 : Int32).toNatClampNeg) 2) 17 ((60 : Int32).toNatClampNeg) 25) 17 ((61 : Int32).toNatClampNeg) 0) 17 ((62 : Int32).toNatClampNeg) 15) 17 ((63 : Int32).toNatClampNeg) 16) 17 ((64 : Int32).toNatClampNeg) 5) 17 ((65 : Int32).toNatClampNeg) 14) 17 ((66 : Int32).toNatClampNeg) 0) 17 ((67 : Int32).toNatClampNeg) 15) 17 ((68 : Int32).toNatClampNeg) 21) 17 ((69 : Int32).toNatClampNeg) 20) 17 ((70 : Int32).toNatClampNeg) 12) 17 ((71 : Int32).toNatClampNeg) 5) 17 ((72 : Int32).toNatClampNeg) 20) 17 ((73 : Int32).toNatClampNeg) 0) 17 ((74 : Int32).toNatClampNeg) 1) 17 ((75 : Int32).toNatClampNeg) 20) 17 ((76 : Int32).toNatClampNeg) 0) 17 ((77 : Int32).toNatClampNeg) 20) 17 ((78 : Int32).toNatClampNeg) 1) 17 ((79 : Int32).toNatClampNeg) 11) 17 ((80 : Int32).toNatClampNeg) 5) 17 ((81 : Int32).toNatClampNeg) 19) 17 ((82 : Int32).toNatClampNeg) 0) 17 ((83 : Int32).toNatClampNeg) 15) 17 ((84 : Int32).toNatClampNeg) 18) 17 ((85 : Int32).toNatClampNeg) 4) 17 ((86 : Int32).toNatClampNeg) 5) 17 ((87 : Int32).toNatClampNeg) 18) 17 ((88 : Int32).toNatClampNeg) 0) 17 ((89 : Int32).toNatClampNeg) 6) 17 ((90 : Int32).toNatClampNeg) 18) 17 ((91 : Int32).toNatClampNeg) 15) 17 ((92 : Int32).toNatClampNeg) 13) 17 ((93 : Int32).toNatClampNeg) 0) 17 ((94 : Int32).toNatClampNeg) 6) 17 ((95 : Int32).toNatClampNeg) 15) 17 ((96 : Int32).toNatClampNeg) 18) 17 ((97 : Int32).toNatClampNeg) 0) 17 ((98 : Int32).toNatClampNeg) 20) 17 ((99 : Int32).toNatClampNeg) 21) 17 ((100 : Int32).toNatClampNeg) 18) 17 ((101 : Int32).toNatClampNeg) 14) 17 ((102 : Int32).toNatClampNeg) 19) 17 ((103 : Int32).toNatClampNeg) 0) 0 43 0) 0 44 0)
set_option maxRecDepth 100000 in
set_option maxHeartbeats 4000000 in
theorem c_M_init : ZiV yX12_init cX12_init 1 rm_M_init fk_12 ks_M_init sg_M_init 26 37924 :=
  zmetB pn_12 rfl rfl (by decide) (fun X Q ok hr => by
    refine zB_aload ok dX12_init_0 0 rfl ?_
    refine zB_obj ok mo_12_1 zo_i.1 zo_i.2 (Nat.le_of_ble_eq_true rfl) (Nat.le_of_ble_eq_true rfl) dX12_init_1 ?_
    refine zB_aload ok dX12_init_4 0 rfl ?_
    refine zB_iconst (v := 0) ok dX12_init_5 (by decide) ?_
    refine zB_puti (ci := 12) ok rfl zc_12 hin_12 tyX12 tyX12_ok nmX12 (s := 0) (by decide) fi_12_7 rfl (tyX12_ok 0 (by decide)) rfl rfl rfl rfl dX12_init_6 ?_
    refine zB_aload ok dX12_init_9 0 rfl ?_
    refine zB_iconst (v := 0) ok dX12_init_10 (by decide) ?_
    refine zB_puti (ci := 12) ok rfl zc_12 hin_12 tyX12 tyX12_ok nmX12 (s := 1) (by decide) fi_12_13 rfl (tyX12_ok 1 (by decide)) rfl rfl rfl rfl dX12_init_11 ?_
    refine zB_aload ok dX12_init_14 0 rfl ?_
    refine zB_iconst (v := 0) ok dX12_init_15 (by decide) ?_
    refine zB_puti (ci := 12) ok rfl zc_12 hin_12 tyX12 tyX12_ok nmX12 (s := 2) (by decide) fi_12_16 rfl (tyX12_ok 2 (by decide)) rfl rfl rfl rfl dX12_init_16 ?_
    refine zB_aload ok dX12_init_19 0 rfl ?_
    refine zB_bipush (v := 72) ok dX12_init_20 (by decide) ?_
    refine zB_newa (n := 72) (t := 0) ok (by simp) za_int (by decide) (by decide) ((fun j (hj : 1 ≤ j) => by (repeat rw [zup_ne (show j ≠ _ by omega)]); rfl) _ (Nat.le_refl _)) ⟨Nat.le_of_ble_eq_true rfl, Nat.le_of_ble_eq_true rfl⟩ dX12_init_22 ?_
    refine zB_ks (ks' := [.inl (12, [none, none, none, some none, some none, some none, some none, some none, none, none, none, none, none, none, some none, some none, some none, some none, some none, some none, some none, some none, some none, none, none, none, none, some none, none, some none, none, none, none, none, none, none, none, some none, some none, some none, some none, some none, some none, none, none, some none, some none, some none, some none]), .inr (0, 72, [])]) rfl ?_
    refine zB_putF (ci := 12) (q := 1) ok rfl zc_12 hin_12 tyX12 tyX12_ok nmX12 (s := 3) (by decide) fi_12_19 ⟨rfl, rfl⟩ (tyX12_ok 3 (by decide)) rfl rfl (by decide) dX12_init_24 ?_
    refine zB_ks (ks' := [.inl (12, [none, none, none, some (some (1)), some none, some none, some none, some none, none, none, none, none, none, none, some none, some none, some none, some none, some none, some none, some none, some none, some none, none, none, none, none, some none, none, some none, none, none, none, none, none, none, none, some none, some none, some none, some none, some none, some none, none, none, some none, some none, some none, some none]), .inr (0, 72, [])]) rfl ?_
    refine zB_aload ok dX12_init_27 0 rfl ?_
    refine zB_bipush (v := 20) ok dX12_init_28 (by decide) ?_
    refine zB_newa (n := 20) (t := 0) ok (by simp) za_int (by decide) (by decide) ((fun j (hj : 2 ≤ j) => by (repeat rw [zup_ne (show j ≠ _ by omega)]); rfl) _ (Nat.le_refl _)) ⟨Nat.le_of_ble_eq_true rfl, Nat.le_of_ble_eq_true rfl⟩ dX12_init_30 ?_
    refine zB_ks (ks' := [.inl (12, [none, none, none, some (some (1)), some none, some none, some none, some none, none, none, none, none, none, none, some none, some none, some none, some none, some none, some none, some none, some none, some none, none, none, none, none, some none, none, some none, none, none, none, none, none, none, none, some none, some none, some none, some none, some none, some none, none, none, some none, some none, some none, some none]), .inr (0, 72, []), .inr (0, 20, [])]) rfl ?_
    refine zB_putF (ci := 12) (q := 2) ok rfl zc_12 hin_12 tyX12 tyX12_ok nmX12 (s := 4) (by decide) fi_12_23 ⟨rfl, rfl⟩ (tyX12_ok 4 (by decide)) rfl rfl (by decide) dX12_init_32 ?_
    refine zB_ks (ks' := [.inl (12, [none, none, none, some (some (1)), some (some (2)), some none, some none, some none, none, none, none, none, none, none, some none, some none, some none, some none, some none, some none, some none, some none, some none, none, none, none, none, some none, none, some none, none, none, none, none, none, none, none, some none, some none, some none, some none, some none, some none, none, none, some none, some none, some none, some none]), .inr (0, 72, []), .inr (0, 20, [])]) rfl ?_
    refine zB_aload ok dX12_init_35 0 rfl ?_
    refine zB_bipush (v := 16) ok dX12_init_36 (by decide) ?_
    refine zB_newa (n := 16) (t := 0) ok (by simp) za_int (by decide) (by decide) ((fun j (hj : 3 ≤ j) => by (repeat rw [zup_ne (show j ≠ _ by omega)]); rfl) _ (Nat.le_refl _)) ⟨Nat.le_of_ble_eq_true rfl, Nat.le_of_ble_eq_true rfl⟩ dX12_init_38 ?_
    refine zB_ks (ks' := [.inl (12, [none, none, none, some (some (1)), some (some (2)), some none, some none, some none, none, none, none, none, none, none, some none, some none, some none, some none, some none, some none, some none, some none, some none, none, none, none, none, some none, none, some none, none, none, none, none, none, none, none, some none, some none, some none, some none, some none, some none, none, none, some none, some none, some none, some none]), .inr (0, 72, []), .inr (0, 20, []), .inr (0, 16, [])]) rfl ?_
    refine zB_putF (ci := 12) (q := 3) ok rfl zc_12 hin_12 tyX12 tyX12_ok nmX12 (s := 5) (by decide) fi_12_26 ⟨rfl, rfl⟩ (tyX12_ok 5 (by decide)) rfl rfl (by decide) dX12_init_40 ?_
    refine zB_ks (ks' := [.inl (12, [none, none, none, some (some (1)), some (some (2)), some (some (3)), some none, some none, none, none, none, none, none, none, some none, some none, some none, some none, some none, some none, some none, some none, some none, none, none, none, none, some none, none, some none, none, none, none, none, none, none, none, some none, some none, some none, some none, some none, some none, none, none, some none, some none, some none, some none]), .inr (0, 72, []), .inr (0, 20, []), .inr (0, 16, [])]) rfl ?_
    refine zB_aload ok dX12_init_43 0 rfl ?_
    refine zB_bipush (v := 48) ok dX12_init_44 (by decide) ?_
    refine zB_newa (n := 48) (t := 0) ok (by simp) za_int (by decide) (by decide) ((fun j (hj : 4 ≤ j) => by (repeat rw [zup_ne (show j ≠ _ by omega)]); rfl) _ (Nat.le_refl _)) ⟨Nat.le_of_ble_eq_true rfl, Nat.le_of_ble_eq_true rfl⟩ dX12_init_46 ?_
    refine zB_ks (ks' := [.inl (12, [none, none, none, some (some (1)), some (some (2)), some (some (3)), some none, some none, none, none, none, none, none, none, some none, some none, some none, some none, some none, some none, some none, some none, some none, none, none, none, none, some none, none, some none, none, none, none, none, none, none, none, some none, some none, some none, some none, some none, some none, none, none, some none, some none, some none, some none]), .inr (0, 72, []), .inr (0, 20, []), .inr (0, 16, []), .inr (0, 48, [])]) rfl ?_
    refine zB_putF (ci := 12) (q := 4) ok rfl zc_12 hin_12 tyX12 tyX12_ok nmX12 (s := 6) (by decide) fi_12_29 ⟨rfl, rfl⟩ (tyX12_ok 6 (by decide)) rfl rfl (by decide) dX12_init_48 ?_
    refine zB_ks (ks' := [.inl (12, [none, none, none, some (some (1)), some (some (2)), some (some (3)), some (some (4)), some none, none, none, none, none, none, none, some none, some none, some none, some none, some none, some none, some none, some none, some none, none, none, none, none, some none, none, some none, none, none, none, none, none, none, none, some none, some none, some none, some none, some none, some none, none, none, some none, some none, some none, some none]), .inr (0, 72, []), .inr (0, 20, []), .inr (0, 16, []), .inr (0, 48, [])]) rfl ?_
    refine zB_aload ok dX12_init_51 0 rfl ?_
    refine zB_bipush (v := 60) ok dX12_init_52 (by decide) ?_
    refine zB_newa (n := 60) (t := 0) ok (by simp) za_int (by decide) (by decide) ((fun j (hj : 5 ≤ j) => by (repeat rw [zup_ne (show j ≠ _ by omega)]); rfl) _ (Nat.le_refl _)) ⟨Nat.le_of_ble_eq_true rfl, Nat.le_of_ble_eq_true rfl⟩ dX12_init_54 ?_
    refine zB_ks (ks' := [.inl (12, [none, none, none, some (some (1)), some (some (2)), some (some (3)), some (some (4)), some none, none, none, none, none, none, none, some none, some none, some none, some none, some none, some none, some none, some none, some none, none, none, none, none, some none, none, some none, none, none, none, none, none, none, none, some none, some none, some none, some none, some none, some none, none, none, some none, some none, some none, some none]), .inr (0, 72, []), .inr (0, 20, []), .inr (0, 16, []), .inr (0, 48, []), .inr (0, 60, [])]) rfl ?_
    refine zB_putF (ci := 12) (q := 5) ok rfl zc_12 hin_12 tyX12 tyX12_ok nmX12 (s := 7) (by decide) fi_12_32 ⟨rfl, rfl⟩ (tyX12_ok 7 (by decide)) rfl rfl (by decide) dX12_init_56 ?_
    refine zB_ks (ks' := [.inl (12, [none, none, none, some (some (1)), some (some (2)), some (some (3)), some (some (4)), some (some (5)), none, none, none, none, none, none, some none, some none, some none, some none, some none, some none, some none, some none, some none, none, none, none, none, some none, none, some none, none, none, none, none, none, none, none, some none, some none, some none, some none, some none, some none, none, none, some none, some none, some none, some none]), .inr (0, 72, []), .inr (0, 20, []), .inr (0, 16, []), .inr (0, 48, []), .inr (0, 60, [])]) rfl ?_
    refine zB_aload ok dX12_init_59 0 rfl ?_
    refine zB_iconst (v := 0) ok dX12_init_60 (by decide) ?_
    refine zB_puti (ci := 12) ok rfl zc_12 hin_12 tyX12 tyX12_ok nmX12 (s := 8) (by decide) fi_12_35 rfl (tyX12_ok 8 (by decide)) rfl rfl rfl rfl dX12_init_61 ?_
    refine zB_aload ok dX12_init_64 0 rfl ?_
    refine zB_iconst (v := 0) ok dX12_init_65 (by decide) ?_
    refine zB_puti (ci := 12) ok rfl zc_12 hin_12 tyX12 tyX12_ok nmX12 (s := 9) (by decide) fi_12_38 rfl (tyX12_ok 9 (by decide)) rfl rfl rfl rfl dX12_init_66 ?_
    refine zB_aload ok dX12_init_69 0 rfl ?_
    refine zB_iconst (v := 0) ok dX12_init_70 (by decide) ?_
    refine zB_puti (ci := 12) ok rfl zc_12 hin_12 tyX12 tyX12_ok nmX12 (s := 10) (by decide) fi_12_41 rfl (tyX12_ok 10 (by decide)) rfl rfl rfl rfl dX12_init_71 ?_
    refine zB_aload ok dX12_init_74 0 rfl ?_
    refine zB_iconst (v := 0) ok dX12_init_75 (by decide) ?_
    refine zB_puti (ci := 12) ok rfl zc_12 hin_12 tyX12 tyX12_ok nmX12 (s := 11) (by decide) fi_12_44 rfl (tyX12_ok 11 (by decide)) rfl rfl rfl rfl dX12_init_76 ?_
    refine zB_aload ok dX12_init_79 0 rfl ?_
    refine zB_iconst (v := 0) ok dX12_init_80 (by decide) ?_
    refine zB_puti (ci := 12) ok rfl zc_12 hin_12 tyX12 tyX12_ok nmX12 (s := 12) (by decide) fi_12_47 rfl (tyX12_ok 12 (by decide)) rfl rfl rfl rfl dX12_init_81 ?_
    refine zB_aload ok dX12_init_84 0 rfl ?_
    refine zB_iconst (v := 0) ok dX12_init_85 (by decide) ?_
    refine zB_puti (ci := 12) ok rfl zc_12 hin_12 tyX12 tyX12_ok nmX12 (s := 13) (by decide) fi_12_50 rfl (tyX12_ok 13 (by decide)) rfl rfl rfl rfl dX12_init_86 ?_
    refine zB_aload ok dX12_init_89 0 rfl ?_
    refine zB_bipush (v := 72) ok dX12_init_90 (by decide) ?_
    refine zB_newa (n := 72) (t := 0) ok (by simp) za_int (by decide) (by decide) ((fun j (hj : 6 ≤ j) => by (repeat rw [zup_ne (show j ≠ _ by omega)]); rfl) _ (Nat.le_refl _)) ⟨Nat.le_of_ble_eq_true rfl, Nat.le_of_ble_eq_true rfl⟩ dX12_init_92 ?_
    refine zB_ks (ks' := [.inl (12, [none, none, none, some (some (1)), some (some (2)), some (some (3)), some (some (4)), some (some (5)), none, none, none, none, none, none, some none, some none, some none, some none, some none, some none, some none, some none, some none, none, none, none, none, some none, none, some none, none, none, none, none, none, none, none, some none, some none, some none, some none, some none, some none, none, none, some none, some none, some none, some none]), .inr (0, 72, []), .inr (0, 20, []), .inr (0, 16, []), .inr (0, 48, []), .inr (0, 60, []), .inr (0, 72, [])]) rfl ?_
    refine zB_putF (ci := 12) (q := 6) ok rfl zc_12 hin_12 tyX12 tyX12_ok nmX12 (s := 14) (by decide) fi_12_53 ⟨rfl, rfl⟩ (tyX12_ok 14 (by decide)) rfl rfl (by decide) dX12_init_94 ?_
    refine zB_ks (ks' := [.inl (12, [none, none, none, some (some (1)), some (some (2)), some (some (3)), some (some (4)), some (some (5)), none, none, none, none, none, none, some (some (6)), some none, some none, some none, some none, some none, some none, some none, some none, none, none, none, none, some none, none, some none, none, none, none, none, none, none, none, some none, some none, some none, some none, some none, some none, none, none, some none, some none, some none, some none]), .inr (0, 72, []), .inr (0, 20, []), .inr (0, 16, []), .inr (0, 48, []), .inr (0, 60, []), .inr (0, 72, [])]) rfl ?_
    refine zB_aload ok dX12_init_97 0 rfl ?_
    refine zB_bipush (v := 20) ok dX12_init_98 (by decide) ?_
    refine zB_newa (n := 20) (t := 0) ok (by simp) za_int (by decide) (by decide) ((fun j (hj : 7 ≤ j) => by (repeat rw [zup_ne (show j ≠ _ by omega)]); rfl) _ (Nat.le_refl _)) ⟨Nat.le_of_ble_eq_true rfl, Nat.le_of_ble_eq_true rfl⟩ dX12_init_100 ?_
    refine zB_ks (ks' := [.inl (12, [none, none, none, some (some (1)), some (some (2)), some (some (3)), some (some (4)), some (some (5)), none, none, none, none, none, none, some (some (6)), some none, some none, some none, some none, some none, some none, some none, some none, none, none, none, none, some none, none, some none, none, none, none, none, none, none, none, some none, some none, some none, some none, some none, some none, none, none, some none, some none, some none, some none]), .inr (0, 72, []), .inr (0, 20, []), .inr (0, 16, []), .inr (0, 48, []), .inr (0, 60, []), .inr (0, 72, []), .inr (0, 20, [])]) rfl ?_
    refine zB_putF (ci := 12) (q := 7) ok rfl zc_12 hin_12 tyX12 tyX12_ok nmX12 (s := 15) (by decide) fi_12_56 ⟨rfl, rfl⟩ (tyX12_ok 15 (by decide)) rfl rfl (by decide) dX12_init_102 ?_
    refine zB_ks (ks' := [.inl (12, [none, none, none, some (some (1)), some (some (2)), some (some (3)), some (some (4)), some (some (5)), none, none, none, none, none, none, some (some (6)), some (some (7)), some none, some none, some none, some none, some none, some none, some none, none, none, none, none, some none, none, some none, none, none, none, none, none, none, none, some none, some none, some none, some none, some none, some none, none, none, some none, some none, some none, some none]), .inr (0, 72, []), .inr (0, 20, []), .inr (0, 16, []), .inr (0, 48, []), .inr (0, 60, []), .inr (0, 72, []), .inr (0, 20, [])]) rfl ?_
    refine zB_aload ok dX12_init_105 0 rfl ?_
    refine zB_bipush (v := 16) ok dX12_init_106 (by decide) ?_
    refine zB_newa (n := 16) (t := 0) ok (by simp) za_int (by decide) (by decide) ((fun j (hj : 8 ≤ j) => by (repeat rw [zup_ne (show j ≠ _ by omega)]); rfl) _ (Nat.le_refl _)) ⟨Nat.le_of_ble_eq_true rfl, Nat.le_of_ble_eq_true rfl⟩ dX12_init_108 ?_
    refine zB_ks (ks' := [.inl (12, [none, none, none, some (some (1)), some (some (2)), some (some (3)), some (some (4)), some (some (5)), none, none, none, none, none, none, some (some (6)), some (some (7)), some none, some none, some none, some none, some none, some none, some none, none, none, none, none, some none, none, some none, none, none, none, none, none, none, none, some none, some none, some none, some none, some none, some none, none, none, some none, some none, some none, some none]), .inr (0, 72, []), .inr (0, 20, []), .inr (0, 16, []), .inr (0, 48, []), .inr (0, 60, []), .inr (0, 72, []), .inr (0, 20, []), .inr (0, 16, [])]) rfl ?_
    refine zB_putF (ci := 12) (q := 8) ok rfl zc_12 hin_12 tyX12 tyX12_ok nmX12 (s := 16) (by decide) fi_12_59 ⟨rfl, rfl⟩ (tyX12_ok 16 (by decide)) rfl rfl (by decide) dX12_init_110 ?_
    refine zB_ks (ks' := [.inl (12, [none, none, none, some (some (1)), some (some (2)), some (some (3)), some (some (4)), some (some (5)), none, none, none, none, none, none, some (some (6)), some (some (7)), some (some (8)), some none, some none, some none, some none, some none, some none, none, none, none, none, some none, none, some none, none, none, none, none, none, none, none, some none, some none, some none, some none, some none, some none, none, none, some none, some none, some none, some none]), .inr (0, 72, []), .inr (0, 20, []), .inr (0, 16, []), .inr (0, 48, []), .inr (0, 60, []), .inr (0, 72, []), .inr (0, 20, []), .inr (0, 16, [])]) rfl ?_
    refine zB_aload ok dX12_init_113 0 rfl ?_
    refine zB_bipush (v := 48) ok dX12_init_114 (by decide) ?_
    refine zB_newa (n := 48) (t := 0) ok (by simp) za_int (by decide) (by decide) ((fun j (hj : 9 ≤ j) => by (repeat rw [zup_ne (show j ≠ _ by omega)]); rfl) _ (Nat.le_refl _)) ⟨Nat.le_of_ble_eq_true rfl, Nat.le_of_ble_eq_true rfl⟩ dX12_init_116 ?_
    refine zB_ks (ks' := [.inl (12, [none, none, none, some (some (1)), some (some (2)), some (some (3)), some (some (4)), some (some (5)), none, none, none, none, none, none, some (some (6)), some (some (7)), some (some (8)), some none, some none, some none, some none, some none, some none, none, none, none, none, some none, none, some none, none, none, none, none, none, none, none, some none, some none, some none, some none, some none, some none, none, none, some none, some none, some none, some none]), .inr (0, 72, []), .inr (0, 20, []), .inr (0, 16, []), .inr (0, 48, []), .inr (0, 60, []), .inr (0, 72, []), .inr (0, 20, []), .inr (0, 16, []), .inr (0, 48, [])]) rfl ?_
    refine zB_putF (ci := 12) (q := 9) ok rfl zc_12 hin_12 tyX12 tyX12_ok nmX12 (s := 17) (by decide) fi_12_62 ⟨rfl, rfl⟩ (tyX12_ok 17 (by decide)) rfl rfl (by decide) dX12_init_118 ?_
    refine zB_ks (ks' := [.inl (12, [none, none, none, some (some (1)), some (some (2)), some (some (3)), some (some (4)), some (some (5)), none, none, none, none, none, none, some (some (6)), some (some (7)), some (some (8)), some (some (9)), some none, some none, some none, some none, some none, none, none, none, none, some none, none, some none, none, none, none, none, none, none, none, some none, some none, some none, some none, some none, some none, none, none, some none, some none, some none, some none]), .inr (0, 72, []), .inr (0, 20, []), .inr (0, 16, []), .inr (0, 48, []), .inr (0, 60, []), .inr (0, 72, []), .inr (0, 20, []), .inr (0, 16, []), .inr (0, 48, [])]) rfl ?_
    refine zB_aload ok dX12_init_121 0 rfl ?_
    refine zB_bipush (v := 48) ok dX12_init_122 (by decide) ?_
    refine zB_newa (n := 48) (t := 0) ok (by simp) za_int (by decide) (by decide) ((fun j (hj : 10 ≤ j) => by (repeat rw [zup_ne (show j ≠ _ by omega)]); rfl) _ (Nat.le_refl _)) ⟨Nat.le_of_ble_eq_true rfl, Nat.le_of_ble_eq_true rfl⟩ dX12_init_124 ?_
    refine zB_ks (ks' := [.inl (12, [none, none, none, some (some (1)), some (some (2)), some (some (3)), some (some (4)), some (some (5)), none, none, none, none, none, none, some (some (6)), some (some (7)), some (some (8)), some (some (9)), some none, some none, some none, some none, some none, none, none, none, none, some none, none, some none, none, none, none, none, none, none, none, some none, some none, some none, some none, some none, some none, none, none, some none, some none, some none, some none]), .inr (0, 72, []), .inr (0, 20, []), .inr (0, 16, []), .inr (0, 48, []), .inr (0, 60, []), .inr (0, 72, []), .inr (0, 20, []), .inr (0, 16, []), .inr (0, 48, []), .inr (0, 48, [])]) rfl ?_
    refine zB_putF (ci := 12) (q := 10) ok rfl zc_12 hin_12 tyX12 tyX12_ok nmX12 (s := 18) (by decide) fi_12_65 ⟨rfl, rfl⟩ (tyX12_ok 18 (by decide)) rfl rfl (by decide) dX12_init_126 ?_
    refine zB_ks (ks' := [.inl (12, [none, none, none, some (some (1)), some (some (2)), some (some (3)), some (some (4)), some (some (5)), none, none, none, none, none, none, some (some (6)), some (some (7)), some (some (8)), some (some (9)), some (some (10)), some none, some none, some none, some none, none, none, none, none, some none, none, some none, none, none, none, none, none, none, none, some none, some none, some none, some none, some none, some none, none, none, some none, some none, some none, some none]), .inr (0, 72, []), .inr (0, 20, []), .inr (0, 16, []), .inr (0, 48, []), .inr (0, 60, []), .inr (0, 72, []), .inr (0, 20, []), .inr (0, 16, []), .inr (0, 48, []), .inr (0, 48, [])]) rfl ?_
    refine zB_aload ok dX12_init_129 0 rfl ?_
    refine zB_bipush (v := 60) ok dX12_init_130 (by decide) ?_
    refine zB_newa (n := 60) (t := 0) ok (by simp) za_int (by decide) (by decide) ((fun j (hj : 11 ≤ j) => by (repeat rw [zup_ne (show j ≠ _ by omega)]); rfl) _ (Nat.le_refl _)) ⟨Nat.le_of_ble_eq_true rfl, Nat.le_of_ble_eq_true rfl⟩ dX12_init_132 ?_
    refine zB_ks (ks' := [.inl (12, [none, none, none, some (some (1)), some (some (2)), some (some (3)), some (some (4)), some (some (5)), none, none, none, none, none, none, some (some (6)), some (some (7)), some (some (8)), some (some (9)), some (some (10)), some none, some none, some none, some none, none, none, none, none, some none, none, some none, none, none, none, none, none, none, none, some none, some none, some none, some none, some none, some none, none, none, some none, some none, some none, some none]), .inr (0, 72, []), .inr (0, 20, []), .inr (0, 16, []), .inr (0, 48, []), .inr (0, 60, []), .inr (0, 72, []), .inr (0, 20, []), .inr (0, 16, []), .inr (0, 48, []), .inr (0, 48, []), .inr (0, 60, [])]) rfl ?_
    refine zB_putF (ci := 12) (q := 11) ok rfl zc_12 hin_12 tyX12 tyX12_ok nmX12 (s := 19) (by decide) fi_12_68 ⟨rfl, rfl⟩ (tyX12_ok 19 (by decide)) rfl rfl (by decide) dX12_init_134 ?_
    refine zB_ks (ks' := [.inl (12, [none, none, none, some (some (1)), some (some (2)), some (some (3)), some (some (4)), some (some (5)), none, none, none, none, none, none, some (some (6)), some (some (7)), some (some (8)), some (some (9)), some (some (10)), some (some (11)), some none, some none, some none, none, none, none, none, some none, none, some none, none, none, none, none, none, none, none, some none, some none, some none, some none, some none, some none, none, none, some none, some none, some none, some none]), .inr (0, 72, []), .inr (0, 20, []), .inr (0, 16, []), .inr (0, 48, []), .inr (0, 60, []), .inr (0, 72, []), .inr (0, 20, []), .inr (0, 16, []), .inr (0, 48, []), .inr (0, 48, []), .inr (0, 60, [])]) rfl ?_
    refine zB_aload ok dX12_init_137 0 rfl ?_
    refine zB_sipush (v := 1607) ok dX12_init_138 (by decide) ?_
    refine zB_newa (n := 1607) (t := 0) ok (by simp) za_int (by decide) (by decide) ((fun j (hj : 12 ≤ j) => by (repeat rw [zup_ne (show j ≠ _ by omega)]); rfl) _ (Nat.le_refl _)) ⟨Nat.le_of_ble_eq_true rfl, Nat.le_of_ble_eq_true rfl⟩ dX12_init_141 ?_
    refine zB_ks (ks' := [.inl (12, [none, none, none, some (some (1)), some (some (2)), some (some (3)), some (some (4)), some (some (5)), none, none, none, none, none, none, some (some (6)), some (some (7)), some (some (8)), some (some (9)), some (some (10)), some (some (11)), some none, some none, some none, none, none, none, none, some none, none, some none, none, none, none, none, none, none, none, some none, some none, some none, some none, some none, some none, none, none, some none, some none, some none, some none]), .inr (0, 72, []), .inr (0, 20, []), .inr (0, 16, []), .inr (0, 48, []), .inr (0, 60, []), .inr (0, 72, []), .inr (0, 20, []), .inr (0, 16, []), .inr (0, 48, []), .inr (0, 48, []), .inr (0, 60, []), .inr (0, 1607, [])]) rfl ?_
    refine zB_putF (ci := 12) (q := 12) ok rfl zc_12 hin_12 tyX12 tyX12_ok nmX12 (s := 20) (by decide) fi_12_71 ⟨rfl, rfl⟩ (tyX12_ok 20 (by decide)) rfl rfl (by decide) dX12_init_143 ?_
    refine zB_ks (ks' := [.inl (12, [none, none, none, some (some (1)), some (some (2)), some (some (3)), some (some (4)), some (some (5)), none, none, none, none, none, none, some (some (6)), some (some (7)), some (some (8)), some (some (9)), some (some (10)), some (some (11)), some (some (12)), some none, some none, none, none, none, none, some none, none, some none, none, none, none, none, none, none, none, some none, some none, some none, some none, some none, some none, none, none, some none, some none, some none, some none]), .inr (0, 72, []), .inr (0, 20, []), .inr (0, 16, []), .inr (0, 48, []), .inr (0, 60, []), .inr (0, 72, []), .inr (0, 20, []), .inr (0, 16, []), .inr (0, 48, []), .inr (0, 48, []), .inr (0, 60, []), .inr (0, 1607, [])]) rfl ?_
    refine zB_aload ok dX12_init_146 0 rfl ?_
    refine zB_sipush (v := 205) ok dX12_init_147 (by decide) ?_
    refine zB_newa (n := 205) (t := 0) ok (by simp) za_int (by decide) (by decide) ((fun j (hj : 13 ≤ j) => by (repeat rw [zup_ne (show j ≠ _ by omega)]); rfl) _ (Nat.le_refl _)) ⟨Nat.le_of_ble_eq_true rfl, Nat.le_of_ble_eq_true rfl⟩ dX12_init_150 ?_
    refine zB_ks (ks' := [.inl (12, [none, none, none, some (some (1)), some (some (2)), some (some (3)), some (some (4)), some (some (5)), none, none, none, none, none, none, some (some (6)), some (some (7)), some (some (8)), some (some (9)), some (some (10)), some (some (11)), some (some (12)), some none, some none, none, none, none, none, some none, none, some none, none, none, none, none, none, none, none, some none, some none, some none, some none, some none, some none, none, none, some none, some none, some none, some none]), .inr (0, 72, []), .inr (0, 20, []), .inr (0, 16, []), .inr (0, 48, []), .inr (0, 60, []), .inr (0, 72, []), .inr (0, 20, []), .inr (0, 16, []), .inr (0, 48, []), .inr (0, 48, []), .inr (0, 60, []), .inr (0, 1607, []), .inr (0, 205, [])]) rfl ?_
    refine zB_putF (ci := 12) (q := 13) ok rfl zc_12 hin_12 tyX12 tyX12_ok nmX12 (s := 21) (by decide) fi_12_74 ⟨rfl, rfl⟩ (tyX12_ok 21 (by decide)) rfl rfl (by decide) dX12_init_152 ?_
    refine zB_ks (ks' := [.inl (12, [none, none, none, some (some (1)), some (some (2)), some (some (3)), some (some (4)), some (some (5)), none, none, none, none, none, none, some (some (6)), some (some (7)), some (some (8)), some (some (9)), some (some (10)), some (some (11)), some (some (12)), some (some (13)), some none, none, none, none, none, some none, none, some none, none, none, none, none, none, none, none, some none, some none, some none, some none, some none, some none, none, none, some none, some none, some none, some none]), .inr (0, 72, []), .inr (0, 20, []), .inr (0, 16, []), .inr (0, 48, []), .inr (0, 60, []), .inr (0, 72, []), .inr (0, 20, []), .inr (0, 16, []), .inr (0, 48, []), .inr (0, 48, []), .inr (0, 60, []), .inr (0, 1607, []), .inr (0, 205, [])]) rfl ?_
    refine zB_aload ok dX12_init_155 0 rfl ?_
    refine zB_sipush (v := 32140) ok dX12_init_156 (by decide) ?_
    refine zB_newa (n := 32140) (t := 0) ok (by simp) za_int (by decide) (by decide) ((fun j (hj : 14 ≤ j) => by (repeat rw [zup_ne (show j ≠ _ by omega)]); rfl) _ (Nat.le_refl _)) ⟨Nat.le_of_ble_eq_true rfl, Nat.le_of_ble_eq_true rfl⟩ dX12_init_159 ?_
    refine zB_ks (ks' := [.inl (12, [none, none, none, some (some (1)), some (some (2)), some (some (3)), some (some (4)), some (some (5)), none, none, none, none, none, none, some (some (6)), some (some (7)), some (some (8)), some (some (9)), some (some (10)), some (some (11)), some (some (12)), some (some (13)), some none, none, none, none, none, some none, none, some none, none, none, none, none, none, none, none, some none, some none, some none, some none, some none, some none, none, none, some none, some none, some none, some none]), .inr (0, 72, []), .inr (0, 20, []), .inr (0, 16, []), .inr (0, 48, []), .inr (0, 60, []), .inr (0, 72, []), .inr (0, 20, []), .inr (0, 16, []), .inr (0, 48, []), .inr (0, 48, []), .inr (0, 60, []), .inr (0, 1607, []), .inr (0, 205, []), .inr (0, 32140, [])]) rfl ?_
    refine zB_putF (ci := 12) (q := 14) ok rfl zc_12 hin_12 tyX12 tyX12_ok nmX12 (s := 22) (by decide) fi_12_77 ⟨rfl, rfl⟩ (tyX12_ok 22 (by decide)) rfl rfl (by decide) dX12_init_161 ?_
    refine zB_ks (ks' := [.inl (12, [none, none, none, some (some (1)), some (some (2)), some (some (3)), some (some (4)), some (some (5)), none, none, none, none, none, none, some (some (6)), some (some (7)), some (some (8)), some (some (9)), some (some (10)), some (some (11)), some (some (12)), some (some (13)), some (some (14)), none, none, none, none, some none, none, some none, none, none, none, none, none, none, none, some none, some none, some none, some none, some none, some none, none, none, some none, some none, some none, some none]), .inr (0, 72, []), .inr (0, 20, []), .inr (0, 16, []), .inr (0, 48, []), .inr (0, 60, []), .inr (0, 72, []), .inr (0, 20, []), .inr (0, 16, []), .inr (0, 48, []), .inr (0, 48, []), .inr (0, 60, []), .inr (0, 1607, []), .inr (0, 205, []), .inr (0, 32140, [])]) rfl ?_
    refine zB_aload ok dX12_init_164 0 rfl ?_
    refine zB_iconst (v := 0) ok dX12_init_165 (by decide) ?_
    refine zB_puti (ci := 12) ok rfl zc_12 hin_12 tyX12 tyX12_ok nmX12 (s := 23) (by decide) fi_12_80 rfl (tyX12_ok 23 (by decide)) rfl rfl rfl rfl dX12_init_166 ?_
    refine zB_aload ok dX12_init_169 0 rfl ?_
    refine zB_iconst (v := 1) ok dX12_init_170 (by decide) ?_
    refine zB_puti (ci := 12) ok rfl zc_12 hin_12 tyX12 tyX12_ok nmX12 (s := 24) (by decide) fi_12_83 rfl (tyX12_ok 24 (by decide)) rfl rfl rfl rfl dX12_init_171 ?_
    refine zB_aload ok dX12_init_174 0 rfl ?_
    refine zB_iconst (v := 0) ok dX12_init_175 (by decide) ?_
    refine zB_puti (ci := 12) ok rfl zc_12 hin_12 tyX12 tyX12_ok nmX12 (s := 25) (by decide) fi_12_86 rfl (tyX12_ok 25 (by decide)) rfl rfl rfl rfl dX12_init_176 ?_
    refine zB_aload ok dX12_init_179 0 rfl ?_
    refine zB_iconst (v := 0) ok dX12_init_180 (by decide) ?_
    refine zB_puti (ci := 12) ok rfl zc_12 hin_12 tyX12 tyX12_ok nmX12 (s := 26) (by decide) fi_12_90 rfl (tyX12_ok 26 (by decide)) rfl rfl rfl rfl dX12_init_181 ?_
    refine zB_aload ok dX12_init_184 0 rfl ?_
    refine zB_sipush (v := 1600) ok dX12_init_185 (by decide) ?_
    refine zB_newa (n := 1600) (t := 0) ok (by simp) za_int (by decide) (by decide) ((fun j (hj : 15 ≤ j) => by (repeat rw [zup_ne (show j ≠ _ by omega)]); rfl) _ (Nat.le_refl _)) ⟨Nat.le_of_ble_eq_true rfl, Nat.le_of_ble_eq_true rfl⟩ dX12_init_188 ?_
    refine zB_ks (ks' := [.inl (12, [none, none, none, some (some (1)), some (some (2)), some (some (3)), some (some (4)), some (some (5)), none, none, none, none, none, none, some (some (6)), some (some (7)), some (some (8)), some (some (9)), some (some (10)), some (some (11)), some (some (12)), some (some (13)), some (some (14)), none, none, none, none, some none, none, some none, none, none, none, none, none, none, none, some none, some none, some none, some none, some none, some none, none, none, some none, some none, some none, some none]), .inr (0, 72, []), .inr (0, 20, []), .inr (0, 16, []), .inr (0, 48, []), .inr (0, 60, []), .inr (0, 72, []), .inr (0, 20, []), .inr (0, 16, []), .inr (0, 48, []), .inr (0, 48, []), .inr (0, 60, []), .inr (0, 1607, []), .inr (0, 205, []), .inr (0, 32140, []), .inr (0, 1600, [])]) rfl ?_
    refine zB_putF (ci := 12) (q := 15) ok rfl zc_12 hin_12 tyX12 tyX12_ok nmX12 (s := 27) (by decide) fi_12_93 ⟨rfl, rfl⟩ (tyX12_ok 27 (by decide)) rfl rfl (by decide) dX12_init_190 ?_
    refine zB_ks (ks' := [.inl (12, [none, none, none, some (some (1)), some (some (2)), some (some (3)), some (some (4)), some (some (5)), none, none, none, none, none, none, some (some (6)), some (some (7)), some (some (8)), some (some (9)), some (some (10)), some (some (11)), some (some (12)), some (some (13)), some (some (14)), none, none, none, none, some (some (15)), none, some none, none, none, none, none, none, none, none, some none, some none, some none, some none, some none, some none, none, none, some none, some none, some none, some none]), .inr (0, 72, []), .inr (0, 20, []), .inr (0, 16, []), .inr (0, 48, []), .inr (0, 60, []), .inr (0, 72, []), .inr (0, 20, []), .inr (0, 16, []), .inr (0, 48, []), .inr (0, 48, []), .inr (0, 60, []), .inr (0, 1607, []), .inr (0, 205, []), .inr (0, 32140, []), .inr (0, 1600, [])]) rfl ?_
    refine zB_aload ok dX12_init_193 0 rfl ?_
    refine zB_iconst (v := 0) ok dX12_init_194 (by decide) ?_
    refine zB_puti (ci := 12) ok rfl zc_12 hin_12 tyX12 tyX12_ok nmX12 (s := 28) (by decide) fi_12_96 rfl (tyX12_ok 28 (by decide)) rfl rfl rfl rfl dX12_init_195 ?_
    refine zB_aload ok dX12_init_198 0 rfl ?_
    refine zB_bipush (v := 6) ok dX12_init_199 (by decide) ?_
    refine zB_newa (n := 6) (t := 0) ok (by simp) za_int (by decide) (by decide) ((fun j (hj : 16 ≤ j) => by (repeat rw [zup_ne (show j ≠ _ by omega)]); rfl) _ (Nat.le_refl _)) ⟨Nat.le_of_ble_eq_true rfl, Nat.le_of_ble_eq_true rfl⟩ dX12_init_201 ?_
    refine zB_ks (ks' := [.inl (12, [none, none, none, some (some (1)), some (some (2)), some (some (3)), some (some (4)), some (some (5)), none, none, none, none, none, none, some (some (6)), some (some (7)), some (some (8)), some (some (9)), some (some (10)), some (some (11)), some (some (12)), some (some (13)), some (some (14)), none, none, none, none, some (some (15)), none, some none, none, none, none, none, none, none, none, some none, some none, some none, some none, some none, some none, none, none, some none, some none, some none, some none]), .inr (0, 72, []), .inr (0, 20, []), .inr (0, 16, []), .inr (0, 48, []), .inr (0, 60, []), .inr (0, 72, []), .inr (0, 20, []), .inr (0, 16, []), .inr (0, 48, []), .inr (0, 48, []), .inr (0, 60, []), .inr (0, 1607, []), .inr (0, 205, []), .inr (0, 32140, []), .inr (0, 1600, []), .inr (0, 6, [])]) rfl ?_
    refine zB_putF (ci := 12) (q := 16) ok rfl zc_12 hin_12 tyX12 tyX12_ok nmX12 (s := 29) (by decide) fi_12_99 ⟨rfl, rfl⟩ (tyX12_ok 29 (by decide)) rfl rfl (by decide) dX12_init_203 ?_
    refine zB_ks (ks' := [.inl (12, [none, none, none, some (some (1)), some (some (2)), some (some (3)), some (some (4)), some (some (5)), none, none, none, none, none, none, some (some (6)), some (some (7)), some (some (8)), some (some (9)), some (some (10)), some (some (11)), some (some (12)), some (some (13)), some (some (14)), none, none, none, none, some (some (15)), none, some (some (16)), none, none, none, none, none, none, none, some none, some none, some none, some none, some none, some none, none, none, some none, some none, some none, some none]), .inr (0, 72, []), .inr (0, 20, []), .inr (0, 16, []), .inr (0, 48, []), .inr (0, 60, []), .inr (0, 72, []), .inr (0, 20, []), .inr (0, 16, []), .inr (0, 48, []), .inr (0, 48, []), .inr (0, 60, []), .inr (0, 1607, []), .inr (0, 205, []), .inr (0, 32140, []), .inr (0, 1600, []), .inr (0, 6, [])]) rfl ?_
    refine zB_aload ok dX12_init_206 0 rfl ?_
    refine zB_iconst (v := 0) ok dX12_init_207 (by decide) ?_
    refine zB_puti (ci := 12) ok rfl zc_12 hin_12 tyX12 tyX12_ok nmX12 (s := 30) (by decide) fi_12_102 rfl (tyX12_ok 30 (by decide)) rfl rfl rfl rfl dX12_init_208 ?_
    refine zB_aload ok dX12_init_211 0 rfl ?_
    refine zB_iconst (v := (-1)) ok dX12_init_212 (by decide) ?_
    refine zB_puti (ci := 12) ok rfl zc_12 hin_12 tyX12 tyX12_ok nmX12 (s := 31) (by decide) fi_12_105 rfl (tyX12_ok 31 (by decide)) rfl rfl rfl rfl dX12_init_213 ?_
    refine zB_aload ok dX12_init_216 0 rfl ?_
    refine zB_iconst (v := 0) ok dX12_init_217 (by decide) ?_
    refine zB_puti (ci := 12) ok rfl zc_12 hin_12 tyX12 tyX12_ok nmX12 (s := 32) (by decide) fi_12_108 rfl (tyX12_ok 32 (by decide)) rfl rfl rfl rfl dX12_init_218 ?_
    refine zB_aload ok dX12_init_221 0 rfl ?_
    refine zB_iconst (v := 0) ok dX12_init_222 (by decide) ?_
    refine zB_puti (ci := 12) ok rfl zc_12 hin_12 tyX12 tyX12_ok nmX12 (s := 33) (by decide) fi_12_111 rfl (tyX12_ok 33 (by decide)) rfl rfl rfl rfl dX12_init_223 ?_
    refine zB_aload ok dX12_init_226 0 rfl ?_
    refine zB_iconst (v := 0) ok dX12_init_227 (by decide) ?_
    refine zB_puti (ci := 12) ok rfl zc_12 hin_12 tyX12 tyX12_ok nmX12 (s := 34) (by decide) fi_12_114 rfl (tyX12_ok 34 (by decide)) rfl rfl rfl rfl dX12_init_228 ?_
    refine zB_aload ok dX12_init_231 0 rfl ?_
    refine zB_iconst (v := 0) ok dX12_init_232 (by decide) ?_
    refine zB_puti (ci := 12) ok rfl zc_12 hin_12 tyX12 tyX12_ok nmX12 (s := 35) (by decide) fi_12_117 rfl (tyX12_ok 35 (by decide)) rfl rfl rfl rfl dX12_init_233 ?_
    refine zB_aload ok dX12_init_236 0 rfl ?_
    refine zB_iconst (v := (-1)) ok dX12_init_237 (by decide) ?_
    refine zB_puti (ci := 12) ok rfl zc_12 hin_12 tyX12 tyX12_ok nmX12 (s := 36) (by decide) fi_12_120 rfl (tyX12_ok 36 (by decide)) rfl rfl rfl rfl dX12_init_238 ?_
    refine zB_aload ok dX12_init_241 0 rfl ?_
    refine zB_bipush (v := 104) ok dX12_init_242 (by decide) ?_
    refine zB_newa (n := 104) (t := 0) ok (by simp) za_int (by decide) (by decide) ((fun j (hj : 17 ≤ j) => by (repeat rw [zup_ne (show j ≠ _ by omega)]); rfl) _ (Nat.le_refl _)) ⟨Nat.le_of_ble_eq_true rfl, Nat.le_of_ble_eq_true rfl⟩ dX12_init_244 ?_
    refine zB_ks (ks' := [.inl (12, [none, none, none, some (some (1)), some (some (2)), some (some (3)), some (some (4)), some (some (5)), none, none, none, none, none, none, some (some (6)), some (some (7)), some (some (8)), some (some (9)), some (some (10)), some (some (11)), some (some (12)), some (some (13)), some (some (14)), none, none, none, none, some (some (15)), none, some (some (16)), none, none, none, none, none, none, none, some none, some none, some none, some none, some none, some none, none, none, some none, some none, some none, some none]), .inr (0, 72, []), .inr (0, 20, []), .inr (0, 16, []), .inr (0, 48, []), .inr (0, 60, []), .inr (0, 72, []), .inr (0, 20, []), .inr (0, 16, []), .inr (0, 48, []), .inr (0, 48, []), .inr (0, 60, []), .inr (0, 1607, []), .inr (0, 205, []), .inr (0, 32140, []), .inr (0, 1600, []), .inr (0, 6, []), .inr (0, 104, [])]) rfl ?_
    refine zB_dup ok dX12_init_246 rfl ?_
    refine zB_iconst (v := 0) ok dX12_init_247 (by decide) ?_
    refine zB_iconst (v := 3) ok dX12_init_248 (by decide) ?_
    refine zB_iast (j := 17) ok rfl (by decide) rfl dX12_init_249 ?_
    refine zB_dup ok dX12_init_250 rfl ?_
    refine zB_iconst (v := 1) ok dX12_init_251 (by decide) ?_
    refine zB_iconst (v := 1) ok dX12_init_252 (by decide) ?_
    refine zB_iast (j := 17) ok rfl (by decide) rfl dX12_init_253 ?_
    refine zB_dup ok dX12_init_254 rfl ?_
    refine zB_iconst (v := 2) ok dX12_init_255 (by decide) ?_
    refine zB_bipush (v := 14) ok dX12_init_256 (by decide) ?_
    refine zB_iast (j := 17) ok rfl (by decide) rfl dX12_init_258 ?_
    refine zB_dup ok dX12_init_259 rfl ?_
    refine zB_iconst (v := 3) ok dX12_init_260 (by decide) ?_
    refine zB_iconst (v := 1) ok dX12_init_261 (by decide) ?_
    refine zB_iast (j := 17) ok rfl (by decide) rfl dX12_init_262 ?_
    refine zB_dup ok dX12_init_263 rfl ?_
    refine zB_iconst (v := 4) ok dX12_init_264 (by decide) ?_
    refine zB_bipush (v := 12) ok dX12_init_265 (by decide) ?_
    refine zB_iast (j := 17) ok rfl (by decide) rfl dX12_init_267 ?_
    refine zB_dup ok dX12_init_268 rfl ?_
    refine zB_iconst (v := 5) ok dX12_init_269 (by decide) ?_
    refine zB_iconst (v := 0) ok dX12_init_270 (by decide) ?_
    refine zB_iast (j := 17) ok rfl (by decide) rfl dX12_init_271 ?_
    refine zB_dup ok dX12_init_272 rfl ?_
    refine zB_bipush (v := 6) ok dX12_init_273 (by decide) ?_
    refine zB_bipush (v := 7) ok dX12_init_275 (by decide) ?_
    refine zB_iast (j := 17) ok rfl (by decide) rfl dX12_init_277 ?_
    refine zB_dup ok dX12_init_278 rfl ?_
    refine zB_bipush (v := 7) ok dX12_init_279 (by decide) ?_
    refine zB_bipush (v := 9) ok dX12_init_281 (by decide) ?_
    refine zB_iast (j := 17) ok rfl (by decide) rfl dX12_init_283 ?_
    refine zB_dup ok dX12_init_284 rfl ?_
    refine zB_bipush (v := 8) ok dX12_init_285 (by decide) ?_
    refine zB_bipush (v := 22) ok dX12_init_287 (by decide) ?_
    refine zB_iast (j := 17) ok rfl (by decide) rfl dX12_init_289 ?_
    refine zB_dup ok dX12_init_290 rfl ?_
    refine zB_bipush (v := 9) ok dX12_init_291 (by decide) ?_
    refine zB_iconst (v := 5) ok dX12_init_293 (by decide) ?_
    refine zB_iast (j := 17) ok rfl (by decide) rfl dX12_init_294 ?_
    refine zB_dup ok dX12_init_295 rfl ?_
    refine zB_bipush (v := 10) ok dX12_init_296 (by decide) ?_
    refine zB_bipush (v := 19) ok dX12_init_298 (by decide) ?_
    refine zB_iast (j := 17) ok rfl (by decide) rfl dX12_init_300 ?_
    refine zB_dup ok dX12_init_301 rfl ?_
    refine zB_bipush (v := 11) ok dX12_init_302 (by decide) ?_
    refine zB_iconst (v := 0) ok dX12_init_304 (by decide) ?_
    refine zB_iast (j := 17) ok rfl (by decide) rfl dX12_init_305 ?_
    refine zB_dup ok dX12_init_306 rfl ?_
    refine zB_bipush (v := 12) ok dX12_init_307 (by decide) ?_
    refine zB_bipush (v := 11) ok dX12_init_309 (by decide) ?_
    refine zB_iast (j := 17) ok rfl (by decide) rfl dX12_init_311 ?_
    refine zB_dup ok dX12_init_312 rfl ?_
    refine zB_bipush (v := 13) ok dX12_init_313 (by decide) ?_
    refine zB_iconst (v := 5) ok dX12_init_315 (by decide) ?_
    refine zB_iast (j := 17) ok rfl (by decide) rfl dX12_init_316 ?_
    refine zB_dup ok dX12_init_317 rfl ?_
    refine zB_bipush (v := 14) ok dX12_init_318 (by decide) ?_
    refine zB_iconst (v := 5) ok dX12_init_320 (by decide) ?_
    refine zB_iast (j := 17) ok rfl (by decide) rfl dX12_init_321 ?_
    refine zB_dup ok dX12_init_322 rfl ?_
    refine zB_bipush (v := 15) ok dX12_init_323 (by decide) ?_
    refine zB_bipush (v := 16) ok dX12_init_325 (by decide) ?_
    refine zB_iast (j := 17) ok rfl (by decide) rfl dX12_init_327 ?_
    refine zB_dup ok dX12_init_328 rfl ?_
    refine zB_bipush (v := 16) ok dX12_init_329 (by decide) ?_
    refine zB_iconst (v := 0) ok dX12_init_331 (by decide) ?_
    refine zB_iast (j := 17) ok rfl (by decide) rfl dX12_init_332 ?_
    refine zB_dup ok dX12_init_333 rfl ?_
    refine zB_bipush (v := 17) ok dX12_init_334 (by decide) ?_
    refine zB_bipush (v := 16) ok dX12_init_336 (by decide) ?_
    refine zB_iast (j := 17) ok rfl (by decide) rfl dX12_init_338 ?_
    refine zB_dup ok dX12_init_339 rfl ?_
    refine zB_bipush (v := 18) ok dX12_init_340 (by decide) ?_
    refine zB_bipush (v := 15) ok dX12_init_342 (by decide) ?_
    refine zB_iast (j := 17) ok rfl (by decide) rfl dX12_init_344 ?_
    refine zB_dup ok dX12_init_345 rfl ?_
    refine zB_bipush (v := 19) ok dX12_init_346 (by decide) ?_
    refine zB_bipush (v := 15) ok dX12_init_348 (by decide) ?_
    refine zB_iast (j := 17) ok rfl (by decide) rfl dX12_init_350 ?_
    refine zB_dup ok dX12_init_351 rfl ?_
    refine zB_bipush (v := 20) ok dX12_init_352 (by decide) ?_
    refine zB_bipush (v := 12) ok dX12_init_354 (by decide) ?_
    refine zB_iast (j := 17) ok rfl (by decide) rfl dX12_init_356 ?_
    refine zB_dup ok dX12_init_357 rfl ?_
    refine zB_bipush (v := 21) ok dX12_init_358 (by decide) ?_
    refine zB_iconst (v := 0) ok dX12_init_360 (by decide) ?_
    refine zB_iast (j := 17) ok rfl (by decide) rfl dX12_init_361 ?_
    refine zB_dup ok dX12_init_362 rfl ?_
    refine zB_bipush (v := 22) ok dX12_init_363 (by decide) ?_
    refine zB_bipush (v := 8) ok dX12_init_365 (by decide) ?_
    refine zB_iast (j := 17) ok rfl (by decide) rfl dX12_init_367 ?_
    refine zB_dup ok dX12_init_368 rfl ?_
    refine zB_bipush (v := 23) ok dX12_init_369 (by decide) ?_
    refine zB_bipush (v := 15) ok dX12_init_371 (by decide) ?_
    refine zB_iast (j := 17) ok rfl (by decide) rfl dX12_init_373 ?_
    refine zB_dup ok dX12_init_374 rfl ?_
    refine zB_bipush (v := 24) ok dX12_init_375 (by decide) ?_
    refine zB_bipush (v := 12) ok dX12_init_377 (by decide) ?_
    refine zB_iast (j := 17) ok rfl (by decide) rfl dX12_init_379 ?_
    refine zB_dup ok dX12_init_380 rfl ?_
    refine zB_bipush (v := 25) ok dX12_init_381 (by decide) ?_
    refine zB_iconst (v := 4) ok dX12_init_383 (by decide) ?_
    refine zB_iast (j := 17) ok rfl (by decide) rfl dX12_init_384 ?_
    refine zB_dup ok dX12_init_385 rfl ?_
    refine zB_bipush (v := 26) ok dX12_init_386 (by decide) ?_
    refine zB_bipush (v := 19) ok dX12_init_388 (by decide) ?_
    refine zB_iast (j := 17) ok rfl (by decide) rfl dX12_init_390 ?_
    refine zB_dup ok dX12_init_391 rfl ?_
    refine zB_bipush (v := 27) ok dX12_init_392 (by decide) ?_
    refine zB_iconst (v := 0) ok dX12_init_394 (by decide) ?_
    refine zB_iast (j := 17) ok rfl (by decide) rfl dX12_init_395 ?_
    refine zB_dup ok dX12_init_396 rfl ?_
    refine zB_bipush (v := 28) ok dX12_init_397 (by decide) ?_
    refine zB_bipush (v := 12) ok dX12_init_399 (by decide) ?_
    refine zB_iast (j := 17) ok rfl (by decide) rfl dX12_init_401 ?_
    refine zB_dup ok dX12_init_402 rfl ?_
    refine zB_bipush (v := 29) ok dX12_init_403 (by decide) ?_
    refine zB_bipush (v := 15) ok dX12_init_405 (by decide) ?_
    refine zB_iast (j := 17) ok rfl (by decide) rfl dX12_init_407 ?_
    refine zB_dup ok dX12_init_408 rfl ?_
    refine zB_bipush (v := 30) ok dX12_init_409 (by decide) ?_
    refine zB_bipush (v := 23) ok dX12_init_411 (by decide) ?_
    refine zB_iast (j := 17) ok rfl (by decide) rfl dX12_init_413 ?_
    refine zB_dup ok dX12_init_414 rfl ?_
    refine zB_bipush (v := 31) ok dX12_init_415 (by decide) ?_
    refine zB_iconst (v := 0) ok dX12_init_417 (by decide) ?_
    refine zB_iast (j := 17) ok rfl (by decide) rfl dX12_init_418 ?_
    refine zB_dup ok dX12_init_419 rfl ?_
    refine zB_bipush (v := 32) ok dX12_init_420 (by decide) ?_
    refine zB_bipush (v := 8) ok dX12_init_422 (by decide) ?_
    refine zB_iast (j := 17) ok rfl (by decide) rfl dX12_init_424 ?_
    refine zB_dup ok dX12_init_425 rfl ?_
    refine zB_bipush (v := 33) ok dX12_init_426 (by decide) ?_
    refine zB_bipush (v := 9) ok dX12_init_428 (by decide) ?_
    refine zB_iast (j := 17) ok rfl (by decide) rfl dX12_init_430 ?_
    refine zB_dup ok dX12_init_431 rfl ?_
    refine zB_bipush (v := 34) ok dX12_init_432 (by decide) ?_
    refine zB_bipush (v := 7) ok dX12_init_434 (by decide) ?_
    refine zB_iast (j := 17) ok rfl (by decide) rfl dX12_init_436 ?_
    refine zB_dup ok dX12_init_437 rfl ?_
    refine zB_bipush (v := 35) ok dX12_init_438 (by decide) ?_
    refine zB_bipush (v := 8) ok dX12_init_440 (by decide) ?_
    refine zB_iast (j := 17) ok rfl (by decide) rfl dX12_init_442 ?_
    refine zB_dup ok dX12_init_443 rfl ?_
    refine zB_bipush (v := 36) ok dX12_init_444 (by decide) ?_
    refine zB_iconst (v := 0) ok dX12_init_446 (by decide) ?_
    refine zB_iast (j := 17) ok rfl (by decide) rfl dX12_init_447 ?_
    refine zB_dup ok dX12_init_448 rfl ?_
    refine zB_bipush (v := 37) ok dX12_init_449 (by decide) ?_
    refine zB_iconst (v := 3) ok dX12_init_451 (by decide) ?_
    refine zB_iast (j := 17) ok rfl (by decide) rfl dX12_init_452 ?_
    refine zB_dup ok dX12_init_453 rfl ?_
    refine zB_bipush (v := 38) ok dX12_init_454 (by decide) ?_
    refine zB_bipush (v := 18) ok dX12_init_456 (by decide) ?_
    refine zB_iast (j := 17) ok rfl (by decide) rfl dX12_init_458 ?_
    refine zB_dup ok dX12_init_459 rfl ?_
    refine zB_bipush (v := 39) ok dX12_init_460 (by decide) ?_
    refine zB_iconst (v := 5) ok dX12_init_462 (by decide) ?_
    refine zB_iast (j := 17) ok rfl (by decide) rfl dX12_init_463 ?_
    refine zB_dup ok dX12_init_464 rfl ?_
    refine zB_bipush (v := 40) ok dX12_init_465 (by decide) ?_
    refine zB_bipush (v := 19) ok dX12_init_467 (by decide) ?_
    refine zB_iast (j := 17) ok rfl (by decide) rfl dX12_init_469 ?_
    refine zB_dup ok dX12_init_470 rfl ?_
    refine zB_bipush (v := 41) ok dX12_init_471 (by decide) ?_
    refine zB_bipush (v := 20) ok dX12_init_473 (by decide) ?_
    refine zB_iast (j := 17) ok rfl (by decide) rfl dX12_init_475 ?_
    refine zB_dup ok dX12_init_476 rfl ?_
    refine zB_bipush (v := 42) ok dX12_init_477 (by decide) ?_
    refine zB_iconst (v := 0) ok dX12_init_479 (by decide) ?_
    refine zB_iast (j := 17) ok rfl (by decide) rfl dX12_init_480 ?_
    refine zB_dup ok dX12_init_481 rfl ?_
    refine zB_bipush (v := 43) ok dX12_init_482 (by decide) ?_
    refine zB_iconst (v := 4) ok dX12_init_484 (by decide) ?_
    refine zB_iast (j := 17) ok rfl (by decide) rfl dX12_init_485 ?_
    refine zB_dup ok dX12_init_486 rfl ?_
    refine zB_bipush (v := 44) ok dX12_init_487 (by decide) ?_
    refine zB_iconst (v := 5) ok dX12_init_489 (by decide) ?_
    refine zB_iast (j := 17) ok rfl (by decide) rfl dX12_init_490 ?_
    refine zB_dup ok dX12_init_491 rfl ?_
    refine zB_bipush (v := 45) ok dX12_init_492 (by decide) ?_
    refine zB_bipush (v := 12) ok dX12_init_494 (by decide) ?_
    refine zB_iast (j := 17) ok rfl (by decide) rfl dX12_init_496 ?_
    refine zB_dup ok dX12_init_497 rfl ?_
    refine zB_bipush (v := 46) ok dX12_init_498 (by decide) ?_
    refine zB_iconst (v := 1) ok dX12_init_500 (by decide) ?_
    refine zB_iast (j := 17) ok rfl (by decide) rfl dX12_init_501 ?_
    refine zB_dup ok dX12_init_502 rfl ?_
    refine zB_bipush (v := 47) ok dX12_init_503 (by decide) ?_
    refine zB_bipush (v := 25) ok dX12_init_505 (by decide) ?_
    refine zB_iast (j := 17) ok rfl (by decide) rfl dX12_init_507 ?_
    refine zB_dup ok dX12_init_508 rfl ?_
    refine zB_bipush (v := 48) ok dX12_init_509 (by decide) ?_
    refine zB_iconst (v := 0) ok dX12_init_511 (by decide) ?_
    refine zB_iast (j := 17) ok rfl (by decide) rfl dX12_init_512 ?_
    refine zB_dup ok dX12_init_513 rfl ?_
    refine zB_bipush (v := 49) ok dX12_init_514 (by decide) ?_
    refine zB_bipush (v := 12) ok dX12_init_516 (by decide) ?_
    refine zB_iast (j := 17) ok rfl (by decide) rfl dX12_init_518 ?_
    refine zB_dup ok dX12_init_519 rfl ?_
    refine zB_bipush (v := 50) ok dX12_init_520 (by decide) ?_
    refine zB_iconst (v := 5) ok dX12_init_522 (by decide) ?_
    refine zB_iast (j := 17) ok rfl (by decide) rfl dX12_init_523 ?_
    refine zB_dup ok dX12_init_524 rfl ?_
    refine zB_bipush (v := 51) ok dX12_init_525 (by decide) ?_
    refine zB_iconst (v := 1) ok dX12_init_527 (by decide) ?_
    refine zB_iast (j := 17) ok rfl (by decide) rfl dX12_init_528 ?_
    refine zB_dup ok dX12_init_529 rfl ?_
    refine zB_bipush (v := 52) ok dX12_init_530 (by decide) ?_
    refine zB_bipush (v := 11) ok dX12_init_532 (by decide) ?_
    refine zB_iast (j := 17) ok rfl (by decide) rfl dX12_init_534 ?_
    refine zB_dup ok dX12_init_535 rfl ?_
    refine zB_bipush (v := 53) ok dX12_init_536 (by decide) ?_
    refine zB_iconst (v := 0) ok dX12_init_538 (by decide) ?_
    refine zB_iast (j := 17) ok rfl (by decide) rfl dX12_init_539 ?_
    refine zB_dup ok dX12_init_540 rfl ?_
    refine zB_bipush (v := 54) ok dX12_init_541 (by decide) ?_
    refine zB_bipush (v := 7) ok dX12_init_543 (by decide) ?_
    refine zB_iast (j := 17) ok rfl (by decide) rfl dX12_init_545 ?_
    refine zB_dup ok dX12_init_546 rfl ?_
    refine zB_bipush (v := 55) ok dX12_init_547 (by decide) ?_
    refine zB_iconst (v := 1) ok dX12_init_549 (by decide) ?_
    refine zB_iast (j := 17) ok rfl (by decide) rfl dX12_init_550 ?_
    refine zB_dup ok dX12_init_551 rfl ?_
    refine zB_bipush (v := 56) ok dX12_init_552 (by decide) ?_
    refine zB_bipush (v := 20) ok dX12_init_554 (by decide) ?_
    refine zB_iast (j := 17) ok rfl (by decide) rfl dX12_init_556 ?_
    refine zB_dup ok dX12_init_557 rfl ?_
    refine zB_bipush (v := 57) ok dX12_init_558 (by decide) ?_
    refine zB_iconst (v := 5) ok dX12_init_560 (by decide) ?_
    refine zB_iast (j := 17) ok rfl (by decide) rfl dX12_init_561 ?_
    refine zB_dup ok dX12_init_562 rfl ?_
    refine zB_bipush (v := 58) ok dX12_init_563 (by decide) ?_
    refine zB_iconst (v := 0) ok dX12_init_565 (by decide) ?_
    refine zB_iast (j := 17) ok rfl (by decide) rfl dX12_init_566 ?_
    refine zB_dup ok dX12_init_567 rfl ?_
    refine zB_bipush (v := 59) ok dX12_init_568 (by decide) ?_
    refine zB_iconst (v := 2) ok dX12_init_570 (by decide) ?_
    refine zB_iast (j := 17) ok rfl (by decide) rfl dX12_init_571 ?_
    refine zB_dup ok dX12_init_572 rfl ?_
    refine zB_bipush (v := 60) ok dX12_init_573 (by decide) ?_
    refine zB_bipush (v := 25) ok dX12_init_575 (by decide) ?_
    refine zB_iast (j := 17) ok rfl (by decide) rfl dX12_init_577 ?_
    refine zB_dup ok dX12_init_578 rfl ?_
    refine zB_bipush (v := 61) ok dX12_init_579 (by decide) ?_
    refine zB_iconst (v := 0) ok dX12_init_581 (by decide) ?_
    refine zB_iast (j := 17) ok rfl (by decide) rfl dX12_init_582 ?_
    refine zB_dup ok dX12_init_583 rfl ?_
    refine zB_bipush (v := 62) ok dX12_init_584 (by decide) ?_
    refine zB_bipush (v := 15) ok dX12_init_586 (by decide) ?_
    refine zB_iast (j := 17) ok rfl (by decide) rfl dX12_init_588 ?_
    refine zB_dup ok dX12_init_589 rfl ?_
    refine zB_bipush (v := 63) ok dX12_init_590 (by decide) ?_
    refine zB_bipush (v := 16) ok dX12_init_592 (by decide) ?_
    refine zB_iast (j := 17) ok rfl (by decide) rfl dX12_init_594 ?_
    refine zB_dup ok dX12_init_595 rfl ?_
    refine zB_bipush (v := 64) ok dX12_init_596 (by decide) ?_
    refine zB_iconst (v := 5) ok dX12_init_598 (by decide) ?_
    refine zB_iast (j := 17) ok rfl (by decide) rfl dX12_init_599 ?_
    refine zB_dup ok dX12_init_600 rfl ?_
    refine zB_bipush (v := 65) ok dX12_init_601 (by decide) ?_
    refine zB_bipush (v := 14) ok dX12_init_603 (by decide) ?_
    refine zB_iast (j := 17) ok rfl (by decide) rfl dX12_init_605 ?_
    refine zB_dup ok dX12_init_606 rfl ?_
    refine zB_bipush (v := 66) ok dX12_init_607 (by decide) ?_
    refine zB_iconst (v := 0) ok dX12_init_609 (by decide) ?_
    refine zB_iast (j := 17) ok rfl (by decide) rfl dX12_init_610 ?_
    refine zB_dup ok dX12_init_611 rfl ?_
    refine zB_bipush (v := 67) ok dX12_init_612 (by decide) ?_
    refine zB_bipush (v := 15) ok dX12_init_614 (by decide) ?_
    refine zB_iast (j := 17) ok rfl (by decide) rfl dX12_init_616 ?_
    refine zB_dup ok dX12_init_617 rfl ?_
    refine zB_bipush (v := 68) ok dX12_init_618 (by decide) ?_
    refine zB_bipush (v := 21) ok dX12_init_620 (by decide) ?_
    refine zB_iast (j := 17) ok rfl (by decide) rfl dX12_init_622 ?_
    refine zB_dup ok dX12_init_623 rfl ?_
    refine zB_bipush (v := 69) ok dX12_init_624 (by decide) ?_
    refine zB_bipush (v := 20) ok dX12_init_626 (by decide) ?_
    refine zB_iast (j := 17) ok rfl (by decide) rfl dX12_init_628 ?_
    refine zB_dup ok dX12_init_629 rfl ?_
    refine zB_bipush (v := 70) ok dX12_init_630 (by decide) ?_
    refine zB_bipush (v := 12) ok dX12_init_632 (by decide) ?_
    refine zB_iast (j := 17) ok rfl (by decide) rfl dX12_init_634 ?_
    refine zB_dup ok dX12_init_635 rfl ?_
    refine zB_bipush (v := 71) ok dX12_init_636 (by decide) ?_
    refine zB_iconst (v := 5) ok dX12_init_638 (by decide) ?_
    refine zB_iast (j := 17) ok rfl (by decide) rfl dX12_init_639 ?_
    refine zB_dup ok dX12_init_640 rfl ?_
    refine zB_bipush (v := 72) ok dX12_init_641 (by decide) ?_
    refine zB_bipush (v := 20) ok dX12_init_643 (by decide) ?_
    refine zB_iast (j := 17) ok rfl (by decide) rfl dX12_init_645 ?_
    refine zB_dup ok dX12_init_646 rfl ?_
    refine zB_bipush (v := 73) ok dX12_init_647 (by decide) ?_
    refine zB_iconst (v := 0) ok dX12_init_649 (by decide) ?_
    refine zB_iast (j := 17) ok rfl (by decide) rfl dX12_init_650 ?_
    refine zB_dup ok dX12_init_651 rfl ?_
    refine zB_bipush (v := 74) ok dX12_init_652 (by decide) ?_
    refine zB_iconst (v := 1) ok dX12_init_654 (by decide) ?_
    refine zB_iast (j := 17) ok rfl (by decide) rfl dX12_init_655 ?_
    refine zB_dup ok dX12_init_656 rfl ?_
    refine zB_bipush (v := 75) ok dX12_init_657 (by decide) ?_
    refine zB_bipush (v := 20) ok dX12_init_659 (by decide) ?_
    refine zB_iast (j := 17) ok rfl (by decide) rfl dX12_init_661 ?_
    refine zB_dup ok dX12_init_662 rfl ?_
    refine zB_bipush (v := 76) ok dX12_init_663 (by decide) ?_
    refine zB_iconst (v := 0) ok dX12_init_665 (by decide) ?_
    refine zB_iast (j := 17) ok rfl (by decide) rfl dX12_init_666 ?_
    refine zB_dup ok dX12_init_667 rfl ?_
    refine zB_bipush (v := 77) ok dX12_init_668 (by decide) ?_
    refine zB_bipush (v := 20) ok dX12_init_670 (by decide) ?_
    refine zB_iast (j := 17) ok rfl (by decide) rfl dX12_init_672 ?_
    refine zB_dup ok dX12_init_673 rfl ?_
    refine zB_bipush (v := 78) ok dX12_init_674 (by decide) ?_
    refine zB_iconst (v := 1) ok dX12_init_676 (by decide) ?_
    refine zB_iast (j := 17) ok rfl (by decide) rfl dX12_init_677 ?_
    refine zB_dup ok dX12_init_678 rfl ?_
    refine zB_bipush (v := 79) ok dX12_init_679 (by decide) ?_
    refine zB_bipush (v := 11) ok dX12_init_681 (by decide) ?_
    refine zB_iast (j := 17) ok rfl (by decide) rfl dX12_init_683 ?_
    refine zB_dup ok dX12_init_684 rfl ?_
    refine zB_bipush (v := 80) ok dX12_init_685 (by decide) ?_
    refine zB_iconst (v := 5) ok dX12_init_687 (by decide) ?_
    refine zB_iast (j := 17) ok rfl (by decide) rfl dX12_init_688 ?_
    refine zB_dup ok dX12_init_689 rfl ?_
    refine zB_bipush (v := 81) ok dX12_init_690 (by decide) ?_
    refine zB_bipush (v := 19) ok dX12_init_692 (by decide) ?_
    refine zB_iast (j := 17) ok rfl (by decide) rfl dX12_init_694 ?_
    refine zB_dup ok dX12_init_695 rfl ?_
    refine zB_bipush (v := 82) ok dX12_init_696 (by decide) ?_
    refine zB_iconst (v := 0) ok dX12_init_698 (by decide) ?_
    refine zB_iast (j := 17) ok rfl (by decide) rfl dX12_init_699 ?_
    refine zB_dup ok dX12_init_700 rfl ?_
    refine zB_bipush (v := 83) ok dX12_init_701 (by decide) ?_
    refine zB_bipush (v := 15) ok dX12_init_703 (by decide) ?_
    refine zB_iast (j := 17) ok rfl (by decide) rfl dX12_init_705 ?_
    refine zB_dup ok dX12_init_706 rfl ?_
    refine zB_bipush (v := 84) ok dX12_init_707 (by decide) ?_
    refine zB_bipush (v := 18) ok dX12_init_709 (by decide) ?_
    refine zB_iast (j := 17) ok rfl (by decide) rfl dX12_init_711 ?_
    refine zB_dup ok dX12_init_712 rfl ?_
    refine zB_bipush (v := 85) ok dX12_init_713 (by decide) ?_
    refine zB_iconst (v := 4) ok dX12_init_715 (by decide) ?_
    refine zB_iast (j := 17) ok rfl (by decide) rfl dX12_init_716 ?_
    refine zB_dup ok dX12_init_717 rfl ?_
    refine zB_bipush (v := 86) ok dX12_init_718 (by decide) ?_
    refine zB_iconst (v := 5) ok dX12_init_720 (by decide) ?_
    refine zB_iast (j := 17) ok rfl (by decide) rfl dX12_init_721 ?_
    refine zB_dup ok dX12_init_722 rfl ?_
    refine zB_bipush (v := 87) ok dX12_init_723 (by decide) ?_
    refine zB_bipush (v := 18) ok dX12_init_725 (by decide) ?_
    refine zB_iast (j := 17) ok rfl (by decide) rfl dX12_init_727 ?_
    refine zB_dup ok dX12_init_728 rfl ?_
    refine zB_bipush (v := 88) ok dX12_init_729 (by decide) ?_
    refine zB_iconst (v := 0) ok dX12_init_731 (by decide) ?_
    refine zB_iast (j := 17) ok rfl (by decide) rfl dX12_init_732 ?_
    refine zB_dup ok dX12_init_733 rfl ?_
    refine zB_bipush (v := 89) ok dX12_init_734 (by decide) ?_
    refine zB_bipush (v := 6) ok dX12_init_736 (by decide) ?_
    refine zB_iast (j := 17) ok rfl (by decide) rfl dX12_init_738 ?_
    refine zB_dup ok dX12_init_739 rfl ?_
    refine zB_bipush (v := 90) ok dX12_init_740 (by decide) ?_
    refine zB_bipush (v := 18) ok dX12_init_742 (by decide) ?_
    refine zB_iast (j := 17) ok rfl (by decide) rfl dX12_init_744 ?_
    refine zB_dup ok dX12_init_745 rfl ?_
    refine zB_bipush (v := 91) ok dX12_init_746 (by decide) ?_
    refine zB_bipush (v := 15) ok dX12_init_748 (by decide) ?_
    refine zB_iast (j := 17) ok rfl (by decide) rfl dX12_init_750 ?_
    refine zB_dup ok dX12_init_751 rfl ?_
    refine zB_bipush (v := 92) ok dX12_init_752 (by decide) ?_
    refine zB_bipush (v := 13) ok dX12_init_754 (by decide) ?_
    refine zB_iast (j := 17) ok rfl (by decide) rfl dX12_init_756 ?_
    refine zB_dup ok dX12_init_757 rfl ?_
    refine zB_bipush (v := 93) ok dX12_init_758 (by decide) ?_
    refine zB_iconst (v := 0) ok dX12_init_760 (by decide) ?_
    refine zB_iast (j := 17) ok rfl (by decide) rfl dX12_init_761 ?_
    refine zB_dup ok dX12_init_762 rfl ?_
    refine zB_bipush (v := 94) ok dX12_init_763 (by decide) ?_
    refine zB_bipush (v := 6) ok dX12_init_765 (by decide) ?_
    refine zB_iast (j := 17) ok rfl (by decide) rfl dX12_init_767 ?_
    refine zB_dup ok dX12_init_768 rfl ?_
    refine zB_bipush (v := 95) ok dX12_init_769 (by decide) ?_
    refine zB_bipush (v := 15) ok dX12_init_771 (by decide) ?_
    refine zB_iast (j := 17) ok rfl (by decide) rfl dX12_init_773 ?_
    refine zB_dup ok dX12_init_774 rfl ?_
    refine zB_bipush (v := 96) ok dX12_init_775 (by decide) ?_
    refine zB_bipush (v := 18) ok dX12_init_777 (by decide) ?_
    refine zB_iast (j := 17) ok rfl (by decide) rfl dX12_init_779 ?_
    refine zB_dup ok dX12_init_780 rfl ?_
    refine zB_bipush (v := 97) ok dX12_init_781 (by decide) ?_
    refine zB_iconst (v := 0) ok dX12_init_783 (by decide) ?_
    refine zB_iast (j := 17) ok rfl (by decide) rfl dX12_init_784 ?_
    refine zB_dup ok dX12_init_785 rfl ?_
    refine zB_bipush (v := 98) ok dX12_init_786 (by decide) ?_
    refine zB_bipush (v := 20) ok dX12_init_788 (by decide) ?_
    refine zB_iast (j := 17) ok rfl (by decide) rfl dX12_init_790 ?_
    refine zB_dup ok dX12_init_791 rfl ?_
    refine zB_bipush (v := 99) ok dX12_init_792 (by decide) ?_
    refine zB_bipush (v := 21) ok dX12_init_794 (by decide) ?_
    refine zB_iast (j := 17) ok rfl (by decide) rfl dX12_init_796 ?_
    refine zB_dup ok dX12_init_797 rfl ?_
    refine zB_bipush (v := 100) ok dX12_init_798 (by decide) ?_
    refine zB_bipush (v := 18) ok dX12_init_800 (by decide) ?_
    refine zB_iast (j := 17) ok rfl (by decide) rfl dX12_init_802 ?_
    refine zB_dup ok dX12_init_803 rfl ?_
    refine zB_bipush (v := 101) ok dX12_init_804 (by decide) ?_
    refine zB_bipush (v := 14) ok dX12_init_806 (by decide) ?_
    refine zB_iast (j := 17) ok rfl (by decide) rfl dX12_init_808 ?_
    refine zB_dup ok dX12_init_809 rfl ?_
    refine zB_bipush (v := 102) ok dX12_init_810 (by decide) ?_
    refine zB_bipush (v := 19) ok dX12_init_812 (by decide) ?_
    refine zB_iast (j := 17) ok rfl (by decide) rfl dX12_init_814 ?_
    refine zB_dup ok dX12_init_815 rfl ?_
    refine zB_bipush (v := 103) ok dX12_init_816 (by decide) ?_
    refine zB_iconst (v := 0) ok dX12_init_818 (by decide) ?_
    refine zB_iast (j := 17) ok rfl (by decide) rfl dX12_init_819 ?_
    refine zB_putF (ci := 12) (q := 17) ok rfl zc_12 hin_12 tyX12 tyX12_ok nmX12 (s := 37) (by decide) fi_12_123 ⟨rfl, rfl⟩ (tyX12_ok 37 (by decide)) rfl rfl (by decide) dX12_init_820 ?_
    refine zB_ks (ks' := [.inl (12, [none, none, none, some (some (1)), some (some (2)), some (some (3)), some (some (4)), some (some (5)), none, none, none, none, none, none, some (some (6)), some (some (7)), some (some (8)), some (some (9)), some (some (10)), some (some (11)), some (some (12)), some (some (13)), some (some (14)), none, none, none, none, some (some (15)), none, some (some (16)), none, none, none, none, none, none, none, some (some (17)), some none, some none, some none, some none, some none, none, none, some none, some none, some none, some none]), .inr (0, 72, []), .inr (0, 20, []), .inr (0, 16, []), .inr (0, 48, []), .inr (0, 60, []), .inr (0, 72, []), .inr (0, 20, []), .inr (0, 16, []), .inr (0, 48, []), .inr (0, 48, []), .inr (0, 60, []), .inr (0, 1607, []), .inr (0, 205, []), .inr (0, 32140, []), .inr (0, 1600, []), .inr (0, 6, []), .inr (0, 104, [])]) rfl ?_
    refine zB_aload ok dX12_init_823 0 rfl ?_
    refine zB_bipush (v := 8) ok dX12_init_824 (by decide) ?_
    refine zB_newa (n := 8) (t := 0) ok (by simp) za_int (by decide) (by decide) ((fun j (hj : 18 ≤ j) => by (repeat rw [zup_ne (show j ≠ _ by omega)]); rfl) _ (Nat.le_refl _)) ⟨Nat.le_of_ble_eq_true rfl, Nat.le_of_ble_eq_true rfl⟩ dX12_init_826 ?_
    refine zB_ks (ks' := [.inl (12, [none, none, none, some (some (1)), some (some (2)), some (some (3)), some (some (4)), some (some (5)), none, none, none, none, none, none, some (some (6)), some (some (7)), some (some (8)), some (some (9)), some (some (10)), some (some (11)), some (some (12)), some (some (13)), some (some (14)), none, none, none, none, some (some (15)), none, some (some (16)), none, none, none, none, none, none, none, some (some (17)), some none, some none, some none, some none, some none, none, none, some none, some none, some none, some none]), .inr (0, 72, []), .inr (0, 20, []), .inr (0, 16, []), .inr (0, 48, []), .inr (0, 60, []), .inr (0, 72, []), .inr (0, 20, []), .inr (0, 16, []), .inr (0, 48, []), .inr (0, 48, []), .inr (0, 60, []), .inr (0, 1607, []), .inr (0, 205, []), .inr (0, 32140, []), .inr (0, 1600, []), .inr (0, 6, []), .inr (0, 104, []), .inr (0, 8, [])]) rfl ?_
    refine zB_putF (ci := 12) (q := 18) ok rfl zc_12 hin_12 tyX12 tyX12_ok nmX12 (s := 38) (by decide) fi_12_126 ⟨rfl, rfl⟩ (tyX12_ok 38 (by decide)) rfl rfl (by decide) dX12_init_828 ?_
    refine zB_ks (ks' := [.inl (12, [none, none, none, some (some (1)), some (some (2)), some (some (3)), some (some (4)), some (some (5)), none, none, none, none, none, none, some (some (6)), some (some (7)), some (some (8)), some (some (9)), some (some (10)), some (some (11)), some (some (12)), some (some (13)), some (some (14)), none, none, none, none, some (some (15)), none, some (some (16)), none, none, none, none, none, none, none, some (some (17)), some (some (18)), some none, some none, some none, some none, none, none, some none, some none, some none, some none]), .inr (0, 72, []), .inr (0, 20, []), .inr (0, 16, []), .inr (0, 48, []), .inr (0, 60, []), .inr (0, 72, []), .inr (0, 20, []), .inr (0, 16, []), .inr (0, 48, []), .inr (0, 48, []), .inr (0, 60, []), .inr (0, 1607, []), .inr (0, 205, []), .inr (0, 32140, []), .inr (0, 1600, []), .inr (0, 6, []), .inr (0, 104, []), .inr (0, 8, [])]) rfl ?_
    refine zB_aload ok dX12_init_831 0 rfl ?_
    refine zB_bipush (v := 8) ok dX12_init_832 (by decide) ?_
    refine zB_newa (n := 8) (t := 0) ok (by simp) za_int (by decide) (by decide) ((fun j (hj : 19 ≤ j) => by (repeat rw [zup_ne (show j ≠ _ by omega)]); rfl) _ (Nat.le_refl _)) ⟨Nat.le_of_ble_eq_true rfl, Nat.le_of_ble_eq_true rfl⟩ dX12_init_834 ?_
    refine zB_ks (ks' := [.inl (12, [none, none, none, some (some (1)), some (some (2)), some (some (3)), some (some (4)), some (some (5)), none, none, none, none, none, none, some (some (6)), some (some (7)), some (some (8)), some (some (9)), some (some (10)), some (some (11)), some (some (12)), some (some (13)), some (some (14)), none, none, none, none, some (some (15)), none, some (some (16)), none, none, none, none, none, none, none, some (some (17)), some (some (18)), some none, some none, some none, some none, none, none, some none, some none, some none, some none]), .inr (0, 72, []), .inr (0, 20, []), .inr (0, 16, []), .inr (0, 48, []), .inr (0, 60, []), .inr (0, 72, []), .inr (0, 20, []), .inr (0, 16, []), .inr (0, 48, []), .inr (0, 48, []), .inr (0, 60, []), .inr (0, 1607, []), .inr (0, 205, []), .inr (0, 32140, []), .inr (0, 1600, []), .inr (0, 6, []), .inr (0, 104, []), .inr (0, 8, []), .inr (0, 8, [])]) rfl ?_
    refine zB_putF (ci := 12) (q := 19) ok rfl zc_12 hin_12 tyX12 tyX12_ok nmX12 (s := 39) (by decide) fi_12_129 ⟨rfl, rfl⟩ (tyX12_ok 39 (by decide)) rfl rfl (by decide) dX12_init_836 ?_
    refine zB_ks (ks' := [.inl (12, [none, none, none, some (some (1)), some (some (2)), some (some (3)), some (some (4)), some (some (5)), none, none, none, none, none, none, some (some (6)), some (some (7)), some (some (8)), some (some (9)), some (some (10)), some (some (11)), some (some (12)), some (some (13)), some (some (14)), none, none, none, none, some (some (15)), none, some (some (16)), none, none, none, none, none, none, none, some (some (17)), some (some (18)), some (some (19)), some none, some none, some none, none, none, some none, some none, some none, some none]), .inr (0, 72, []), .inr (0, 20, []), .inr (0, 16, []), .inr (0, 48, []), .inr (0, 60, []), .inr (0, 72, []), .inr (0, 20, []), .inr (0, 16, []), .inr (0, 48, []), .inr (0, 48, []), .inr (0, 60, []), .inr (0, 1607, []), .inr (0, 205, []), .inr (0, 32140, []), .inr (0, 1600, []), .inr (0, 6, []), .inr (0, 104, []), .inr (0, 8, []), .inr (0, 8, [])]) rfl ?_
    refine zB_aload ok dX12_init_839 0 rfl ?_
    refine zB_bipush (v := 8) ok dX12_init_840 (by decide) ?_
    refine zB_newa (n := 8) (t := 0) ok (by simp) za_int (by decide) (by decide) ((fun j (hj : 20 ≤ j) => by (repeat rw [zup_ne (show j ≠ _ by omega)]); rfl) _ (Nat.le_refl _)) ⟨Nat.le_of_ble_eq_true rfl, Nat.le_of_ble_eq_true rfl⟩ dX12_init_842 ?_
    refine zB_ks (ks' := [.inl (12, [none, none, none, some (some (1)), some (some (2)), some (some (3)), some (some (4)), some (some (5)), none, none, none, none, none, none, some (some (6)), some (some (7)), some (some (8)), some (some (9)), some (some (10)), some (some (11)), some (some (12)), some (some (13)), some (some (14)), none, none, none, none, some (some (15)), none, some (some (16)), none, none, none, none, none, none, none, some (some (17)), some (some (18)), some (some (19)), some none, some none, some none, none, none, some none, some none, some none, some none]), .inr (0, 72, []), .inr (0, 20, []), .inr (0, 16, []), .inr (0, 48, []), .inr (0, 60, []), .inr (0, 72, []), .inr (0, 20, []), .inr (0, 16, []), .inr (0, 48, []), .inr (0, 48, []), .inr (0, 60, []), .inr (0, 1607, []), .inr (0, 205, []), .inr (0, 32140, []), .inr (0, 1600, []), .inr (0, 6, []), .inr (0, 104, []), .inr (0, 8, []), .inr (0, 8, []), .inr (0, 8, [])]) rfl ?_
    refine zB_putF (ci := 12) (q := 20) ok rfl zc_12 hin_12 tyX12 tyX12_ok nmX12 (s := 40) (by decide) fi_12_132 ⟨rfl, rfl⟩ (tyX12_ok 40 (by decide)) rfl rfl (by decide) dX12_init_844 ?_
    refine zB_ks (ks' := [.inl (12, [none, none, none, some (some (1)), some (some (2)), some (some (3)), some (some (4)), some (some (5)), none, none, none, none, none, none, some (some (6)), some (some (7)), some (some (8)), some (some (9)), some (some (10)), some (some (11)), some (some (12)), some (some (13)), some (some (14)), none, none, none, none, some (some (15)), none, some (some (16)), none, none, none, none, none, none, none, some (some (17)), some (some (18)), some (some (19)), some (some (20)), some none, some none, none, none, some none, some none, some none, some none]), .inr (0, 72, []), .inr (0, 20, []), .inr (0, 16, []), .inr (0, 48, []), .inr (0, 60, []), .inr (0, 72, []), .inr (0, 20, []), .inr (0, 16, []), .inr (0, 48, []), .inr (0, 48, []), .inr (0, 60, []), .inr (0, 1607, []), .inr (0, 205, []), .inr (0, 32140, []), .inr (0, 1600, []), .inr (0, 6, []), .inr (0, 104, []), .inr (0, 8, []), .inr (0, 8, []), .inr (0, 8, [])]) rfl ?_
    refine zB_aload ok dX12_init_847 0 rfl ?_
    refine zB_bipush (v := 8) ok dX12_init_848 (by decide) ?_
    refine zB_newa (n := 8) (t := 0) ok (by simp) za_int (by decide) (by decide) ((fun j (hj : 21 ≤ j) => by (repeat rw [zup_ne (show j ≠ _ by omega)]); rfl) _ (Nat.le_refl _)) ⟨Nat.le_of_ble_eq_true rfl, Nat.le_of_ble_eq_true rfl⟩ dX12_init_850 ?_
    refine zB_ks (ks' := [.inl (12, [none, none, none, some (some (1)), some (some (2)), some (some (3)), some (some (4)), some (some (5)), none, none, none, none, none, none, some (some (6)), some (some (7)), some (some (8)), some (some (9)), some (some (10)), some (some (11)), some (some (12)), some (some (13)), some (some (14)), none, none, none, none, some (some (15)), none, some (some (16)), none, none, none, none, none, none, none, some (some (17)), some (some (18)), some (some (19)), some (some (20)), some none, some none, none, none, some none, some none, some none, some none]), .inr (0, 72, []), .inr (0, 20, []), .inr (0, 16, []), .inr (0, 48, []), .inr (0, 60, []), .inr (0, 72, []), .inr (0, 20, []), .inr (0, 16, []), .inr (0, 48, []), .inr (0, 48, []), .inr (0, 60, []), .inr (0, 1607, []), .inr (0, 205, []), .inr (0, 32140, []), .inr (0, 1600, []), .inr (0, 6, []), .inr (0, 104, []), .inr (0, 8, []), .inr (0, 8, []), .inr (0, 8, []), .inr (0, 8, [])]) rfl ?_
    refine zB_putF (ci := 12) (q := 21) ok rfl zc_12 hin_12 tyX12 tyX12_ok nmX12 (s := 41) (by decide) fi_12_135 ⟨rfl, rfl⟩ (tyX12_ok 41 (by decide)) rfl rfl (by decide) dX12_init_852 ?_
    refine zB_ks (ks' := [.inl (12, [none, none, none, some (some (1)), some (some (2)), some (some (3)), some (some (4)), some (some (5)), none, none, none, none, none, none, some (some (6)), some (some (7)), some (some (8)), some (some (9)), some (some (10)), some (some (11)), some (some (12)), some (some (13)), some (some (14)), none, none, none, none, some (some (15)), none, some (some (16)), none, none, none, none, none, none, none, some (some (17)), some (some (18)), some (some (19)), some (some (20)), some (some (21)), some none, none, none, some none, some none, some none, some none]), .inr (0, 72, []), .inr (0, 20, []), .inr (0, 16, []), .inr (0, 48, []), .inr (0, 60, []), .inr (0, 72, []), .inr (0, 20, []), .inr (0, 16, []), .inr (0, 48, []), .inr (0, 48, []), .inr (0, 60, []), .inr (0, 1607, []), .inr (0, 205, []), .inr (0, 32140, []), .inr (0, 1600, []), .inr (0, 6, []), .inr (0, 104, []), .inr (0, 8, []), .inr (0, 8, []), .inr (0, 8, []), .inr (0, 8, [])]) rfl ?_
    refine zB_aload ok dX12_init_855 0 rfl ?_
    refine zB_bipush (v := 8) ok dX12_init_856 (by decide) ?_
    refine zB_newa (n := 8) (t := 0) ok (by simp) za_int (by decide) (by decide) ((fun j (hj : 22 ≤ j) => by (repeat rw [zup_ne (show j ≠ _ by omega)]); rfl) _ (Nat.le_refl _)) ⟨Nat.le_of_ble_eq_true rfl, Nat.le_of_ble_eq_true rfl⟩ dX12_init_858 ?_
    refine zB_ks (ks' := [.inl (12, [none, none, none, some (some (1)), some (some (2)), some (some (3)), some (some (4)), some (some (5)), none, none, none, none, none, none, some (some (6)), some (some (7)), some (some (8)), some (some (9)), some (some (10)), some (some (11)), some (some (12)), some (some (13)), some (some (14)), none, none, none, none, some (some (15)), none, some (some (16)), none, none, none, none, none, none, none, some (some (17)), some (some (18)), some (some (19)), some (some (20)), some (some (21)), some none, none, none, some none, some none, some none, some none]), .inr (0, 72, []), .inr (0, 20, []), .inr (0, 16, []), .inr (0, 48, []), .inr (0, 60, []), .inr (0, 72, []), .inr (0, 20, []), .inr (0, 16, []), .inr (0, 48, []), .inr (0, 48, []), .inr (0, 60, []), .inr (0, 1607, []), .inr (0, 205, []), .inr (0, 32140, []), .inr (0, 1600, []), .inr (0, 6, []), .inr (0, 104, []), .inr (0, 8, []), .inr (0, 8, []), .inr (0, 8, []), .inr (0, 8, []), .inr (0, 8, [])]) rfl ?_
    refine zB_putF (ci := 12) (q := 22) ok rfl zc_12 hin_12 tyX12 tyX12_ok nmX12 (s := 42) (by decide) fi_12_138 ⟨rfl, rfl⟩ (tyX12_ok 42 (by decide)) rfl rfl (by decide) dX12_init_860 ?_
    refine zB_ks (ks' := [.inl (12, [none, none, none, some (some (1)), some (some (2)), some (some (3)), some (some (4)), some (some (5)), none, none, none, none, none, none, some (some (6)), some (some (7)), some (some (8)), some (some (9)), some (some (10)), some (some (11)), some (some (12)), some (some (13)), some (some (14)), none, none, none, none, some (some (15)), none, some (some (16)), none, none, none, none, none, none, none, some (some (17)), some (some (18)), some (some (19)), some (some (20)), some (some (21)), some (some (22)), none, none, some none, some none, some none, some none]), .inr (0, 72, []), .inr (0, 20, []), .inr (0, 16, []), .inr (0, 48, []), .inr (0, 60, []), .inr (0, 72, []), .inr (0, 20, []), .inr (0, 16, []), .inr (0, 48, []), .inr (0, 48, []), .inr (0, 60, []), .inr (0, 1607, []), .inr (0, 205, []), .inr (0, 32140, []), .inr (0, 1600, []), .inr (0, 6, []), .inr (0, 104, []), .inr (0, 8, []), .inr (0, 8, []), .inr (0, 8, []), .inr (0, 8, []), .inr (0, 8, [])]) rfl ?_
    refine zB_aload ok dX12_init_863 0 rfl ?_
    refine zB_iconst (v := 0) ok dX12_init_864 (by decide) ?_
    refine zB_puti (ci := 12) ok rfl zc_12 hin_12 tyX12 tyX12_ok nmX12 (s := 43) (by decide) fi_12_141 rfl (tyX12_ok 43 (by decide)) rfl rfl rfl rfl dX12_init_865 ?_
    refine zB_aload ok dX12_init_868 0 rfl ?_
    refine zB_iconst (v := 0) ok dX12_init_869 (by decide) ?_
    refine zB_puti (ci := 12) ok rfl zc_12 hin_12 tyX12 tyX12_ok nmX12 (s := 44) (by decide) fi_12_144 rfl (tyX12_ok 44 (by decide)) rfl rfl rfl rfl dX12_init_870 ?_
    refine zB_aload ok dX12_init_873 0 rfl ?_
    refine zB_bipush (v := 10) ok dX12_init_874 (by decide) ?_
    refine zB_newa (n := 10) (t := 0) ok (by simp) za_int (by decide) (by decide) ((fun j (hj : 23 ≤ j) => by (repeat rw [zup_ne (show j ≠ _ by omega)]); rfl) _ (Nat.le_refl _)) ⟨Nat.le_of_ble_eq_true rfl, Nat.le_of_ble_eq_true rfl⟩ dX12_init_876 ?_
    refine zB_ks (ks' := [.inl (12, [none, none, none, some (some (1)), some (some (2)), some (some (3)), some (some (4)), some (some (5)), none, none, none, none, none, none, some (some (6)), some (some (7)), some (some (8)), some (some (9)), some (some (10)), some (some (11)), some (some (12)), some (some (13)), some (some (14)), none, none, none, none, some (some (15)), none, some (some (16)), none, none, none, none, none, none, none, some (some (17)), some (some (18)), some (some (19)), some (some (20)), some (some (21)), some (some (22)), none, none, some none, some none, some none, some none]), .inr (0, 72, []), .inr (0, 20, []), .inr (0, 16, []), .inr (0, 48, []), .inr (0, 60, []), .inr (0, 72, []), .inr (0, 20, []), .inr (0, 16, []), .inr (0, 48, []), .inr (0, 48, []), .inr (0, 60, []), .inr (0, 1607, []), .inr (0, 205, []), .inr (0, 32140, []), .inr (0, 1600, []), .inr (0, 6, []), .inr (0, 104, []), .inr (0, 8, []), .inr (0, 8, []), .inr (0, 8, []), .inr (0, 8, []), .inr (0, 8, []), .inr (0, 10, [])]) rfl ?_
    refine zB_putF (ci := 12) (q := 23) ok rfl zc_12 hin_12 tyX12 tyX12_ok nmX12 (s := 45) (by decide) fi_12_147 ⟨rfl, rfl⟩ (tyX12_ok 45 (by decide)) rfl rfl (by decide) dX12_init_878 ?_
    refine zB_ks (ks' := [.inl (12, [none, none, none, some (some (1)), some (some (2)), some (some (3)), some (some (4)), some (some (5)), none, none, none, none, none, none, some (some (6)), some (some (7)), some (some (8)), some (some (9)), some (some (10)), some (some (11)), some (some (12)), some (some (13)), some (some (14)), none, none, none, none, some (some (15)), none, some (some (16)), none, none, none, none, none, none, none, some (some (17)), some (some (18)), some (some (19)), some (some (20)), some (some (21)), some (some (22)), none, none, some (some (23)), some none, some none, some none]), .inr (0, 72, []), .inr (0, 20, []), .inr (0, 16, []), .inr (0, 48, []), .inr (0, 60, []), .inr (0, 72, []), .inr (0, 20, []), .inr (0, 16, []), .inr (0, 48, []), .inr (0, 48, []), .inr (0, 60, []), .inr (0, 1607, []), .inr (0, 205, []), .inr (0, 32140, []), .inr (0, 1600, []), .inr (0, 6, []), .inr (0, 104, []), .inr (0, 8, []), .inr (0, 8, []), .inr (0, 8, []), .inr (0, 8, []), .inr (0, 8, []), .inr (0, 10, [])]) rfl ?_
    refine zB_aload ok dX12_init_881 0 rfl ?_
    refine zB_bipush (v := 10) ok dX12_init_882 (by decide) ?_
    refine zB_newa (n := 10) (t := 0) ok (by simp) za_int (by decide) (by decide) ((fun j (hj : 24 ≤ j) => by (repeat rw [zup_ne (show j ≠ _ by omega)]); rfl) _ (Nat.le_refl _)) ⟨Nat.le_of_ble_eq_true rfl, Nat.le_of_ble_eq_true rfl⟩ dX12_init_884 ?_
    refine zB_ks (ks' := [.inl (12, [none, none, none, some (some (1)), some (some (2)), some (some (3)), some (some (4)), some (some (5)), none, none, none, none, none, none, some (some (6)), some (some (7)), some (some (8)), some (some (9)), some (some (10)), some (some (11)), some (some (12)), some (some (13)), some (some (14)), none, none, none, none, some (some (15)), none, some (some (16)), none, none, none, none, none, none, none, some (some (17)), some (some (18)), some (some (19)), some (some (20)), some (some (21)), some (some (22)), none, none, some (some (23)), some none, some none, some none]), .inr (0, 72, []), .inr (0, 20, []), .inr (0, 16, []), .inr (0, 48, []), .inr (0, 60, []), .inr (0, 72, []), .inr (0, 20, []), .inr (0, 16, []), .inr (0, 48, []), .inr (0, 48, []), .inr (0, 60, []), .inr (0, 1607, []), .inr (0, 205, []), .inr (0, 32140, []), .inr (0, 1600, []), .inr (0, 6, []), .inr (0, 104, []), .inr (0, 8, []), .inr (0, 8, []), .inr (0, 8, []), .inr (0, 8, []), .inr (0, 8, []), .inr (0, 10, []), .inr (0, 10, [])]) rfl ?_
    refine zB_putF (ci := 12) (q := 24) ok rfl zc_12 hin_12 tyX12 tyX12_ok nmX12 (s := 46) (by decide) fi_12_150 ⟨rfl, rfl⟩ (tyX12_ok 46 (by decide)) rfl rfl (by decide) dX12_init_886 ?_
    refine zB_ks (ks' := [.inl (12, [none, none, none, some (some (1)), some (some (2)), some (some (3)), some (some (4)), some (some (5)), none, none, none, none, none, none, some (some (6)), some (some (7)), some (some (8)), some (some (9)), some (some (10)), some (some (11)), some (some (12)), some (some (13)), some (some (14)), none, none, none, none, some (some (15)), none, some (some (16)), none, none, none, none, none, none, none, some (some (17)), some (some (18)), some (some (19)), some (some (20)), some (some (21)), some (some (22)), none, none, some (some (23)), some (some (24)), some none, some none]), .inr (0, 72, []), .inr (0, 20, []), .inr (0, 16, []), .inr (0, 48, []), .inr (0, 60, []), .inr (0, 72, []), .inr (0, 20, []), .inr (0, 16, []), .inr (0, 48, []), .inr (0, 48, []), .inr (0, 60, []), .inr (0, 1607, []), .inr (0, 205, []), .inr (0, 32140, []), .inr (0, 1600, []), .inr (0, 6, []), .inr (0, 104, []), .inr (0, 8, []), .inr (0, 8, []), .inr (0, 8, []), .inr (0, 8, []), .inr (0, 8, []), .inr (0, 10, []), .inr (0, 10, [])]) rfl ?_
    refine zB_aload ok dX12_init_889 0 rfl ?_
    refine zB_sipush (v := 1681) ok dX12_init_890 (by decide) ?_
    refine zB_newa (n := 1681) (t := 0) ok (by simp) za_int (by decide) (by decide) ((fun j (hj : 25 ≤ j) => by (repeat rw [zup_ne (show j ≠ _ by omega)]); rfl) _ (Nat.le_refl _)) ⟨Nat.le_of_ble_eq_true rfl, Nat.le_of_ble_eq_true rfl⟩ dX12_init_893 ?_
    refine zB_ks (ks' := [.inl (12, [none, none, none, some (some (1)), some (some (2)), some (some (3)), some (some (4)), some (some (5)), none, none, none, none, none, none, some (some (6)), some (some (7)), some (some (8)), some (some (9)), some (some (10)), some (some (11)), some (some (12)), some (some (13)), some (some (14)), none, none, none, none, some (some (15)), none, some (some (16)), none, none, none, none, none, none, none, some (some (17)), some (some (18)), some (some (19)), some (some (20)), some (some (21)), some (some (22)), none, none, some (some (23)), some (some (24)), some none, some none]), .inr (0, 72, []), .inr (0, 20, []), .inr (0, 16, []), .inr (0, 48, []), .inr (0, 60, []), .inr (0, 72, []), .inr (0, 20, []), .inr (0, 16, []), .inr (0, 48, []), .inr (0, 48, []), .inr (0, 60, []), .inr (0, 1607, []), .inr (0, 205, []), .inr (0, 32140, []), .inr (0, 1600, []), .inr (0, 6, []), .inr (0, 104, []), .inr (0, 8, []), .inr (0, 8, []), .inr (0, 8, []), .inr (0, 8, []), .inr (0, 8, []), .inr (0, 10, []), .inr (0, 10, []), .inr (0, 1681, [])]) rfl ?_
    refine zB_putF (ci := 12) (q := 25) ok rfl zc_12 hin_12 tyX12 tyX12_ok nmX12 (s := 47) (by decide) fi_12_153 ⟨rfl, rfl⟩ (tyX12_ok 47 (by decide)) rfl rfl (by decide) dX12_init_895 ?_
    refine zB_ks (ks' := [.inl (12, [none, none, none, some (some (1)), some (some (2)), some (some (3)), some (some (4)), some (some (5)), none, none, none, none, none, none, some (some (6)), some (some (7)), some (some (8)), some (some (9)), some (some (10)), some (some (11)), some (some (12)), some (some (13)), some (some (14)), none, none, none, none, some (some (15)), none, some (some (16)), none, none, none, none, none, none, none, some (some (17)), some (some (18)), some (some (19)), some (some (20)), some (some (21)), some (some (22)), none, none, some (some (23)), some (some (24)), some (some (25)), some none]), .inr (0, 72, []), .inr (0, 20, []), .inr (0, 16, []), .inr (0, 48, []), .inr (0, 60, []), .inr (0, 72, []), .inr (0, 20, []), .inr (0, 16, []), .inr (0, 48, []), .inr (0, 48, []), .inr (0, 60, []), .inr (0, 1607, []), .inr (0, 205, []), .inr (0, 32140, []), .inr (0, 1600, []), .inr (0, 6, []), .inr (0, 104, []), .inr (0, 8, []), .inr (0, 8, []), .inr (0, 8, []), .inr (0, 8, []), .inr (0, 8, []), .inr (0, 10, []), .inr (0, 10, []), .inr (0, 1681, [])]) rfl ?_
    refine zB_aload ok dX12_init_898 0 rfl ?_
    refine zB_bipush (v := 41) ok dX12_init_899 (by decide) ?_
    refine zB_newa (n := 41) (t := 0) ok (by simp) za_int (by decide) (by decide) ((fun j (hj : 26 ≤ j) => by (repeat rw [zup_ne (show j ≠ _ by omega)]); rfl) _ (Nat.le_refl _)) ⟨Nat.le_of_ble_eq_true rfl, Nat.le_of_ble_eq_true rfl⟩ dX12_init_901 ?_
    refine zB_ks (ks' := [.inl (12, [none, none, none, some (some (1)), some (some (2)), some (some (3)), some (some (4)), some (some (5)), none, none, none, none, none, none, some (some (6)), some (some (7)), some (some (8)), some (some (9)), some (some (10)), some (some (11)), some (some (12)), some (some (13)), some (some (14)), none, none, none, none, some (some (15)), none, some (some (16)), none, none, none, none, none, none, none, some (some (17)), some (some (18)), some (some (19)), some (some (20)), some (some (21)), some (some (22)), none, none, some (some (23)), some (some (24)), some (some (25)), some none]), .inr (0, 72, []), .inr (0, 20, []), .inr (0, 16, []), .inr (0, 48, []), .inr (0, 60, []), .inr (0, 72, []), .inr (0, 20, []), .inr (0, 16, []), .inr (0, 48, []), .inr (0, 48, []), .inr (0, 60, []), .inr (0, 1607, []), .inr (0, 205, []), .inr (0, 32140, []), .inr (0, 1600, []), .inr (0, 6, []), .inr (0, 104, []), .inr (0, 8, []), .inr (0, 8, []), .inr (0, 8, []), .inr (0, 8, []), .inr (0, 8, []), .inr (0, 10, []), .inr (0, 10, []), .inr (0, 1681, []), .inr (0, 41, [])]) rfl ?_
    refine zB_putF (ci := 12) (q := 26) ok rfl zc_12 hin_12 tyX12 tyX12_ok nmX12 (s := 48) (by decide) fi_12_156 ⟨rfl, rfl⟩ (tyX12_ok 48 (by decide)) rfl rfl (by decide) dX12_init_903 ?_
    refine zB_ks (ks' := [.inl (12, [none, none, none, some (some (1)), some (some (2)), some (some (3)), some (some (4)), some (some (5)), none, none, none, none, none, none, some (some (6)), some (some (7)), some (some (8)), some (some (9)), some (some (10)), some (some (11)), some (some (12)), some (some (13)), some (some (14)), none, none, none, none, some (some (15)), none, some (some (16)), none, none, none, none, none, none, none, some (some (17)), some (some (18)), some (some (19)), some (some (20)), some (some (21)), some (some (22)), none, none, some (some (23)), some (some (24)), some (some (25)), some (some (26))]), .inr (0, 72, []), .inr (0, 20, []), .inr (0, 16, []), .inr (0, 48, []), .inr (0, 60, []), .inr (0, 72, []), .inr (0, 20, []), .inr (0, 16, []), .inr (0, 48, []), .inr (0, 48, []), .inr (0, 60, []), .inr (0, 1607, []), .inr (0, 205, []), .inr (0, 32140, []), .inr (0, 1600, []), .inr (0, 6, []), .inr (0, 104, []), .inr (0, 8, []), .inr (0, 8, []), .inr (0, 8, []), .inr (0, 8, []), .inr (0, 8, []), .inr (0, 10, []), .inr (0, 10, []), .inr (0, 1681, []), .inr (0, 41, [])]) rfl ?_
    exact hr _ _ dX12_init_906)
