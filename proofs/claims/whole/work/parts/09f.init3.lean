theorem mo_12_1 : Cond.methodLink RX12 1 Lib.objectInit ∈ zT := zT_of (i := 1398) (by decide +kernel) rfl
theorem fi_12_7 : Cond.fieldLink RX12 7 (TX12 0).1 (TX12 0).2.1 (TX12 0).2.2.1 ∈ zT := zT_of (i := 1399) (by decide +kernel) rfl
theorem fi_12_13 : Cond.fieldLink RX12 13 (TX12 1).1 (TX12 1).2.1 (TX12 1).2.2.1 ∈ zT := zT_of (i := 1400) (by decide +kernel) rfl
theorem fi_12_16 : Cond.fieldLink RX12 16 (TX12 2).1 (TX12 2).2.1 (TX12 2).2.2.1 ∈ zT := zT_of (i := 1401) (by decide +kernel) rfl
theorem fi_12_19 : Cond.fieldLink RX12 19 (TX12 3).1 (TX12 3).2.1 (TX12 3).2.2.1 ∈ zT := zT_of (i := 1402) (by decide +kernel) rfl
theorem fi_12_23 : Cond.fieldLink RX12 23 (TX12 4).1 (TX12 4).2.1 (TX12 4).2.2.1 ∈ zT := zT_of (i := 1403) (by decide +kernel) rfl
theorem fi_12_26 : Cond.fieldLink RX12 26 (TX12 5).1 (TX12 5).2.1 (TX12 5).2.2.1 ∈ zT := zT_of (i := 1404) (by decide +kernel) rfl
theorem fi_12_29 : Cond.fieldLink RX12 29 (TX12 6).1 (TX12 6).2.1 (TX12 6).2.2.1 ∈ zT := zT_of (i := 1405) (by decide +kernel) rfl
theorem fi_12_32 : Cond.fieldLink RX12 32 (TX12 7).1 (TX12 7).2.1 (TX12 7).2.2.1 ∈ zT := zT_of (i := 1406) (by decide +kernel) rfl
theorem fi_12_35 : Cond.fieldLink RX12 35 (TX12 8).1 (TX12 8).2.1 (TX12 8).2.2.1 ∈ zT := zT_of (i := 1407) (by decide +kernel) rfl
theorem fi_12_38 : Cond.fieldLink RX12 38 (TX12 9).1 (TX12 9).2.1 (TX12 9).2.2.1 ∈ zT := zT_of (i := 1408) (by decide +kernel) rfl
theorem fi_12_41 : Cond.fieldLink RX12 41 (TX12 10).1 (TX12 10).2.1 (TX12 10).2.2.1 ∈ zT := zT_of (i := 1409) (by decide +kernel) rfl
theorem fi_12_44 : Cond.fieldLink RX12 44 (TX12 11).1 (TX12 11).2.1 (TX12 11).2.2.1 ∈ zT := zT_of (i := 1410) (by decide +kernel) rfl
theorem fi_12_47 : Cond.fieldLink RX12 47 (TX12 12).1 (TX12 12).2.1 (TX12 12).2.2.1 ∈ zT := zT_of (i := 1411) (by decide +kernel) rfl
theorem fi_12_50 : Cond.fieldLink RX12 50 (TX12 13).1 (TX12 13).2.1 (TX12 13).2.2.1 ∈ zT := zT_of (i := 1412) (by decide +kernel) rfl
theorem fi_12_53 : Cond.fieldLink RX12 53 (TX12 14).1 (TX12 14).2.1 (TX12 14).2.2.1 ∈ zT := zT_of (i := 1413) (by decide +kernel) rfl
theorem fi_12_56 : Cond.fieldLink RX12 56 (TX12 15).1 (TX12 15).2.1 (TX12 15).2.2.1 ∈ zT := zT_of (i := 1414) (by decide +kernel) rfl
theorem fi_12_59 : Cond.fieldLink RX12 59 (TX12 16).1 (TX12 16).2.1 (TX12 16).2.2.1 ∈ zT := zT_of (i := 1415) (by decide +kernel) rfl
theorem fi_12_62 : Cond.fieldLink RX12 62 (TX12 17).1 (TX12 17).2.1 (TX12 17).2.2.1 ∈ zT := zT_of (i := 1416) (by decide +kernel) rfl
theorem fi_12_65 : Cond.fieldLink RX12 65 (TX12 18).1 (TX12 18).2.1 (TX12 18).2.2.1 ∈ zT := zT_of (i := 1417) (by decide +kernel) rfl
theorem fi_12_68 : Cond.fieldLink RX12 68 (TX12 19).1 (TX12 19).2.1 (TX12 19).2.2.1 ∈ zT := zT_of (i := 1418) (by decide +kernel) rfl
theorem fi_12_71 : Cond.fieldLink RX12 71 (TX12 20).1 (TX12 20).2.1 (TX12 20).2.2.1 ∈ zT := zT_of (i := 1419) (by decide +kernel) rfl
theorem fi_12_74 : Cond.fieldLink RX12 74 (TX12 21).1 (TX12 21).2.1 (TX12 21).2.2.1 ∈ zT := zT_of (i := 1420) (by decide +kernel) rfl
theorem fi_12_77 : Cond.fieldLink RX12 77 (TX12 22).1 (TX12 22).2.1 (TX12 22).2.2.1 ∈ zT := zT_of (i := 1421) (by decide +kernel) rfl
theorem fi_12_80 : Cond.fieldLink RX12 80 (TX12 23).1 (TX12 23).2.1 (TX12 23).2.2.1 ∈ zT := zT_of (i := 1422) (by decide +kernel) rfl
theorem fi_12_83 : Cond.fieldLink RX12 83 (TX12 24).1 (TX12 24).2.1 (TX12 24).2.2.1 ∈ zT := zT_of (i := 1423) (by decide +kernel) rfl
theorem fi_12_86 : Cond.fieldLink RX12 86 (TX12 25).1 (TX12 25).2.1 (TX12 25).2.2.1 ∈ zT := zT_of (i := 1424) (by decide +kernel) rfl
theorem fi_12_90 : Cond.fieldLink RX12 90 (TX12 26).1 (TX12 26).2.1 (TX12 26).2.2.1 ∈ zT := zT_of (i := 1425) (by decide +kernel) rfl
theorem fi_12_93 : Cond.fieldLink RX12 93 (TX12 27).1 (TX12 27).2.1 (TX12 27).2.2.1 ∈ zT := zT_of (i := 1426) (by decide +kernel) rfl
theorem fi_12_96 : Cond.fieldLink RX12 96 (TX12 28).1 (TX12 28).2.1 (TX12 28).2.2.1 ∈ zT := zT_of (i := 1427) (by decide +kernel) rfl
theorem fi_12_99 : Cond.fieldLink RX12 99 (TX12 29).1 (TX12 29).2.1 (TX12 29).2.2.1 ∈ zT := zT_of (i := 1428) (by decide +kernel) rfl
theorem fi_12_102 : Cond.fieldLink RX12 102 (TX12 30).1 (TX12 30).2.1 (TX12 30).2.2.1 ∈ zT := zT_of (i := 1429) (by decide +kernel) rfl
theorem fi_12_105 : Cond.fieldLink RX12 105 (TX12 31).1 (TX12 31).2.1 (TX12 31).2.2.1 ∈ zT := zT_of (i := 1430) (by decide +kernel) rfl
theorem fi_12_108 : Cond.fieldLink RX12 108 (TX12 32).1 (TX12 32).2.1 (TX12 32).2.2.1 ∈ zT := zT_of (i := 1431) (by decide +kernel) rfl
theorem fi_12_111 : Cond.fieldLink RX12 111 (TX12 33).1 (TX12 33).2.1 (TX12 33).2.2.1 ∈ zT := zT_of (i := 1432) (by decide +kernel) rfl
theorem fi_12_114 : Cond.fieldLink RX12 114 (TX12 34).1 (TX12 34).2.1 (TX12 34).2.2.1 ∈ zT := zT_of (i := 1433) (by decide +kernel) rfl
theorem fi_12_117 : Cond.fieldLink RX12 117 (TX12 35).1 (TX12 35).2.1 (TX12 35).2.2.1 ∈ zT := zT_of (i := 1434) (by decide +kernel) rfl
theorem fi_12_120 : Cond.fieldLink RX12 120 (TX12 36).1 (TX12 36).2.1 (TX12 36).2.2.1 ∈ zT := zT_of (i := 1435) (by decide +kernel) rfl
theorem fi_12_123 : Cond.fieldLink RX12 123 (TX12 37).1 (TX12 37).2.1 (TX12 37).2.2.1 ∈ zT := zT_of (i := 1436) (by decide +kernel) rfl
theorem fi_12_126 : Cond.fieldLink RX12 126 (TX12 38).1 (TX12 38).2.1 (TX12 38).2.2.1 ∈ zT := zT_of (i := 1437) (by decide +kernel) rfl
theorem fi_12_129 : Cond.fieldLink RX12 129 (TX12 39).1 (TX12 39).2.1 (TX12 39).2.2.1 ∈ zT := zT_of (i := 1438) (by decide +kernel) rfl
theorem fi_12_132 : Cond.fieldLink RX12 132 (TX12 40).1 (TX12 40).2.1 (TX12 40).2.2.1 ∈ zT := zT_of (i := 1439) (by decide +kernel) rfl
theorem fi_12_135 : Cond.fieldLink RX12 135 (TX12 41).1 (TX12 41).2.1 (TX12 41).2.2.1 ∈ zT := zT_of (i := 1440) (by decide +kernel) rfl
theorem fi_12_138 : Cond.fieldLink RX12 138 (TX12 42).1 (TX12 42).2.1 (TX12 42).2.2.1 ∈ zT := zT_of (i := 1441) (by decide +kernel) rfl
theorem fi_12_141 : Cond.fieldLink RX12 141 (TX12 43).1 (TX12 43).2.1 (TX12 43).2.2.1 ∈ zT := zT_of (i := 1442) (by decide +kernel) rfl
theorem fi_12_144 : Cond.fieldLink RX12 144 (TX12 44).1 (TX12 44).2.1 (TX12 44).2.2.1 ∈ zT := zT_of (i := 1443) (by decide +kernel) rfl
theorem fi_12_147 : Cond.fieldLink RX12 147 (TX12 45).1 (TX12 45).2.1 (TX12 45).2.2.1 ∈ zT := zT_of (i := 1444) (by decide +kernel) rfl
theorem fi_12_150 : Cond.fieldLink RX12 150 (TX12 46).1 (TX12 46).2.1 (TX12 46).2.2.1 ∈ zT := zT_of (i := 1445) (by decide +kernel) rfl
theorem fi_12_153 : Cond.fieldLink RX12 153 (TX12 47).1 (TX12 47).2.1 (TX12 47).2.2.1 ∈ zT := zT_of (i := 1446) (by decide +kernel) rfl
theorem fi_12_156 : Cond.fieldLink RX12 156 (TX12 48).1 (TX12 48).2.1 (TX12 48).2.2.1 ∈ zT := zT_of (i := 1447) (by decide +kernel) rfl
abbrev rm_M_init : Room := { frames := 1, cells := 26, slots := 37924, locals := 12 }
def ks_M_init : List Kd := [.inl (12, [none, none, none, some (some (1)), some (some (2)), some (some (3)), some (some (4)), some (some (5)), none, none, none, none, none, none, some (some (6)), some (some (7)), some (some (8)), some (some (9)), some (some (10)), some (some (11)), some (some (12)), some (some (13)), some (some (14)), none, none, none, none, some (some (15)), none, some (some (16)), none, none, none, none, none, none, none, some (some (17)), some (some (18)), some (some (19)), some (some (20)), some (some (21)), some (some (22)), none, none, some (some (23)), some (some (24)), some (some (25)), some (some (26))]), .inr (0, 72, []), .inr (0, 20, []), .inr (0, 16, []), .inr (0, 48, []), .inr (0, 60, []), .inr (0, 72, []), .inr (0, 20, []), .inr (0, 16, []), .inr (0, 48, []), .inr (0, 48, []), .inr (0, 60, []), .inr (0, 1607, []), .inr (0, 205, []), .inr (0, 32140, []), .inr (0, 1600, []), .inr (0, 6, []), .inr (0, 104, []), .inr (0, 8, []), .inr (0, 8, []), .inr (0, 8, []), .inr (0, 8, []), .inr (0, 8, []), .inr (0, 10, []), .inr (0, 10, []), .inr (0, 1681, []), .inr (0, 41, [])]
set_option maxRecDepth 100000 in
theorem w_M_init : Cond.instanceMethod yX12_init ∈ zT ∧ Cond.initialized yX12_init.cls ∈ zT ∧ Cond.code yX12_init cX12_init 1 none ∈ zT := ⟨zT_of (i := 1396) (by decide +kernel) rfl, zT_of (i := 135) (by decide +kernel) rfl, zT_of (i := 1397) rfl rfl⟩
theorem hy_M_init : yX12_init.cls ≠ "java/lang/invoke/MethodHandle" ∧ yX12_init.cls ≠ "java/lang/invoke/VarHandle" ∧ (parseMethodDescriptor yX12_init.desc).map (fun d => d.parameters.length) = some 0 := by decide +kernel
def sg_M_init : Sg := (zup (zup (zup (zup (zup (zup (zup (zup (zup (zup (zup (zup (zup (zup (zup (zup (zup (zup (zup (zup (zup (zup (zup (zup (zup (zup (zup (zup (zup (zup (zup (zup (zup (zup (zup (zup (zup (zup (zup (zup (zup (zup (zup (zup (zup (zup (zup (zup (zup (zup (zup (zup (zup (zup (zup (zup (zup (zup (zup (zup (zup (zup (zup (zup (zup (zup (zup (zup (zup (zup (zup (zup (zup (zup (zup (zup (zup (zup (zup (zup (zup (zup (zup (zup (zup (zup (zup (zup (zup (zup (zup (zup (zup (zup (zup (zup (zup (zup (zup (zup (zup (zup (zup (zup (zup (zup (zup (zup (zup (zup (zup (zup (zup (zup (zup (zup (zup (zup (zup (zup (zup (zup (zup (zup (zup (zup (zup zz0 0 0 0) 0 1 0) 0 2 0) 0 8 0) 0 9 0) 0 10 0) 0 11 0) 0 12 0) 0 13 0) 0 23 0) 0 24 1) 0 25 0) 0 26 0) 0 28 0) 0 30 0) 0 31 (-1)) 0 32 0) 0 33 0) 0 34 0) 0 35 0) 0 36 (-1)) 17 ((0 : Int32).toNatClampNeg) 3) 17 ((1 : Int32).toNatClampNeg) 1) 17 ((2 : Int32).toNatClampNeg) 14) 17 ((3 : Int32).toNatClampNeg) 1) 17 ((4 : Int32).toNatClampNeg) 12) 17 ((5 : Int32).toNatClampNeg) 0) 17 ((6 : Int32).toNatClampNeg) 7) 17 ((7 : Int32).toNatClampNeg) 9) 17 ((8 : Int32).toNatClampNeg) 22) 17 ((9 : Int32).toNatClampNeg) 5) 17 ((10 : Int32).toNatClampNeg) 19) 17 ((11 : Int32).toNatClampNeg) 0) 17 ((12 : Int32).toNatClampNeg) 11) 17 ((13 : Int32).toNatClampNeg) 5) 17 ((14 : Int32).toNatClampNeg) 5) 17 ((15 : Int32).toNatClampNeg) 16) 17 ((16 : Int32).toNatClampNeg) 0) 17 ((17 : Int32).toNatClampNeg) 16) 17 ((18 : Int32).toNatClampNeg) 15) 17 ((19 : Int32).toNatClampNeg) 15) 17 ((20 : Int32).toNatClampNeg) 12) 17 ((21 : Int32).toNatClampNeg) 0) 17 ((22 : Int32).toNatClampNeg) 8) 17 ((23 : Int32).toNatClampNeg) 15) 17 ((24 : Int32).toNatClampNeg) 12) 17 ((25 : Int32).toNatClampNeg) 4) 17 ((26 : Int32).toNatClampNeg) 19) 17 ((27 : Int32).toNatClampNeg) 0) 17 ((28 : Int32).toNatClampNeg) 12) 17 ((29 : Int32).toNatClampNeg) 15) 17 ((30 : Int32).toNatClampNeg) 23) 17 ((31 : Int32).toNatClampNeg) 0) 17 ((32 : Int32).toNatClampNeg) 8) 17 ((33 : Int32).toNatClampNeg) 9) 17 ((34 : Int32).toNatClampNeg) 7) 17 ((35 : Int32).toNatClampNeg) 8) 17 ((36 : Int32).toNatClampNeg) 0) 17 ((37 : Int32).toNatClampNeg) 3) 17 ((38 : Int32).toNatClampNeg) 18) 17 ((39 : Int32).toNatClampNeg) 5) 17 ((40 : Int32).toNatClampNeg) 19) 17 ((41 : Int32).toNatClampNeg) 20) 17 ((42 : Int32).toNatClampNeg) 0) 17 ((43 : Int32).toNatClampNeg) 4) 17 ((44 : Int32).toNatClampNeg) 5) 17 ((45 : Int32).toNatClampNeg) 12) 17 ((46 : Int32).toNatClampNeg) 1) 17 ((47 : Int32).toNatClampNeg) 25) 17 ((48 : Int32).toNatClampNeg) 0) 17 ((49 : Int32).toNatClampNeg) 12) 17 ((50 : Int32).toNatClampNeg) 5) 17 ((51 : Int32).toNatClampNeg) 1) 17 ((52 : Int32).toNatClampNeg) 11) 17 ((53 : Int32).toNatClampNeg) 0) 17 ((54 : Int32).toNatClampNeg) 7) 17 ((55 : Int32).toNatClampNeg) 1) 17 ((56 : Int32).toNatClampNeg) 20) 17 ((57 : Int32).toNatClampNeg) 5) 17 ((58 : Int32).toNatClampNeg) 0) 17 ((59 : Int32).toNatClampNeg) 2) 17 ((60 : Int32).toNatClampNeg) 25) 17 ((61 : Int32).toNatClampNeg) 0) 17 ((62 : Int32).toNatClampNeg) 15) 17 ((63 : Int32).toNatClampNeg) 16) 17 ((64 : Int32).toNatClampNeg) 5) 17 ((65 : Int32).toNatClampNeg) 14) 17 ((66 : Int32).toNatClampNeg) 0) 17 ((67 : Int32).toNatClampNeg) 15) 17 ((68 : Int32).toNatClampNeg) 21) 17 ((69 : Int32).toNatClampNeg) 20) 17 ((70 : Int32).toNatClampNeg) 12) 17 ((71 : Int32).toNatClampNeg) 5) 17 ((72 : Int32).toNatClampNeg) 20) 17 ((73 : Int32).toNatClampNeg) 0) 17 ((74 : Int32).toNatClampNeg) 1) 17 ((75 : Int32).toNatClampNeg) 20) 17 ((76 : Int32).toNatClampNeg) 0) 17 ((77 : Int32).toNatClampNeg) 20) 17 ((78 : Int32).toNatClampNeg) 1) 17 ((79 : Int32).toNatClampNeg) 11) 17 ((80 : Int32).toNatClampNeg) 5) 17 ((81 : Int32).toNatClampNeg) 19) 17 ((82 : Int32).toNatClampNeg) 0) 17 ((83 : Int32).toNatClampNeg) 15) 17 ((84 : Int32).toNatClampNeg) 18) 17 ((85 : Int32).toNatClampNeg) 4) 17 ((86 : Int32).toNatClampNeg) 5) 17 ((87 : Int32).toNatClampNeg) 18) 17 ((88 : Int32).toNatClampNeg) 0) 17 ((89 : Int32).toNatClampNeg) 6) 17 ((90 : Int32).toNatClampNeg) 18) 17 ((91 : Int32).toNatClampNeg) 15) 17 ((92 : Int32).toNatClampNeg) 13) 17 ((93 : Int32).toNatClampNeg) 0) 17 ((94 : Int32).toNatClampNeg) 6) 17 ((95 : Int32).toNatClampNeg) 15) 17 ((96 : Int32).toNatClampNeg) 18) 17 ((97 : Int32).toNatClampNeg) 0) 17 ((98 : Int32).toNatClampNeg) 20) 17 ((99 : Int32).toNatClampNeg) 21) 17 ((100 : Int32).toNatClampNeg) 18) 17 ((101 : Int32).toNatClampNeg) 14) 17 ((102 : Int32).toNatClampNeg) 19) 17 ((103 : Int32).toNatClampNeg) 0) 0 43 0) 0 44 0)
set_option maxRecDepth 100000 in
set_option maxHeartbeats 4000000 in
theorem c_M_init : ZiV yX12_init cX12_init 1 rm_M_init fk_12 ks_M_init sg_M_init 26 37924 :=
  zmetB pn_12 rfl rfl (by decide) (fun X Q ok hr => by
    refine zB_aload ok dX12_init_0 0 rfl ?_
    refine zB_obj ok mo_12_1 zo_i.1 zo_i.2 (Nat.le_of_ble_eq_true rfl) (Nat.le_of_ble_eq_true rfl) dX12_init_1 ?_
    refine zB_aload ok dX12_init_4 0 rfl ?_
    refine zB_iconst (v := 0) ok dX12_init_5 (by decide) ?_
    refine zB_puti (ci := 12) ok rfl zc_12 hin_12 tyX12 tyX12_ok nmX12 (s := 0) (by decide) fi_12_7 rfl (tyX12_ok 0 (by decide)) rfl rfl rfl rfl dX12_init_6 ?_
    refine zB_aload ok dX12_init_9 0 rfl ?_
    refine zB_iconst (v := 0) ok dX12_init_10 (by decide) ?_
    refine zB_puti (ci := 12) ok rfl zc_12 hin_12 tyX12 tyX12_ok nmX12 (s := 1) (by decide) fi_12_13 rfl (tyX12_ok 1 (by decide)) rfl rfl rfl rfl dX12_init_11 ?_
    refine zB_aload ok dX12_init_14 0 rfl ?_
    refine zB_iconst (v := 0) ok dX12_init_15 (by decide) ?_
    refine zB_puti (ci := 12) ok rfl zc_12 hin_12 tyX12 tyX12_ok nmX12 (s := 2) (by decide) fi_12_16 rfl (tyX12_ok 2 (by decide)) rfl rfl rfl rfl dX12_init_16 ?_
    refine zB_aload ok dX12_init_19 0 rfl ?_
    refine zB_bipush (v := 72) ok dX12_init_20 (by decide) ?_
    refine zB_newan (n := 72) (t := 0) 1 rfl ok (by simp) za_int (by decide) (by decide) ((fun j (hj : 1 ≤ j) => by (repeat rw [zup_n1 (show j ≠ _ by omega)]); rfl) _ (Nat.le_refl _)) ⟨Nat.le_of_ble_eq_true rfl, Nat.le_of_ble_eq_true rfl⟩ dX12_init_22 ?_
    refine zB_ks (ks' := [.inl (12, [none, none, none, some none, some none, some none, some none, some none, none, none, none, none, none, none, some none, some none, some none, some none, some none, some none, some none, some none, some none, none, none, none, none, some none, none, some none, none, none, none, none, none, none, none, some none, some none, some none, some none, some none, some none, none, none, some none, some none, some none, some none]), .inr (0, 72, [])]) rfl ?_
    refine zB_putF (ci := 12) (q := 1) ok rfl zc_12 hin_12 tyX12 tyX12_ok nmX12 (s := 3) (by decide) fi_12_19 ⟨rfl, rfl⟩ (tyX12_ok 3 (by decide)) rfl rfl (by decide) dX12_init_24 ?_
    refine zB_ks (ks' := [.inl (12, [none, none, none, some (some (1)), some none, some none, some none, some none, none, none, none, none, none, none, some none, some none, some none, some none, some none, some none, some none, some none, some none, none, none, none, none, some none, none, some none, none, none, none, none, none, none, none, some none, some none, some none, some none, some none, some none, none, none, some none, some none, some none, some none]), .inr (0, 72, [])]) rfl ?_
    refine zB_aload ok dX12_init_27 0 rfl ?_
    refine zB_bipush (v := 20) ok dX12_init_28 (by decide) ?_
    refine zB_newan (n := 20) (t := 0) 2 rfl ok (by simp) za_int (by decide) (by decide) ((fun j (hj : 2 ≤ j) => by (repeat rw [zup_n1 (show j ≠ _ by omega)]); rfl) _ (Nat.le_refl _)) ⟨Nat.le_of_ble_eq_true rfl, Nat.le_of_ble_eq_true rfl⟩ dX12_init_30 ?_
    refine zB_ks (ks' := [.inl (12, [none, none, none, some (some (1)), some none, some none, some none, some none, none, none, none, none, none, none, some none, some none, some none, some none, some none, some none, some none, some none, some none, none, none, none, none, some none, none, some none, none, none, none, none, none, none, none, some none, some none, some none, some none, some none, some none, none, none, some none, some none, some none, some none]), .inr (0, 72, []), .inr (0, 20, [])]) rfl ?_
    refine zB_putF (ci := 12) (q := 2) ok rfl zc_12 hin_12 tyX12 tyX12_ok nmX12 (s := 4) (by decide) fi_12_23 ⟨rfl, rfl⟩ (tyX12_ok 4 (by decide)) rfl rfl (by decide) dX12_init_32 ?_
    refine zB_ks (ks' := [.inl (12, [none, none, none, some (some (1)), some (some (2)), some none, some none, some none, none, none, none, none, none, none, some none, some none, some none, some none, some none, some none, some none, some none, some none, none, none, none, none, some none, none, some none, none, none, none, none, none, none, none, some none, some none, some none, some none, some none, some none, none, none, some none, some none, some none, some none]), .inr (0, 72, []), .inr (0, 20, [])]) rfl ?_
    refine zB_aload ok dX12_init_35 0 rfl ?_
    refine zB_bipush (v := 16) ok dX12_init_36 (by decide) ?_
    refine zB_newan (n := 16) (t := 0) 3 rfl ok (by simp) za_int (by decide) (by decide) ((fun j (hj : 3 ≤ j) => by (repeat rw [zup_n1 (show j ≠ _ by omega)]); rfl) _ (Nat.le_refl _)) ⟨Nat.le_of_ble_eq_true rfl, Nat.le_of_ble_eq_true rfl⟩ dX12_init_38 ?_
    refine zB_ks (ks' := [.inl (12, [none, none, none, some (some (1)), some (some (2)), some none, some none, some none, none, none, none, none, none, none, some none, some none, some none, some none, some none, some none, some none, some none, some none, none, none, none, none, some none, none, some none, none, none, none, none, none, none, none, some none, some none, some none, some none, some none, some none, none, none, some none, some none, some none, some none]), .inr (0, 72, []), .inr (0, 20, []), .inr (0, 16, [])]) rfl ?_
    refine zB_putF (ci := 12) (q := 3) ok rfl zc_12 hin_12 tyX12 tyX12_ok nmX12 (s := 5) (by decide) fi_12_26 ⟨rfl, rfl⟩ (tyX12_ok 5 (by decide)) rfl rfl (by decide) dX12_init_40 ?_
    refine zB_ks (ks' := [.inl (12, [none, none, none, some (some (1)), some (some (2)), some (some (3)), some none, some none, none, none, none, none, none, none, some none, some none, some none, some none, some none, some none, some none, some none, some none, none, none, none, none, some none, none, some none, none, none, none, none, none, none, none, some none, some none, some none, some none, some none, some none, none, none, some none, some none, some none, some none]), .inr (0, 72, []), .inr (0, 20, []), .inr (0, 16, [])]) rfl ?_
    refine zB_aload ok dX12_init_43 0 rfl ?_
    refine zB_bipush (v := 48) ok dX12_init_44 (by decide) ?_
    refine zB_newan (n := 48) (t := 0) 4 rfl ok (by simp) za_int (by decide) (by decide) ((fun j (hj : 4 ≤ j) => by (repeat rw [zup_n1 (show j ≠ _ by omega)]); rfl) _ (Nat.le_refl _)) ⟨Nat.le_of_ble_eq_true rfl, Nat.le_of_ble_eq_true rfl⟩ dX12_init_46 ?_
    refine zB_ks (ks' := [.inl (12, [none, none, none, some (some (1)), some (some (2)), some (some (3)), some none, some none, none, none, none, none, none, none, some none, some none, some none, some none, some none, some none, some none, some none, some none, none, none, none, none, some none, none, some none, none, none, none, none, none, none, none, some none, some none, some none, some none, some none, some none, none, none, some none, some none, some none, some none]), .inr (0, 72, []), .inr (0, 20, []), .inr (0, 16, []), .inr (0, 48, [])]) rfl ?_
    refine zB_putF (ci := 12) (q := 4) ok rfl zc_12 hin_12 tyX12 tyX12_ok nmX12 (s := 6) (by decide) fi_12_29 ⟨rfl, rfl⟩ (tyX12_ok 6 (by decide)) rfl rfl (by decide) dX12_init_48 ?_
    refine zB_ks (ks' := [.inl (12, [none, none, none, some (some (1)), some (some (2)), some (some (3)), some (some (4)), some none, none, none, none, none, none, none, some none, some none, some none, some none, some none, some none, some none, some none, some none, none, none, none, none, some none, none, some none, none, none, none, none, none, none, none, some none, some none, some none, some none, some none, some none, none, none, some none, some none, some none, some none]), .inr (0, 72, []), .inr (0, 20, []), .inr (0, 16, []), .inr (0, 48, [])]) rfl ?_
    refine zB_aload ok dX12_init_51 0 rfl ?_
    refine zB_bipush (v := 60) ok dX12_init_52 (by decide) ?_
    refine zB_newan (n := 60) (t := 0) 5 rfl ok (by simp) za_int (by decide) (by decide) ((fun j (hj : 5 ≤ j) => by (repeat rw [zup_n1 (show j ≠ _ by omega)]); rfl) _ (Nat.le_refl _)) ⟨Nat.le_of_ble_eq_true rfl, Nat.le_of_ble_eq_true rfl⟩ dX12_init_54 ?_
    refine zB_ks (ks' := [.inl (12, [none, none, none, some (some (1)), some (some (2)), some (some (3)), some (some (4)), some none, none, none, none, none, none, none, some none, some none, some none, some none, some none, some none, some none, some none, some none, none, none, none, none, some none, none, some none, none, none, none, none, none, none, none, some none, some none, some none, some none, some none, some none, none, none, some none, some none, some none, some none]), .inr (0, 72, []), .inr (0, 20, []), .inr (0, 16, []), .inr (0, 48, []), .inr (0, 60, [])]) rfl ?_
    refine zB_putF (ci := 12) (q := 5) ok rfl zc_12 hin_12 tyX12 tyX12_ok nmX12 (s := 7) (by decide) fi_12_32 ⟨rfl, rfl⟩ (tyX12_ok 7 (by decide)) rfl rfl (by decide) dX12_init_56 ?_
    refine zB_ks (ks' := [.inl (12, [none, none, none, some (some (1)), some (some (2)), some (some (3)), some (some (4)), some (some (5)), none, none, none, none, none, none, some none, some none, some none, some none, some none, some none, some none, some none, some none, none, none, none, none, some none, none, some none, none, none, none, none, none, none, none, some none, some none, some none, some none, some none, some none, none, none, some none, some none, some none, some none]), .inr (0, 72, []), .inr (0, 20, []), .inr (0, 16, []), .inr (0, 48, []), .inr (0, 60, [])]) rfl ?_
    refine zB_aload ok dX12_init_59 0 rfl ?_
    refine zB_iconst (v := 0) ok dX12_init_60 (by decide) ?_
    refine zB_puti (ci := 12) ok rfl zc_12 hin_12 tyX12 tyX12_ok nmX12 (s := 8) (by decide) fi_12_35 rfl (tyX12_ok 8 (by decide)) rfl rfl rfl rfl dX12_init_61 ?_
    refine zB_aload ok dX12_init_64 0 rfl ?_
    refine zB_iconst (v := 0) ok dX12_init_65 (by decide) ?_
    refine zB_puti (ci := 12) ok rfl zc_12 hin_12 tyX12 tyX12_ok nmX12 (s := 9) (by decide) fi_12_38 rfl (tyX12_ok 9 (by decide)) rfl rfl rfl rfl dX12_init_66 ?_
    refine zB_aload ok dX12_init_69 0 rfl ?_
    refine zB_iconst (v := 0) ok dX12_init_70 (by decide) ?_
    refine zB_puti (ci := 12) ok rfl zc_12 hin_12 tyX12 tyX12_ok nmX12 (s := 10) (by decide) fi_12_41 rfl (tyX12_ok 10 (by decide)) rfl rfl rfl rfl dX12_init_71 ?_
    refine zB_aload ok dX12_init_74 0 rfl ?_
    refine zB_iconst (v := 0) ok dX12_init_75 (by decide) ?_
    refine zB_puti (ci := 12) ok rfl zc_12 hin_12 tyX12 tyX12_ok nmX12 (s := 11) (by decide) fi_12_44 rfl (tyX12_ok 11 (by decide)) rfl rfl rfl rfl dX12_init_76 ?_
    refine zB_aload ok dX12_init_79 0 rfl ?_
    refine zB_iconst (v := 0) ok dX12_init_80 (by decide) ?_
    refine zB_puti (ci := 12) ok rfl zc_12 hin_12 tyX12 tyX12_ok nmX12 (s := 12) (by decide) fi_12_47 rfl (tyX12_ok 12 (by decide)) rfl rfl rfl rfl dX12_init_81 ?_
    refine zB_aload ok dX12_init_84 0 rfl ?_
    refine zB_iconst (v := 0) ok dX12_init_85 (by decide) ?_
    refine zB_puti (ci := 12) ok rfl zc_12 hin_12 tyX12 tyX12_ok nmX12 (s := 13) (by decide) fi_12_50 rfl (tyX12_ok 13 (by decide)) rfl rfl rfl rfl dX12_init_86 ?_
    refine zB_aload ok dX12_init_89 0 rfl ?_
    refine zB_bipush (v := 72) ok dX12_init_90 (by decide) ?_
    refine zB_newan (n := 72) (t := 0) 6 rfl ok (by simp) za_int (by decide) (by decide) ((fun j (hj : 6 ≤ j) => by (repeat rw [zup_n1 (show j ≠ _ by omega)]); rfl) _ (Nat.le_refl _)) ⟨Nat.le_of_ble_eq_true rfl, Nat.le_of_ble_eq_true rfl⟩ dX12_init_92 ?_
    refine zB_ks (ks' := [.inl (12, [none, none, none, some (some (1)), some (some (2)), some (some (3)), some (some (4)), some (some (5)), none, none, none, none, none, none, some none, some none, some none, some none, some none, some none, some none, some none, some none, none, none, none, none, some none, none, some none, none, none, none, none, none, none, none, some none, some none, some none, some none, some none, some none, none, none, some none, some none, some none, some none]), .inr (0, 72, []), .inr (0, 20, []), .inr (0, 16, []), .inr (0, 48, []), .inr (0, 60, []), .inr (0, 72, [])]) rfl ?_
    refine zB_putF (ci := 12) (q := 6) ok rfl zc_12 hin_12 tyX12 tyX12_ok nmX12 (s := 14) (by decide) fi_12_53 ⟨rfl, rfl⟩ (tyX12_ok 14 (by decide)) rfl rfl (by decide) dX12_init_94 ?_
    refine zB_ks (ks' := [.inl (12, [none, none, none, some (some (1)), some (some (2)), some (some (3)), some (some (4)), some (some (5)), none, none, none, none, none, none, some (some (6)), some none, some none, some none, some none, some none, some none, some none, some none, none, none, none, none, some none, none, some none, none, none, none, none, none, none, none, some none, some none, some none, some none, some none, some none, none, none, some none, some none, some none, some none]), .inr (0, 72, []), .inr (0, 20, []), .inr (0, 16, []), .inr (0, 48, []), .inr (0, 60, []), .inr (0, 72, [])]) rfl ?_
    refine zB_aload ok dX12_init_97 0 rfl ?_
    refine zB_bipush (v := 20) ok dX12_init_98 (by decide) ?_
    refine zB_newan (n := 20) (t := 0) 7 rfl ok (by simp) za_int (by decide) (by decide) ((fun j (hj : 7 ≤ j) => by (repeat rw [zup_n1 (show j ≠ _ by omega)]); rfl) _ (Nat.le_refl _)) ⟨Nat.le_of_ble_eq_true rfl, Nat.le_of_ble_eq_true rfl⟩ dX12_init_100 ?_
    refine zB_ks (ks' := [.inl (12, [none, none, none, some (some (1)), some (some (2)), some (some (3)), some (some (4)), some (some (5)), none, none, none, none, none, none, some (some (6)), some none, some none, some none, some none, some none, some none, some none, some none, none, none, none, none, some none, none, some none, none, none, none, none, none, none, none, some none, some none, some none, some none, some none, some none, none, none, some none, some none, some none, some none]), .inr (0, 72, []), .inr (0, 20, []), .inr (0, 16, []), .inr (0, 48, []), .inr (0, 60, []), .inr (0, 72, []), .inr (0, 20, [])]) rfl ?_
    refine zB_putF (ci := 12) (q := 7) ok rfl zc_12 hin_12 tyX12 tyX12_ok nmX12 (s := 15) (by decide) fi_12_56 ⟨rfl, rfl⟩ (tyX12_ok 15 (by decide)) rfl rfl (by decide) dX12_init_102 ?_
    refine zB_ks (ks' := [.inl (12, [none, none, none, some (some (1)), some (some (2)), some (some (3)), some (some (4)), some (some (5)), none, none, none, none, none, none, some (some (6)), some (some (7)), some none, some none, some none, some none, some none, some none, some none, none, none, none, none, some none, none, some none, none, none, none, none, none, none, none, some none, some none, some none, some none, some none, some none, none, none, some none, some none, some none, some none]), .inr (0, 72, []), .inr (0, 20, []), .inr (0, 16, []), .inr (0, 48, []), .inr (0, 60, []), .inr (0, 72, []), .inr (0, 20, [])]) rfl ?_
    refine zB_aload ok dX12_init_105 0 rfl ?_
    refine zB_bipush (v := 16) ok dX12_init_106 (by decide) ?_
    refine zB_newan (n := 16) (t := 0) 8 rfl ok (by simp) za_int (by decide) (by decide) ((fun j (hj : 8 ≤ j) => by (repeat rw [zup_n1 (show j ≠ _ by omega)]); rfl) _ (Nat.le_refl _)) ⟨Nat.le_of_ble_eq_true rfl, Nat.le_of_ble_eq_true rfl⟩ dX12_init_108 ?_
    refine zB_ks (ks' := [.inl (12, [none, none, none, some (some (1)), some (some (2)), some (some (3)), some (some (4)), some (some (5)), none, none, none, none, none, none, some (some (6)), some (some (7)), some none, some none, some none, some none, some none, some none, some none, none, none, none, none, some none, none, some none, none, none, none, none, none, none, none, some none, some none, some none, some none, some none, some none, none, none, some none, some none, some none, some none]), .inr (0, 72, []), .inr (0, 20, []), .inr (0, 16, []), .inr (0, 48, []), .inr (0, 60, []), .inr (0, 72, []), .inr (0, 20, []), .inr (0, 16, [])]) rfl ?_
    refine zB_putF (ci := 12) (q := 8) ok rfl zc_12 hin_12 tyX12 tyX12_ok nmX12 (s := 16) (by decide) fi_12_59 ⟨rfl, rfl⟩ (tyX12_ok 16 (by decide)) rfl rfl (by decide) dX12_init_110 ?_
    refine zB_ks (ks' := [.inl (12, [none, none, none, some (some (1)), some (some (2)), some (some (3)), some (some (4)), some (some (5)), none, none, none, none, none, none, some (some (6)), some (some (7)), some (some (8)), some none, some none, some none, some none, some none, some none, none, none, none, none, some none, none, some none, none, none, none, none, none, none, none, some none, some none, some none, some none, some none, some none, none, none, some none, some none, some none, some none]), .inr (0, 72, []), .inr (0, 20, []), .inr (0, 16, []), .inr (0, 48, []), .inr (0, 60, []), .inr (0, 72, []), .inr (0, 20, []), .inr (0, 16, [])]) rfl ?_
    refine zB_aload ok dX12_init_113 0 rfl ?_
    refine zB_bipush (v := 48) ok dX12_init_114 (by decide) ?_
    refine zB_newan (n := 48) (t := 0) 9 rfl ok (by simp) za_int (by decide) (by decide) ((fun j (hj : 9 ≤ j) => by (repeat rw [zup_n1 (show j ≠ _ by omega)]); rfl) _ (Nat.le_refl _)) ⟨Nat.le_of_ble_eq_true rfl, Nat.le_of_ble_eq_true rfl⟩ dX12_init_116 ?_
    refine zB_ks (ks' := [.inl (12, [none, none, none, some (some (1)), some (some (2)), some (some (3)), some (some (4)), some (some (5)), none, none, none, none, none, none, some (some (6)), some (some (7)), some (some (8)), some none, some none, some none, some none, some none, some none, none, none, none, none, some none, none, some none, none, none, none, none, none, none, none, some none, some none, some none, some none, some none, some none, none, none, some none, some none, some none, some none]), .inr (0, 72, []), .inr (0, 20, []), .inr (0, 16, []), .inr (0, 48, []), .inr (0, 60, []), .inr (0, 72, []), .inr (0, 20, []), .inr (0, 16, []), .inr (0, 48, [])]) rfl ?_
    refine zB_putF (ci := 12) (q := 9) ok rfl zc_12 hin_12 tyX12 tyX12_ok nmX12 (s := 17) (by decide) fi_12_62 ⟨rfl, rfl⟩ (tyX12_ok 17 (by decide)) rfl rfl (by decide) dX12_init_118 ?_
    refine zB_ks (ks' := [.inl (12, [none, none, none, some (some (1)), some (some (2)), some (some (3)), some (some (4)), some (some (5)), none, none, none, none, none, none, some (some (6)), some (some (7)), some (some (8)), some (some (9)), some none, some none, some none, some none, some none, none, none, none, none, some none, none, some none, none, none, none, none, none, none, none, some none, some none, some none, some none, some none, some none, none, none, some none, some none, some none, some none]), .inr (0, 72, []), .inr (0, 20, []), .inr (0, 16, []), .inr (0, 48, []), .inr (0, 60, []), .inr (0, 72, []), .inr (0, 20, []), .inr (0, 16, []), .inr (0, 48, [])]) rfl ?_
    refine zB_aload ok dX12_init_121 0 rfl ?_
    refine zB_bipush (v := 48) ok dX12_init_122 (by decide) ?_
    refine zB_newan (n := 48) (t := 0) 10 rfl ok (by simp) za_int (by decide) (by decide) ((fun j (hj : 10 ≤ j) => by (repeat rw [zup_n1 (show j ≠ _ by omega)]); rfl) _ (Nat.le_refl _)) ⟨Nat.le_of_ble_eq_true rfl, Nat.le_of_ble_eq_true rfl⟩ dX12_init_124 ?_
    refine zB_ks (ks' := [.inl (12, [none, none, none, some (some (1)), some (some (2)), some (some (3)), some (some (4)), some (some (5)), none, none, none, none, none, none, some (some (6)), some (some (7)), some (some (8)), some (some (9)), some none, some none, some none, some none, some none, none, none, none, none, some none, none, some none, none, none, none, none, none, none, none, some none, some none, some none, some none, some none, some none, none, none, some none, some none, some none, some none]), .inr (0, 72, []), .inr (0, 20, []), .inr (0, 16, []), .inr (0, 48, []), .inr (0, 60, []), .inr (0, 72, []), .inr (0, 20, []), .inr (0, 16, []), .inr (0, 48, []), .inr (0, 48, [])]) rfl ?_
    refine zB_putF (ci := 12) (q := 10) ok rfl zc_12 hin_12 tyX12 tyX12_ok nmX12 (s := 18) (by decide) fi_12_65 ⟨rfl, rfl⟩ (tyX12_ok 18 (by decide)) rfl rfl (by decide) dX12_init_126 ?_
    refine zB_ks (ks' := [.inl (12, [none, none, none, some (some (1)), some (some (2)), some (some (3)), some (some (4)), some (some (5)), none, none, none, none, none, none, some (some (6)), some (some (7)), some (some (8)), some (some (9)), some (some (10)), some none, some none, some none, some none, none, none, none, none, some none, none, some none, none, none, none, none, none, none, none, some none, some none, some none, some none, some none, some none, none, none, some none, some none, some none, some none]), .inr (0, 72, []), .inr (0, 20, []), .inr (0, 16, []), .inr (0, 48, []), .inr (0, 60, []), .inr (0, 72, []), .inr (0, 20, []), .inr (0, 16, []), .inr (0, 48, []), .inr (0, 48, [])]) rfl ?_
    refine zB_aload ok dX12_init_129 0 rfl ?_
    refine zB_bipush (v := 60) ok dX12_init_130 (by decide) ?_
    refine zB_newan (n := 60) (t := 0) 11 rfl ok (by simp) za_int (by decide) (by decide) ((fun j (hj : 11 ≤ j) => by (repeat rw [zup_n1 (show j ≠ _ by omega)]); rfl) _ (Nat.le_refl _)) ⟨Nat.le_of_ble_eq_true rfl, Nat.le_of_ble_eq_true rfl⟩ dX12_init_132 ?_
    refine zB_ks (ks' := [.inl (12, [none, none, none, some (some (1)), some (some (2)), some (some (3)), some (some (4)), some (some (5)), none, none, none, none, none, none, some (some (6)), some (some (7)), some (some (8)), some (some (9)), some (some (10)), some none, some none, some none, some none, none, none, none, none, some none, none, some none, none, none, none, none, none, none, none, some none, some none, some none, some none, some none, some none, none, none, some none, some none, some none, some none]), .inr (0, 72, []), .inr (0, 20, []), .inr (0, 16, []), .inr (0, 48, []), .inr (0, 60, []), .inr (0, 72, []), .inr (0, 20, []), .inr (0, 16, []), .inr (0, 48, []), .inr (0, 48, []), .inr (0, 60, [])]) rfl ?_
    refine zB_putF (ci := 12) (q := 11) ok rfl zc_12 hin_12 tyX12 tyX12_ok nmX12 (s := 19) (by decide) fi_12_68 ⟨rfl, rfl⟩ (tyX12_ok 19 (by decide)) rfl rfl (by decide) dX12_init_134 ?_
    refine zB_ks (ks' := [.inl (12, [none, none, none, some (some (1)), some (some (2)), some (some (3)), some (some (4)), some (some (5)), none, none, none, none, none, none, some (some (6)), some (some (7)), some (some (8)), some (some (9)), some (some (10)), some (some (11)), some none, some none, some none, none, none, none, none, some none, none, some none, none, none, none, none, none, none, none, some none, some none, some none, some none, some none, some none, none, none, some none, some none, some none, some none]), .inr (0, 72, []), .inr (0, 20, []), .inr (0, 16, []), .inr (0, 48, []), .inr (0, 60, []), .inr (0, 72, []), .inr (0, 20, []), .inr (0, 16, []), .inr (0, 48, []), .inr (0, 48, []), .inr (0, 60, [])]) rfl ?_
    refine zB_aload ok dX12_init_137 0 rfl ?_
    refine zB_sipush (v := 1607) ok dX12_init_138 (by decide) ?_
    refine zB_newan (n := 1607) (t := 0) 12 rfl ok (by simp) za_int (by decide) (by decide) ((fun j (hj : 12 ≤ j) => by (repeat rw [zup_n1 (show j ≠ _ by omega)]); rfl) _ (Nat.le_refl _)) ⟨Nat.le_of_ble_eq_true rfl, Nat.le_of_ble_eq_true rfl⟩ dX12_init_141 ?_
    refine zB_ks (ks' := [.inl (12, [none, none, none, some (some (1)), some (some (2)), some (some (3)), some (some (4)), some (some (5)), none, none, none, none, none, none, some (some (6)), some (some (7)), some (some (8)), some (some (9)), some (some (10)), some (some (11)), some none, some none, some none, none, none, none, none, some none, none, some none, none, none, none, none, none, none, none, some none, some none, some none, some none, some none, some none, none, none, some none, some none, some none, some none]), .inr (0, 72, []), .inr (0, 20, []), .inr (0, 16, []), .inr (0, 48, []), .inr (0, 60, []), .inr (0, 72, []), .inr (0, 20, []), .inr (0, 16, []), .inr (0, 48, []), .inr (0, 48, []), .inr (0, 60, []), .inr (0, 1607, [])]) rfl ?_
    refine zB_putF (ci := 12) (q := 12) ok rfl zc_12 hin_12 tyX12 tyX12_ok nmX12 (s := 20) (by decide) fi_12_71 ⟨rfl, rfl⟩ (tyX12_ok 20 (by decide)) rfl rfl (by decide) dX12_init_143 ?_
    refine zB_ks (ks' := [.inl (12, [none, none, none, some (some (1)), some (some (2)), some (some (3)), some (some (4)), some (some (5)), none, none, none, none, none, none, some (some (6)), some (some (7)), some (some (8)), some (some (9)), some (some (10)), some (some (11)), some (some (12)), some none, some none, none, none, none, none, some none, none, some none, none, none, none, none, none, none, none, some none, some none, some none, some none, some none, some none, none, none, some none, some none, some none, some none]), .inr (0, 72, []), .inr (0, 20, []), .inr (0, 16, []), .inr (0, 48, []), .inr (0, 60, []), .inr (0, 72, []), .inr (0, 20, []), .inr (0, 16, []), .inr (0, 48, []), .inr (0, 48, []), .inr (0, 60, []), .inr (0, 1607, [])]) rfl ?_
    refine zB_aload ok dX12_init_146 0 rfl ?_
    refine zB_sipush (v := 205) ok dX12_init_147 (by decide) ?_
    refine zB_newan (n := 205) (t := 0) 13 rfl ok (by simp) za_int (by decide) (by decide) ((fun j (hj : 13 ≤ j) => by (repeat rw [zup_n1 (show j ≠ _ by omega)]); rfl) _ (Nat.le_refl _)) ⟨Nat.le_of_ble_eq_true rfl, Nat.le_of_ble_eq_true rfl⟩ dX12_init_150 ?_
    refine zB_ks (ks' := [.inl (12, [none, none, none, some (some (1)), some (some (2)), some (some (3)), some (some (4)), some (some (5)), none, none, none, none, none, none, some (some (6)), some (some (7)), some (some (8)), some (some (9)), some (some (10)), some (some (11)), some (some (12)), some none, some none, none, none, none, none, some none, none, some none, none, none, none, none, none, none, none, some none, some none, some none, some none, some none, some none, none, none, some none, some none, some none, some none]), .inr (0, 72, []), .inr (0, 20, []), .inr (0, 16, []), .inr (0, 48, []), .inr (0, 60, []), .inr (0, 72, []), .inr (0, 20, []), .inr (0, 16, []), .inr (0, 48, []), .inr (0, 48, []), .inr (0, 60, []), .inr (0, 1607, []), .inr (0, 205, [])]) rfl ?_
    refine zB_putF (ci := 12) (q := 13) ok rfl zc_12 hin_12 tyX12 tyX12_ok nmX12 (s := 21) (by decide) fi_12_74 ⟨rfl, rfl⟩ (tyX12_ok 21 (by decide)) rfl rfl (by decide) dX12_init_152 ?_
    refine zB_ks (ks' := [.inl (12, [none, none, none, some (some (1)), some (some (2)), some (some (3)), some (some (4)), some (some (5)), none, none, none, none, none, none, some (some (6)), some (some (7)), some (some (8)), some (some (9)), some (some (10)), some (some (11)), some (some (12)), some (some (13)), some none, none, none, none, none, some none, none, some none, none, none, none, none, none, none, none, some none, some none, some none, some none, some none, some none, none, none, some none, some none, some none, some none]), .inr (0, 72, []), .inr (0, 20, []), .inr (0, 16, []), .inr (0, 48, []), .inr (0, 60, []), .inr (0, 72, []), .inr (0, 20, []), .inr (0, 16, []), .inr (0, 48, []), .inr (0, 48, []), .inr (0, 60, []), .inr (0, 1607, []), .inr (0, 205, [])]) rfl ?_
    refine zB_aload ok dX12_init_155 0 rfl ?_
    refine zB_sipush (v := 32140) ok dX12_init_156 (by decide) ?_
    refine zB_newan (n := 32140) (t := 0) 14 rfl ok (by simp) za_int (by decide) (by decide) ((fun j (hj : 14 ≤ j) => by (repeat rw [zup_n1 (show j ≠ _ by omega)]); rfl) _ (Nat.le_refl _)) ⟨Nat.le_of_ble_eq_true rfl, Nat.le_of_ble_eq_true rfl⟩ dX12_init_159 ?_
    refine zB_ks (ks' := [.inl (12, [none, none, none, some (some (1)), some (some (2)), some (some (3)), some (some (4)), some (some (5)), none, none, none, none, none, none, some (some (6)), some (some (7)), some (some (8)), some (some (9)), some (some (10)), some (some (11)), some (some (12)), some (some (13)), some none, none, none, none, none, some none, none, some none, none, none, none, none, none, none, none, some none, some none, some none, some none, some none, some none, none, none, some none, some none, some none, some none]), .inr (0, 72, []), .inr (0, 20, []), .inr (0, 16, []), .inr (0, 48, []), .inr (0, 60, []), .inr (0, 72, []), .inr (0, 20, []), .inr (0, 16, []), .inr (0, 48, []), .inr (0, 48, []), .inr (0, 60, []), .inr (0, 1607, []), .inr (0, 205, []), .inr (0, 32140, [])]) rfl ?_
    refine zB_putF (ci := 12) (q := 14) ok rfl zc_12 hin_12 tyX12 tyX12_ok nmX12 (s := 22) (by decide) fi_12_77 ⟨rfl, rfl⟩ (tyX12_ok 22 (by decide)) rfl rfl (by decide) dX12_init_161 ?_
    refine zB_ks (ks' := [.inl (12, [none, none, none, some (some (1)), some (some (2)), some (some (3)), some (some (4)), some (some (5)), none, none, none, none, none, none, some (some (6)), some (some (7)), some (some (8)), some (some (9)), some (some (10)), some (some (11)), some (some (12)), some (some (13)), some (some (14)), none, none, none, none, some none, none, some none, none, none, none, none, none, none, none, some none, some none, some none, some none, some none, some none, none, none, some none, some none, some none, some none]), .inr (0, 72, []), .inr (0, 20, []), .inr (0, 16, []), .inr (0, 48, []), .inr (0, 60, []), .inr (0, 72, []), .inr (0, 20, []), .inr (0, 16, []), .inr (0, 48, []), .inr (0, 48, []), .inr (0, 60, []), .inr (0, 1607, []), .inr (0, 205, []), .inr (0, 32140, [])]) rfl ?_
    refine zB_aload ok dX12_init_164 0 rfl ?_
    refine zB_iconst (v := 0) ok dX12_init_165 (by decide) ?_
    refine zB_puti (ci := 12) ok rfl zc_12 hin_12 tyX12 tyX12_ok nmX12 (s := 23) (by decide) fi_12_80 rfl (tyX12_ok 23 (by decide)) rfl rfl rfl rfl dX12_init_166 ?_
    refine zB_aload ok dX12_init_169 0 rfl ?_
    refine zB_iconst (v := 1) ok dX12_init_170 (by decide) ?_
    refine zB_puti (ci := 12) ok rfl zc_12 hin_12 tyX12 tyX12_ok nmX12 (s := 24) (by decide) fi_12_83 rfl (tyX12_ok 24 (by decide)) rfl rfl rfl rfl dX12_init_171 ?_
    refine zB_aload ok dX12_init_174 0 rfl ?_
    refine zB_iconst (v := 0) ok dX12_init_175 (by decide) ?_
    refine zB_puti (ci := 12) ok rfl zc_12 hin_12 tyX12 tyX12_ok nmX12 (s := 25) (by decide) fi_12_86 rfl (tyX12_ok 25 (by decide)) rfl rfl rfl rfl dX12_init_176 ?_
    refine zB_aload ok dX12_init_179 0 rfl ?_
    refine zB_iconst (v := 0) ok dX12_init_180 (by decide) ?_
    refine zB_puti (ci := 12) ok rfl zc_12 hin_12 tyX12 tyX12_ok nmX12 (s := 26) (by decide) fi_12_90 rfl (tyX12_ok 26 (by decide)) rfl rfl rfl rfl dX12_init_181 ?_
    refine zB_aload ok dX12_init_184 0 rfl ?_
    refine zB_sipush (v := 1600) ok dX12_init_185 (by decide) ?_
    refine zB_newan (n := 1600) (t := 0) 15 rfl ok (by simp) za_int (by decide) (by decide) ((fun j (hj : 15 ≤ j) => by (repeat rw [zup_n1 (show j ≠ _ by omega)]); rfl) _ (Nat.le_refl _)) ⟨Nat.le_of_ble_eq_true rfl, Nat.le_of_ble_eq_true rfl⟩ dX12_init_188 ?_
    refine zB_ks (ks' := [.inl (12, [none, none, none, some (some (1)), some (some (2)), some (some (3)), some (some (4)), some (some (5)), none, none, none, none, none, none, some (some (6)), some (some (7)), some (some (8)), some (some (9)), some (some (10)), some (some (11)), some (some (12)), some (some (13)), some (some (14)), none, none, none, none, some none, none, some none, none, none, none, none, none, none, none, some none, some none, some none, some none, some none, some none, none, none, some none, some none, some none, some none]), .inr (0, 72, []), .inr (0, 20, []), .inr (0, 16, []), .inr (0, 48, []), .inr (0, 60, []), .inr (0, 72, []), .inr (0, 20, []), .inr (0, 16, []), .inr (0, 48, []), .inr (0, 48, []), .inr (0, 60, []), .inr (0, 1607, []), .inr (0, 205, []), .inr (0, 32140, []), .inr (0, 1600, [])]) rfl ?_
    refine zB_putF (ci := 12) (q := 15) ok rfl zc_12 hin_12 tyX12 tyX12_ok nmX12 (s := 27) (by decide) fi_12_93 ⟨rfl, rfl⟩ (tyX12_ok 27 (by decide)) rfl rfl (by decide) dX12_init_190 ?_
    refine zB_ks (ks' := [.inl (12, [none, none, none, some (some (1)), some (some (2)), some (some (3)), some (some (4)), some (some (5)), none, none, none, none, none, none, some (some (6)), some (some (7)), some (some (8)), some (some (9)), some (some (10)), some (some (11)), some (some (12)), some (some (13)), some (some (14)), none, none, none, none, some (some (15)), none, some none, none, none, none, none, none, none, none, some none, some none, some none, some none, some none, some none, none, none, some none, some none, some none, some none]), .inr (0, 72, []), .inr (0, 20, []), .inr (0, 16, []), .inr (0, 48, []), .inr (0, 60, []), .inr (0, 72, []), .inr (0, 20, []), .inr (0, 16, []), .inr (0, 48, []), .inr (0, 48, []), .inr (0, 60, []), .inr (0, 1607, []), .inr (0, 205, []), .inr (0, 32140, []), .inr (0, 1600, [])]) rfl ?_
    refine zB_aload ok dX12_init_193 0 rfl ?_
    refine zB_iconst (v := 0) ok dX12_init_194 (by decide) ?_
    refine zB_puti (ci := 12) ok rfl zc_12 hin_12 tyX12 tyX12_ok nmX12 (s := 28) (by decide) fi_12_96 rfl (tyX12_ok 28 (by decide)) rfl rfl rfl rfl dX12_init_195 ?_
    refine zB_aload ok dX12_init_198 0 rfl ?_
    refine zB_bipush (v := 6) ok dX12_init_199 (by decide) ?_
    refine zB_newan (n := 6) (t := 0) 16 rfl ok (by simp) za_int (by decide) (by decide) ((fun j (hj : 16 ≤ j) => by (repeat rw [zup_n1 (show j ≠ _ by omega)]); rfl) _ (Nat.le_refl _)) ⟨Nat.le_of_ble_eq_true rfl, Nat.le_of_ble_eq_true rfl⟩ dX12_init_201 ?_
    refine zB_ks (ks' := [.inl (12, [none, none, none, some (some (1)), some (some (2)), some (some (3)), some (some (4)), some (some (5)), none, none, none, none, none, none, some (some (6)), some (some (7)), some (some (8)), some (some (9)), some (some (10)), some (some (11)), some (some (12)), some (some (13)), some (some (14)), none, none, none, none, some (some (15)), none, some none, none, none, none, none, none, none, none, some none, some none, some none, some none, some none, some none, none, none, some none, some none, some none, some none]), .inr (0, 72, []), .inr (0, 20, []), .inr (0, 16, []), .inr (0, 48, []), .inr (0, 60, []), .inr (0, 72, []), .inr (0, 20, []), .inr (0, 16, []), .inr (0, 48, []), .inr (0, 48, []), .inr (0, 60, []), .inr (0, 1607, []), .inr (0, 205, []), .inr (0, 32140, []), .inr (0, 1600, []), .inr (0, 6, [])]) rfl ?_
    refine zB_putF (ci := 12) (q := 16) ok rfl zc_12 hin_12 tyX12 tyX12_ok nmX12 (s := 29) (by decide) fi_12_99 ⟨rfl, rfl⟩ (tyX12_ok 29 (by decide)) rfl rfl (by decide) dX12_init_203 ?_
    refine zB_ks (ks' := [.inl (12, [none, none, none, some (some (1)), some (some (2)), some (some (3)), some (some (4)), some (some (5)), none, none, none, none, none, none, some (some (6)), some (some (7)), some (some (8)), some (some (9)), some (some (10)), some (some (11)), some (some (12)), some (some (13)), some (some (14)), none, none, none, none, some (some (15)), none, some (some (16)), none, none, none, none, none, none, none, some none, some none, some none, some none, some none, some none, none, none, some none, some none, some none, some none]), .inr (0, 72, []), .inr (0, 20, []), .inr (0, 16, []), .inr (0, 48, []), .inr (0, 60, []), .inr (0, 72, []), .inr (0, 20, []), .inr (0, 16, []), .inr (0, 48, []), .inr (0, 48, []), .inr (0, 60, []), .inr (0, 1607, []), .inr (0, 205, []), .inr (0, 32140, []), .inr (0, 1600, []), .inr (0, 6, [])]) rfl ?_
    refine zB_aload ok dX12_init_206 0 rfl ?_
    refine zB_iconst (v := 0) ok dX12_init_207 (by decide) ?_
    refine zB_puti (ci := 12) ok rfl zc_12 hin_12 tyX12 tyX12_ok nmX12 (s := 30) (by decide) fi_12_102 rfl (tyX12_ok 30 (by decide)) rfl rfl rfl rfl dX12_init_208 ?_
    refine zB_aload ok dX12_init_211 0 rfl ?_
    refine zB_iconst (v := (-1)) ok dX12_init_212 (by decide) ?_
    refine zB_puti (ci := 12) ok rfl zc_12 hin_12 tyX12 tyX12_ok nmX12 (s := 31) (by decide) fi_12_105 rfl (tyX12_ok 31 (by decide)) rfl rfl rfl rfl dX12_init_213 ?_
    refine zB_aload ok dX12_init_216 0 rfl ?_
    refine zB_iconst (v := 0) ok dX12_init_217 (by decide) ?_
    refine zB_puti (ci := 12) ok rfl zc_12 hin_12 tyX12 tyX12_ok nmX12 (s := 32) (by decide) fi_12_108 rfl (tyX12_ok 32 (by decide)) rfl rfl rfl rfl dX12_init_218 ?_
    refine zB_aload ok dX12_init_221 0 rfl ?_
    refine zB_iconst (v := 0) ok dX12_init_222 (by decide) ?_
    refine zB_puti (ci := 12) ok rfl zc_12 hin_12 tyX12 tyX12_ok nmX12 (s := 33) (by decide) fi_12_111 rfl (tyX12_ok 33 (by decide)) rfl rfl rfl rfl dX12_init_223 ?_
    refine zB_aload ok dX12_init_226 0 rfl ?_
    refine zB_iconst (v := 0) ok dX12_init_227 (by decide) ?_
    refine zB_puti (ci := 12) ok rfl zc_12 hin_12 tyX12 tyX12_ok nmX12 (s := 34) (by decide) fi_12_114 rfl (tyX12_ok 34 (by decide)) rfl rfl rfl rfl dX12_init_228 ?_
    refine zB_aload ok dX12_init_231 0 rfl ?_
    refine zB_iconst (v := 0) ok dX12_init_232 (by decide) ?_
    refine zB_puti (ci := 12) ok rfl zc_12 hin_12 tyX12 tyX12_ok nmX12 (s := 35) (by decide) fi_12_117 rfl (tyX12_ok 35 (by decide)) rfl rfl rfl rfl dX12_init_233 ?_
    refine zB_aload ok dX12_init_236 0 rfl ?_
    refine zB_iconst (v := (-1)) ok dX12_init_237 (by decide) ?_
    refine zB_puti (ci := 12) ok rfl zc_12 hin_12 tyX12 tyX12_ok nmX12 (s := 36) (by decide) fi_12_120 rfl (tyX12_ok 36 (by decide)) rfl rfl rfl rfl dX12_init_238 ?_
    refine zB_aload ok dX12_init_241 0 rfl ?_
    refine zB_bipush (v := 104) ok dX12_init_242 (by decide) ?_
    refine zB_newan (n := 104) (t := 0) 17 rfl ok (by simp) za_int (by decide) (by decide) ((fun j (hj : 17 ≤ j) => by (repeat rw [zup_n1 (show j ≠ _ by omega)]); rfl) _ (Nat.le_refl _)) ⟨Nat.le_of_ble_eq_true rfl, Nat.le_of_ble_eq_true rfl⟩ dX12_init_244 ?_
    refine zB_ks (ks' := [.inl (12, [none, none, none, some (some (1)), some (some (2)), some (some (3)), some (some (4)), some (some (5)), none, none, none, none, none, none, some (some (6)), some (some (7)), some (some (8)), some (some (9)), some (some (10)), some (some (11)), some (some (12)), some (some (13)), some (some (14)), none, none, none, none, some (some (15)), none, some (some (16)), none, none, none, none, none, none, none, some none, some none, some none, some none, some none, some none, none, none, some none, some none, some none, some none]), .inr (0, 72, []), .inr (0, 20, []), .inr (0, 16, []), .inr (0, 48, []), .inr (0, 60, []), .inr (0, 72, []), .inr (0, 20, []), .inr (0, 16, []), .inr (0, 48, []), .inr (0, 48, []), .inr (0, 60, []), .inr (0, 1607, []), .inr (0, 205, []), .inr (0, 32140, []), .inr (0, 1600, []), .inr (0, 6, []), .inr (0, 104, [])]) rfl ?_
    refine zB_dup ok dX12_init_246 rfl ?_
    refine zB_iconst (v := 0) ok dX12_init_247 (by decide) ?_
    refine zB_iconst (v := 3) ok dX12_init_248 (by decide) ?_
    refine zB_iast (j := 17) ok rfl (by decide) rfl dX12_init_249 ?_
    refine zB_dup ok dX12_init_250 rfl ?_
    refine zB_iconst (v := 1) ok dX12_init_251 (by decide) ?_
    refine zB_iconst (v := 1) ok dX12_init_252 (by decide) ?_
    refine zB_iast (j := 17) ok rfl (by decide) rfl dX12_init_253 ?_
    refine zB_dup ok dX12_init_254 rfl ?_
    refine zB_iconst (v := 2) ok dX12_init_255 (by decide) ?_
    refine zB_bipush (v := 14) ok dX12_init_256 (by decide) ?_
    refine zB_iast (j := 17) ok rfl (by decide) rfl dX12_init_258 ?_
    refine zB_dup ok dX12_init_259 rfl ?_
    refine zB_iconst (v := 3) ok dX12_init_260 (by decide) ?_
    refine zB_iconst (v := 1) ok dX12_init_261 (by decide) ?_
    refine zB_iast (j := 17) ok rfl (by decide) rfl dX12_init_262 ?_
    refine zB_dup ok dX12_init_263 rfl ?_
    refine zB_iconst (v := 4) ok dX12_init_264 (by decide) ?_
    refine zB_bipush (v := 12) ok dX12_init_265 (by decide) ?_
    refine zB_iast (j := 17) ok rfl (by decide) rfl dX12_init_267 ?_
    refine zB_dup ok dX12_init_268 rfl ?_
    refine zB_iconst (v := 5) ok dX12_init_269 (by decide) ?_
    refine zB_iconst (v := 0) ok dX12_init_270 (by decide) ?_
    refine zB_iast (j := 17) ok rfl (by decide) rfl dX12_init_271 ?_
    refine zB_dup ok dX12_init_272 rfl ?_
    refine zB_bipush (v := 6) ok dX12_init_273 (by decide) ?_
    refine zB_bipush (v := 7) ok dX12_init_275 (by decide) ?_
    refine zB_iast (j := 17) ok rfl (by decide) rfl dX12_init_277 ?_
    refine zB_dup ok dX12_init_278 rfl ?_
    refine zB_bipush (v := 7) ok dX12_init_279 (by decide) ?_
    refine zB_bipush (v := 9) ok dX12_init_281 (by decide) ?_
    refine zB_iast (j := 17) ok rfl (by decide) rfl dX12_init_283 ?_
    refine zB_dup ok dX12_init_284 rfl ?_
    refine zB_bipush (v := 8) ok dX12_init_285 (by decide) ?_
    refine zB_bipush (v := 22) ok dX12_init_287 (by decide) ?_
    refine zB_iast (j := 17) ok rfl (by decide) rfl dX12_init_289 ?_
    refine zB_dup ok dX12_init_290 rfl ?_
    refine zB_bipush (v := 9) ok dX12_init_291 (by decide) ?_
    refine zB_iconst (v := 5) ok dX12_init_293 (by decide) ?_
    refine zB_iast (j := 17) ok rfl (by decide) rfl dX12_init_294 ?_
    refine zB_dup ok dX12_init_295 rfl ?_
    refine zB_bipush (v := 10) ok dX12_init_296 (by decide) ?_
    refine zB_bipush (v := 19) ok dX12_init_298 (by decide) ?_
    refine zB_iast (j := 17) ok rfl (by decide) rfl dX12_init_300 ?_
    refine zB_dup ok dX12_init_301 rfl ?_
    refine zB_bipush (v := 11) ok dX12_init_302 (by decide) ?_
    refine zB_iconst (v := 0) ok dX12_init_304 (by decide) ?_
    refine zB_iast (j := 17) ok rfl (by decide) rfl dX12_init_305 ?_
    refine zB_dup ok dX12_init_306 rfl ?_
    refine zB_bipush (v := 12) ok dX12_init_307 (by decide) ?_
    refine zB_bipush (v := 11) ok dX12_init_309 (by decide) ?_
    refine zB_iast (j := 17) ok rfl (by decide) rfl dX12_init_311 ?_
    refine zB_dup ok dX12_init_312 rfl ?_
    refine zB_bipush (v := 13) ok dX12_init_313 (by decide) ?_
    refine zB_iconst (v := 5) ok dX12_init_315 (by decide) ?_
    refine zB_iast (j := 17) ok rfl (by decide) rfl dX12_init_316 ?_
    refine zB_dup ok dX12_init_317 rfl ?_
    refine zB_bipush (v := 14) ok dX12_init_318 (by decide) ?_
    refine zB_iconst (v := 5) ok dX12_init_320 (by decide) ?_
    refine zB_iast (j := 17) ok rfl (by decide) rfl dX12_init_321 ?_
    refine zB_dup ok dX12_init_322 rfl ?_
    refine zB_bipush (v := 15) ok dX12_init_323 (by decide) ?_
    refine zB_bipush (v := 16) ok dX12_init_325 (by decide) ?_
    refine zB_iast (j := 17) ok rfl (by decide) rfl dX12_init_327 ?_
    refine zB_dup ok dX12_init_328 rfl ?_
    refine zB_bipush (v := 16) ok dX12_init_329 (by decide) ?_
    refine zB_iconst (v := 0) ok dX12_init_331 (by decide) ?_
    refine zB_iast (j := 17) ok rfl (by decide) rfl dX12_init_332 ?_
    refine zB_dup ok dX12_init_333 rfl ?_
    refine zB_bipush (v := 17) ok dX12_init_334 (by decide) ?_
    refine zB_bipush (v := 16) ok dX12_init_336 (by decide) ?_
    refine zB_iast (j := 17) ok rfl (by decide) rfl dX12_init_338 ?_
    refine zB_dup ok dX12_init_339 rfl ?_
    refine zB_bipush (v := 18) ok dX12_init_340 (by decide) ?_
    refine zB_bipush (v := 15) ok dX12_init_342 (by decide) ?_
    refine zB_iast (j := 17) ok rfl (by decide) rfl dX12_init_344 ?_
    refine zB_dup ok dX12_init_345 rfl ?_
    refine zB_bipush (v := 19) ok dX12_init_346 (by decide) ?_
    refine zB_bipush (v := 15) ok dX12_init_348 (by decide) ?_
    refine zB_iast (j := 17) ok rfl (by decide) rfl dX12_init_350 ?_
    refine zB_dup ok dX12_init_351 rfl ?_
    refine zB_bipush (v := 20) ok dX12_init_352 (by decide) ?_
    refine zB_bipush (v := 12) ok dX12_init_354 (by decide) ?_
    refine zB_iast (j := 17) ok rfl (by decide) rfl dX12_init_356 ?_
    refine zB_dup ok dX12_init_357 rfl ?_
    refine zB_bipush (v := 21) ok dX12_init_358 (by decide) ?_
    refine zB_iconst (v := 0) ok dX12_init_360 (by decide) ?_
    refine zB_iast (j := 17) ok rfl (by decide) rfl dX12_init_361 ?_
    refine zB_dup ok dX12_init_362 rfl ?_
    refine zB_bipush (v := 22) ok dX12_init_363 (by decide) ?_
    refine zB_bipush (v := 8) ok dX12_init_365 (by decide) ?_
    refine zB_iast (j := 17) ok rfl (by decide) rfl dX12_init_367 ?_
    refine zB_dup ok dX12_init_368 rfl ?_
    refine zB_bipush (v := 23) ok dX12_init_369 (by decide) ?_
    refine zB_bipush (v := 15) ok dX12_init_371 (by decide) ?_
    refine zB_iast (j := 17) ok rfl (by decide) rfl dX12_init_373 ?_
    refine zB_dup ok dX12_init_374 rfl ?_
    refine zB_bipush (v := 24) ok dX12_init_375 (by decide) ?_
    refine zB_bipush (v := 12) ok dX12_init_377 (by decide) ?_
    refine zB_iast (j := 17) ok rfl (by decide) rfl dX12_init_379 ?_
    refine zB_dup ok dX12_init_380 rfl ?_
    refine zB_bipush (v := 25) ok dX12_init_381 (by decide) ?_
    refine zB_iconst (v := 4) ok dX12_init_383 (by decide) ?_
    refine zB_iast (j := 17) ok rfl (by decide) rfl dX12_init_384 ?_
    refine zB_dup ok dX12_init_385 rfl ?_
    refine zB_bipush (v := 26) ok dX12_init_386 (by decide) ?_
    refine zB_bipush (v := 19) ok dX12_init_388 (by decide) ?_
    refine zB_iast (j := 17) ok rfl (by decide) rfl dX12_init_390 ?_
    refine zB_dup ok dX12_init_391 rfl ?_
    refine zB_bipush (v := 27) ok dX12_init_392 (by decide) ?_
    refine zB_iconst (v := 0) ok dX12_init_394 (by decide) ?_
    refine zB_iast (j := 17) ok rfl (by decide) rfl dX12_init_395 ?_
    refine zB_dup ok dX12_init_396 rfl ?_
    refine zB_bipush (v := 28) ok dX12_init_397 (by decide) ?_
    refine zB_bipush (v := 12) ok dX12_init_399 (by decide) ?_
    refine zB_iast (j := 17) ok rfl (by decide) rfl dX12_init_401 ?_
    refine zB_dup ok dX12_init_402 rfl ?_
    refine zB_bipush (v := 29) ok dX12_init_403 (by decide) ?_
    refine zB_bipush (v := 15) ok dX12_init_405 (by decide) ?_
    refine zB_iast (j := 17) ok rfl (by decide) rfl dX12_init_407 ?_
    refine zB_dup ok dX12_init_408 rfl ?_
    refine zB_bipush (v := 30) ok dX12_init_409 (by decide) ?_
    refine zB_bipush (v := 23) ok dX12_init_411 (by decide) ?_
    refine zB_iast (j := 17) ok rfl (by decide) rfl dX12_init_413 ?_
    refine zB_dup ok dX12_init_414 rfl ?_
    refine zB_bipush (v := 31) ok dX12_init_415 (by decide) ?_
    refine zB_iconst (v := 0) ok dX12_init_417 (by decide) ?_
    refine zB_iast (j := 17) ok rfl (by decide) rfl dX12_init_418 ?_
    refine zB_dup ok dX12_init_419 rfl ?_
    refine zB_bipush (v := 32) ok dX12_init_420 (by decide) ?_
    refine zB_bipush (v := 8) ok dX12_init_422 (by decide) ?_
    refine zB_iast (j := 17) ok rfl (by decide) rfl dX12_init_424 ?_
    refine zB_dup ok dX12_init_425 rfl ?_
    refine zB_bipush (v := 33) ok dX12_init_426 (by decide) ?_
    refine zB_bipush (v := 9) ok dX12_init_428 (by decide) ?_
    refine zB_iast (j := 17) ok rfl (by decide) rfl dX12_init_430 ?_
    refine zB_dup ok dX12_init_431 rfl ?_
    refine zB_bipush (v := 34) ok dX12_init_432 (by decide) ?_
    refine zB_bipush (v := 7) ok dX12_init_434 (by decide) ?_
    refine zB_iast (j := 17) ok rfl (by decide) rfl dX12_init_436 ?_
    refine zB_dup ok dX12_init_437 rfl ?_
    refine zB_bipush (v := 35) ok dX12_init_438 (by decide) ?_
    refine zB_bipush (v := 8) ok dX12_init_440 (by decide) ?_
    refine zB_iast (j := 17) ok rfl (by decide) rfl dX12_init_442 ?_
    refine zB_dup ok dX12_init_443 rfl ?_
    refine zB_bipush (v := 36) ok dX12_init_444 (by decide) ?_
    refine zB_iconst (v := 0) ok dX12_init_446 (by decide) ?_
    refine zB_iast (j := 17) ok rfl (by decide) rfl dX12_init_447 ?_
    refine zB_dup ok dX12_init_448 rfl ?_
    refine zB_bipush (v := 37) ok dX12_init_449 (by decide) ?_
    refine zB_iconst (v := 3) ok dX12_init_451 (by decide) ?_
    refine zB_iast (j := 17) ok rfl (by decide) rfl dX12_init_452 ?_
    refine zB_dup ok dX12_init_453 rfl ?_
    refine zB_bipush (v := 38) ok dX12_init_454 (by decide) ?_
    refine zB_bipush (v := 18) ok dX12_init_456 (by decide) ?_
    refine zB_iast (j := 17) ok rfl (by decide) rfl dX12_init_458 ?_
    refine zB_dup ok dX12_init_459 rfl ?_
    refine zB_bipush (v := 39) ok dX12_init_460 (by decide) ?_
    refine zB_iconst (v := 5) ok dX12_init_462 (by decide) ?_
    refine zB_iast (j := 17) ok rfl (by decide) rfl dX12_init_463 ?_
    refine zB_dup ok dX12_init_464 rfl ?_
    refine zB_bipush (v := 40) ok dX12_init_465 (by decide) ?_
    refine zB_bipush (v := 19) ok dX12_init_467 (by decide) ?_
    refine zB_iast (j := 17) ok rfl (by decide) rfl dX12_init_469 ?_
    refine zB_dup ok dX12_init_470 rfl ?_
    refine zB_bipush (v := 41) ok dX12_init_471 (by decide) ?_
    refine zB_bipush (v := 20) ok dX12_init_473 (by decide) ?_
    refine zB_iast (j := 17) ok rfl (by decide) rfl dX12_init_475 ?_
    refine zB_dup ok dX12_init_476 rfl ?_
    refine zB_bipush (v := 42) ok dX12_init_477 (by decide) ?_
    refine zB_iconst (v := 0) ok dX12_init_479 (by decide) ?_
    refine zB_iast (j := 17) ok rfl (by decide) rfl dX12_init_480 ?_
    refine zB_dup ok dX12_init_481 rfl ?_
    refine zB_bipush (v := 43) ok dX12_init_482 (by decide) ?_
    refine zB_iconst (v := 4) ok dX12_init_484 (by decide) ?_
    refine zB_iast (j := 17) ok rfl (by decide) rfl dX12_init_485 ?_
    refine zB_dup ok dX12_init_486 rfl ?_
    refine zB_bipush (v := 44) ok dX12_init_487 (by decide) ?_
    refine zB_iconst (v := 5) ok dX12_init_489 (by decide) ?_
    refine zB_iast (j := 17) ok rfl (by decide) rfl dX12_init_490 ?_
    refine zB_dup ok dX12_init_491 rfl ?_
    refine zB_bipush (v := 45) ok dX12_init_492 (by decide) ?_
    refine zB_bipush (v := 12) ok dX12_init_494 (by decide) ?_
    refine zB_iast (j := 17) ok rfl (by decide) rfl dX12_init_496 ?_
    refine zB_dup ok dX12_init_497 rfl ?_
    refine zB_bipush (v := 46) ok dX12_init_498 (by decide) ?_
    refine zB_iconst (v := 1) ok dX12_init_500 (by decide) ?_
    refine zB_iast (j := 17) ok rfl (by decide) rfl dX12_init_501 ?_
    refine zB_dup ok dX12_init_502 rfl ?_
    refine zB_bipush (v := 47) ok dX12_init_503 (by decide) ?_
    refine zB_bipush (v := 25) ok dX12_init_505 (by decide) ?_
    refine zB_iast (j := 17) ok rfl (by decide) rfl dX12_init_507 ?_
    refine zB_dup ok dX12_init_508 rfl ?_
    refine zB_bipush (v := 48) ok dX12_init_509 (by decide) ?_
    refine zB_iconst (v := 0) ok dX12_init_511 (by decide) ?_
    refine zB_iast (j := 17) ok rfl (by decide) rfl dX12_init_512 ?_
    refine zB_dup ok dX12_init_513 rfl ?_
    refine zB_bipush (v := 49) ok dX12_init_514 (by decide) ?_
    refine zB_bipush (v := 12) ok dX12_init_516 (by decide) ?_
    refine zB_iast (j := 17) ok rfl (by decide) rfl dX12_init_518 ?_
    refine zB_dup ok dX12_init_519 rfl ?_
    refine zB_bipush (v := 50) ok dX12_init_520 (by decide) ?_
    refine zB_iconst (v := 5) ok dX12_init_522 (by decide) ?_
    refine zB_iast (j := 17) ok rfl (by decide) rfl dX12_init_523 ?_
    refine zB_dup ok dX12_init_524 rfl ?_
    refine zB_bipush (v := 51) ok dX12_init_525 (by decide) ?_
    refine zB_iconst (v := 1) ok dX12_init_527 (by decide) ?_
    refine zB_iast (j := 17) ok rfl (by decide) rfl dX12_init_528 ?_
    refine zB_dup ok dX12_init_529 rfl ?_
    refine zB_bipush (v := 52) ok dX12_init_530 (by decide) ?_
    refine zB_bipush (v := 11) ok dX12_init_532 (by decide) ?_
    refine zB_iast (j := 17) ok rfl (by decide) rfl dX12_init_534 ?_
    refine zB_dup ok dX12_init_535 rfl ?_
    refine zB_bipush (v := 53) ok dX12_init_536 (by decide) ?_
    refine zB_iconst (v := 0) ok dX12_init_538 (by decide) ?_
    refine zB_iast (j := 17) ok rfl (by decide) rfl dX12_init_539 ?_
    refine zB_dup ok dX12_init_540 rfl ?_
    refine zB_bipush (v := 54) ok dX12_init_541 (by decide) ?_
    refine zB_bipush (v := 7) ok dX12_init_543 (by decide) ?_
    refine zB_iast (j := 17) ok rfl (by decide) rfl dX12_init_545 ?_
    refine zB_dup ok dX12_init_546 rfl ?_
    refine zB_bipush (v := 55) ok dX12_init_547 (by decide) ?_
    refine zB_iconst (v := 1) ok dX12_init_549 (by decide) ?_
    refine zB_iast (j := 17) ok rfl (by decide) rfl dX12_init_550 ?_
    refine zB_dup ok dX12_init_551 rfl ?_
    refine zB_bipush (v := 56) ok dX12_init_552 (by decide) ?_
    refine zB_bipush (v := 20) ok dX12_init_554 (by decide) ?_
    refine zB_iast (j := 17) ok rfl (by decide) rfl dX12_init_556 ?_
    refine zB_dup ok dX12_init_557 rfl ?_
    refine zB_bipush (v := 57) ok dX12_init_558 (by decide) ?_
    refine zB_iconst (v := 5) ok dX12_init_560 (by decide) ?_
    refine zB_iast (j := 17) ok rfl (by decide) rfl dX12_init_561 ?_
    refine zB_dup ok dX12_init_562 rfl ?_
    refine zB_bipush (v := 58) ok dX12_init_563 (by decide) ?_
    refine zB_iconst (v := 0) ok dX12_init_565 (by decide) ?_
    refine zB_iast (j := 17) ok rfl (by decide) rfl dX12_init_566 ?_
    refine zB_dup ok dX12_init_567 rfl ?_
    refine zB_bipush (v := 59) ok dX12_init_568 (by decide) ?_
    refine zB_iconst (v := 2) ok dX12_init_570 (by decide) ?_
    refine zB_iast (j := 17) ok rfl (by decide) rfl dX12_init_571 ?_
    refine zB_dup ok dX12_init_572 rfl ?_
    refine zB_bipush (v := 60) ok dX12_init_573 (by decide) ?_
    refine zB_bipush (v := 25) ok dX12_init_575 (by decide) ?_
    refine zB_iast (j := 17) ok rfl (by decide) rfl dX12_init_577 ?_
    refine zB_dup ok dX12_init_578 rfl ?_
    refine zB_bipush (v := 61) ok dX12_init_579 (by decide) ?_
    refine zB_iconst (v := 0) ok dX12_init_581 (by decide) ?_
    refine zB_iast (j := 17) ok rfl (by decide) rfl dX12_init_582 ?_
    refine zB_dup ok dX12_init_583 rfl ?_
    refine zB_bipush (v := 62) ok dX12_init_584 (by decide) ?_
    refine zB_bipush (v := 15) ok dX12_init_586 (by decide) ?_
    refine zB_iast (j := 17) ok rfl (by decide) rfl dX12_init_588 ?_
    refine zB_dup ok dX12_init_589 rfl ?_
    refine zB_bipush (v := 63) ok dX12_init_590 (by decide) ?_
    refine zB_bipush (v := 16) ok dX12_init_592 (by decide) ?_
    refine zB_iast (j := 17) ok rfl (by decide) rfl dX12_init_594 ?_
    refine zB_dup ok dX12_init_595 rfl ?_
    refine zB_bipush (v := 64) ok dX12_init_596 (by decide) ?_
    refine zB_iconst (v := 5) ok dX12_init_598 (by decide) ?_
    refine zB_iast (j := 17) ok rfl (by decide) rfl dX12_init_599 ?_
    refine zB_dup ok dX12_init_600 rfl ?_
    refine zB_bipush (v := 65) ok dX12_init_601 (by decide) ?_
    refine zB_bipush (v := 14) ok dX12_init_603 (by decide) ?_
    refine zB_iast (j := 17) ok rfl (by decide) rfl dX12_init_605 ?_
    refine zB_dup ok dX12_init_606 rfl ?_
    refine zB_bipush (v := 66) ok dX12_init_607 (by decide) ?_
    refine zB_iconst (v := 0) ok dX12_init_609 (by decide) ?_
    refine zB_iast (j := 17) ok rfl (by decide) rfl dX12_init_610 ?_
    refine zB_dup ok dX12_init_611 rfl ?_
    refine zB_bipush (v := 67) ok dX12_init_612 (by decide) ?_
    refine zB_bipush (v := 15) ok dX12_init_614 (by decide) ?_
    refine zB_iast (j := 17) ok rfl (by decide) rfl dX12_init_616 ?_
    refine zB_dup ok dX12_init_617 rfl ?_
    refine zB_bipush (v := 68) ok dX12_init_618 (by decide) ?_
    refine zB_bipush (v := 21) ok dX12_init_620 (by decide) ?_
    refine zB_iast (j := 17) ok rfl (by decide) rfl dX12_init_622 ?_
    refine zB_dup ok dX12_init_623 rfl ?_
    refine zB_bipush (v := 69) ok dX12_init_624 (by decide) ?_
    refine zB_bipush (v := 20) ok dX12_init_626 (by decide) ?_
    refine zB_iast (j := 17) ok rfl (by decide) rfl dX12_init_628 ?_
    refine zB_dup ok dX12_init_629 rfl ?_
    refine zB_bipush (v := 70) ok dX12_init_630 (by decide) ?_
    refine zB_bipush (v := 12) ok dX12_init_632 (by decide) ?_
    refine zB_iast (j := 17) ok rfl (by decide) rfl dX12_init_634 ?_
    refine zB_dup ok dX12_init_635 rfl ?_
    refine zB_bipush (v := 71) ok dX12_init_636 (by decide) ?_
    refine zB_iconst (v := 5) ok dX12_init_638 (by decide) ?_
    refine zB_iast (j := 17) ok rfl (by decide) rfl dX12_init_639 ?_
    refine zB_dup ok dX12_init_640 rfl ?_
    refine zB_bipush (v := 72) ok dX12_init_641 (by decide) ?_
    refine zB_bipush (v := 20) ok dX12_init_643 (by decide) ?_
    refine zB_iast (j := 17) ok rfl (by decide) rfl dX12_init_645 ?_
    refine zB_dup ok dX12_init_646 rfl ?_
    refine zB_bipush (v := 73) ok dX12_init_647 (by decide) ?_
    refine zB_iconst (v := 0) ok dX12_init_649 (by decide) ?_
    refine zB_iast (j := 17) ok rfl (by decide) rfl dX12_init_650 ?_
    refine zB_dup ok dX12_init_651 rfl ?_
    refine zB_bipush (v := 74) ok dX12_init_652 (by decide) ?_
    refine zB_iconst (v := 1) ok dX12_init_654 (by decide) ?_
    refine zB_iast (j := 17) ok rfl (by decide) rfl dX12_init_655 ?_
    refine zB_dup ok dX12_init_656 rfl ?_
    refine zB_bipush (v := 75) ok dX12_init_657 (by decide) ?_
    refine zB_bipush (v := 20) ok dX12_init_659 (by decide) ?_
    refine zB_iast (j := 17) ok rfl (by decide) rfl dX12_init_661 ?_
    refine zB_dup ok dX12_init_662 rfl ?_
    refine zB_bipush (v := 76) ok dX12_init_663 (by decide) ?_
    refine zB_iconst (v := 0) ok dX12_init_665 (by decide) ?_
    refine zB_iast (j := 17) ok rfl (by decide) rfl dX12_init_666 ?_
    refine zB_dup ok dX12_init_667 rfl ?_
    refine zB_bipush (v := 77) ok dX12_init_668 (by decide) ?_
    refine zB_bipush (v := 20) ok dX12_init_670 (by decide) ?_
    refine zB_iast (j := 17) ok rfl (by decide) rfl dX12_init_672 ?_
    refine zB_dup ok dX12_init_673 rfl ?_
    refine zB_bipush (v := 78) ok dX12_init_674 (by decide) ?_
    refine zB_iconst (v := 1) ok dX12_init_676 (by decide) ?_
    refine zB_iast (j := 17) ok rfl (by decide) rfl dX12_init_677 ?_
    refine zB_dup ok dX12_init_678 rfl ?_
    refine zB_bipush (v := 79) ok dX12_init_679 (by decide) ?_
    refine zB_bipush (v := 11) ok dX12_init_681 (by decide) ?_
    refine zB_iast (j := 17) ok rfl (by decide) rfl dX12_init_683 ?_
    refine zB_dup ok dX12_init_684 rfl ?_
    refine zB_bipush (v := 80) ok dX12_init_685 (by decide) ?_
    refine zB_iconst (v := 5) ok dX12_init_687 (by decide) ?_
    refine zB_iast (j := 17) ok rfl (by decide) rfl dX12_init_688 ?_
    refine zB_dup ok dX12_init_689 rfl ?_
    refine zB_bipush (v := 81) ok dX12_init_690 (by decide) ?_
    refine zB_bipush (v := 19) ok dX12_init_692 (by decide) ?_
    refine zB_iast (j := 17) ok rfl (by decide) rfl dX12_init_694 ?_
    refine zB_dup ok dX12_init_695 rfl ?_
    refine zB_bipush (v := 82) ok dX12_init_696 (by decide) ?_
    refine zB_iconst (v := 0) ok dX12_init_698 (by decide) ?_
    refine zB_iast (j := 17) ok rfl (by decide) rfl dX12_init_699 ?_
    refine zB_dup ok dX12_init_700 rfl ?_
    refine zB_bipush (v := 83) ok dX12_init_701 (by decide) ?_
    refine zB_bipush (v := 15) ok dX12_init_703 (by decide) ?_
    refine zB_iast (j := 17) ok rfl (by decide) rfl dX12_init_705 ?_
    refine zB_dup ok dX12_init_706 rfl ?_
    refine zB_bipush (v := 84) ok dX12_init_707 (by decide) ?_
    refine zB_bipush (v := 18) ok dX12_init_709 (by decide) ?_
    refine zB_iast (j := 17) ok rfl (by decide) rfl dX12_init_711 ?_
    refine zB_dup ok dX12_init_712 rfl ?_
    refine zB_bipush (v := 85) ok dX12_init_713 (by decide) ?_
    refine zB_iconst (v := 4) ok dX12_init_715 (by decide) ?_
    refine zB_iast (j := 17) ok rfl (by decide) rfl dX12_init_716 ?_
    refine zB_dup ok dX12_init_717 rfl ?_
    refine zB_bipush (v := 86) ok dX12_init_718 (by decide) ?_
    refine zB_iconst (v := 5) ok dX12_init_720 (by decide) ?_
    refine zB_iast (j := 17) ok rfl (by decide) rfl dX12_init_721 ?_
    refine zB_dup ok dX12_init_722 rfl ?_
    refine zB_bipush (v := 87) ok dX12_init_723 (by decide) ?_
    refine zB_bipush (v := 18) ok dX12_init_725 (by decide) ?_
    refine zB_iast (j := 17) ok rfl (by decide) rfl dX12_init_727 ?_
    refine zB_dup ok dX12_init_728 rfl ?_
    refine zB_bipush (v := 88) ok dX12_init_729 (by decide) ?_
    refine zB_iconst (v := 0) ok dX12_init_731 (by decide) ?_
    refine zB_iast (j := 17) ok rfl (by decide) rfl dX12_init_732 ?_
    refine zB_dup ok dX12_init_733 rfl ?_
    refine zB_bipush (v := 89) ok dX12_init_734 (by decide) ?_
    refine zB_bipush (v := 6) ok dX12_init_736 (by decide) ?_
    refine zB_iast (j := 17) ok rfl (by decide) rfl dX12_init_738 ?_
    refine zB_dup ok dX12_init_739 rfl ?_
    refine zB_bipush (v := 90) ok dX12_init_740 (by decide) ?_
    refine zB_bipush (v := 18) ok dX12_init_742 (by decide) ?_
    refine zB_iast (j := 17) ok rfl (by decide) rfl dX12_init_744 ?_
    refine zB_dup ok dX12_init_745 rfl ?_
    refine zB_bipush (v := 91) ok dX12_init_746 (by decide) ?_
    refine zB_bipush (v := 15) ok dX12_init_748 (by decide) ?_
    refine zB_iast (j := 17) ok rfl (by decide) rfl dX12_init_750 ?_
    refine zB_dup ok dX12_init_751 rfl ?_
    refine zB_bipush (v := 92) ok dX12_init_752 (by decide) ?_
    refine zB_bipush (v := 13) ok dX12_init_754 (by decide) ?_
    refine zB_iast (j := 17) ok rfl (by decide) rfl dX12_init_756 ?_
    refine zB_dup ok dX12_init_757 rfl ?_
    refine zB_bipush (v := 93) ok dX12_init_758 (by decide) ?_
    refine zB_iconst (v := 0) ok dX12_init_760 (by decide) ?_
    refine zB_iast (j := 17) ok rfl (by decide) rfl dX12_init_761 ?_
    refine zB_dup ok dX12_init_762 rfl ?_
    refine zB_bipush (v := 94) ok dX12_init_763 (by decide) ?_
    refine zB_bipush (v := 6) ok dX12_init_765 (by decide) ?_
    refine zB_iast (j := 17) ok rfl (by decide) rfl dX12_init_767 ?_
    refine zB_dup ok dX12_init_768 rfl ?_
    refine zB_bipush (v := 95) ok dX12_init_769 (by decide) ?_
    refine zB_bipush (v := 15) ok dX12_init_771 (by decide) ?_
    refine zB_iast (j := 17) ok rfl (by decide) rfl dX12_init_773 ?_
    refine zB_dup ok dX12_init_774 rfl ?_
    refine zB_bipush (v := 96) ok dX12_init_775 (by decide) ?_
    refine zB_bipush (v := 18) ok dX12_init_777 (by decide) ?_
    refine zB_iast (j := 17) ok rfl (by decide) rfl dX12_init_779 ?_
    refine zB_dup ok dX12_init_780 rfl ?_
    refine zB_bipush (v := 97) ok dX12_init_781 (by decide) ?_
    refine zB_iconst (v := 0) ok dX12_init_783 (by decide) ?_
    refine zB_iast (j := 17) ok rfl (by decide) rfl dX12_init_784 ?_
    refine zB_dup ok dX12_init_785 rfl ?_
    refine zB_bipush (v := 98) ok dX12_init_786 (by decide) ?_
    refine zB_bipush (v := 20) ok dX12_init_788 (by decide) ?_
    refine zB_iast (j := 17) ok rfl (by decide) rfl dX12_init_790 ?_
    refine zB_dup ok dX12_init_791 rfl ?_
    refine zB_bipush (v := 99) ok dX12_init_792 (by decide) ?_
    refine zB_bipush (v := 21) ok dX12_init_794 (by decide) ?_
    refine zB_iast (j := 17) ok rfl (by decide) rfl dX12_init_796 ?_
    refine zB_dup ok dX12_init_797 rfl ?_
    refine zB_bipush (v := 100) ok dX12_init_798 (by decide) ?_
    refine zB_bipush (v := 18) ok dX12_init_800 (by decide) ?_
    refine zB_iast (j := 17) ok rfl (by decide) rfl dX12_init_802 ?_
    refine zB_dup ok dX12_init_803 rfl ?_
    refine zB_bipush (v := 101) ok dX12_init_804 (by decide) ?_
    refine zB_bipush (v := 14) ok dX12_init_806 (by decide) ?_
    refine zB_iast (j := 17) ok rfl (by decide) rfl dX12_init_808 ?_
    refine zB_dup ok dX12_init_809 rfl ?_
    refine zB_bipush (v := 102) ok dX12_init_810 (by decide) ?_
    refine zB_bipush (v := 19) ok dX12_init_812 (by decide) ?_
    refine zB_iast (j := 17) ok rfl (by decide) rfl dX12_init_814 ?_
    refine zB_dup ok dX12_init_815 rfl ?_
    refine zB_bipush (v := 103) ok dX12_init_816 (by decide) ?_
    refine zB_iconst (v := 0) ok dX12_init_818 (by decide) ?_
    refine zB_iast (j := 17) ok rfl (by decide) rfl dX12_init_819 ?_
    refine zB_putF (ci := 12) (q := 17) ok rfl zc_12 hin_12 tyX12 tyX12_ok nmX12 (s := 37) (by decide) fi_12_123 ⟨rfl, rfl⟩ (tyX12_ok 37 (by decide)) rfl rfl (by decide) dX12_init_820 ?_
    refine zB_ks (ks' := [.inl (12, [none, none, none, some (some (1)), some (some (2)), some (some (3)), some (some (4)), some (some (5)), none, none, none, none, none, none, some (some (6)), some (some (7)), some (some (8)), some (some (9)), some (some (10)), some (some (11)), some (some (12)), some (some (13)), some (some (14)), none, none, none, none, some (some (15)), none, some (some (16)), none, none, none, none, none, none, none, some (some (17)), some none, some none, some none, some none, some none, none, none, some none, some none, some none, some none]), .inr (0, 72, []), .inr (0, 20, []), .inr (0, 16, []), .inr (0, 48, []), .inr (0, 60, []), .inr (0, 72, []), .inr (0, 20, []), .inr (0, 16, []), .inr (0, 48, []), .inr (0, 48, []), .inr (0, 60, []), .inr (0, 1607, []), .inr (0, 205, []), .inr (0, 32140, []), .inr (0, 1600, []), .inr (0, 6, []), .inr (0, 104, [])]) rfl ?_
    refine zB_aload ok dX12_init_823 0 rfl ?_
    refine zB_bipush (v := 8) ok dX12_init_824 (by decide) ?_
    refine zB_newan (n := 8) (t := 0) 18 rfl ok (by simp) za_int (by decide) (by decide) ((fun j (hj : 18 ≤ j) => by (repeat rw [zup_n1 (show j ≠ _ by omega)]); rfl) _ (Nat.le_refl _)) ⟨Nat.le_of_ble_eq_true rfl, Nat.le_of_ble_eq_true rfl⟩ dX12_init_826 ?_
    refine zB_ks (ks' := [.inl (12, [none, none, none, some (some (1)), some (some (2)), some (some (3)), some (some (4)), some (some (5)), none, none, none, none, none, none, some (some (6)), some (some (7)), some (some (8)), some (some (9)), some (some (10)), some (some (11)), some (some (12)), some (some (13)), some (some (14)), none, none, none, none, some (some (15)), none, some (some (16)), none, none, none, none, none, none, none, some (some (17)), some none, some none, some none, some none, some none, none, none, some none, some none, some none, some none]), .inr (0, 72, []), .inr (0, 20, []), .inr (0, 16, []), .inr (0, 48, []), .inr (0, 60, []), .inr (0, 72, []), .inr (0, 20, []), .inr (0, 16, []), .inr (0, 48, []), .inr (0, 48, []), .inr (0, 60, []), .inr (0, 1607, []), .inr (0, 205, []), .inr (0, 32140, []), .inr (0, 1600, []), .inr (0, 6, []), .inr (0, 104, []), .inr (0, 8, [])]) rfl ?_
    refine zB_putF (ci := 12) (q := 18) ok rfl zc_12 hin_12 tyX12 tyX12_ok nmX12 (s := 38) (by decide) fi_12_126 ⟨rfl, rfl⟩ (tyX12_ok 38 (by decide)) rfl rfl (by decide) dX12_init_828 ?_
    refine zB_ks (ks' := [.inl (12, [none, none, none, some (some (1)), some (some (2)), some (some (3)), some (some (4)), some (some (5)), none, none, none, none, none, none, some (some (6)), some (some (7)), some (some (8)), some (some (9)), some (some (10)), some (some (11)), some (some (12)), some (some (13)), some (some (14)), none, none, none, none, some (some (15)), none, some (some (16)), none, none, none, none, none, none, none, some (some (17)), some (some (18)), some none, some none, some none, some none, none, none, some none, some none, some none, some none]), .inr (0, 72, []), .inr (0, 20, []), .inr (0, 16, []), .inr (0, 48, []), .inr (0, 60, []), .inr (0, 72, []), .inr (0, 20, []), .inr (0, 16, []), .inr (0, 48, []), .inr (0, 48, []), .inr (0, 60, []), .inr (0, 1607, []), .inr (0, 205, []), .inr (0, 32140, []), .inr (0, 1600, []), .inr (0, 6, []), .inr (0, 104, []), .inr (0, 8, [])]) rfl ?_
    refine zB_aload ok dX12_init_831 0 rfl ?_
    refine zB_bipush (v := 8) ok dX12_init_832 (by decide) ?_
    refine zB_newan (n := 8) (t := 0) 19 rfl ok (by simp) za_int (by decide) (by decide) ((fun j (hj : 19 ≤ j) => by (repeat rw [zup_n1 (show j ≠ _ by omega)]); rfl) _ (Nat.le_refl _)) ⟨Nat.le_of_ble_eq_true rfl, Nat.le_of_ble_eq_true rfl⟩ dX12_init_834 ?_
    refine zB_ks (ks' := [.inl (12, [none, none, none, some (some (1)), some (some (2)), some (some (3)), some (some (4)), some (some (5)), none, none, none, none, none, none, some (some (6)), some (some (7)), some (some (8)), some (some (9)), some (some (10)), some (some (11)), some (some (12)), some (some (13)), some (some (14)), none, none, none, none, some (some (15)), none, some (some (16)), none, none, none, none, none, none, none, some (some (17)), some (some (18)), some none, some none, some none, some none, none, none, some none, some none, some none, some none]), .inr (0, 72, []), .inr (0, 20, []), .inr (0, 16, []), .inr (0, 48, []), .inr (0, 60, []), .inr (0, 72, []), .inr (0, 20, []), .inr (0, 16, []), .inr (0, 48, []), .inr (0, 48, []), .inr (0, 60, []), .inr (0, 1607, []), .inr (0, 205, []), .inr (0, 32140, []), .inr (0, 1600, []), .inr (0, 6, []), .inr (0, 104, []), .inr (0, 8, []), .inr (0, 8, [])]) rfl ?_
    refine zB_putF (ci := 12) (q := 19) ok rfl zc_12 hin_12 tyX12 tyX12_ok nmX12 (s := 39) (by decide) fi_12_129 ⟨rfl, rfl⟩ (tyX12_ok 39 (by decide)) rfl rfl (by decide) dX12_init_836 ?_
    refine zB_ks (ks' := [.inl (12, [none, none, none, some (some (1)), some (some (2)), some (some (3)), some (some (4)), some (some (5)), none, none, none, none, none, none, some (some (6)), some (some (7)), some (some (8)), some (some (9)), some (some (10)), some (some (11)), some (some (12)), some (some (13)), some (some (14)), none, none, none, none, some (some (15)), none, some (some (16)), none, none, none, none, none, none, none, some (some (17)), some (some (18)), some (some (19)), some none, some none, some none, none, none, some none, some none, some none, some none]), .inr (0, 72, []), .inr (0, 20, []), .inr (0, 16, []), .inr (0, 48, []), .inr (0, 60, []), .inr (0, 72, []), .inr (0, 20, []), .inr (0, 16, []), .inr (0, 48, []), .inr (0, 48, []), .inr (0, 60, []), .inr (0, 1607, []), .inr (0, 205, []), .inr (0, 32140, []), .inr (0, 1600, []), .inr (0, 6, []), .inr (0, 104, []), .inr (0, 8, []), .inr (0, 8, [])]) rfl ?_
    refine zB_aload ok dX12_init_839 0 rfl ?_
    refine zB_bipush (v := 8) ok dX12_init_840 (by decide) ?_
    refine zB_newan (n := 8) (t := 0) 20 rfl ok (by simp) za_int (by decide) (by decide) ((fun j (hj : 20 ≤ j) => by (repeat rw [zup_n1 (show j ≠ _ by omega)]); rfl) _ (Nat.le_refl _)) ⟨Nat.le_of_ble_eq_true rfl, Nat.le_of_ble_eq_true rfl⟩ dX12_init_842 ?_
    refine zB_ks (ks' := [.inl (12, [none, none, none, some (some (1)), some (some (2)), some (some (3)), some (some (4)), some (some (5)), none, none, none, none, none, none, some (some (6)), some (some (7)), some (some (8)), some (some (9)), some (some (10)), some (some (11)), some (some (12)), some (some (13)), some (some (14)), none, none, none, none, some (some (15)), none, some (some (16)), none, none, none, none, none, none, none, some (some (17)), some (some (18)), some (some (19)), some none, some none, some none, none, none, some none, some none, some none, some none]), .inr (0, 72, []), .inr (0, 20, []), .inr (0, 16, []), .inr (0, 48, []), .inr (0, 60, []), .inr (0, 72, []), .inr (0, 20, []), .inr (0, 16, []), .inr (0, 48, []), .inr (0, 48, []), .inr (0, 60, []), .inr (0, 1607, []), .inr (0, 205, []), .inr (0, 32140, []), .inr (0, 1600, []), .inr (0, 6, []), .inr (0, 104, []), .inr (0, 8, []), .inr (0, 8, []), .inr (0, 8, [])]) rfl ?_
    refine zB_putF (ci := 12) (q := 20) ok rfl zc_12 hin_12 tyX12 tyX12_ok nmX12 (s := 40) (by decide) fi_12_132 ⟨rfl, rfl⟩ (tyX12_ok 40 (by decide)) rfl rfl (by decide) dX12_init_844 ?_
    refine zB_ks (ks' := [.inl (12, [none, none, none, some (some (1)), some (some (2)), some (some (3)), some (some (4)), some (some (5)), none, none, none, none, none, none, some (some (6)), some (some (7)), some (some (8)), some (some (9)), some (some (10)), some (some (11)), some (some (12)), some (some (13)), some (some (14)), none, none, none, none, some (some (15)), none, some (some (16)), none, none, none, none, none, none, none, some (some (17)), some (some (18)), some (some (19)), some (some (20)), some none, some none, none, none, some none, some none, some none, some none]), .inr (0, 72, []), .inr (0, 20, []), .inr (0, 16, []), .inr (0, 48, []), .inr (0, 60, []), .inr (0, 72, []), .inr (0, 20, []), .inr (0, 16, []), .inr (0, 48, []), .inr (0, 48, []), .inr (0, 60, []), .inr (0, 1607, []), .inr (0, 205, []), .inr (0, 32140, []), .inr (0, 1600, []), .inr (0, 6, []), .inr (0, 104, []), .inr (0, 8, []), .inr (0, 8, []), .inr (0, 8, [])]) rfl ?_
    refine zB_aload ok dX12_init_847 0 rfl ?_
    refine zB_bipush (v := 8) ok dX12_init_848 (by decide) ?_
    refine zB_newan (n := 8) (t := 0) 21 rfl ok (by simp) za_int (by decide) (by decide) ((fun j (hj : 21 ≤ j) => by (repeat rw [zup_n1 (show j ≠ _ by omega)]); rfl) _ (Nat.le_refl _)) ⟨Nat.le_of_ble_eq_true rfl, Nat.le_of_ble_eq_true rfl⟩ dX12_init_850 ?_
    refine zB_ks (ks' := [.inl (12, [none, none, none, some (some (1)), some (some (2)), some (some (3)), some (some (4)), some (some (5)), none, none, none, none, none, none, some (some (6)), some (some (7)), some (some (8)), some (some (9)), some (some (10)), some (some (11)), some (some (12)), some (some (13)), some (some (14)), none, none, none, none, some (some (15)), none, some (some (16)), none, none, none, none, none, none, none, some (some (17)), some (some (18)), some (some (19)), some (some (20)), some none, some none, none, none, some none, some none, some none, some none]), .inr (0, 72, []), .inr (0, 20, []), .inr (0, 16, []), .inr (0, 48, []), .inr (0, 60, []), .inr (0, 72, []), .inr (0, 20, []), .inr (0, 16, []), .inr (0, 48, []), .inr (0, 48, []), .inr (0, 60, []), .inr (0, 1607, []), .inr (0, 205, []), .inr (0, 32140, []), .inr (0, 1600, []), .inr (0, 6, []), .inr (0, 104, []), .inr (0, 8, []), .inr (0, 8, []), .inr (0, 8, []), .inr (0, 8, [])]) rfl ?_
    refine zB_putF (ci := 12) (q := 21) ok rfl zc_12 hin_12 tyX12 tyX12_ok nmX12 (s := 41) (by decide) fi_12_135 ⟨rfl, rfl⟩ (tyX12_ok 41 (by decide)) rfl rfl (by decide) dX12_init_852 ?_
    refine zB_ks (ks' := [.inl (12, [none, none, none, some (some (1)), some (some (2)), some (some (3)), some (some (4)), some (some (5)), none, none, none, none, none, none, some (some (6)), some (some (7)), some (some (8)), some (some (9)), some (some (10)), some (some (11)), some (some (12)), some (some (13)), some (some (14)), none, none, none, none, some (some (15)), none, some (some (16)), none, none, none, none, none, none, none, some (some (17)), some (some (18)), some (some (19)), some (some (20)), some (some (21)), some none, none, none, some none, some none, some none, some none]), .inr (0, 72, []), .inr (0, 20, []), .inr (0, 16, []), .inr (0, 48, []), .inr (0, 60, []), .inr (0, 72, []), .inr (0, 20, []), .inr (0, 16, []), .inr (0, 48, []), .inr (0, 48, []), .inr (0, 60, []), .inr (0, 1607, []), .inr (0, 205, []), .inr (0, 32140, []), .inr (0, 1600, []), .inr (0, 6, []), .inr (0, 104, []), .inr (0, 8, []), .inr (0, 8, []), .inr (0, 8, []), .inr (0, 8, [])]) rfl ?_
    refine zB_aload ok dX12_init_855 0 rfl ?_
    refine zB_bipush (v := 8) ok dX12_init_856 (by decide) ?_
    refine zB_newan (n := 8) (t := 0) 22 rfl ok (by simp) za_int (by decide) (by decide) ((fun j (hj : 22 ≤ j) => by (repeat rw [zup_n1 (show j ≠ _ by omega)]); rfl) _ (Nat.le_refl _)) ⟨Nat.le_of_ble_eq_true rfl, Nat.le_of_ble_eq_true rfl⟩ dX12_init_858 ?_
    refine zB_ks (ks' := [.inl (12, [none, none, none, some (some (1)), some (some (2)), some (some (3)), some (some (4)), some (some (5)), none, none, none, none, none, none, some (some (6)), some (some (7)), some (some (8)), some (some (9)), some (some (10)), some (some (11)), some (some (12)), some (some (13)), some (some (14)), none, none, none, none, some (some (15)), none, some (some (16)), none, none, none, none, none, none, none, some (some (17)), some (some (18)), some (some (19)), some (some (20)), some (some (21)), some none, none, none, some none, some none, some none, some none]), .inr (0, 72, []), .inr (0, 20, []), .inr (0, 16, []), .inr (0, 48, []), .inr (0, 60, []), .inr (0, 72, []), .inr (0, 20, []), .inr (0, 16, []), .inr (0, 48, []), .inr (0, 48, []), .inr (0, 60, []), .inr (0, 1607, []), .inr (0, 205, []), .inr (0, 32140, []), .inr (0, 1600, []), .inr (0, 6, []), .inr (0, 104, []), .inr (0, 8, []), .inr (0, 8, []), .inr (0, 8, []), .inr (0, 8, []), .inr (0, 8, [])]) rfl ?_
    refine zB_putF (ci := 12) (q := 22) ok rfl zc_12 hin_12 tyX12 tyX12_ok nmX12 (s := 42) (by decide) fi_12_138 ⟨rfl, rfl⟩ (tyX12_ok 42 (by decide)) rfl rfl (by decide) dX12_init_860 ?_
    refine zB_ks (ks' := [.inl (12, [none, none, none, some (some (1)), some (some (2)), some (some (3)), some (some (4)), some (some (5)), none, none, none, none, none, none, some (some (6)), some (some (7)), some (some (8)), some (some (9)), some (some (10)), some (some (11)), some (some (12)), some (some (13)), some (some (14)), none, none, none, none, some (some (15)), none, some (some (16)), none, none, none, none, none, none, none, some (some (17)), some (some (18)), some (some (19)), some (some (20)), some (some (21)), some (some (22)), none, none, some none, some none, some none, some none]), .inr (0, 72, []), .inr (0, 20, []), .inr (0, 16, []), .inr (0, 48, []), .inr (0, 60, []), .inr (0, 72, []), .inr (0, 20, []), .inr (0, 16, []), .inr (0, 48, []), .inr (0, 48, []), .inr (0, 60, []), .inr (0, 1607, []), .inr (0, 205, []), .inr (0, 32140, []), .inr (0, 1600, []), .inr (0, 6, []), .inr (0, 104, []), .inr (0, 8, []), .inr (0, 8, []), .inr (0, 8, []), .inr (0, 8, []), .inr (0, 8, [])]) rfl ?_
    refine zB_aload ok dX12_init_863 0 rfl ?_
    refine zB_iconst (v := 0) ok dX12_init_864 (by decide) ?_
    refine zB_puti (ci := 12) ok rfl zc_12 hin_12 tyX12 tyX12_ok nmX12 (s := 43) (by decide) fi_12_141 rfl (tyX12_ok 43 (by decide)) rfl rfl rfl rfl dX12_init_865 ?_
    refine zB_aload ok dX12_init_868 0 rfl ?_
    refine zB_iconst (v := 0) ok dX12_init_869 (by decide) ?_
    refine zB_puti (ci := 12) ok rfl zc_12 hin_12 tyX12 tyX12_ok nmX12 (s := 44) (by decide) fi_12_144 rfl (tyX12_ok 44 (by decide)) rfl rfl rfl rfl dX12_init_870 ?_
    refine zB_aload ok dX12_init_873 0 rfl ?_
    refine zB_bipush (v := 10) ok dX12_init_874 (by decide) ?_
    refine zB_newan (n := 10) (t := 0) 23 rfl ok (by simp) za_int (by decide) (by decide) ((fun j (hj : 23 ≤ j) => by (repeat rw [zup_n1 (show j ≠ _ by omega)]); rfl) _ (Nat.le_refl _)) ⟨Nat.le_of_ble_eq_true rfl, Nat.le_of_ble_eq_true rfl⟩ dX12_init_876 ?_
    refine zB_ks (ks' := [.inl (12, [none, none, none, some (some (1)), some (some (2)), some (some (3)), some (some (4)), some (some (5)), none, none, none, none, none, none, some (some (6)), some (some (7)), some (some (8)), some (some (9)), some (some (10)), some (some (11)), some (some (12)), some (some (13)), some (some (14)), none, none, none, none, some (some (15)), none, some (some (16)), none, none, none, none, none, none, none, some (some (17)), some (some (18)), some (some (19)), some (some (20)), some (some (21)), some (some (22)), none, none, some none, some none, some none, some none]), .inr (0, 72, []), .inr (0, 20, []), .inr (0, 16, []), .inr (0, 48, []), .inr (0, 60, []), .inr (0, 72, []), .inr (0, 20, []), .inr (0, 16, []), .inr (0, 48, []), .inr (0, 48, []), .inr (0, 60, []), .inr (0, 1607, []), .inr (0, 205, []), .inr (0, 32140, []), .inr (0, 1600, []), .inr (0, 6, []), .inr (0, 104, []), .inr (0, 8, []), .inr (0, 8, []), .inr (0, 8, []), .inr (0, 8, []), .inr (0, 8, []), .inr (0, 10, [])]) rfl ?_
    refine zB_putF (ci := 12) (q := 23) ok rfl zc_12 hin_12 tyX12 tyX12_ok nmX12 (s := 45) (by decide) fi_12_147 ⟨rfl, rfl⟩ (tyX12_ok 45 (by decide)) rfl rfl (by decide) dX12_init_878 ?_
    refine zB_ks (ks' := [.inl (12, [none, none, none, some (some (1)), some (some (2)), some (some (3)), some (some (4)), some (some (5)), none, none, none, none, none, none, some (some (6)), some (some (7)), some (some (8)), some (some (9)), some (some (10)), some (some (11)), some (some (12)), some (some (13)), some (some (14)), none, none, none, none, some (some (15)), none, some (some (16)), none, none, none, none, none, none, none, some (some (17)), some (some (18)), some (some (19)), some (some (20)), some (some (21)), some (some (22)), none, none, some (some (23)), some none, some none, some none]), .inr (0, 72, []), .inr (0, 20, []), .inr (0, 16, []), .inr (0, 48, []), .inr (0, 60, []), .inr (0, 72, []), .inr (0, 20, []), .inr (0, 16, []), .inr (0, 48, []), .inr (0, 48, []), .inr (0, 60, []), .inr (0, 1607, []), .inr (0, 205, []), .inr (0, 32140, []), .inr (0, 1600, []), .inr (0, 6, []), .inr (0, 104, []), .inr (0, 8, []), .inr (0, 8, []), .inr (0, 8, []), .inr (0, 8, []), .inr (0, 8, []), .inr (0, 10, [])]) rfl ?_
    refine zB_aload ok dX12_init_881 0 rfl ?_
    refine zB_bipush (v := 10) ok dX12_init_882 (by decide) ?_
    refine zB_newan (n := 10) (t := 0) 24 rfl ok (by simp) za_int (by decide) (by decide) ((fun j (hj : 24 ≤ j) => by (repeat rw [zup_n1 (show j ≠ _ by omega)]); rfl) _ (Nat.le_refl _)) ⟨Nat.le_of_ble_eq_true rfl, Nat.le_of_ble_eq_true rfl⟩ dX12_init_884 ?_
    refine zB_ks (ks' := [.inl (12, [none, none, none, some (some (1)), some (some (2)), some (some (3)), some (some (4)), some (some (5)), none, none, none, none, none, none, some (some (6)), some (some (7)), some (some (8)), some (some (9)), some (some (10)), some (some (11)), some (some (12)), some (some (13)), some (some (14)), none, none, none, none, some (some (15)), none, some (some (16)), none, none, none, none, none, none, none, some (some (17)), some (some (18)), some (some (19)), some (some (20)), some (some (21)), some (some (22)), none, none, some (some (23)), some none, some none, some none]), .inr (0, 72, []), .inr (0, 20, []), .inr (0, 16, []), .inr (0, 48, []), .inr (0, 60, []), .inr (0, 72, []), .inr (0, 20, []), .inr (0, 16, []), .inr (0, 48, []), .inr (0, 48, []), .inr (0, 60, []), .inr (0, 1607, []), .inr (0, 205, []), .inr (0, 32140, []), .inr (0, 1600, []), .inr (0, 6, []), .inr (0, 104, []), .inr (0, 8, []), .inr (0, 8, []), .inr (0, 8, []), .inr (0, 8, []), .inr (0, 8, []), .inr (0, 10, []), .inr (0, 10, [])]) rfl ?_
    refine zB_putF (ci := 12) (q := 24) ok rfl zc_12 hin_12 tyX12 tyX12_ok nmX12 (s := 46) (by decide) fi_12_150 ⟨rfl, rfl⟩ (tyX12_ok 46 (by decide)) rfl rfl (by decide) dX12_init_886 ?_
    refine zB_ks (ks' := [.inl (12, [none, none, none, some (some (1)), some (some (2)), some (some (3)), some (some (4)), some (some (5)), none, none, none, none, none, none, some (some (6)), some (some (7)), some (some (8)), some (some (9)), some (some (10)), some (some (11)), some (some (12)), some (some (13)), some (some (14)), none, none, none, none, some (some (15)), none, some (some (16)), none, none, none, none, none, none, none, some (some (17)), some (some (18)), some (some (19)), some (some (20)), some (some (21)), some (some (22)), none, none, some (some (23)), some (some (24)), some none, some none]), .inr (0, 72, []), .inr (0, 20, []), .inr (0, 16, []), .inr (0, 48, []), .inr (0, 60, []), .inr (0, 72, []), .inr (0, 20, []), .inr (0, 16, []), .inr (0, 48, []), .inr (0, 48, []), .inr (0, 60, []), .inr (0, 1607, []), .inr (0, 205, []), .inr (0, 32140, []), .inr (0, 1600, []), .inr (0, 6, []), .inr (0, 104, []), .inr (0, 8, []), .inr (0, 8, []), .inr (0, 8, []), .inr (0, 8, []), .inr (0, 8, []), .inr (0, 10, []), .inr (0, 10, [])]) rfl ?_
    refine zB_aload ok dX12_init_889 0 rfl ?_
    refine zB_sipush (v := 1681) ok dX12_init_890 (by decide) ?_
    refine zB_newan (n := 1681) (t := 0) 25 rfl ok (by simp) za_int (by decide) (by decide) ((fun j (hj : 25 ≤ j) => by (repeat rw [zup_n1 (show j ≠ _ by omega)]); rfl) _ (Nat.le_refl _)) ⟨Nat.le_of_ble_eq_true rfl, Nat.le_of_ble_eq_true rfl⟩ dX12_init_893 ?_
    refine zB_ks (ks' := [.inl (12, [none, none, none, some (some (1)), some (some (2)), some (some (3)), some (some (4)), some (some (5)), none, none, none, none, none, none, some (some (6)), some (some (7)), some (some (8)), some (some (9)), some (some (10)), some (some (11)), some (some (12)), some (some (13)), some (some (14)), none, none, none, none, some (some (15)), none, some (some (16)), none, none, none, none, none, none, none, some (some (17)), some (some (18)), some (some (19)), some (some (20)), some (some (21)), some (some (22)), none, none, some (some (23)), some (some (24)), some none, some none]), .inr (0, 72, []), .inr (0, 20, []), .inr (0, 16, []), .inr (0, 48, []), .inr (0, 60, []), .inr (0, 72, []), .inr (0, 20, []), .inr (0, 16, []), .inr (0, 48, []), .inr (0, 48, []), .inr (0, 60, []), .inr (0, 1607, []), .inr (0, 205, []), .inr (0, 32140, []), .inr (0, 1600, []), .inr (0, 6, []), .inr (0, 104, []), .inr (0, 8, []), .inr (0, 8, []), .inr (0, 8, []), .inr (0, 8, []), .inr (0, 8, []), .inr (0, 10, []), .inr (0, 10, []), .inr (0, 1681, [])]) rfl ?_
    refine zB_putF (ci := 12) (q := 25) ok rfl zc_12 hin_12 tyX12 tyX12_ok nmX12 (s := 47) (by decide) fi_12_153 ⟨rfl, rfl⟩ (tyX12_ok 47 (by decide)) rfl rfl (by decide) dX12_init_895 ?_
    refine zB_ks (ks' := [.inl (12, [none, none, none, some (some (1)), some (some (2)), some (some (3)), some (some (4)), some (some (5)), none, none, none, none, none, none, some (some (6)), some (some (7)), some (some (8)), some (some (9)), some (some (10)), some (some (11)), some (some (12)), some (some (13)), some (some (14)), none, none, none, none, some (some (15)), none, some (some (16)), none, none, none, none, none, none, none, some (some (17)), some (some (18)), some (some (19)), some (some (20)), some (some (21)), some (some (22)), none, none, some (some (23)), some (some (24)), some (some (25)), some none]), .inr (0, 72, []), .inr (0, 20, []), .inr (0, 16, []), .inr (0, 48, []), .inr (0, 60, []), .inr (0, 72, []), .inr (0, 20, []), .inr (0, 16, []), .inr (0, 48, []), .inr (0, 48, []), .inr (0, 60, []), .inr (0, 1607, []), .inr (0, 205, []), .inr (0, 32140, []), .inr (0, 1600, []), .inr (0, 6, []), .inr (0, 104, []), .inr (0, 8, []), .inr (0, 8, []), .inr (0, 8, []), .inr (0, 8, []), .inr (0, 8, []), .inr (0, 10, []), .inr (0, 10, []), .inr (0, 1681, [])]) rfl ?_
    refine zB_aload ok dX12_init_898 0 rfl ?_
    refine zB_bipush (v := 41) ok dX12_init_899 (by decide) ?_
    refine zB_newan (n := 41) (t := 0) 26 rfl ok (by simp) za_int (by decide) (by decide) ((fun j (hj : 26 ≤ j) => by (repeat rw [zup_n1 (show j ≠ _ by omega)]); rfl) _ (Nat.le_refl _)) ⟨Nat.le_of_ble_eq_true rfl, Nat.le_of_ble_eq_true rfl⟩ dX12_init_901 ?_
    refine zB_ks (ks' := [.inl (12, [none, none, none, some (some (1)), some (some (2)), some (some (3)), some (some (4)), some (some (5)), none, none, none, none, none, none, some (some (6)), some (some (7)), some (some (8)), some (some (9)), some (some (10)), some (some (11)), some (some (12)), some (some (13)), some (some (14)), none, none, none, none, some (some (15)), none, some (some (16)), none, none, none, none, none, none, none, some (some (17)), some (some (18)), some (some (19)), some (some (20)), some (some (21)), some (some (22)), none, none, some (some (23)), some (some (24)), some (some (25)), some none]), .inr (0, 72, []), .inr (0, 20, []), .inr (0, 16, []), .inr (0, 48, []), .inr (0, 60, []), .inr (0, 72, []), .inr (0, 20, []), .inr (0, 16, []), .inr (0, 48, []), .inr (0, 48, []), .inr (0, 60, []), .inr (0, 1607, []), .inr (0, 205, []), .inr (0, 32140, []), .inr (0, 1600, []), .inr (0, 6, []), .inr (0, 104, []), .inr (0, 8, []), .inr (0, 8, []), .inr (0, 8, []), .inr (0, 8, []), .inr (0, 8, []), .inr (0, 10, []), .inr (0, 10, []), .inr (0, 1681, []), .inr (0, 41, [])]) rfl ?_
    refine zB_putF (ci := 12) (q := 26) ok rfl zc_12 hin_12 tyX12 tyX12_ok nmX12 (s := 48) (by decide) fi_12_156 ⟨rfl, rfl⟩ (tyX12_ok 48 (by decide)) rfl rfl (by decide) dX12_init_903 ?_
    refine zB_ks (ks' := [.inl (12, [none, none, none, some (some (1)), some (some (2)), some (some (3)), some (some (4)), some (some (5)), none, none, none, none, none, none, some (some (6)), some (some (7)), some (some (8)), some (some (9)), some (some (10)), some (some (11)), some (some (12)), some (some (13)), some (some (14)), none, none, none, none, some (some (15)), none, some (some (16)), none, none, none, none, none, none, none, some (some (17)), some (some (18)), some (some (19)), some (some (20)), some (some (21)), some (some (22)), none, none, some (some (23)), some (some (24)), some (some (25)), some (some (26))]), .inr (0, 72, []), .inr (0, 20, []), .inr (0, 16, []), .inr (0, 48, []), .inr (0, 60, []), .inr (0, 72, []), .inr (0, 20, []), .inr (0, 16, []), .inr (0, 48, []), .inr (0, 48, []), .inr (0, 60, []), .inr (0, 1607, []), .inr (0, 205, []), .inr (0, 32140, []), .inr (0, 1600, []), .inr (0, 6, []), .inr (0, 104, []), .inr (0, 8, []), .inr (0, 8, []), .inr (0, 8, []), .inr (0, 8, []), .inr (0, 8, []), .inr (0, 10, []), .inr (0, 10, []), .inr (0, 1681, []), .inr (0, 41, [])]) rfl ?_
    exact hr _ _ dX12_init_906)
