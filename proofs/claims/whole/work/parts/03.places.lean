/-! the places: what lies at each, in the order in which it is made -/
abbrev Sg : Type := Nat → Nat → Int32
abbrev Kd : Type := (Nat × List (Option (Option Nat))) ⊕ (Nat × Nat × List Nat)
def zcl : List vw_C := [(RX0, TX0, 3), (RX1, TX1, 3), (RX2, TX2, 7), (RX3, TX3, 4), (RX4, TX4, 8), (RX5, TX5, 8), (RX6, TX6, 5), (RX7, TX7, 7), (RX8, TX8, 4), (RX9, TX9, 12), (RX10, TX10, 13), (RX11, TX11, 16), (RX12, TX12, 49)]
def zK0 : List Kd := [.inl (11, [some (some (1)), none, some (some (2)), some none, some none, none, none, none, some (some (55)), some (some (80)), none, none, some (some (81)), some (some (124)), none, some (some (170))]),
  .inr (1, 1600, []),
  .inl (5, [some none, none, none, none, none, some none, none, none]),
  .inl (10, [none, none, none, none, some (some (4)), some (some (5)), some (some (15)), none, some (some (16)), some (some (17)), some (some (18)), some (some (19)), some (some (23))]),
  .inr (0, 8, []),
  .inr (2, 9, [6, 7, 8, 9, 10, 11, 12, 13, 14]),
  .inr (0, 8, []),
  .inr (0, 8, []),
  .inr (0, 8, []),
  .inr (0, 8, []),
  .inr (0, 8, []),
  .inr (0, 8, []),
  .inr (0, 8, []),
  .inr (0, 8, []),
  .inr (0, 8, []),
  .inr (0, 8, []),
  .inr (0, 10, []),
  .inr (0, 10, []),
  .inr (0, 10, []),
  .inl (3, [none, some (some (20)), some (some (21)), some (some (22))]),
  .inr (0, 16, []),
  .inr (0, 16, []),
  .inr (0, 16, []),
  .inl (8, [none, some (some (24)), some (some (25)), some (some (26))]),
  .inr (0, 2, []),
  .inr (0, 2, []),
  .inr (2, 2, [27, 28]),
  .inr (0, 6, []),
  .inr (0, 6, []),
  .inl (10, [none, none, none, none, some (some (30)), some (some (31)), some (some (41)), none, some (some (42)), some (some (43)), some (some (44)), some (some (45)), some (some (49))]),
  .inr (0, 8, []),
  .inr (2, 9, [32, 33, 34, 35, 36, 37, 38, 39, 40]),
  .inr (0, 8, []),
  .inr (0, 8, []),
  .inr (0, 8, []),
  .inr (0, 8, []),
  .inr (0, 8, []),
  .inr (0, 8, []),
  .inr (0, 8, []),
  .inr (0, 8, []),
  .inr (0, 8, []),
  .inr (0, 8, []),
  .inr (0, 10, []),
  .inr (0, 10, []),
  .inr (0, 10, []),
  .inl (3, [none, some (some (46)), some (some (47)), some (some (48))]),
  .inr (0, 16, []),
  .inr (0, 16, []),
  .inr (0, 16, []),
  .inl (8, [none, some (some (50)), some (some (51)), some (some (52))]),
  .inr (0, 2, []),
  .inr (0, 2, []),
  .inr (2, 2, [53, 54]),
  .inr (0, 6, []),
  .inr (0, 6, []),
  .inl (1, [some (some (56)), some (some (73)), some (some (77))]),
  .inl (9, [none, none, none, some (some (57)), some (some (58)), some (some (59)), some (some (60)), some (some (61)), some (some (62)), some (some (63)), some (some (64)), some (some (65))]),
  .inr (0, 8, []),
  .inr (0, 8, []),
  .inr (0, 8, []),
  .inr (0, 8, []),
  .inr (0, 72, []),
  .inr (0, 10, []),
  .inr (0, 10, []),
  .inr (0, 7, []),
  .inl (2, [some (some (66)), some (some (67)), some (some (68)), some (some (69)), some (some (70)), some (some (71)), some (some (72))]),
  .inr (0, 8, []),
  .inr (0, 8, []),
  .inr (0, 8, []),
  .inr (0, 8, []),
  .inr (0, 8, []),
  .inr (0, 8, []),
  .inr (0, 8, []),
  .inl (3, [none, some (some (74)), some (some (75)), some (some (76))]),
  .inr (0, 16, []),
  .inr (0, 16, []),
  .inr (0, 16, []),
  .inl (0, [none, some (some (78)), some (some (79))]),
  .inr (0, 120, []),
  .inr (0, 1280, []),
  .inr (4, 20, []),
  .inl (4, [some (some (82)), some (some (99)), some (some (103)), some none, some none, none, none, none]),
  .inl (9, [none, none, none, some (some (83)), some (some (84)), some (some (85)), some (some (86)), some (some (87)), some (some (88)), some (some (89)), some (some (90)), some (some (91))]),
  .inr (0, 8, []),
  .inr (0, 8, []),
  .inr (0, 8, []),
  .inr (0, 8, []),
  .inr (0, 72, []),
  .inr (0, 10, []),
  .inr (0, 10, []),
  .inr (0, 7, []),
  .inl (2, [some (some (92)), some (some (93)), some (some (94)), some (some (95)), some (some (96)), some (some (97)), some (some (98))]),
  .inr (0, 8, []),
  .inr (0, 8, []),
  .inr (0, 8, []),
  .inr (0, 8, []),
  .inr (0, 8, []),
  .inr (0, 8, []),
  .inr (0, 8, []),
  .inl (3, [none, some (some (100)), some (some (101)), some (some (102))]),
  .inr (0, 16, []),
  .inr (0, 16, []),
  .inr (0, 16, []),
  .inl (6, [none, none, none, some (some (104)), some (some (115))]),
  .inr (3, 10, [105, 106, 107, 108, 109, 110, 111, 112, 113, 114]),
  .inr (1, 273, []),
  .inr (1, 273, []),
  .inr (1, 273, []),
  .inr (1, 273, []),
  .inr (1, 273, []),
  .inr (1, 273, []),
  .inr (1, 273, []),
  .inr (1, 273, []),
  .inr (1, 273, []),
  .inr (1, 273, []),
  .inr (2, 8, [116, 117, 118, 119, 120, 121, 122, 123]),
  .inr (0, 201, []),
  .inr (0, 201, []),
  .inr (0, 201, []),
  .inr (0, 201, []),
  .inr (0, 201, []),
  .inr (0, 201, []),
  .inr (0, 201, []),
  .inr (0, 201, []),
  .inl (7, [none, none, some (some (125)), some (some (126)), none, some (some (127)), some (some (128))]),
  .inr (0, 10, []),
  .inr (0, 10, []),
  .inr (0, 41, []),
  .inr (2, 41, [129, 130, 131, 132, 133, 134, 135, 136, 137, 138, 139, 140, 141, 142, 143, 144, 145, 146, 147, 148, 149, 150, 151, 152, 153, 154, 155, 156, 157, 158, 159, 160, 161, 162, 163, 164, 165, 166, 167, 168, 169]),
  .inr (0, 41, []),
  .inr (0, 41, []),
  .inr (0, 41, []),
  .inr (0, 41, []),
  .inr (0, 41, []),
  .inr (0, 41, []),
  .inr (0, 41, []),
  .inr (0, 41, []),
  .inr (0, 41, []),
  .inr (0, 41, []),
  .inr (0, 41, []),
  .inr (0, 41, []),
  .inr (0, 41, []),
  .inr (0, 41, []),
  .inr (0, 41, []),
  .inr (0, 41, []),
  .inr (0, 41, []),
  .inr (0, 41, []),
  .inr (0, 41, []),
  .inr (0, 41, []),
  .inr (0, 41, []),
  .inr (0, 41, []),
  .inr (0, 41, []),
  .inr (0, 41, []),
  .inr (0, 41, []),
  .inr (0, 41, []),
  .inr (0, 41, []),
  .inr (0, 41, []),
  .inr (0, 41, []),
  .inr (0, 41, []),
  .inr (0, 41, []),
  .inr (0, 41, []),
  .inr (0, 41, []),
  .inr (0, 41, []),
  .inr (0, 41, []),
  .inr (0, 41, []),
  .inr (0, 41, []),
  .inr (0, 41, []),
  .inr (0, 41, []),
  .inr (0, 41, []),
  .inr (0, 41, []),
  .inr (0, 6, []),
  .inl (12, [none, none, none, some (some (172)), some (some (173)), some (some (174)), some (some (175)), some (some (176)), none, none, none, none, none, none, some (some (177)), some (some (178)), some (some (179)), some (some (180)), some (some (181)), some (some (182)), some (some (183)), some (some (184)), some (some (185)), none, none, none, none, some (some (186)), none, some (some (187)), none, none, none, none, none, none, none, some (some (188)), some (some (189)), some (some (190)), some (some (191)), some (some (192)), some (some (193)), none, none, some (some (194)), some (some (195)), some (some (196)), some (some (197))]),
  .inr (0, 72, []),
  .inr (0, 20, []),
  .inr (0, 16, []),
  .inr (0, 48, []),
  .inr (0, 60, []),
  .inr (0, 72, []),
  .inr (0, 20, []),
  .inr (0, 16, []),
  .inr (0, 48, []),
  .inr (0, 48, []),
  .inr (0, 60, []),
  .inr (0, 1607, []),
  .inr (0, 205, []),
  .inr (0, 32140, []),
  .inr (0, 1600, []),
  .inr (0, 6, []),
  .inr (0, 104, []),
  .inr (0, 8, []),
  .inr (0, 8, []),
  .inr (0, 8, []),
  .inr (0, 8, []),
  .inr (0, 8, []),
  .inr (0, 10, []),
  .inr (0, 10, []),
  .inr (0, 1681, []),
  .inr (0, 41, [])]
def zKM (w : Nat) : List Kd := [.inl (1, [some (some (w + 1)), some (some (w + 18)), some (some (w + 22))]),
  .inl (9, [none, none, none, some (some (w + 2)), some (some (w + 3)), some (some (w + 4)), some (some (w + 5)), some (some (w + 6)), some (some (w + 7)), some (some (w + 8)), some (some (w + 9)), some (some (w + 10))]),
  .inr (0, 8, []),
  .inr (0, 8, []),
  .inr (0, 8, []),
  .inr (0, 8, []),
  .inr (0, 72, []),
  .inr (0, 10, []),
  .inr (0, 10, []),
  .inr (0, 7, []),
  .inl (2, [some (some (w + 11)), some (some (w + 12)), some (some (w + 13)), some (some (w + 14)), some (some (w + 15)), some (some (w + 16)), some (some (w + 17))]),
  .inr (0, 8, []),
  .inr (0, 8, []),
  .inr (0, 8, []),
  .inr (0, 8, []),
  .inr (0, 8, []),
  .inr (0, 8, []),
  .inr (0, 8, []),
  .inl (3, [none, some (some (w + 19)), some (some (w + 20)), some (some (w + 21))]),
  .inr (0, 16, []),
  .inr (0, 16, []),
  .inr (0, 16, []),
  .inl (0, [none, some (some (w + 23)), some (some (w + 24))]),
  .inr (0, 120, []),
  .inr (0, 1280, [])]
def kd (i : Nat) : Kd := if i < 198 then zK0.getD i (.inr (0, 0, [])) else (zKM (i - (i - 198) % 25)).getD ((i - 198) % 25) (.inr (0, 0, []))
def zk (i N : Nat) (k : Kd) : Prop := kd i = k ∧ i < N
theorem zk.mono {i N M : Nat} {k : Kd} (h : zk i N k) (hm : N ≤ M) : zk i M k := ⟨h.1, Nat.lt_of_lt_of_le h.2 hm⟩
theorem kc_0 : zk 0 198 (.inl (11, [some (some (1)), none, some (some (2)), some none, some none, none, none, none, some (some (55)), some (some (80)), none, none, some (some (81)), some (some (124)), none, some (some (170))])) := ⟨rfl, by decide⟩
theorem kc_1 : zk 1 198 (.inr (1, 1600, [])) := ⟨rfl, by decide⟩
theorem kc_2 : zk 2 198 (.inl (5, [some none, none, none, none, none, some none, none, none])) := ⟨rfl, by decide⟩
theorem kc_3 : zk 3 198 (.inl (10, [none, none, none, none, some (some (4)), some (some (5)), some (some (15)), none, some (some (16)), some (some (17)), some (some (18)), some (some (19)), some (some (23))])) := ⟨rfl, by decide⟩
theorem kc_4 : zk 4 198 (.inr (0, 8, [])) := ⟨rfl, by decide⟩
theorem kc_5 : zk 5 198 (.inr (2, 9, [6, 7, 8, 9, 10, 11, 12, 13, 14])) := ⟨rfl, by decide⟩
theorem kc_6 : zk 6 198 (.inr (0, 8, [])) := ⟨rfl, by decide⟩
theorem kc_7 : zk 7 198 (.inr (0, 8, [])) := ⟨rfl, by decide⟩
theorem kc_8 : zk 8 198 (.inr (0, 8, [])) := ⟨rfl, by decide⟩
theorem kc_9 : zk 9 198 (.inr (0, 8, [])) := ⟨rfl, by decide⟩
theorem kc_10 : zk 10 198 (.inr (0, 8, [])) := ⟨rfl, by decide⟩
theorem kc_11 : zk 11 198 (.inr (0, 8, [])) := ⟨rfl, by decide⟩
theorem kc_12 : zk 12 198 (.inr (0, 8, [])) := ⟨rfl, by decide⟩
theorem kc_13 : zk 13 198 (.inr (0, 8, [])) := ⟨rfl, by decide⟩
theorem kc_14 : zk 14 198 (.inr (0, 8, [])) := ⟨rfl, by decide⟩
theorem kc_15 : zk 15 198 (.inr (0, 8, [])) := ⟨rfl, by decide⟩
theorem kc_16 : zk 16 198 (.inr (0, 10, [])) := ⟨rfl, by decide⟩
theorem kc_17 : zk 17 198 (.inr (0, 10, [])) := ⟨rfl, by decide⟩
theorem kc_18 : zk 18 198 (.inr (0, 10, [])) := ⟨rfl, by decide⟩
theorem kc_19 : zk 19 198 (.inl (3, [none, some (some (20)), some (some (21)), some (some (22))])) := ⟨rfl, by decide⟩
theorem kc_20 : zk 20 198 (.inr (0, 16, [])) := ⟨rfl, by decide⟩
theorem kc_21 : zk 21 198 (.inr (0, 16, [])) := ⟨rfl, by decide⟩
theorem kc_22 : zk 22 198 (.inr (0, 16, [])) := ⟨rfl, by decide⟩
theorem kc_23 : zk 23 198 (.inl (8, [none, some (some (24)), some (some (25)), some (some (26))])) := ⟨rfl, by decide⟩
theorem kc_24 : zk 24 198 (.inr (0, 2, [])) := ⟨rfl, by decide⟩
theorem kc_25 : zk 25 198 (.inr (0, 2, [])) := ⟨rfl, by decide⟩
theorem kc_26 : zk 26 198 (.inr (2, 2, [27, 28])) := ⟨rfl, by decide⟩
theorem kc_27 : zk 27 198 (.inr (0, 6, [])) := ⟨rfl, by decide⟩
theorem kc_28 : zk 28 198 (.inr (0, 6, [])) := ⟨rfl, by decide⟩
theorem kc_29 : zk 29 198 (.inl (10, [none, none, none, none, some (some (30)), some (some (31)), some (some (41)), none, some (some (42)), some (some (43)), some (some (44)), some (some (45)), some (some (49))])) := ⟨rfl, by decide⟩
theorem kc_30 : zk 30 198 (.inr (0, 8, [])) := ⟨rfl, by decide⟩
theorem kc_31 : zk 31 198 (.inr (2, 9, [32, 33, 34, 35, 36, 37, 38, 39, 40])) := ⟨rfl, by decide⟩
theorem kc_32 : zk 32 198 (.inr (0, 8, [])) := ⟨rfl, by decide⟩
theorem kc_33 : zk 33 198 (.inr (0, 8, [])) := ⟨rfl, by decide⟩
theorem kc_34 : zk 34 198 (.inr (0, 8, [])) := ⟨rfl, by decide⟩
theorem kc_35 : zk 35 198 (.inr (0, 8, [])) := ⟨rfl, by decide⟩
theorem kc_36 : zk 36 198 (.inr (0, 8, [])) := ⟨rfl, by decide⟩
theorem kc_37 : zk 37 198 (.inr (0, 8, [])) := ⟨rfl, by decide⟩
theorem kc_38 : zk 38 198 (.inr (0, 8, [])) := ⟨rfl, by decide⟩
theorem kc_39 : zk 39 198 (.inr (0, 8, [])) := ⟨rfl, by decide⟩
theorem kc_40 : zk 40 198 (.inr (0, 8, [])) := ⟨rfl, by decide⟩
theorem kc_41 : zk 41 198 (.inr (0, 8, [])) := ⟨rfl, by decide⟩
theorem kc_42 : zk 42 198 (.inr (0, 10, [])) := ⟨rfl, by decide⟩
theorem kc_43 : zk 43 198 (.inr (0, 10, [])) := ⟨rfl, by decide⟩
theorem kc_44 : zk 44 198 (.inr (0, 10, [])) := ⟨rfl, by decide⟩
theorem kc_45 : zk 45 198 (.inl (3, [none, some (some (46)), some (some (47)), some (some (48))])) := ⟨rfl, by decide⟩
theorem kc_46 : zk 46 198 (.inr (0, 16, [])) := ⟨rfl, by decide⟩
theorem kc_47 : zk 47 198 (.inr (0, 16, [])) := ⟨rfl, by decide⟩
theorem kc_48 : zk 48 198 (.inr (0, 16, [])) := ⟨rfl, by decide⟩
theorem kc_49 : zk 49 198 (.inl (8, [none, some (some (50)), some (some (51)), some (some (52))])) := ⟨rfl, by decide⟩
theorem kc_50 : zk 50 198 (.inr (0, 2, [])) := ⟨rfl, by decide⟩
theorem kc_51 : zk 51 198 (.inr (0, 2, [])) := ⟨rfl, by decide⟩
theorem kc_52 : zk 52 198 (.inr (2, 2, [53, 54])) := ⟨rfl, by decide⟩
theorem kc_53 : zk 53 198 (.inr (0, 6, [])) := ⟨rfl, by decide⟩
theorem kc_54 : zk 54 198 (.inr (0, 6, [])) := ⟨rfl, by decide⟩
theorem kc_55 : zk 55 198 (.inl (1, [some (some (56)), some (some (73)), some (some (77))])) := ⟨rfl, by decide⟩
theorem kc_56 : zk 56 198 (.inl (9, [none, none, none, some (some (57)), some (some (58)), some (some (59)), some (some (60)), some (some (61)), some (some (62)), some (some (63)), some (some (64)), some (some (65))])) := ⟨rfl, by decide⟩
theorem kc_57 : zk 57 198 (.inr (0, 8, [])) := ⟨rfl, by decide⟩
theorem kc_58 : zk 58 198 (.inr (0, 8, [])) := ⟨rfl, by decide⟩
theorem kc_59 : zk 59 198 (.inr (0, 8, [])) := ⟨rfl, by decide⟩
theorem kc_60 : zk 60 198 (.inr (0, 8, [])) := ⟨rfl, by decide⟩
theorem kc_61 : zk 61 198 (.inr (0, 72, [])) := ⟨rfl, by decide⟩
theorem kc_62 : zk 62 198 (.inr (0, 10, [])) := ⟨rfl, by decide⟩
theorem kc_63 : zk 63 198 (.inr (0, 10, [])) := ⟨rfl, by decide⟩
theorem kc_64 : zk 64 198 (.inr (0, 7, [])) := ⟨rfl, by decide⟩
theorem kc_65 : zk 65 198 (.inl (2, [some (some (66)), some (some (67)), some (some (68)), some (some (69)), some (some (70)), some (some (71)), some (some (72))])) := ⟨rfl, by decide⟩
theorem kc_66 : zk 66 198 (.inr (0, 8, [])) := ⟨rfl, by decide⟩
theorem kc_67 : zk 67 198 (.inr (0, 8, [])) := ⟨rfl, by decide⟩
theorem kc_68 : zk 68 198 (.inr (0, 8, [])) := ⟨rfl, by decide⟩
theorem kc_69 : zk 69 198 (.inr (0, 8, [])) := ⟨rfl, by decide⟩
theorem kc_70 : zk 70 198 (.inr (0, 8, [])) := ⟨rfl, by decide⟩
theorem kc_71 : zk 71 198 (.inr (0, 8, [])) := ⟨rfl, by decide⟩
theorem kc_72 : zk 72 198 (.inr (0, 8, [])) := ⟨rfl, by decide⟩
theorem kc_73 : zk 73 198 (.inl (3, [none, some (some (74)), some (some (75)), some (some (76))])) := ⟨rfl, by decide⟩
theorem kc_74 : zk 74 198 (.inr (0, 16, [])) := ⟨rfl, by decide⟩
theorem kc_75 : zk 75 198 (.inr (0, 16, [])) := ⟨rfl, by decide⟩
theorem kc_76 : zk 76 198 (.inr (0, 16, [])) := ⟨rfl, by decide⟩
theorem kc_77 : zk 77 198 (.inl (0, [none, some (some (78)), some (some (79))])) := ⟨rfl, by decide⟩
theorem kc_78 : zk 78 198 (.inr (0, 120, [])) := ⟨rfl, by decide⟩
theorem kc_79 : zk 79 198 (.inr (0, 1280, [])) := ⟨rfl, by decide⟩
theorem kc_80 : zk 80 198 (.inr (4, 20, [])) := ⟨rfl, by decide⟩
theorem kc_81 : zk 81 198 (.inl (4, [some (some (82)), some (some (99)), some (some (103)), some none, some none, none, none, none])) := ⟨rfl, by decide⟩
theorem kc_82 : zk 82 198 (.inl (9, [none, none, none, some (some (83)), some (some (84)), some (some (85)), some (some (86)), some (some (87)), some (some (88)), some (some (89)), some (some (90)), some (some (91))])) := ⟨rfl, by decide⟩
theorem kc_83 : zk 83 198 (.inr (0, 8, [])) := ⟨rfl, by decide⟩
theorem kc_84 : zk 84 198 (.inr (0, 8, [])) := ⟨rfl, by decide⟩
theorem kc_85 : zk 85 198 (.inr (0, 8, [])) := ⟨rfl, by decide⟩
theorem kc_86 : zk 86 198 (.inr (0, 8, [])) := ⟨rfl, by decide⟩
theorem kc_87 : zk 87 198 (.inr (0, 72, [])) := ⟨rfl, by decide⟩
theorem kc_88 : zk 88 198 (.inr (0, 10, [])) := ⟨rfl, by decide⟩
theorem kc_89 : zk 89 198 (.inr (0, 10, [])) := ⟨rfl, by decide⟩
theorem kc_90 : zk 90 198 (.inr (0, 7, [])) := ⟨rfl, by decide⟩
theorem kc_91 : zk 91 198 (.inl (2, [some (some (92)), some (some (93)), some (some (94)), some (some (95)), some (some (96)), some (some (97)), some (some (98))])) := ⟨rfl, by decide⟩
theorem kc_92 : zk 92 198 (.inr (0, 8, [])) := ⟨rfl, by decide⟩
theorem kc_93 : zk 93 198 (.inr (0, 8, [])) := ⟨rfl, by decide⟩
theorem kc_94 : zk 94 198 (.inr (0, 8, [])) := ⟨rfl, by decide⟩
theorem kc_95 : zk 95 198 (.inr (0, 8, [])) := ⟨rfl, by decide⟩
theorem kc_96 : zk 96 198 (.inr (0, 8, [])) := ⟨rfl, by decide⟩
theorem kc_97 : zk 97 198 (.inr (0, 8, [])) := ⟨rfl, by decide⟩
theorem kc_98 : zk 98 198 (.inr (0, 8, [])) := ⟨rfl, by decide⟩
theorem kc_99 : zk 99 198 (.inl (3, [none, some (some (100)), some (some (101)), some (some (102))])) := ⟨rfl, by decide⟩
theorem kc_100 : zk 100 198 (.inr (0, 16, [])) := ⟨rfl, by decide⟩
theorem kc_101 : zk 101 198 (.inr (0, 16, [])) := ⟨rfl, by decide⟩
theorem kc_102 : zk 102 198 (.inr (0, 16, [])) := ⟨rfl, by decide⟩
theorem kc_103 : zk 103 198 (.inl (6, [none, none, none, some (some (104)), some (some (115))])) := ⟨rfl, by decide⟩
theorem kc_104 : zk 104 198 (.inr (3, 10, [105, 106, 107, 108, 109, 110, 111, 112, 113, 114])) := ⟨rfl, by decide⟩
theorem kc_105 : zk 105 198 (.inr (1, 273, [])) := ⟨rfl, by decide⟩
theorem kc_106 : zk 106 198 (.inr (1, 273, [])) := ⟨rfl, by decide⟩
theorem kc_107 : zk 107 198 (.inr (1, 273, [])) := ⟨rfl, by decide⟩
theorem kc_108 : zk 108 198 (.inr (1, 273, [])) := ⟨rfl, by decide⟩
theorem kc_109 : zk 109 198 (.inr (1, 273, [])) := ⟨rfl, by decide⟩
theorem kc_110 : zk 110 198 (.inr (1, 273, [])) := ⟨rfl, by decide⟩
theorem kc_111 : zk 111 198 (.inr (1, 273, [])) := ⟨rfl, by decide⟩
theorem kc_112 : zk 112 198 (.inr (1, 273, [])) := ⟨rfl, by decide⟩
theorem kc_113 : zk 113 198 (.inr (1, 273, [])) := ⟨rfl, by decide⟩
theorem kc_114 : zk 114 198 (.inr (1, 273, [])) := ⟨rfl, by decide⟩
theorem kc_115 : zk 115 198 (.inr (2, 8, [116, 117, 118, 119, 120, 121, 122, 123])) := ⟨rfl, by decide⟩
theorem kc_116 : zk 116 198 (.inr (0, 201, [])) := ⟨rfl, by decide⟩
theorem kc_117 : zk 117 198 (.inr (0, 201, [])) := ⟨rfl, by decide⟩
theorem kc_118 : zk 118 198 (.inr (0, 201, [])) := ⟨rfl, by decide⟩
theorem kc_119 : zk 119 198 (.inr (0, 201, [])) := ⟨rfl, by decide⟩
theorem kc_120 : zk 120 198 (.inr (0, 201, [])) := ⟨rfl, by decide⟩
theorem kc_121 : zk 121 198 (.inr (0, 201, [])) := ⟨rfl, by decide⟩
theorem kc_122 : zk 122 198 (.inr (0, 201, [])) := ⟨rfl, by decide⟩
theorem kc_123 : zk 123 198 (.inr (0, 201, [])) := ⟨rfl, by decide⟩
theorem kc_124 : zk 124 198 (.inl (7, [none, none, some (some (125)), some (some (126)), none, some (some (127)), some (some (128))])) := ⟨rfl, by decide⟩
theorem kc_125 : zk 125 198 (.inr (0, 10, [])) := ⟨rfl, by decide⟩
theorem kc_126 : zk 126 198 (.inr (0, 10, [])) := ⟨rfl, by decide⟩
theorem kc_127 : zk 127 198 (.inr (0, 41, [])) := ⟨rfl, by decide⟩
theorem kc_128 : zk 128 198 (.inr (2, 41, [129, 130, 131, 132, 133, 134, 135, 136, 137, 138, 139, 140, 141, 142, 143, 144, 145, 146, 147, 148, 149, 150, 151, 152, 153, 154, 155, 156, 157, 158, 159, 160, 161, 162, 163, 164, 165, 166, 167, 168, 169])) := ⟨rfl, by decide⟩
theorem kc_129 : zk 129 198 (.inr (0, 41, [])) := ⟨rfl, by decide⟩
theorem kc_130 : zk 130 198 (.inr (0, 41, [])) := ⟨rfl, by decide⟩
theorem kc_131 : zk 131 198 (.inr (0, 41, [])) := ⟨rfl, by decide⟩
theorem kc_132 : zk 132 198 (.inr (0, 41, [])) := ⟨rfl, by decide⟩
theorem kc_133 : zk 133 198 (.inr (0, 41, [])) := ⟨rfl, by decide⟩
theorem kc_134 : zk 134 198 (.inr (0, 41, [])) := ⟨rfl, by decide⟩
theorem kc_135 : zk 135 198 (.inr (0, 41, [])) := ⟨rfl, by decide⟩
theorem kc_136 : zk 136 198 (.inr (0, 41, [])) := ⟨rfl, by decide⟩
theorem kc_137 : zk 137 198 (.inr (0, 41, [])) := ⟨rfl, by decide⟩
theorem kc_138 : zk 138 198 (.inr (0, 41, [])) := ⟨rfl, by decide⟩
theorem kc_139 : zk 139 198 (.inr (0, 41, [])) := ⟨rfl, by decide⟩
theorem kc_140 : zk 140 198 (.inr (0, 41, [])) := ⟨rfl, by decide⟩
theorem kc_141 : zk 141 198 (.inr (0, 41, [])) := ⟨rfl, by decide⟩
theorem kc_142 : zk 142 198 (.inr (0, 41, [])) := ⟨rfl, by decide⟩
theorem kc_143 : zk 143 198 (.inr (0, 41, [])) := ⟨rfl, by decide⟩
theorem kc_144 : zk 144 198 (.inr (0, 41, [])) := ⟨rfl, by decide⟩
theorem kc_145 : zk 145 198 (.inr (0, 41, [])) := ⟨rfl, by decide⟩
theorem kc_146 : zk 146 198 (.inr (0, 41, [])) := ⟨rfl, by decide⟩
theorem kc_147 : zk 147 198 (.inr (0, 41, [])) := ⟨rfl, by decide⟩
theorem kc_148 : zk 148 198 (.inr (0, 41, [])) := ⟨rfl, by decide⟩
theorem kc_149 : zk 149 198 (.inr (0, 41, [])) := ⟨rfl, by decide⟩
theorem kc_150 : zk 150 198 (.inr (0, 41, [])) := ⟨rfl, by decide⟩
theorem kc_151 : zk 151 198 (.inr (0, 41, [])) := ⟨rfl, by decide⟩
theorem kc_152 : zk 152 198 (.inr (0, 41, [])) := ⟨rfl, by decide⟩
theorem kc_153 : zk 153 198 (.inr (0, 41, [])) := ⟨rfl, by decide⟩
theorem kc_154 : zk 154 198 (.inr (0, 41, [])) := ⟨rfl, by decide⟩
theorem kc_155 : zk 155 198 (.inr (0, 41, [])) := ⟨rfl, by decide⟩
theorem kc_156 : zk 156 198 (.inr (0, 41, [])) := ⟨rfl, by decide⟩
theorem kc_157 : zk 157 198 (.inr (0, 41, [])) := ⟨rfl, by decide⟩
theorem kc_158 : zk 158 198 (.inr (0, 41, [])) := ⟨rfl, by decide⟩
theorem kc_159 : zk 159 198 (.inr (0, 41, [])) := ⟨rfl, by decide⟩
theorem kc_160 : zk 160 198 (.inr (0, 41, [])) := ⟨rfl, by decide⟩
theorem kc_161 : zk 161 198 (.inr (0, 41, [])) := ⟨rfl, by decide⟩
theorem kc_162 : zk 162 198 (.inr (0, 41, [])) := ⟨rfl, by decide⟩
theorem kc_163 : zk 163 198 (.inr (0, 41, [])) := ⟨rfl, by decide⟩
theorem kc_164 : zk 164 198 (.inr (0, 41, [])) := ⟨rfl, by decide⟩
theorem kc_165 : zk 165 198 (.inr (0, 41, [])) := ⟨rfl, by decide⟩
theorem kc_166 : zk 166 198 (.inr (0, 41, [])) := ⟨rfl, by decide⟩
theorem kc_167 : zk 167 198 (.inr (0, 41, [])) := ⟨rfl, by decide⟩
theorem kc_168 : zk 168 198 (.inr (0, 41, [])) := ⟨rfl, by decide⟩
theorem kc_169 : zk 169 198 (.inr (0, 41, [])) := ⟨rfl, by decide⟩
theorem kc_170 : zk 170 198 (.inr (0, 6, [])) := ⟨rfl, by decide⟩
theorem kc_171 : zk 171 198 (.inl (12, [none, none, none, some (some (172)), some (some (173)), some (some (174)), some (some (175)), some (some (176)), none, none, none, none, none, none, some (some (177)), some (some (178)), some (some (179)), some (some (180)), some (some (181)), some (some (182)), some (some (183)), some (some (184)), some (some (185)), none, none, none, none, some (some (186)), none, some (some (187)), none, none, none, none, none, none, none, some (some (188)), some (some (189)), some (some (190)), some (some (191)), some (some (192)), some (some (193)), none, none, some (some (194)), some (some (195)), some (some (196)), some (some (197))])) := ⟨rfl, by decide⟩
theorem kc_172 : zk 172 198 (.inr (0, 72, [])) := ⟨rfl, by decide⟩
theorem kc_173 : zk 173 198 (.inr (0, 20, [])) := ⟨rfl, by decide⟩
theorem kc_174 : zk 174 198 (.inr (0, 16, [])) := ⟨rfl, by decide⟩
theorem kc_175 : zk 175 198 (.inr (0, 48, [])) := ⟨rfl, by decide⟩
theorem kc_176 : zk 176 198 (.inr (0, 60, [])) := ⟨rfl, by decide⟩
theorem kc_177 : zk 177 198 (.inr (0, 72, [])) := ⟨rfl, by decide⟩
theorem kc_178 : zk 178 198 (.inr (0, 20, [])) := ⟨rfl, by decide⟩
theorem kc_179 : zk 179 198 (.inr (0, 16, [])) := ⟨rfl, by decide⟩
theorem kc_180 : zk 180 198 (.inr (0, 48, [])) := ⟨rfl, by decide⟩
theorem kc_181 : zk 181 198 (.inr (0, 48, [])) := ⟨rfl, by decide⟩
theorem kc_182 : zk 182 198 (.inr (0, 60, [])) := ⟨rfl, by decide⟩
theorem kc_183 : zk 183 198 (.inr (0, 1607, [])) := ⟨rfl, by decide⟩
theorem kc_184 : zk 184 198 (.inr (0, 205, [])) := ⟨rfl, by decide⟩
theorem kc_185 : zk 185 198 (.inr (0, 32140, [])) := ⟨rfl, by decide⟩
theorem kc_186 : zk 186 198 (.inr (0, 1600, [])) := ⟨rfl, by decide⟩
theorem kc_187 : zk 187 198 (.inr (0, 6, [])) := ⟨rfl, by decide⟩
theorem kc_188 : zk 188 198 (.inr (0, 104, [])) := ⟨rfl, by decide⟩
theorem kc_189 : zk 189 198 (.inr (0, 8, [])) := ⟨rfl, by decide⟩
theorem kc_190 : zk 190 198 (.inr (0, 8, [])) := ⟨rfl, by decide⟩
theorem kc_191 : zk 191 198 (.inr (0, 8, [])) := ⟨rfl, by decide⟩
theorem kc_192 : zk 192 198 (.inr (0, 8, [])) := ⟨rfl, by decide⟩
theorem kc_193 : zk 193 198 (.inr (0, 8, [])) := ⟨rfl, by decide⟩
theorem kc_194 : zk 194 198 (.inr (0, 10, [])) := ⟨rfl, by decide⟩
theorem kc_195 : zk 195 198 (.inr (0, 10, [])) := ⟨rfl, by decide⟩
theorem kc_196 : zk 196 198 (.inr (0, 1681, [])) := ⟨rfl, by decide⟩
theorem kc_197 : zk 197 198 (.inr (0, 41, [])) := ⟨rfl, by decide⟩
def zI_Notes (w N : Nat) : Prop := zk (w) N (.inl (2, [some (some (w + 1)), some (some (w + 2)), some (some (w + 3)), some (some (w + 4)), some (some (w + 5)), some (some (w + 6)), some (some (w + 7))])) ∧ zk (w + 1) N (.inr (0, 8, [])) ∧ zk (w + 2) N (.inr (0, 8, [])) ∧ zk (w + 3) N (.inr (0, 8, [])) ∧ zk (w + 4) N (.inr (0, 8, [])) ∧ zk (w + 5) N (.inr (0, 8, [])) ∧ zk (w + 6) N (.inr (0, 8, [])) ∧ zk (w + 7) N (.inr (0, 8, []))
def zI_Orders (w N : Nat) : Prop := zk (w) N (.inl (3, [none, some (some (w + 1)), some (some (w + 2)), some (some (w + 3))])) ∧ zk (w + 1) N (.inr (0, 16, [])) ∧ zk (w + 2) N (.inr (0, 16, [])) ∧ zk (w + 3) N (.inr (0, 16, []))
def zI_Turns (w N : Nat) : Prop := zk (w) N (.inl (8, [none, some (some (w + 1)), some (some (w + 2)), some (some (w + 3))])) ∧ zk (w + 1) N (.inr (0, 2, [])) ∧ zk (w + 2) N (.inr (0, 2, [])) ∧ zk (w + 3) N (.inr (2, 2, [w + 4, w + 5])) ∧ zk (w + 4) N (.inr (0, 6, [])) ∧ zk (w + 5) N (.inr (0, 6, []))
def zI_Works (w N : Nat) : Prop := zk (w) N (.inl (10, [none, none, none, none, some (some (w + 1)), some (some (w + 2)), some (some (w + 12)), none, some (some (w + 13)), some (some (w + 14)), some (some (w + 15)), some (some (w + 16)), some (some (w + 20))])) ∧ zk (w + 1) N (.inr (0, 8, [])) ∧ zk (w + 2) N (.inr (2, 9, [w + 3, w + 4, w + 5, w + 6, w + 7, w + 8, w + 9, w + 10, w + 11])) ∧ zk (w + 3) N (.inr (0, 8, [])) ∧ zk (w + 4) N (.inr (0, 8, [])) ∧ zk (w + 5) N (.inr (0, 8, [])) ∧ zk (w + 6) N (.inr (0, 8, [])) ∧ zk (w + 7) N (.inr (0, 8, [])) ∧ zk (w + 8) N (.inr (0, 8, [])) ∧ zk (w + 9) N (.inr (0, 8, [])) ∧ zk (w + 10) N (.inr (0, 8, [])) ∧ zk (w + 11) N (.inr (0, 8, [])) ∧ zk (w + 12) N (.inr (0, 8, [])) ∧ zk (w + 13) N (.inr (0, 10, [])) ∧ zk (w + 14) N (.inr (0, 10, [])) ∧ zk (w + 15) N (.inr (0, 10, [])) ∧ zk (w + 16) N (.inl (3, [none, some (some (w + 17)), some (some (w + 18)), some (some (w + 19))])) ∧ zk (w + 17) N (.inr (0, 16, [])) ∧ zk (w + 18) N (.inr (0, 16, [])) ∧ zk (w + 19) N (.inr (0, 16, [])) ∧ zk (w + 20) N (.inl (8, [none, some (some (w + 21)), some (some (w + 22)), some (some (w + 23))])) ∧ zk (w + 21) N (.inr (0, 2, [])) ∧ zk (w + 22) N (.inr (0, 2, [])) ∧ zk (w + 23) N (.inr (2, 2, [w + 24, w + 25])) ∧ zk (w + 24) N (.inr (0, 6, [])) ∧ zk (w + 25) N (.inr (0, 6, []))
def zI_Water (w N : Nat) : Prop := zk (w) N (.inl (9, [none, none, none, some (some (w + 1)), some (some (w + 2)), some (some (w + 3)), some (some (w + 4)), some (some (w + 5)), some (some (w + 6)), some (some (w + 7)), some (some (w + 8)), some (some (w + 9))])) ∧ zk (w + 1) N (.inr (0, 8, [])) ∧ zk (w + 2) N (.inr (0, 8, [])) ∧ zk (w + 3) N (.inr (0, 8, [])) ∧ zk (w + 4) N (.inr (0, 8, [])) ∧ zk (w + 5) N (.inr (0, 72, [])) ∧ zk (w + 6) N (.inr (0, 10, [])) ∧ zk (w + 7) N (.inr (0, 10, [])) ∧ zk (w + 8) N (.inr (0, 7, [])) ∧ zk (w + 9) N (.inl (2, [some (some (w + 10)), some (some (w + 11)), some (some (w + 12)), some (some (w + 13)), some (some (w + 14)), some (some (w + 15)), some (some (w + 16))])) ∧ zk (w + 10) N (.inr (0, 8, [])) ∧ zk (w + 11) N (.inr (0, 8, [])) ∧ zk (w + 12) N (.inr (0, 8, [])) ∧ zk (w + 13) N (.inr (0, 8, [])) ∧ zk (w + 14) N (.inr (0, 8, [])) ∧ zk (w + 15) N (.inr (0, 8, [])) ∧ zk (w + 16) N (.inr (0, 8, []))
def zI_Log (w N : Nat) : Prop := zk (w) N (.inl (0, [none, some (some (w + 1)), some (some (w + 2))])) ∧ zk (w + 1) N (.inr (0, 120, [])) ∧ zk (w + 2) N (.inr (0, 1280, []))
def zI_Moment (w N : Nat) : Prop := zk (w) N (.inl (1, [some (some (w + 1)), some (some (w + 18)), some (some (w + 22))])) ∧ zk (w + 1) N (.inl (9, [none, none, none, some (some (w + 2)), some (some (w + 3)), some (some (w + 4)), some (some (w + 5)), some (some (w + 6)), some (some (w + 7)), some (some (w + 8)), some (some (w + 9)), some (some (w + 10))])) ∧ zk (w + 2) N (.inr (0, 8, [])) ∧ zk (w + 3) N (.inr (0, 8, [])) ∧ zk (w + 4) N (.inr (0, 8, [])) ∧ zk (w + 5) N (.inr (0, 8, [])) ∧ zk (w + 6) N (.inr (0, 72, [])) ∧ zk (w + 7) N (.inr (0, 10, [])) ∧ zk (w + 8) N (.inr (0, 10, [])) ∧ zk (w + 9) N (.inr (0, 7, [])) ∧ zk (w + 10) N (.inl (2, [some (some (w + 11)), some (some (w + 12)), some (some (w + 13)), some (some (w + 14)), some (some (w + 15)), some (some (w + 16)), some (some (w + 17))])) ∧ zk (w + 11) N (.inr (0, 8, [])) ∧ zk (w + 12) N (.inr (0, 8, [])) ∧ zk (w + 13) N (.inr (0, 8, [])) ∧ zk (w + 14) N (.inr (0, 8, [])) ∧ zk (w + 15) N (.inr (0, 8, [])) ∧ zk (w + 16) N (.inr (0, 8, [])) ∧ zk (w + 17) N (.inr (0, 8, [])) ∧ zk (w + 18) N (.inl (3, [none, some (some (w + 19)), some (some (w + 20)), some (some (w + 21))])) ∧ zk (w + 19) N (.inr (0, 16, [])) ∧ zk (w + 20) N (.inr (0, 16, [])) ∧ zk (w + 21) N (.inr (0, 16, [])) ∧ zk (w + 22) N (.inl (0, [none, some (some (w + 23)), some (some (w + 24))])) ∧ zk (w + 23) N (.inr (0, 120, [])) ∧ zk (w + 24) N (.inr (0, 1280, []))
