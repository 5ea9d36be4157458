theorem zin_of {ws : List Cond} (ps : List Nat) (hp : ws = ps.filterMap (fun i => lw_tbl[i]?)) (h : ws.all goodWord = true) : ∀ c ∈ ws, c ∈ zT := by
  intro w hw
  have h1 := List.all_eq_true.mp h w hw
  rw [hp] at hw
  obtain ⟨i, -, hi⟩ := List.mem_filterMap.mp hw
  exact zT_of hi h1
theorem zc_0 : zcl[0]? = some (RX0, TX0, 3) := rfl
theorem pn_0 : plainName RX0 = true := by decide
theorem hin_0 : ∀ c ∈ u_ws RX0 TX0 3, c ∈ zT := zin_of [454, 456, 458] (by decide +kernel) (by decide +kernel)
theorem zc_1 : zcl[1]? = some (RX1, TX1, 3) := rfl
theorem pn_1 : plainName RX1 = true := by decide
theorem hin_1 : ∀ c ∈ u_ws RX1 TX1 3, c ∈ zT := zin_of [469, 471, 473] (by decide +kernel) (by decide +kernel)
theorem zc_2 : zcl[2]? = some (RX2, TX2, 7) := rfl
theorem pn_2 : plainName RX2 = true := by decide
theorem hin_2 : ∀ c ∈ u_ws RX2 TX2 7, c ∈ zT := zin_of [365, 367, 369, 371, 373, 375, 377] (by decide +kernel) (by decide +kernel)
theorem zc_3 : zcl[3]? = some (RX3, TX3, 4) := rfl
theorem pn_3 : plainName RX3 = true := by decide
theorem hin_3 : ∀ c ∈ u_ws RX3 TX3 4, c ∈ zT := zin_of [210, 212, 214, 216] (by decide +kernel) (by decide +kernel)
theorem zc_4 : zcl[4]? = some (RX4, TX4, 8) := rfl
theorem pn_4 : plainName RX4 = true := by decide
theorem hin_4 : ∀ c ∈ u_ws RX4 TX4 8, c ∈ zT := zin_of [525, 527, 529, 531, 533, 535, 537, 539] (by decide +kernel) (by decide +kernel)
theorem zc_5 : zcl[5]? = some (RX5, TX5, 8) := rfl
theorem pn_5 : plainName RX5 = true := by decide
theorem hin_5 : ∀ c ∈ u_ws RX5 TX5 8, c ∈ zT := zin_of [167, 169, 171, 173, 175, 177, 179, 181] (by decide +kernel) (by decide +kernel)
theorem zc_6 : zcl[6]? = some (RX6, TX6, 5) := rfl
theorem pn_6 : plainName RX6 = true := by decide
theorem hin_6 : ∀ c ∈ u_ws RX6 TX6 5, c ∈ zT := zin_of [501, 503, 505, 507, 509] (by decide +kernel) (by decide +kernel)
theorem zc_7 : zcl[7]? = some (RX7, TX7, 7) := rfl
theorem pn_7 : plainName RX7 = true := by decide
theorem hin_7 : ∀ c ∈ u_ws RX7 TX7 7, c ∈ zT := zin_of [559, 561, 563, 565, 567, 569, 571] (by decide +kernel) (by decide +kernel)
theorem zc_8 : zcl[8]? = some (RX8, TX8, 4) := rfl
theorem pn_8 : plainName RX8 = true := by decide
theorem hin_8 : ∀ c ∈ u_ws RX8 TX8 4, c ∈ zT := zin_of [236, 238, 240, 242] (by decide +kernel) (by decide +kernel)
theorem zc_9 : zcl[9]? = some (RX9, TX9, 12) := rfl
theorem pn_9 : plainName RX9 = true := by decide
theorem hin_9 : ∀ c ∈ u_ws RX9 TX9 12, c ∈ zT := zin_of [417, 419, 421, 423, 425, 427, 429, 431, 433, 435, 437, 439] (by decide +kernel) (by decide +kernel)
theorem zc_10 : zcl[10]? = some (RX10, TX10, 13) := rfl
theorem pn_10 : plainName RX10 = true := by decide
theorem hin_10 : ∀ c ∈ u_ws RX10 TX10 13, c ∈ zT := zin_of [297, 299, 301, 303, 305, 307, 309, 311, 313, 315, 317, 319, 321] (by decide +kernel) (by decide +kernel)
theorem zc_11 : zcl[11]? = some (RX11, TX11, 16) := rfl
theorem pn_11 : plainName RX11 = true := by decide
theorem hin_11 : ∀ c ∈ u_ws RX11 TX11 16, c ∈ zT := zin_of [590, 592, 594, 596, 598, 600, 602, 604, 606, 608, 610, 612, 614, 616, 618, 620] (by decide +kernel) (by decide +kernel)
theorem zc_12 : zcl[12]? = some (RX12, TX12, 49) := rfl
theorem pn_12 : plainName RX12 = true := by decide
theorem hin_12 : ∀ c ∈ u_ws RX12 TX12 49, c ∈ zT := zin_of [1448, 1450, 1452, 1454, 1456, 1458, 1460, 1462, 1464, 1466, 1468, 1470, 1472, 1474, 1476, 1478, 1480, 1482, 1484, 1486, 1488, 1490, 1492, 1494, 1496, 1498, 1500, 1502, 1504, 1506, 1508, 1510, 1512, 1514, 1516, 1518, 1520, 1522, 1524, 1526, 1528, 1530, 1532, 1534, 1536, 1538, 1540, 1542, 1544] (by decide +kernel) (by decide +kernel)
theorem pn_J : plainName RJ7 = true := by decide
