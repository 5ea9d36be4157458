set_option maxRecDepth 100000 in
theorem lw_m3_0 : ∀ j, j < 21 → 0 ≠ j → Cond.not (Cond.eq (lw_tm 0) (lw_tm j)) ∈ lw_fl ∨ Cond.not (Cond.eq (lw_tm j) (lw_tm 0)) ∈ lw_fl := by decide +kernel
set_option maxRecDepth 100000 in
theorem lw_m3_1 : ∀ j, j < 21 → 1 ≠ j → Cond.not (Cond.eq (lw_tm 1) (lw_tm j)) ∈ lw_fl ∨ Cond.not (Cond.eq (lw_tm j) (lw_tm 1)) ∈ lw_fl := by decide +kernel
set_option maxRecDepth 100000 in
theorem lw_m3_2 : ∀ j, j < 21 → 2 ≠ j → Cond.not (Cond.eq (lw_tm 2) (lw_tm j)) ∈ lw_fl ∨ Cond.not (Cond.eq (lw_tm j) (lw_tm 2)) ∈ lw_fl := by decide +kernel
set_option maxRecDepth 100000 in
theorem lw_m3_3 : ∀ j, j < 21 → 3 ≠ j → Cond.not (Cond.eq (lw_tm 3) (lw_tm j)) ∈ lw_fl ∨ Cond.not (Cond.eq (lw_tm j) (lw_tm 3)) ∈ lw_fl := by decide +kernel
set_option maxRecDepth 100000 in
theorem lw_m3_4 : ∀ j, j < 21 → 4 ≠ j → Cond.not (Cond.eq (lw_tm 4) (lw_tm j)) ∈ lw_fl ∨ Cond.not (Cond.eq (lw_tm j) (lw_tm 4)) ∈ lw_fl := by decide +kernel
set_option maxRecDepth 100000 in
theorem lw_m3_5 : ∀ j, j < 21 → 5 ≠ j → Cond.not (Cond.eq (lw_tm 5) (lw_tm j)) ∈ lw_fl ∨ Cond.not (Cond.eq (lw_tm j) (lw_tm 5)) ∈ lw_fl := by decide +kernel
set_option maxRecDepth 100000 in
theorem lw_m3_6 : ∀ j, j < 21 → 6 ≠ j → Cond.not (Cond.eq (lw_tm 6) (lw_tm j)) ∈ lw_fl ∨ Cond.not (Cond.eq (lw_tm j) (lw_tm 6)) ∈ lw_fl := by decide +kernel
