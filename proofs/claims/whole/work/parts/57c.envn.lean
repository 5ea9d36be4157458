set_option maxRecDepth 100000 in
theorem lw_m3_7 : ∀ j, j < 21 → 7 ≠ j → Cond.not (Cond.eq (lw_tm 7) (lw_tm j)) ∈ lw_fl ∨ Cond.not (Cond.eq (lw_tm j) (lw_tm 7)) ∈ lw_fl := by decide +kernel
set_option maxRecDepth 100000 in
theorem lw_m3_8 : ∀ j, j < 21 → 8 ≠ j → Cond.not (Cond.eq (lw_tm 8) (lw_tm j)) ∈ lw_fl ∨ Cond.not (Cond.eq (lw_tm j) (lw_tm 8)) ∈ lw_fl := by decide +kernel
set_option maxRecDepth 100000 in
theorem lw_m3_9 : ∀ j, j < 21 → 9 ≠ j → Cond.not (Cond.eq (lw_tm 9) (lw_tm j)) ∈ lw_fl ∨ Cond.not (Cond.eq (lw_tm j) (lw_tm 9)) ∈ lw_fl := by decide +kernel
set_option maxRecDepth 100000 in
theorem lw_m3_10 : ∀ j, j < 21 → 10 ≠ j → Cond.not (Cond.eq (lw_tm 10) (lw_tm j)) ∈ lw_fl ∨ Cond.not (Cond.eq (lw_tm j) (lw_tm 10)) ∈ lw_fl := by decide +kernel
set_option maxRecDepth 100000 in
theorem lw_m3_11 : ∀ j, j < 21 → 11 ≠ j → Cond.not (Cond.eq (lw_tm 11) (lw_tm j)) ∈ lw_fl ∨ Cond.not (Cond.eq (lw_tm j) (lw_tm 11)) ∈ lw_fl := by decide +kernel
set_option maxRecDepth 100000 in
theorem lw_m3_12 : ∀ j, j < 21 → 12 ≠ j → Cond.not (Cond.eq (lw_tm 12) (lw_tm j)) ∈ lw_fl ∨ Cond.not (Cond.eq (lw_tm j) (lw_tm 12)) ∈ lw_fl := by decide +kernel
set_option maxRecDepth 100000 in
theorem lw_m3_13 : ∀ j, j < 21 → 13 ≠ j → Cond.not (Cond.eq (lw_tm 13) (lw_tm j)) ∈ lw_fl ∨ Cond.not (Cond.eq (lw_tm j) (lw_tm 13)) ∈ lw_fl := by decide +kernel
