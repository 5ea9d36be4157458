set_option maxRecDepth 100000 in
theorem lw_m3_14 : ∀ j, j < 21 → 14 ≠ j → Cond.not (Cond.eq (lw_tm 14) (lw_tm j)) ∈ lw_fl ∨ Cond.not (Cond.eq (lw_tm j) (lw_tm 14)) ∈ lw_fl := by decide +kernel
set_option maxRecDepth 100000 in
theorem lw_m3_15 : ∀ j, j < 21 → 15 ≠ j → Cond.not (Cond.eq (lw_tm 15) (lw_tm j)) ∈ lw_fl ∨ Cond.not (Cond.eq (lw_tm j) (lw_tm 15)) ∈ lw_fl := by decide +kernel
set_option maxRecDepth 100000 in
theorem lw_m3_16 : ∀ j, j < 21 → 16 ≠ j → Cond.not (Cond.eq (lw_tm 16) (lw_tm j)) ∈ lw_fl ∨ Cond.not (Cond.eq (lw_tm j) (lw_tm 16)) ∈ lw_fl := by decide +kernel
set_option maxRecDepth 100000 in
theorem lw_m3_17 : ∀ j, j < 21 → 17 ≠ j → Cond.not (Cond.eq (lw_tm 17) (lw_tm j)) ∈ lw_fl ∨ Cond.not (Cond.eq (lw_tm j) (lw_tm 17)) ∈ lw_fl := by decide +kernel
set_option maxRecDepth 100000 in
theorem lw_m3_18 : ∀ j, j < 21 → 18 ≠ j → Cond.not (Cond.eq (lw_tm 18) (lw_tm j)) ∈ lw_fl ∨ Cond.not (Cond.eq (lw_tm j) (lw_tm 18)) ∈ lw_fl := by decide +kernel
set_option maxRecDepth 100000 in
theorem lw_m3_19 : ∀ j, j < 21 → 19 ≠ j → Cond.not (Cond.eq (lw_tm 19) (lw_tm j)) ∈ lw_fl ∨ Cond.not (Cond.eq (lw_tm j) (lw_tm 19)) ∈ lw_fl := by decide +kernel
set_option maxRecDepth 100000 in
theorem lw_m3_20 : ∀ j, j < 21 → 20 ≠ j → Cond.not (Cond.eq (lw_tm 20) (lw_tm j)) ∈ lw_fl ∨ Cond.not (Cond.eq (lw_tm j) (lw_tm 20)) ∈ lw_fl := by decide +kernel
