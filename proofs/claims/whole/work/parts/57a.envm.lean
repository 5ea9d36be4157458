abbrev lw_fl : List Cond := flatC (Jvm.Cond.and given_1 narrow_1)
abbrev lw_tm (i : Nat) : Term := .string "CanalKeeper$Reader" (zSix.getD i (0, "")).1
set_option maxRecDepth 100000 in
theorem lw_m2_0_0 : ∀ j, j < 5 → Cond.eq (.elem (.field (lw_tm 0) "java/lang/String" "value" "[B") (.int (Int32.ofNat (0 + j)))) (.int ((zSbyt.getD 0 []).getD (0 + j) 0)) ∈ lw_fl := by decide +kernel
theorem lw_m2_0 : ∀ j, j < zSlen.getD 0 0 → Cond.eq (.elem (.field (lw_tm 0) "java/lang/String" "value" "[B") (.int (Int32.ofNat j))) (.int ((zSbyt.getD 0 []).getD j 0)) ∈ lw_fl := fun j hj => by have h := lw_m2_0_0 j hj; rw [Nat.zero_add] at h; exact h
set_option maxRecDepth 100000 in
theorem lw_m2_1_0 : ∀ j, j < 5 → Cond.eq (.elem (.field (lw_tm 1) "java/lang/String" "value" "[B") (.int (Int32.ofNat (0 + j)))) (.int ((zSbyt.getD 1 []).getD (0 + j) 0)) ∈ lw_fl := by decide +kernel
theorem lw_m2_1 : ∀ j, j < zSlen.getD 1 0 → Cond.eq (.elem (.field (lw_tm 1) "java/lang/String" "value" "[B") (.int (Int32.ofNat j))) (.int ((zSbyt.getD 1 []).getD j 0)) ∈ lw_fl := fun j hj => by have h := lw_m2_1_0 j hj; rw [Nat.zero_add] at h; exact h
set_option maxRecDepth 100000 in
theorem lw_m2_2_0 : ∀ j, j < 4 → Cond.eq (.elem (.field (lw_tm 2) "java/lang/String" "value" "[B") (.int (Int32.ofNat (0 + j)))) (.int ((zSbyt.getD 2 []).getD (0 + j) 0)) ∈ lw_fl := by decide +kernel
theorem lw_m2_2 : ∀ j, j < zSlen.getD 2 0 → Cond.eq (.elem (.field (lw_tm 2) "java/lang/String" "value" "[B") (.int (Int32.ofNat j))) (.int ((zSbyt.getD 2 []).getD j 0)) ∈ lw_fl := fun j hj => by have h := lw_m2_2_0 j hj; rw [Nat.zero_add] at h; exact h
set_option maxRecDepth 100000 in
theorem lw_m2_3_0 : ∀ j, j < 4 → Cond.eq (.elem (.field (lw_tm 3) "java/lang/String" "value" "[B") (.int (Int32.ofNat (0 + j)))) (.int ((zSbyt.getD 3 []).getD (0 + j) 0)) ∈ lw_fl := by decide +kernel
theorem lw_m2_3 : ∀ j, j < zSlen.getD 3 0 → Cond.eq (.elem (.field (lw_tm 3) "java/lang/String" "value" "[B") (.int (Int32.ofNat j))) (.int ((zSbyt.getD 3 []).getD j 0)) ∈ lw_fl := fun j hj => by have h := lw_m2_3_0 j hj; rw [Nat.zero_add] at h; exact h
set_option maxRecDepth 100000 in
theorem lw_m2_4_0 : ∀ j, j < 13 → Cond.eq (.elem (.field (lw_tm 4) "java/lang/String" "value" "[B") (.int (Int32.ofNat (0 + j)))) (.int ((zSbyt.getD 4 []).getD (0 + j) 0)) ∈ lw_fl := by decide +kernel
set_option maxRecDepth 100000 in
theorem lw_m2_4_13 : ∀ j, j < 13 → Cond.eq (.elem (.field (lw_tm 4) "java/lang/String" "value" "[B") (.int (Int32.ofNat (13 + j)))) (.int ((zSbyt.getD 4 []).getD (13 + j) 0)) ∈ lw_fl := by decide +kernel
set_option maxRecDepth 100000 in
theorem lw_m2_4_26 : ∀ j, j < 13 → Cond.eq (.elem (.field (lw_tm 4) "java/lang/String" "value" "[B") (.int (Int32.ofNat (26 + j)))) (.int ((zSbyt.getD 4 []).getD (26 + j) 0)) ∈ lw_fl := by decide +kernel
set_option maxRecDepth 100000 in
theorem lw_m2_4_39 : ∀ j, j < 13 → Cond.eq (.elem (.field (lw_tm 4) "java/lang/String" "value" "[B") (.int (Int32.ofNat (39 + j)))) (.int ((zSbyt.getD 4 []).getD (39 + j) 0)) ∈ lw_fl := by decide +kernel
set_option maxRecDepth 100000 in
theorem lw_m2_4_52 : ∀ j, j < 13 → Cond.eq (.elem (.field (lw_tm 4) "java/lang/String" "value" "[B") (.int (Int32.ofNat (52 + j)))) (.int ((zSbyt.getD 4 []).getD (52 + j) 0)) ∈ lw_fl := by decide +kernel
set_option maxRecDepth 100000 in
theorem lw_m2_4_65 : ∀ j, j < 13 → Cond.eq (.elem (.field (lw_tm 4) "java/lang/String" "value" "[B") (.int (Int32.ofNat (65 + j)))) (.int ((zSbyt.getD 4 []).getD (65 + j) 0)) ∈ lw_fl := by decide +kernel
set_option maxRecDepth 100000 in
theorem lw_m2_4_78 : ∀ j, j < 13 → Cond.eq (.elem (.field (lw_tm 4) "java/lang/String" "value" "[B") (.int (Int32.ofNat (78 + j)))) (.int ((zSbyt.getD 4 []).getD (78 + j) 0)) ∈ lw_fl := by decide +kernel
set_option maxRecDepth 100000 in
theorem lw_m2_4_91 : ∀ j, j < 13 → Cond.eq (.elem (.field (lw_tm 4) "java/lang/String" "value" "[B") (.int (Int32.ofNat (91 + j)))) (.int ((zSbyt.getD 4 []).getD (91 + j) 0)) ∈ lw_fl := by decide +kernel
theorem lw_m2_4 : ∀ j, j < zSlen.getD 4 0 → Cond.eq (.elem (.field (lw_tm 4) "java/lang/String" "value" "[B") (.int (Int32.ofNat j))) (.int ((zSbyt.getD 4 []).getD j 0)) ∈ lw_fl := fun j hj => by
  have hj9 : j < 104 := hj
  by_cases h0 : j < 13
  · have h := lw_m2_4_0 (j - 0) (by omega); rw [show 0 + (j - 0) = j by omega] at h; exact h
  by_cases h13 : j < 26
  · have h := lw_m2_4_13 (j - 13) (by omega); rw [show 13 + (j - 13) = j by omega] at h; exact h
  by_cases h26 : j < 39
  · have h := lw_m2_4_26 (j - 26) (by omega); rw [show 26 + (j - 26) = j by omega] at h; exact h
  by_cases h39 : j < 52
  · have h := lw_m2_4_39 (j - 39) (by omega); rw [show 39 + (j - 39) = j by omega] at h; exact h
  by_cases h52 : j < 65
  · have h := lw_m2_4_52 (j - 52) (by omega); rw [show 52 + (j - 52) = j by omega] at h; exact h
  by_cases h65 : j < 78
  · have h := lw_m2_4_65 (j - 65) (by omega); rw [show 65 + (j - 65) = j by omega] at h; exact h
  by_cases h78 : j < 91
  · have h := lw_m2_4_78 (j - 78) (by omega); rw [show 78 + (j - 78) = j by omega] at h; exact h
  by_cases h91 : j < 104
  · have h := lw_m2_4_91 (j - 91) (by omega); rw [show 91 + (j - 91) = j by omega] at h; exact h
  omega
set_option maxRecDepth 100000 in
theorem lw_m2_5_0 : ∀ j, j < 5 → Cond.eq (.elem (.field (lw_tm 5) "java/lang/String" "value" "[B") (.int (Int32.ofNat (0 + j)))) (.int ((zSbyt.getD 5 []).getD (0 + j) 0)) ∈ lw_fl := by decide +kernel
theorem lw_m2_5 : ∀ j, j < zSlen.getD 5 0 → Cond.eq (.elem (.field (lw_tm 5) "java/lang/String" "value" "[B") (.int (Int32.ofNat j))) (.int ((zSbyt.getD 5 []).getD j 0)) ∈ lw_fl := fun j hj => by have h := lw_m2_5_0 j hj; rw [Nat.zero_add] at h; exact h
set_option maxRecDepth 100000 in
theorem lw_m2_6_0 : ∀ j, j < 3 → Cond.eq (.elem (.field (lw_tm 6) "java/lang/String" "value" "[B") (.int (Int32.ofNat (0 + j)))) (.int ((zSbyt.getD 6 []).getD (0 + j) 0)) ∈ lw_fl := by decide +kernel
theorem lw_m2_6 : ∀ j, j < zSlen.getD 6 0 → Cond.eq (.elem (.field (lw_tm 6) "java/lang/String" "value" "[B") (.int (Int32.ofNat j))) (.int ((zSbyt.getD 6 []).getD j 0)) ∈ lw_fl := fun j hj => by have h := lw_m2_6_0 j hj; rw [Nat.zero_add] at h; exact h
set_option maxRecDepth 100000 in
theorem lw_m2_7_0 : ∀ j, j < 4 → Cond.eq (.elem (.field (lw_tm 7) "java/lang/String" "value" "[B") (.int (Int32.ofNat (0 + j)))) (.int ((zSbyt.getD 7 []).getD (0 + j) 0)) ∈ lw_fl := by decide +kernel
theorem lw_m2_7 : ∀ j, j < zSlen.getD 7 0 → Cond.eq (.elem (.field (lw_tm 7) "java/lang/String" "value" "[B") (.int (Int32.ofNat j))) (.int ((zSbyt.getD 7 []).getD j 0)) ∈ lw_fl := fun j hj => by have h := lw_m2_7_0 j hj; rw [Nat.zero_add] at h; exact h
set_option maxRecDepth 100000 in
theorem lw_m2_8_0 : ∀ j, j < 5 → Cond.eq (.elem (.field (lw_tm 8) "java/lang/String" "value" "[B") (.int (Int32.ofNat (0 + j)))) (.int ((zSbyt.getD 8 []).getD (0 + j) 0)) ∈ lw_fl := by decide +kernel
theorem lw_m2_8 : ∀ j, j < zSlen.getD 8 0 → Cond.eq (.elem (.field (lw_tm 8) "java/lang/String" "value" "[B") (.int (Int32.ofNat j))) (.int ((zSbyt.getD 8 []).getD j 0)) ∈ lw_fl := fun j hj => by have h := lw_m2_8_0 j hj; rw [Nat.zero_add] at h; exact h
set_option maxRecDepth 100000 in
theorem lw_m2_9_0 : ∀ j, j < 5 → Cond.eq (.elem (.field (lw_tm 9) "java/lang/String" "value" "[B") (.int (Int32.ofNat (0 + j)))) (.int ((zSbyt.getD 9 []).getD (0 + j) 0)) ∈ lw_fl := by decide +kernel
theorem lw_m2_9 : ∀ j, j < zSlen.getD 9 0 → Cond.eq (.elem (.field (lw_tm 9) "java/lang/String" "value" "[B") (.int (Int32.ofNat j))) (.int ((zSbyt.getD 9 []).getD j 0)) ∈ lw_fl := fun j hj => by have h := lw_m2_9_0 j hj; rw [Nat.zero_add] at h; exact h
set_option maxRecDepth 100000 in
theorem lw_m2_10_0 : ∀ j, j < 4 → Cond.eq (.elem (.field (lw_tm 10) "java/lang/String" "value" "[B") (.int (Int32.ofNat (0 + j)))) (.int ((zSbyt.getD 10 []).getD (0 + j) 0)) ∈ lw_fl := by decide +kernel
theorem lw_m2_10 : ∀ j, j < zSlen.getD 10 0 → Cond.eq (.elem (.field (lw_tm 10) "java/lang/String" "value" "[B") (.int (Int32.ofNat j))) (.int ((zSbyt.getD 10 []).getD j 0)) ∈ lw_fl := fun j hj => by have h := lw_m2_10_0 j hj; rw [Nat.zero_add] at h; exact h
set_option maxRecDepth 100000 in
theorem lw_m2_11_0 : ∀ j, j < 4 → Cond.eq (.elem (.field (lw_tm 11) "java/lang/String" "value" "[B") (.int (Int32.ofNat (0 + j)))) (.int ((zSbyt.getD 11 []).getD (0 + j) 0)) ∈ lw_fl := by decide +kernel
theorem lw_m2_11 : ∀ j, j < zSlen.getD 11 0 → Cond.eq (.elem (.field (lw_tm 11) "java/lang/String" "value" "[B") (.int (Int32.ofNat j))) (.int ((zSbyt.getD 11 []).getD j 0)) ∈ lw_fl := fun j hj => by have h := lw_m2_11_0 j hj; rw [Nat.zero_add] at h; exact h
set_option maxRecDepth 100000 in
theorem lw_m2_12_0 : ∀ j, j < 2 → Cond.eq (.elem (.field (lw_tm 12) "java/lang/String" "value" "[B") (.int (Int32.ofNat (0 + j)))) (.int ((zSbyt.getD 12 []).getD (0 + j) 0)) ∈ lw_fl := by decide +kernel
theorem lw_m2_12 : ∀ j, j < zSlen.getD 12 0 → Cond.eq (.elem (.field (lw_tm 12) "java/lang/String" "value" "[B") (.int (Int32.ofNat j))) (.int ((zSbyt.getD 12 []).getD j 0)) ∈ lw_fl := fun j hj => by have h := lw_m2_12_0 j hj; rw [Nat.zero_add] at h; exact h
set_option maxRecDepth 100000 in
theorem lw_m2_13_0 : ∀ j, j < 4 → Cond.eq (.elem (.field (lw_tm 13) "java/lang/String" "value" "[B") (.int (Int32.ofNat (0 + j)))) (.int ((zSbyt.getD 13 []).getD (0 + j) 0)) ∈ lw_fl := by decide +kernel
theorem lw_m2_13 : ∀ j, j < zSlen.getD 13 0 → Cond.eq (.elem (.field (lw_tm 13) "java/lang/String" "value" "[B") (.int (Int32.ofNat j))) (.int ((zSbyt.getD 13 []).getD j 0)) ∈ lw_fl := fun j hj => by have h := lw_m2_13_0 j hj; rw [Nat.zero_add] at h; exact h
set_option maxRecDepth 100000 in
theorem lw_m2_14_0 : ∀ j, j < 6 → Cond.eq (.elem (.field (lw_tm 14) "java/lang/String" "value" "[B") (.int (Int32.ofNat (0 + j)))) (.int ((zSbyt.getD 14 []).getD (0 + j) 0)) ∈ lw_fl := by decide +kernel
theorem lw_m2_14 : ∀ j, j < zSlen.getD 14 0 → Cond.eq (.elem (.field (lw_tm 14) "java/lang/String" "value" "[B") (.int (Int32.ofNat j))) (.int ((zSbyt.getD 14 []).getD j 0)) ∈ lw_fl := fun j hj => by have h := lw_m2_14_0 j hj; rw [Nat.zero_add] at h; exact h
set_option maxRecDepth 100000 in
theorem lw_m2_15_0 : ∀ j, j < 2 → Cond.eq (.elem (.field (lw_tm 15) "java/lang/String" "value" "[B") (.int (Int32.ofNat (0 + j)))) (.int ((zSbyt.getD 15 []).getD (0 + j) 0)) ∈ lw_fl := by decide +kernel
theorem lw_m2_15 : ∀ j, j < zSlen.getD 15 0 → Cond.eq (.elem (.field (lw_tm 15) "java/lang/String" "value" "[B") (.int (Int32.ofNat j))) (.int ((zSbyt.getD 15 []).getD j 0)) ∈ lw_fl := fun j hj => by have h := lw_m2_15_0 j hj; rw [Nat.zero_add] at h; exact h
set_option maxRecDepth 100000 in
theorem lw_m2_16_0 : ∀ j, j < 5 → Cond.eq (.elem (.field (lw_tm 16) "java/lang/String" "value" "[B") (.int (Int32.ofNat (0 + j)))) (.int ((zSbyt.getD 16 []).getD (0 + j) 0)) ∈ lw_fl := by decide +kernel
theorem lw_m2_16 : ∀ j, j < zSlen.getD 16 0 → Cond.eq (.elem (.field (lw_tm 16) "java/lang/String" "value" "[B") (.int (Int32.ofNat j))) (.int ((zSbyt.getD 16 []).getD j 0)) ∈ lw_fl := fun j hj => by have h := lw_m2_16_0 j hj; rw [Nat.zero_add] at h; exact h
set_option maxRecDepth 100000 in
theorem lw_m2_17_0 : ∀ j, j < 5 → Cond.eq (.elem (.field (lw_tm 17) "java/lang/String" "value" "[B") (.int (Int32.ofNat (0 + j)))) (.int ((zSbyt.getD 17 []).getD (0 + j) 0)) ∈ lw_fl := by decide +kernel
theorem lw_m2_17 : ∀ j, j < zSlen.getD 17 0 → Cond.eq (.elem (.field (lw_tm 17) "java/lang/String" "value" "[B") (.int (Int32.ofNat j))) (.int ((zSbyt.getD 17 []).getD j 0)) ∈ lw_fl := fun j hj => by have h := lw_m2_17_0 j hj; rw [Nat.zero_add] at h; exact h
set_option maxRecDepth 100000 in
theorem lw_m2_18_0 : ∀ j, j < 4 → Cond.eq (.elem (.field (lw_tm 18) "java/lang/String" "value" "[B") (.int (Int32.ofNat (0 + j)))) (.int ((zSbyt.getD 18 []).getD (0 + j) 0)) ∈ lw_fl := by decide +kernel
theorem lw_m2_18 : ∀ j, j < zSlen.getD 18 0 → Cond.eq (.elem (.field (lw_tm 18) "java/lang/String" "value" "[B") (.int (Int32.ofNat j))) (.int ((zSbyt.getD 18 []).getD j 0)) ∈ lw_fl := fun j hj => by have h := lw_m2_18_0 j hj; rw [Nat.zero_add] at h; exact h
set_option maxRecDepth 100000 in
theorem lw_m2_19_0 : ∀ j, j < 3 → Cond.eq (.elem (.field (lw_tm 19) "java/lang/String" "value" "[B") (.int (Int32.ofNat (0 + j)))) (.int ((zSbyt.getD 19 []).getD (0 + j) 0)) ∈ lw_fl := by decide +kernel
theorem lw_m2_19 : ∀ j, j < zSlen.getD 19 0 → Cond.eq (.elem (.field (lw_tm 19) "java/lang/String" "value" "[B") (.int (Int32.ofNat j))) (.int ((zSbyt.getD 19 []).getD j 0)) ∈ lw_fl := fun j hj => by have h := lw_m2_19_0 j hj; rw [Nat.zero_add] at h; exact h
set_option maxRecDepth 100000 in
theorem lw_m2_20_0 : ∀ j, j < 5 → Cond.eq (.elem (.field (lw_tm 20) "java/lang/String" "value" "[B") (.int (Int32.ofNat (0 + j)))) (.int ((zSbyt.getD 20 []).getD (0 + j) 0)) ∈ lw_fl := by decide +kernel
theorem lw_m2_20 : ∀ j, j < zSlen.getD 20 0 → Cond.eq (.elem (.field (lw_tm 20) "java/lang/String" "value" "[B") (.int (Int32.ofNat j))) (.int ((zSbyt.getD 20 []).getD j 0)) ∈ lw_fl := fun j hj => by have h := lw_m2_20_0 j hj; rw [Nat.zero_add] at h; exact h
