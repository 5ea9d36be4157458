/-! bits: letters of a name, bytes of a number -/
theorem smod_s : ∀ s : Fin 32, (((Int32.ofNat s.val).toBitVec.smod 32).toNat = s.val) := by decide
theorem nI_bv {n : Nat} (h : n < 2147483648) : (nI n).toBitVec.toNat = n := by
  unfold nI
  rw [Int32.toBitVec_ofNat', BitVec.toNat_ofNat, Nat.mod_eq_of_lt (by omega)]
theorem shr_nI {n s : Nat} (h : n < 2147483648) (hs : s < 32) : nI n >>> nI s = nI (n / 2 ^ s) := by
  apply Int32.toBitVec_inj.mp
  apply BitVec.eq_of_toNat_eq
  have hle : n / 2 ^ s ≤ n := Nat.div_le_self _ _
  have hm : (nI n).toBitVec.msb = false := by
    rw [BitVec.msb_eq_false_iff_two_mul_lt, nI_bv h]; omega
  rw [Int32.toBitVec_shiftRight, nI_bv (by omega)]
  unfold BitVec.sshiftRight'
  have e : ((nI s).toBitVec.smod 32).toNat = s := smod_s ⟨s, hs⟩
  rw [e, BitVec.toNat_sshiftRight_of_msb_false hm, nI_bv h, Nat.shiftRight_eq_div_pow]
theorem and31 {n : Nat} (h : n < 2147483648) : nI n &&& 31 = nI (n % 32) := by
  apply Int32.toBitVec_inj.mp
  apply BitVec.eq_of_toNat_eq
  rw [Int32.toBitVec_and, BitVec.toNat_and, nI_bv h, nI_bv (by omega)]
  exact Nat.and_two_pow_sub_one_eq_mod n 5
theorem and255 (y : Int32) : ∃ b : Nat, b < 256 ∧ y &&& 255 = nI b ∧ (b : Int) = y.toInt % 256 := by
  refine ⟨y.toBitVec.toNat % 256, by omega, ?_, ?_⟩
  · apply Int32.toBitVec_inj.mp
    apply BitVec.eq_of_toNat_eq
    rw [Int32.toBitVec_and, BitVec.toNat_and, nI_bv (by omega)]
    exact Nat.and_two_pow_sub_one_eq_mod _ 8
  · have : y.toInt = y.toBitVec.toInt := rfl
    rw [this, BitVec.toInt_eq_toNat_cond]
    have := y.toBitVec.isLt
    split <;> omega
theorem tb255 : ∀ b : Fin 256, (if b.val < 128 then nI b.val else nI b.val - nI 256) &&& 255 = nI b.val := by decide +kernel
theorem tbneg : ∀ b : Fin 256, (if b.val < 128 then nI b.val else nI b.val - nI 256).toInt = if b.val < 128 then (b.val : Int) else b.val - 256 := by decide +kernel
theorem tb8 (y : Int32) {b : Nat} (hb : (b : Int) = y.toInt % 256) (h : b < 256) : y.toInt8.toInt32 = if b < 128 then nI b else nI b - nI 256 := by
  apply Int32.toInt_inj.mp
  rw [Int8.toInt_toInt32, Int32.toInt_toInt8, tbneg ⟨b, h⟩]
  unfold Int.bmod
  simp only []
  split
  · split <;> omega
  · split <;> omega
theorem tb_of (y : Int32) : TB (vp_nar .byte ((Int32.toInt8 y).toInt32)) (y &&& 255) := by
  obtain ⟨b, h1, h2, h3⟩ := and255 y
  refine ⟨b, h1, h2, ?_⟩
  rw [pk_vb]
  exact tb8 y h3 h1
theorem TB.and {x y : Int32} (h : TB x y) : x &&& 255 = y := by
  obtain ⟨b, h1, rfl, rfl⟩ := h
  exact tb255 ⟨b, h1⟩
theorem nmN_lt {f : Nat → Nat} (h : ∀ k, k < 6 → f k ≤ 26) : nmN f < 1073741824 := by
  have := h 0 (by omega)
  have := h 1 (by omega)
  have := h 2 (by omega)
  have := h 3 (by omega)
  have := h 4 (by omega)
  have := h 5 (by omega)
  unfold nmN
  omega
theorem let_e {f : Nat → Nat} (h : ∀ k, k < 6 → f k ≤ 26) {k : Nat} (hk : k < 6) : CK_letterOf (nI (nmN f)) (nI k) = some (nI (f k)) := by
  have hl := nmN_lt h
  have h0 := h 0 (by omega)
  have h1 := h 1 (by omega)
  have h2 := h 2 (by omega)
  have h3 := h 3 (by omega)
  have h4 := h 4 (by omega)
  have h5 := h 5 (by omega)
  unfold CK_letterOf
  have sh : (25 - (5 * nI k)) &&& 31 = nI (25 - 5 * k) := by
    rcases k with _ | _ | _ | _ | _ | _ | k
    · decide
    · decide
    · decide
    · decide
    · decide
    · decide
    · omega
  have hle : nmN f / 2 ^ (25 - 5 * k) ≤ nmN f := Nat.div_le_self _ _
  rw [sh, shr_nI (by omega) (by omega), and31 (by omega)]
  congr 2
  unfold nmN
  rcases k with _ | _ | _ | _ | _ | _ | k
  · show _ / 33554432 % 32 = f 0
    omega
  · show _ / 1048576 % 32 = f 1
    omega
  · show _ / 32768 % 32 = f 2
    omega
  · show _ / 1024 % 32 = f 3
    omega
  · show _ / 32 % 32 = f 4
    omega
  · show _ / 1 % 32 = f 5
    omega
  · omega
theorem q_letter {σ : Sg} {n : Nat} (h : Rel σ n) (x y z : Int32) : Same (CK_letter σ x y z) (M_letter σ x y z) := by
  obtain ⟨p1, K, t, c, R, q, s, g, L, ⟨hB, hT, _, ⟨n1, n2⟩, _⟩, _⟩ := h
  have hK := hB.1.2.2.1
  have hP8 := hK.1.2
  have hO10 := hK.2.1.2
  unfold CK_letter M_letter
  rcases pk_ix z (n := 6) (by omega) with o | o | ⟨k, hk, rfl⟩
  · rw [if_pos (show z < 0 from o), show M_isIn z 0 5 = some false from isIn_out (n := 6) (by omega) (Or.inl o), bf]
    exact ⟨_, rfl, rfl⟩
  · rw [show M_isIn z 0 5 = some false from isIn_out (n := 6) (by omega) (Or.inr o), bf]
    refine ⟨-1, ?_, rfl⟩
    split
    · rfl
    · exact if_neg (Int32.not_lt.mpr o)
  · rw [if_neg (show ¬ nI k < 0 from nI_nlt (a := k) (b := 0) (by omega) (by omega)), if_pos (show nI k < (6 : Int32) from (nI_lt hk (by omega) : nI k < nI 6)), show M_isIn (nI k) 0 5 = some true from isIn_in (n := 6) (by omega) hk, bt]
    by_cases x0 : x = 0
    · subst x0
      rw [if_pos rfl, show M_isIn 0 0 1 = some true by decide, bt, if_pos rfl]
      rcases isPool_c hB.1.1 hB.1.2.1 hK y with ⟨e1, e2⟩ | ⟨p, hp, rfl, e1, e2⟩
      · rw [e1, e2, bf, bf]
        unfold CK_letter_j38
        exact ⟨_, if_neg (by decide), rfl⟩
      · obtain ⟨f, f1, f2⟩ := n1 p hp
        rw [e1, e2, bt, bt, ptr_e hB.1.1, zrd_e (by omega) (by omega), f2, let_e (fun k hk => (f1 k hk).2) hk, obs, show (6 : Int32) = nI 6 from rfl, nI_mul, nI_add, zrd_e (by omega) (by omega), (f1 k hk).1]
        exact ⟨_, rfl, rfl⟩
    · rw [if_neg x0]
      unfold CK_letter_j38
      by_cases x1 : x = 1
      · subst x1
        rw [if_pos rfl, show M_isIn 1 0 1 = some true by decide, bt, if_neg (by decide)]
        rcases isOutlet_c hB.1.1 hB.1.2.1 hK y with ⟨e1, e2⟩ | ⟨p, hp, rfl, e1, e2⟩
        · rw [e1, e2, bf, bf]
          exact ⟨_, rfl, rfl⟩
        · obtain ⟨f, f1, f2⟩ := n2 p hp
          rw [e1, e2, bt, bt, ptr_e hB.1.1, zrd_e (by omega) (by omega), f2, let_e (fun k hk => (f1 k hk).2) hk, obs, show (6 : Int32) = nI 6 from rfl, nI_mul, nI_add, zrd_e (by omega) (by omega), (f1 k hk).1]
          exact ⟨_, rfl, rfl⟩
      · rw [if_neg x1]
        have e : M_isIn x 0 1 = some false := by
          rcases isIn_c x (a := 0) (b := 1) (by omega) (by omega) with ⟨e, _⟩ | ⟨j, _, hj, rfl, _⟩
          · exact e
          · exfalso
            rcases j with _ | _ | j
            · exact x0 rfl
            · exact x1 rfl
            · omega
        rw [e, bf]
        exact ⟨_, rfl, rfl⟩
