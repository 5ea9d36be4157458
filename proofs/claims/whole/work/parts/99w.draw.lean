theorem i64_div {a d : Nat} (ha : a < 9223372036854775808) (h0 : 0 < d) (hd : d < 9223372036854775808) : Int64.ofNat a / Int64.ofNat d = Int64.ofNat (a / d) := by
  apply Int64.toInt_inj.mp
  have h1 : (Int64.ofNat a).toInt = a := Int64.toInt_ofNat_of_lt (by omega)
  have h2 : (Int64.ofNat d).toInt = d := Int64.toInt_ofNat_of_lt (by omega)
  have hle : a / d ≤ a := Nat.div_le_self a d
  have h3 : (Int64.ofNat (a / d)).toInt = (a / d : Nat) := Int64.toInt_ofNat_of_lt (by omega)
  rw [Int64.toInt_div, h1, h2, h3, ← Int.ofNat_tdiv]
  generalize a / d = q at hle
  have h4 : (0 : Int) ≤ (q : Int) := Int.natCast_nonneg q
  have h5 : (q : Int) < 9223372036854775808 := by omega
  exact Int.bmod_eq_of_le (by omega) (by omega)
theorem i64_rem {a : Nat} (ha : a < 9223372036854775808) : Int64.ofNat a - Int64.ofNat a / 2147483648 * 2147483648 = Int64.ofNat (a % 2147483648) := by
  have e : (2147483648 : Int64) = Int64.ofNat 2147483648 := rfl
  rw [e, i64_div ha (by omega) (by omega), ← Int64.ofNat_mul, ← Int64.ofNat_sub _ _ (by omega)]
  congr 1
  omega
theorem i64_and {a : Nat} (ha : a < 9223372036854775808) : Int64.ofNat a &&& 2147483647 = Int64.ofNat (a % 2147483648) := by
  apply Int64.toBitVec_inj.mp
  rw [Int64.toBitVec_and, Int64.toBitVec_ofNat', Int64.toBitVec_ofNat']
  apply BitVec.eq_of_toNat_eq
  rw [BitVec.toNat_and, BitVec.toNat_ofNat, BitVec.toNat_ofNat, Nat.mod_eq_of_lt (by omega), Nat.mod_eq_of_lt (by omega)]
  exact Nat.and_two_pow_sub_one_eq_mod a 31
theorem i64_32 {a : Nat} : (Int64.ofNat a).toInt32 = Int32.ofNat a := by
  exact Int64.toInt32_ofNat'
theorem i32_64 {a : Nat} (h : a < 2147483648) : (Int32.ofNat a).toInt64 = Int64.ofNat a := by
  apply Int64.toInt_inj.mp
  rw [Int32.toInt_toInt64, Int32.toInt_ofNat_of_lt (by omega), Int64.toInt_ofNat_of_lt (by omega)]
theorem i64_nx {g : Nat} (hg : g < 2147483648) : (1103515245 * (Int32.ofNat g).toInt64) + 12345 = Int64.ofNat (1103515245 * g + 12345) := by
  rw [i32_64 hg, show (1103515245 : Int64) = Int64.ofNat 1103515245 from rfl, show (12345 : Int64) = Int64.ofNat 12345 from rfl, ← Int64.ofNat_mul, ← Int64.ofNat_add]
theorem nx_and {g : Nat} (hg : g < 2147483648) : (((1103515245 * (Int32.ofNat g).toInt64) + 12345) &&& 2147483647).toInt32 = Int32.ofNat ((1103515245 * g + 12345) % 2147483648) := by
  rw [i64_nx hg, i64_and (by omega), i64_32]
theorem nx_rem {g : Nat} (hg : g < 2147483648) : ((((1103515245 * (Int32.ofNat g).toInt64) + 12345) - ((1103515245 * (Int32.ofNat g).toInt64) + 12345) / 2147483648 * 2147483648)).toInt32 = Int32.ofNat ((1103515245 * g + 12345) % 2147483648) := by
  rw [i64_nx hg, i64_rem (by omega), i64_32]
/-! the draw, on both sides -/
def nxD (g : Nat) : Nat := (1103515245 * g + 12345) % 2147483648
theorem nxD_lt (g : Nat) : nxD g < 2147483648 := Nat.mod_lt _ (by omega)
theorem c_draw {σ : Sg} {g m : Nat} (hs : σ 0 14 = nI g) (hg : g < 2147483648) (hm0 : 0 < m) (hm : m < 1000) : CK_draw σ (nI m) = some (nI (nxD g / 64 % m), zup σ 0 14 (nI (nxD g))) := by
  have h1 := nxD_lt g
  have e : (((1103515245 * (nI g).toInt64) + 12345) &&& 2147483647).toInt32 = nI (nxD g) := nx_and hg
  have h2 : nxD g / 64 < 2147483648 := by omega
  unfold CK_draw
  rw [zgt_e, hs, e, zpt_e, if_neg (show ¬ nI m ≤ 0 from nI_ge hm0 (by omega)), zgt_e, zup_hit, znz_e hm0 (by omega), show (64 : Int32) = nI 64 from rfl, nI_div (by omega) h1 (by omega), irem_f, irem_e hm0 h2 (by omega)]
theorem m_draw {σ : Sg} {g m : Nat} (hs : σ 171 24 = nI g) (hg : g < 2147483648) (hm0 : 0 < m) (hm : m < 1000) : M_draw σ (nI m) = some (nI (nxD g / 64 % m), zup σ 171 24 (nI (nxD g))) := by
  have h1 := nxD_lt g
  have e : ((((1103515245 * (nI g).toInt64) + 12345) - ((1103515245 * (nI g).toInt64) + 12345) / 2147483648 * 2147483648)).toInt32 = nI (nxD g) := nx_rem hg
  have h2 : nxD g / 64 < 2147483648 := by omega
  unfold M_draw
  rw [zgt_e, hs, e, zpt_e, zgt_e, zup_hit, znz_e hm0 (by omega), show (64 : Int32) = nI 64 from rfl, nI_div (by omega) h1 (by omega), irem_f, irem_e hm0 h2 (by omega)]
