/-! 13: bits of the machine's numbers, as numbers -/
theorem ofI_nat (n : Nat) : Int32.ofInt (n : Int) = Int32.ofNat n := Int32.ofInt_eq_ofNat
theorem ofJ_nat (n : Nat) : Int64.ofInt (n : Int) = Int64.ofNat n := Int64.ofInt_eq_ofNat
theorem toI_nat {n : Nat} (h : n < 2147483648) : (Int32.ofNat n).toInt = (n : Int) := Int32.toInt_ofNat_of_lt (by omega)
theorem toJ_nat {n : Nat} (h : n < 9223372036854775808) : (Int64.ofNat n).toInt = (n : Int) := Int64.toInt_ofNat_of_lt (by omega)
theorem n_and (a b : Nat) : Int32.ofNat a &&& Int32.ofNat b = Int32.ofNat (a &&& b) := Int32.toBitVec_inj.mp (by
  rw [Int32.toBitVec_and]
  show BitVec.ofNat 32 a &&& BitVec.ofNat 32 b = BitVec.ofNat 32 (a &&& b)
  exact BitVec.ofNat_and.symm)
theorem n_or (a b : Nat) : Int32.ofNat a ||| Int32.ofNat b = Int32.ofNat (a ||| b) := Int32.toBitVec_inj.mp (by
  rw [Int32.toBitVec_or]
  show BitVec.ofNat 32 a ||| BitVec.ofNat 32 b = BitVec.ofNat 32 (a ||| b)
  exact BitVec.ofNat_or.symm)
theorem n_jand (a b : Nat) : Int64.ofNat a &&& Int64.ofNat b = Int64.ofNat (a &&& b) := Int64.toBitVec_inj.mp (by
  rw [Int64.toBitVec_and]
  show BitVec.ofNat 64 a &&& BitVec.ofNat 64 b = BitVec.ofNat 64 (a &&& b)
  exact BitVec.ofNat_and.symm)
theorem n_jor (a b : Nat) : Int64.ofNat a ||| Int64.ofNat b = Int64.ofNat (a ||| b) := Int64.toBitVec_inj.mp (by
  rw [Int64.toBitVec_or]
  show BitVec.ofNat 64 a ||| BitVec.ofNat 64 b = BitVec.ofNat 64 (a ||| b)
  exact BitVec.ofNat_or.symm)
theorem iand_n {a b : Nat} (ha : a < 2147483648) : iand a b = ((a &&& b : Nat) : Int) := by
  unfold iand
  rw [ofI_nat, ofI_nat, n_and, toI_nat (Nat.lt_of_le_of_lt Nat.and_le_left ha)]
theorem iand_n' {a b : Nat} (hb : b < 2147483648) : iand a b = ((a &&& b : Nat) : Int) := by
  unfold iand
  rw [ofI_nat, ofI_nat, n_and, toI_nat (Nat.lt_of_le_of_lt Nat.and_le_right hb)]
theorem ior_n {a b : Nat} (ha : a < 2147483648) (hb : b < 2147483648) : ior a b = ((a ||| b : Nat) : Int) := by
  unfold ior
  rw [ofI_nat, ofI_nat, n_or, toI_nat (Nat.or_lt_two_pow (n := 31) ha hb)]
theorem jand_n {a b : Nat} (ha : a < 9223372036854775808) : jand a b = ((a &&& b : Nat) : Int) := by
  unfold jand
  rw [ofJ_nat, ofJ_nat, n_jand, toJ_nat (Nat.lt_of_le_of_lt Nat.and_le_left ha)]
theorem jor_n {a b : Nat} (ha : a < 9223372036854775808) (hb : b < 9223372036854775808) : jor a b = ((a ||| b : Nat) : Int) := by
  unfold jor
  rw [ofJ_nat, ofJ_nat, n_jor, toJ_nat (Nat.or_lt_two_pow (n := 63) ha hb)]
theorem sh_l : ∀ n : Nat, n < 32 → ((Int32.ofNat n &&& 31).toBitVec.smod 32).toNat = n := by decide +kernel
theorem sh_u : ∀ n : Nat, n < 32 → (((Int32.ofNat n).toUInt32 &&& Int32.toUInt32 31).toBitVec % 32).toNat = n := by decide +kernel
theorem sh_j : ∀ n : Nat, n < 64 → (((Int32.ofNat n).toInt64 &&& 63).toBitVec.smod 64).toNat = n := by decide +kernel
theorem ishr_n {a : Int} {k : Nat} (ha : in32 a) (hk : k < 32) : ishr a k = a / 2 ^ k := by
  unfold ishr
  rw [ofI_nat]
  show (Int32.ofInt a >>> (Int32.ofNat k &&& 31)).toBitVec.toInt = _
  rw [Int32.toBitVec_shiftRight]
  show ((Int32.ofInt a).toBitVec.sshiftRight ((Int32.ofNat k &&& 31).toBitVec.smod 32).toNat).toInt = _
  rw [sh_l k hk, BitVec.toInt_sshiftRight]
  show (Int32.ofInt a).toInt >>> k = _
  rw [i32 ha, Int.shiftRight_eq_div_pow]
  norm_cast
theorem jshr_n {a : Int} {k : Nat} (ha : in64 a) (hk : k < 64) : jshr a k = a / 2 ^ k := by
  unfold jshr
  rw [ofI_nat]
  show (Int64.ofInt a >>> ((Int32.ofNat k).toInt64 &&& 63)).toBitVec.toInt = _
  rw [Int64.toBitVec_shiftRight]
  show ((Int64.ofInt a).toBitVec.sshiftRight (((Int32.ofNat k).toInt64 &&& 63).toBitVec.smod 64).toNat).toInt = _
  rw [sh_j k hk, BitVec.toInt_sshiftRight]
  show (Int64.ofInt a).toInt >>> k = _
  rw [i64 ha, Int.shiftRight_eq_div_pow]
  norm_cast
theorem ishl_1 : ∀ k : Nat, k < 31 → ishl 1 k = 2 ^ k := by decide +kernel
theorem jshl_1 : ∀ k : Nat, k < 63 → jshl 1 k = 2 ^ k := by decide +kernel
/-- whether bit k is set, as a number -/
def bt1 (a : Int) (k : Nat) : Int := a / 2 ^ k % 2
theorem and_one (n : Nat) : n &&& 1 = n % 2 := Nat.and_one_is_mod n
theorem iand_1 {a : Int} (ha : in32 a) : iand a 1 = a % 2 := by
  unfold iand
  unfold in32 at ha
  show (Int32.ofInt a &&& 1).toBitVec.toInt = _
  rw [Int32.toBitVec_and]
  have h1 : (Int32.ofInt a).toBitVec = BitVec.ofInt 32 a := rfl
  have h2 : (1 : Int32).toBitVec = BitVec.ofNat 32 1 := rfl
  rw [h1, h2]
  have h3 : (BitVec.ofInt 32 a &&& BitVec.ofNat 32 1).toNat = (a % 2).toNat := by
    rw [BitVec.toNat_and, BitVec.toNat_ofInt, BitVec.toNat_ofNat]
    show (a % 4294967296).toNat &&& (1 % 4294967296) = _
    rw [show 1 % 4294967296 = 1 from rfl, Nat.and_one_is_mod]
    omega
  rw [BitVec.toInt_eq_toNat_cond, h3]
  rw [if_pos (by omega)]
  omega
theorem jand_1 {a : Int} (ha : in64 a) : jand a 1 = a % 2 := by
  unfold jand
  unfold in64 at ha
  show (Int64.ofInt a &&& 1).toBitVec.toInt = _
  rw [Int64.toBitVec_and]
  have h1 : (Int64.ofInt a).toBitVec = BitVec.ofInt 64 a := rfl
  have h2 : (1 : Int64).toBitVec = BitVec.ofNat 64 1 := rfl
  rw [h1, h2]
  have h3 : (BitVec.ofInt 64 a &&& BitVec.ofNat 64 1).toNat = (a % 2).toNat := by
    rw [BitVec.toNat_and, BitVec.toNat_ofInt, BitVec.toNat_ofNat]
    show (a % 18446744073709551616).toNat &&& (1 % 18446744073709551616) = _
    rw [show 1 % 18446744073709551616 = 1 from rfl, Nat.and_one_is_mod]
    omega
  rw [BitVec.toInt_eq_toNat_cond, h3]
  rw [if_pos (by omega)]
  omega
theorem iushr_n {a : Int} {k : Nat} (hk : 0 < k ∧ k < 32) : iushr a k = a % 4294967296 / 2 ^ k := by
  unfold iushr
  rw [ofI_nat]
  show ((Int32.ofInt a).toUInt32 >>> ((Int32.ofNat k).toUInt32 &&& Int32.toUInt32 31)).toBitVec.toInt = _
  rw [UInt32.toBitVec_shiftRight]
  show ((Int32.ofInt a).toBitVec >>> (((Int32.ofNat k).toUInt32 &&& Int32.toUInt32 31).toBitVec % 32).toNat).toInt = _
  rw [sh_u k hk.2]
  have h1 : (Int32.ofInt a).toBitVec = BitVec.ofInt 32 a := rfl
  rw [h1]
  have h0 : ((a % 4294967296).toNat : Int) = a % 4294967296 := by omega
  have h3 : (BitVec.ofInt 32 a >>> k).toNat = (a % 4294967296).toNat / 2 ^ k := by
    rw [BitVec.toNat_ushiftRight, BitVec.toNat_ofInt, Nat.shiftRight_eq_div_pow]
    rfl
  have h4 : (a % 4294967296).toNat / 2 ^ k < 2147483648 := by
    have : 2 ^ 1 ≤ 2 ^ k := Nat.pow_le_pow_right (by decide) (by omega)
    have h5 : (a % 4294967296).toNat / 2 ^ k ≤ (a % 4294967296).toNat / 2 := Nat.div_le_div_left (by omega) (by decide)
    omega
  rw [BitVec.toInt_eq_toNat_cond, h3, if_pos (by omega)]
  push_cast
  rw [h0]
