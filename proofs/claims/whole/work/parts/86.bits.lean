/-! bits of small numbers -/
theorem bvn (x : Nat) : (Int32.ofInt (x : Int)).toBitVec = BitVec.ofNat 32 x := BitVec.ofInt_natCast 32 x
theorem bvi {b : BitVec 32} (h : b.toNat < 2147483648) : b.toInt = (b.toNat : Int) := BitVec.toInt_eq_toNat_of_lt (by omega)
theorem bvt {x : Nat} (h : x < 2147483648) : (BitVec.ofNat 32 x).toNat = x := by rw [BitVec.toNat_ofNat]; exact Nat.mod_eq_of_lt (by omega)
theorem oAnd_n {x y : Nat} (hx : x < 2147483648) (hy : y < 2147483648) : oAnd (x : Int) (y : Int) = ((x &&& y : Nat) : Int) := by
  have e : (Int32.ofInt (x : Int) &&& Int32.ofInt (y : Int)).toBitVec.toNat = x &&& y := by
    rw [Int32.toBitVec_and, bvn, bvn, BitVec.toNat_and, bvt hx, bvt hy]
  unfold oAnd
  show (Int32.ofInt (x : Int) &&& Int32.ofInt (y : Int)).toBitVec.toInt = _
  rw [bvi (by rw [e]; exact Nat.lt_of_le_of_lt Nat.and_le_left hx), e]
theorem oOr_n {x y : Nat} (hx : x < 2147483648) (hy : y < 2147483648) : oOr (x : Int) (y : Int) = ((x ||| y : Nat) : Int) := by
  have e : (Int32.ofInt (x : Int) ||| Int32.ofInt (y : Int)).toBitVec.toNat = x ||| y := by
    rw [Int32.toBitVec_or, bvn, bvn, BitVec.toNat_or, bvt hx, bvt hy]
  unfold oOr
  show (Int32.ofInt (x : Int) ||| Int32.ofInt (y : Int)).toBitVec.toInt = _
  rw [bvi (by rw [e]; exact Nat.or_lt_two_pow (n := 31) hx hy), e]
theorem oShl1 : ∀ k : Nat, k < 31 → oShl 1 (k : Int) = ((2 ^ k : Nat) : Int) := by decide +kernel
theorem sh_l : ∀ k : Nat, k < 32 → ((Int32.ofInt (k : Int) &&& 31).toBitVec.smod 32).toNat = k := by decide +kernel
theorem sh_u : ∀ k : Nat, k < 32 → (((Int32.ofInt (k : Int)).toUInt32 &&& Int32.toUInt32 31).toBitVec % 32).toNat = k := by decide +kernel
theorem oShr_i {x : Int} {k : Nat} (h1 : -2147483648 ≤ x) (h2 : x < 2147483648) (hk : k < 32) : oShr x (k : Int) = x / ((2 ^ k : Nat) : Int) := by
  unfold oShr
  have e : (Int32.ofInt x >>> (Int32.ofInt (k : Int) &&& 31)).toBitVec.toInt = (Int32.ofInt x).toBitVec.toInt >>> k := by
    rw [Int32.toBitVec_shiftRight]
    show ((Int32.ofInt x).toBitVec.sshiftRight ((Int32.ofInt (k : Int) &&& 31).toBitVec.smod 32).toNat).toInt = _
    rw [sh_l k hk, BitVec.toInt_sshiftRight]
  show (Int32.ofInt x >>> (Int32.ofInt (k : Int) &&& 31)).toBitVec.toInt = _
  rw [e]
  have e2 : (Int32.ofInt x).toBitVec.toInt = x := Int32.toInt_ofInt_of_le (by omega) (by omega)
  rw [e2, Int.shiftRight_eq_div_pow]
theorem oShr_n {x k : Nat} (h2 : x < 2147483648) (hk : k < 32) : oShr (x : Int) (k : Int) = ((x / 2 ^ k : Nat) : Int) := by
  rw [oShr_i (by omega) (by omega) hk]
  rfl
theorem oUshr_i {x : Int} {k : Nat} (h1 : -2147483648 ≤ x) (h2 : x < 2147483648) (hk : k < 32) (hk0 : 0 < k) : oUshr x (k : Int) = (((x % 4294967296).toNat / 2 ^ k : Nat) : Int) := by
  have e0 : (Int32.ofInt x).toUInt32.toBitVec.toNat = (x % 4294967296).toNat := by
    show (BitVec.ofInt 32 x).toNat = _
    rw [BitVec.toNat_ofInt]
    rfl
  have e : (((Int32.ofInt x).toUInt32 >>> ((Int32.ofInt (k : Int)).toUInt32 &&& Int32.toUInt32 31)).toInt32).toBitVec.toNat = (x % 4294967296).toNat / 2 ^ k := by
    show ((Int32.ofInt x).toUInt32 >>> ((Int32.ofInt (k : Int)).toUInt32 &&& Int32.toUInt32 31)).toBitVec.toNat = _
    rw [UInt32.toBitVec_shiftRight]
    show ((Int32.ofInt x).toUInt32.toBitVec >>> (((Int32.ofInt (k : Int)).toUInt32 &&& Int32.toUInt32 31).toBitVec % 32).toNat).toNat = _
    rw [sh_u k hk, BitVec.toNat_ushiftRight, e0, Nat.shiftRight_eq_div_pow]
  unfold oUshr
  show (((Int32.ofInt x).toUInt32 >>> ((Int32.ofInt (k : Int)).toUInt32 &&& Int32.toUInt32 31)).toInt32).toBitVec.toInt = _
  rw [bvi ?_, e]
  rw [e]
  have p : 2 ≤ 2 ^ k := by
    have := Nat.pow_le_pow_right (show 0 < 2 by decide) (show 1 ≤ k from hk0)
    omega
  have q : (x % 4294967296).toNat < 4294967296 := by omega
  have d : (x % 4294967296).toNat / 2 ^ k ≤ (x % 4294967296).toNat / 2 := Nat.div_le_div_left p (by decide)
  omega
theorem oAnd1 {x : Nat} (hx : x < 2147483648) : oAnd (x : Int) 1 = ((x % 2 : Nat) : Int) := by
  rw [show (1 : Int) = ((1 : Nat) : Int) from rfl, oAnd_n hx (by decide), Nat.and_one_is_mod]
/-- a bit as the code asks for it -/
theorem bit_iff {x k : Nat} (hx : x < 2147483648) (hk : k < 31) : oAnd (oShr (x : Int) (k : Int)) 1 = ((x / 2 ^ k % 2 : Nat) : Int) := by
  have : x / 2 ^ k ≤ x := Nat.div_le_self _ _
  rw [oShr_n hx (by omega), oAnd1 (by omega)]
theorem tb_iff (x k : Nat) : x.testBit k = true ↔ x / 2 ^ k % 2 = 1 := by rw [Nat.testBit_eq_decide_div_mod_eq]; exact decide_eq_true_iff
theorem oI2b_of {x : Int} (h1 : -2147483648 ≤ x) (h2 : x < 2147483648) : oI2b x = (x + 128) % 256 - 128 := by
  unfold oI2b
  rw [Int8.toInt_toInt32, Int32.toInt_toInt8, Int32.toInt_ofInt_of_le (by omega) (by omega)]
  rw [show Int.bmod x (2 ^ 8) = if x % 256 < 128 then x % 256 else x % 256 - 256 from rfl]
  split <;> omega
def bcJ (b1 : Int) : Int := (oAnd (((oAnd (((oAnd (b1 - (oAnd (oUshr b1 1) 1431655765)) 858993459) + (oAnd (oUshr (b1 - (oAnd (oUshr b1 1) 1431655765)) 2) 858993459)) + (oUshr ((oAnd (b1 - (oAnd (oUshr b1 1) 1431655765)) 858993459) + (oAnd (oUshr (b1 - (oAnd (oUshr b1 1) 1431655765)) 2) 858993459)) 4)) 252645135) + (oUshr (oAnd (((oAnd (b1 - (oAnd (oUshr b1 1) 1431655765)) 858993459) + (oAnd (oUshr (b1 - (oAnd (oUshr b1 1) 1431655765)) 2) 858993459)) + (oUshr ((oAnd (b1 - (oAnd (oUshr b1 1) 1431655765)) 858993459) + (oAnd (oUshr (b1 - (oAnd (oUshr b1 1) 1431655765)) 2) 858993459)) 4)) 252645135) 8)) + (oUshr ((oAnd (((oAnd (b1 - (oAnd (oUshr b1 1) 1431655765)) 858993459) + (oAnd (oUshr (b1 - (oAnd (oUshr b1 1) 1431655765)) 2) 858993459)) + (oUshr ((oAnd (b1 - (oAnd (oUshr b1 1) 1431655765)) 858993459) + (oAnd (oUshr (b1 - (oAnd (oUshr b1 1) 1431655765)) 2) 858993459)) 4)) 252645135) + (oUshr (oAnd (((oAnd (b1 - (oAnd (oUshr b1 1) 1431655765)) 858993459) + (oAnd (oUshr (b1 - (oAnd (oUshr b1 1) 1431655765)) 2) 858993459)) + (oUshr ((oAnd (b1 - (oAnd (oUshr b1 1) 1431655765)) 858993459) + (oAnd (oUshr (b1 - (oAnd (oUshr b1 1) 1431655765)) 2) 858993459)) 4)) 252645135) 8)) 16)) 63)
theorem bitCount_eq {n : Nat} {x : Int} {ν : Mem} : mJ6_bitCount_0f7a4 n x ν = some (bcJ x, ν) := rfl
def pcN (x : Nat) : Nat := x % 2 + x / 2 % 2 + x / 4 % 2 + x / 8 % 2 + x / 16 % 2 + x / 32 % 2 + x / 64 % 2 + x / 128 % 2 + x / 256 % 2 + x / 512 % 2 + x / 1024 % 2 + x / 2048 % 2
set_option maxRecDepth 100000 in
theorem bc_dec : ∀ x : Nat, x < 4096 → bcJ (x : Int) = ((pcN x : Nat) : Int) := by decide +kernel
