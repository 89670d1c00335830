/-! bits of long numbers; the class's set of states -/
theorem lvn (x : Nat) : (Int64.ofInt (x : Int)).toBitVec = BitVec.ofNat 64 x := BitVec.ofInt_natCast 64 x
theorem lvi {b : BitVec 64} (h : b.toNat < 9223372036854775808) : b.toInt = (b.toNat : Int) := BitVec.toInt_eq_toNat_of_lt (by omega)
theorem lvt {x : Nat} (h : x < 9223372036854775808) : (BitVec.ofNat 64 x).toNat = x := by rw [BitVec.toNat_ofNat]; exact Nat.mod_eq_of_lt (by omega)
theorem lAnd_n {x y : Nat} (hx : x < 9223372036854775808) (hy : y < 9223372036854775808) : lAnd (x : Int) (y : Int) = ((x &&& y : Nat) : Int) := by
  have e : (Int64.ofInt (x : Int) &&& Int64.ofInt (y : Int)).toBitVec.toNat = x &&& y := by
    rw [Int64.toBitVec_and, lvn, lvn, BitVec.toNat_and, lvt hx, lvt hy]
  unfold lAnd
  show (Int64.ofInt (x : Int) &&& Int64.ofInt (y : Int)).toBitVec.toInt = _
  rw [lvi (by rw [e]; exact Nat.lt_of_le_of_lt Nat.and_le_left hx), e]
theorem lOr_n {x y : Nat} (hx : x < 9223372036854775808) (hy : y < 9223372036854775808) : lOr (x : Int) (y : Int) = ((x ||| y : Nat) : Int) := by
  have e : (Int64.ofInt (x : Int) ||| Int64.ofInt (y : Int)).toBitVec.toNat = x ||| y := by
    rw [Int64.toBitVec_or, lvn, lvn, BitVec.toNat_or, lvt hx, lvt hy]
  unfold lOr
  show (Int64.ofInt (x : Int) ||| Int64.ofInt (y : Int)).toBitVec.toInt = _
  rw [lvi (by rw [e]; exact Nat.or_lt_two_pow (n := 63) hx hy), e]
theorem lh_l : ∀ k : Nat, k < 64 → (((Int32.ofInt (k : Int)).toInt64 &&& 63).toBitVec.smod 64).toNat = k := by decide +kernel
theorem lh_u : ∀ k : Nat, k < 64 → (((Int32.ofInt (k : Int)).toInt64.toUInt64 &&& Int64.toUInt64 63).toBitVec % 64).toNat = k := by decide +kernel
theorem lUshr_i (x : Int) {k : Nat} (hk : k < 64) (hk0 : 0 < k) : lUshr x (k : Int) = (((x % 18446744073709551616).toNat / 2 ^ k : Nat) : Int) := by
  have e0 : (Int64.ofInt x).toUInt64.toBitVec.toNat = (x % 18446744073709551616).toNat := by
    show (BitVec.ofInt 64 x).toNat = _
    rw [BitVec.toNat_ofInt]
    rfl
  have e : (((Int64.ofInt x).toUInt64 >>> ((Int32.ofInt (k : Int)).toInt64.toUInt64 &&& Int64.toUInt64 63)).toInt64).toBitVec.toNat = (x % 18446744073709551616).toNat / 2 ^ k := by
    show ((Int64.ofInt x).toUInt64 >>> ((Int32.ofInt (k : Int)).toInt64.toUInt64 &&& Int64.toUInt64 63)).toBitVec.toNat = _
    rw [UInt64.toBitVec_shiftRight]
    show ((Int64.ofInt x).toUInt64.toBitVec >>> (((Int32.ofInt (k : Int)).toInt64.toUInt64 &&& Int64.toUInt64 63).toBitVec % 64).toNat).toNat = _
    rw [lh_u k hk, BitVec.toNat_ushiftRight, e0, Nat.shiftRight_eq_div_pow]
  unfold lUshr
  show (((Int64.ofInt x).toUInt64 >>> ((Int32.ofInt (k : Int)).toInt64.toUInt64 &&& Int64.toUInt64 63)).toInt64).toBitVec.toInt = _
  rw [lvi ?_, e]
  rw [e]
  have p : 2 ≤ 2 ^ k := by
    have := Nat.pow_le_pow_right (show 0 < 2 by decide) (show 1 ≤ k from hk0)
    omega
  have d : (x % 18446744073709551616).toNat / 2 ^ k ≤ (x % 18446744073709551616).toNat / 2 := Nat.div_le_div_left p (by decide)
  omega
theorem lUshr_n {x k : Nat} (hx : x < 9223372036854775808) (hk : k < 64) : lUshr (x : Int) (k : Int) = ((x / 2 ^ k : Nat) : Int) := by
  by_cases c : 0 < k
  · rw [lUshr_i _ hk c, show ((x : Int) % 18446744073709551616).toNat = x by omega]
  · have : k = 0 := by omega
    subst this
    have e : ((Int64.ofInt (x : Int)).toUInt64 >>> ((Int32.ofInt ((0 : Nat) : Int)).toInt64.toUInt64 &&& Int64.toUInt64 63)).toInt64.toBitVec.toNat = x := by
      show ((Int64.ofInt (x : Int)).toUInt64 >>> ((Int32.ofInt ((0 : Nat) : Int)).toInt64.toUInt64 &&& Int64.toUInt64 63)).toBitVec.toNat = _
      rw [UInt64.toBitVec_shiftRight]
      show ((Int64.ofInt (x : Int)).toBitVec >>> (((Int32.ofInt ((0 : Nat) : Int)).toInt64.toUInt64 &&& Int64.toUInt64 63).toBitVec % 64).toNat).toNat = _
      rw [lh_u 0 (by decide), BitVec.toNat_ushiftRight, lvn, lvt hx]
      rfl
    unfold lUshr
    show ((Int64.ofInt (x : Int)).toUInt64 >>> ((Int32.ofInt ((0 : Nat) : Int)).toInt64.toUInt64 &&& Int64.toUInt64 63)).toInt64.toBitVec.toInt = _
    rw [lvi (by rw [e]; exact hx), e]
    show (x : Int) = ((x / 1 : Nat) : Int)
    rw [Nat.div_one]
theorem lShl_n {x k : Nat} (hk : k < 64) (hx : x * 2 ^ k < 9223372036854775808) : lShl (x : Int) (k : Int) = ((x * 2 ^ k : Nat) : Int) := by
  have h1 : x ≤ x * 2 ^ k := Nat.le_mul_of_pos_right x (Nat.two_pow_pos k)
  have e : (Int64.ofInt (x : Int) <<< ((Int32.ofInt (k : Int)).toInt64 &&& 63)).toBitVec.toNat = x * 2 ^ k := by
    rw [Int64.toBitVec_shiftLeft]
    show ((Int64.ofInt (x : Int)).toBitVec <<< (((Int32.ofInt (k : Int)).toInt64 &&& 63).toBitVec.smod 64).toNat).toNat = _
    rw [lh_l k hk, BitVec.toNat_shiftLeft, lvn, lvt (by omega), Nat.shiftLeft_eq]
    exact Nat.mod_eq_of_lt (by omega)
  unfold lShl
  show (Int64.ofInt (x : Int) <<< ((Int32.ofInt (k : Int)).toInt64 &&& 63)).toBitVec.toInt = _
  rw [lvi (by rw [e]; exact hx), e]
def isSS (μ : Mem) (a : Nat) : Prop := mS μ a = (7, 4) ∧ (mA μ a 1 = a + 1 ∧ mA μ a 2 = a + 2 ∧ mA μ a 3 = a + 3) ∧ mS μ (a + 1) = (23, 3001) ∧ mS μ (a + 2) = (20, 3001) ∧ mS μ (a + 3) = (20, 4096)
def hC (x : Int) : Nat := (lUshr (x * (-7046029254386353131)) 52).toNat
theorem hC_eq (x : Int) : lUshr (x * (-7046029254386353131)) 52 = ((hC x : Nat) : Int) ∧ hC x < 4096 := by
  have e : lUshr (x * (-7046029254386353131)) 52 = ((((x * (-7046029254386353131)) % 18446744073709551616).toNat / 2 ^ 52 : Nat) : Int) := lUshr_i (x * (-7046029254386353131)) (k := 52) (by decide) (by decide)
  have h2 : hC x = ((x * (-7046029254386353131)) % 18446744073709551616).toNat / 2 ^ 52 := by
    unfold hC
    rw [e]
    omega
  refine ⟨by rw [e, h2], ?_⟩
  rw [h2]
  generalize x * (-7046029254386353131) = y
  have : (y % 18446744073709551616).toNat < 18446744073709551616 := by omega
  omega
section SS
variable {μ : Mem} {I J : Nat → Nat → Int} {a n z : Nat} {β : Type}
theorem bS_gI (h : isSS μ a) {k : Nat} {f : Int → Option β} : (gI (wi μ J) 7 a k).bind f = f (J a k) := bnd (e_gI (by rw [h.1])) f
theorem bS_pI (h : isSS μ a) {k : Nat} {x : Int} {f : Mem → Option β} : (pI (wi μ J) 7 a k x).bind f = f (wi μ (up2 J a k x)) := bnd (e_pI (by rw [h.1])) f
theorem bS_g1 (h : isSS μ a) {f : Nat → Option β} : (gA (wi μ J) 7 a 1).bind f = f (a + 1) := bnd ((e_gA (by rw [h.1])).trans (congrArg some h.2.1.1)) f
theorem bS_g2 (h : isSS μ a) {f : Nat → Option β} : (gA (wi μ J) 7 a 2).bind f = f (a + 2) := bnd ((e_gA (by rw [h.1])).trans (congrArg some h.2.1.2.1)) f
theorem bS_g3 (h : isSS μ a) {f : Nat → Option β} : (gA (wi μ J) 7 a 3).bind f = f (a + 3) := bnd ((e_gA (by rw [h.1])).trans (congrArg some h.2.1.2.2)) f
theorem bS_ld1 (h : isSS μ a) {i : Int} (h0 : 0 ≤ i) (h1 : i < 3001) {f : Int → Option β} : (ldI (wi μ J) 3 (a + 1) i).bind f = f (J (a + 1) i.toNat) := bnd (e_ldI (L := 3001) h.2.2.1 h0 (by omega) (by omega)) f
theorem bS_ld2 (h : isSS μ a) {i : Int} (h0 : 0 ≤ i) (h1 : i < 3001) {f : Int → Option β} : (ldI (wi μ J) 0 (a + 2) i).bind f = f (J (a + 2) i.toNat) := bnd (e_ldI (L := 3001) h.2.2.2.1 h0 (by omega) (by omega)) f
theorem bS_ld3 (h : isSS μ a) {i : Int} (h0 : 0 ≤ i) (h1 : i < 4096) {f : Int → Option β} : (ldI (wi μ J) 0 (a + 3) i).bind f = f (J (a + 3) i.toNat) := bnd (e_ldI (L := 4096) h.2.2.2.2 h0 (by omega) (by omega)) f
theorem bS_st1 (h : isSS μ a) {i x : Int} (h0 : 0 ≤ i) (h1 : i < 3001) {f : Mem → Option β} : (stI (wi μ J) 3 (a + 1) i x).bind f = f (wi μ (up2 J (a + 1) i.toNat x)) := bnd (e_stI (L := 3001) h.2.2.1 h0 (by omega) (by omega)) f
theorem bS_st2 (h : isSS μ a) {i x : Int} (h0 : 0 ≤ i) (h1 : i < 3001) {f : Mem → Option β} : (stI (wi μ J) 0 (a + 2) i x).bind f = f (wi μ (up2 J (a + 2) i.toNat x)) := bnd (e_stI (L := 3001) h.2.2.2.1 h0 (by omega) (by omega)) f
theorem bS_st3 (h : isSS μ a) {i x : Int} (h0 : 0 ≤ i) (h1 : i < 4096) {f : Mem → Option β} : (stI (wi μ J) 0 (a + 3) i x).bind f = f (wi μ (up2 J (a + 3) i.toNat x)) := bnd (e_stI (L := 4096) h.2.2.2.2 h0 (by omega) (by omega)) f
theorem bS_inv {ρ : Type} {X : Option ρ} (h : isSS μ a) {f : ρ → Option β} : (inv (wi μ J) 7 a X).bind f = X.bind f := by
  rw [show inv (wi μ J) 7 a X = X from if_pos (by rw [wi_S, h.1])]
theorem overflows_w (h : isSS μ a) (hz : J a 0 = (z : Int)) (h1 : z ≤ 3001) {f : Int × Mem → Option β} : (mX6_overflows n a (wi μ J)).bind f = f (bi (3000 < z), wi μ J) := by
  unfold mX6_overflows
  rw [bS_gI h, hz]
  by_cases c : 3000 < z
  · rw [i_lt_t (by omega), bi_t c]; rfl
  · rw [i_lt_f (by omega), bi_f c]; rfl
/-- what a set of states is -/
def SSt (J : Nat → Nat → Int) (a z : Nat) : Prop := J a 0 = (z : Int) ∧ z ≤ 3001 ∧ HT 4096 hC (J (a + 3)) (J (a + 1)) z ∧ ∀ i : Nat, i < z → 0 ≤ J (a + 1) i ∧ J (a + 1) i < 4611686018427387904
theorem clear_w (h : isSS μ a) (hn : 20000 ≤ n) : ∃ K : Nat → Nat → Int, mX6_clear n a (wi μ J) = some ((), wi μ K) ∧ (∀ b : Nat, b ≠ a → b ≠ a + 3 → K b = J b) ∧ SSt K a 0 := by
  unfold mX6_clear
  have e := jfill_eq (I := up2 J a 0 0) (x := 0) h.2.2.2.2 (by decide) hn
  rw [bS_pI h, bS_g3 h, bnd e]
  refine ⟨_, rfl, fun b h1 h2 => ?_, ?_, by decide, HT.empty (fun j hj => ?_), fun i hi => absurd hi (by omega)⟩
  · rw [up1_o h2, up2_row h1]
  · rw [up1_o (by omega), up2_s]; rfl
  · rw [up1_s]
    exact if_pos hj
end SS
