/-! the tape: feed -/
theorem RelC.mk2 {c : Nat} {I K : Nat → Nat → Int} (hR : RelC c I) (o : ∀ b : Nat, ((c + 29 ≤ b ∧ b ≤ c + 31) ∨ (c + 159 ≤ b ∧ b < c + 193)) → K b = I b) (e2 : K (c + 193 + 2) = I (c + 193 + 2)) (e19 : K (c + 193 + 19) = I (c + 193 + 19)) (e20 : K (c + 193 + 20) = I (c + 193 + 20)) (e21 : K (c + 193 + 21) = I (c + 193 + 21)) (e1 : ∀ j : Nat, 220 ≤ j → K (c + 193 + 1) j = I (c + 193 + 1) j) (hl : RLl (ld K (c + 3)) (K (c + 193 + 1))) (ht : RT c K) : RelC c K := by
  obtain ⟨-, ri, rn, -⟩ := hR
  refine ⟨hl, fun k hk => ?_, fun k hk => ?_, ht⟩
  · rw [o (c + 30) (by omega), e2]
    refine ⟨(ri k hk).1, (ri k hk).2.1, fun z => ?_⟩
    have e : (fun j => K (c + 193 + 1) (220 * (k + 1) + j)) = fun j => I (c + 193 + 1) (220 * (k + 1) + j) := funext fun j => e1 _ (by omega)
    rw [e]
    exact ((ri k hk).2.2 z).cg (fun j hj => o _ (by omega))
  · have a1 : K (c + 185 + 2 * k) = I (c + 185 + 2 * k) := o _ (by omega)
    have a2 : K (c + 185 + 2 * k + 1) = I (c + 185 + 2 * k + 1) := o _ (by omega)
    rw [a1, a2, e19, e20, e21]
    exact rn k hk
def isTp (μ : Mem) (t : Nat) : Prop := mS μ t = (9, 9) ∧ mA μ t 3 = t + 1 ∧ mS μ (t + 1) = (21, 900)
theorem isC.tp {μ : Mem} {c : Nat} (h : isC μ c) : isTp μ (c + 1) := h.tape
section TP
variable {μ : Mem} {I : Nat → Nat → Int} {t n : Nat} {y p : Nat → Int} {β : Type}
theorem isTp.k {μ : Mem} {t : Nat} (h : isTp μ t) : (mS μ t).1 = 9 := by rw [h.1]
theorem bT_gI (h : isTp μ t) {k : Nat} {f : Int → Option β} : (gI (wi μ (wT I t y p)) 9 t k).bind f = f (y k) := (bnd (e_gI h.k) f).trans (by rw [wT_y])
theorem bT_pI (h : isTp μ t) {k : Nat} {x : Int} {f : Mem → Option β} : (pI (wi μ (wT I t y p)) 9 t k x).bind f = f (wi μ (wT I t (upA y k x) p)) := (bnd (e_pI h.k) f).trans (by rw [wT_uy])
theorem bT_g3 (h : isTp μ t) {J : Nat → Nat → Int} {f : Nat → Option β} : (gA (wi μ J) 9 t 3).bind f = f (t + 1) := bnd ((e_gA h.k).trans (congrArg some h.2.1)) f
theorem bT_ld (h : isTp μ t) {i : Int} (h0 : 0 ≤ i) (h1 : i < 900) {f : Int → Option β} : (ldI (wi μ (wT I t y p)) 1 (t + 1) i).bind f = f (p i.toNat) := (bnd (e_ldI (L := 900) h.2.2 h0 (by omega) (by omega)) f).trans (by rw [wT_p])
theorem bT_st (h : isTp μ t) {i x : Int} (h0 : 0 ≤ i) (h1 : i < 900) {f : Mem → Option β} : (stI (wi μ (wT I t y p)) 1 (t + 1) i x).bind f = f (wi μ (wT I t y (upA p i.toNat x))) := (bnd (e_stI (L := 900) h.2.2 h0 (by omega) (by omega)) f).trans (by rw [wT_up])
theorem bT_inv {ρ : Type} {J : Nat → Nat → Int} {X : Option ρ} (h : isTp μ t) {f : ρ → Option β} : (inv (wi μ J) 9 t X).bind f = X.bind f := by rw [e_inv h.k]
def fby (b s : Int) : Int := oI2b (oI2b (oUshr b s))
theorem addInt_eq (h : isTp μ t) {b : Int} (hy : 0 ≤ y 0 ∧ y 0 + 4 ≤ 900) (hn : 20000 ≤ n) : ∃ p' : Nat → Int, mX8_addInt n t b (wi μ (wT I t y p)) = some ((), wi μ (wT I t (upA y 0 (y 0 + 4)) p')) ∧ ∀ j : Nat, p' j = if y 0 ≤ (j : Int) ∧ (j : Int) < y 0 + 4 then fby b (24 - 8 * ((j : Int) - y 0)) else p j := by
  unfold mX8_addInt
  refine lp_ind (fun d (v : Int) ν => ∃ p' : Nat → Int, d ≤ 4 ∧ v = 8 * d - 8 ∧ ν = wi μ (wT I t (upA y 0 (y 0 + (4 - d))) p') ∧ ∀ j : Nat, p' j = if y 0 ≤ (j : Int) ∧ (j : Int) < y 0 + (4 - d) then fby b (24 - 8 * ((j : Int) - y 0)) else p j) (fun X => ∃ p' : Nat → Int, X = some ((), wi μ (wT I t (upA y 0 (y 0 + 4)) p')) ∧ ∀ j : Nat, p' j = if y 0 ≤ (j : Int) ∧ (j : Int) < y 0 + 4 then fby b (24 - 8 * ((j : Int) - y 0)) else p j) (fun d v ν nx hP hnx => ?_) n 4 24 _ (by omega) ⟨p, by omega, by omega, by rw [upA_id (by omega)], fun j => by rw [if_neg (by omega)]⟩
  obtain ⟨p', hd, rfl, rfl, hp⟩ := hP
  cases d with
  | zero =>
    simp (disch := omega) only [↓i_lt_t, ↓i_lt_f, ↓i_eq_t, ↓i_eq_f, ↓i_bi_t, ↓i_bi_f, ↓i_some]
    refine ⟨p', ?_, fun j => ?_⟩
    · rw [show y 0 + (4 - ((0 : Nat) : Int)) = y 0 + 4 by omega]
    · rw [hp j, show y 0 + (4 - ((0 : Nat) : Int)) = y 0 + 4 by omega]
  | succ d =>
    simp (disch := omega) only [↓i_lt_t, ↓i_lt_f, ↓i_eq_t, ↓i_eq_f, ↓i_bi_t, ↓i_bi_f, ↓i_some, ↓bT_gI h, upA_s, ↓bT_g3 h, ↓bT_st h, ↓bT_pI h, upA_up]
    refine hnx d _ _ (by omega) ⟨upA p' (y 0 + (4 - ((d + 1 : Nat) : Int))).toNat (fby b (8 * ((d + 1 : Nat) : Int) - 8)), by omega, by omega, ?_, fun j => ?_⟩
    · rw [show y 0 + (4 - ((d + 1 : Nat) : Int)) + 1 = y 0 + (4 - (d : Int)) by omega]
      rfl
    · by_cases e : j = (y 0 + (4 - ((d + 1 : Nat) : Int))).toNat
      · rw [e, upA_s, if_pos (by omega), show (24 : Int) - 8 * (((y 0 + (4 - ((d + 1 : Nat) : Int))).toNat : Int) - y 0) = 8 * ((d + 1 : Nat) : Int) - 8 by omega]
      · rw [upA_n e, hp j]
        by_cases e2 : y 0 ≤ (j : Int) ∧ (j : Int) < y 0 + (4 - ((d + 1 : Nat) : Int))
        · rw [if_pos e2, if_pos (by omega)]
        · rw [if_neg e2, if_neg (by omega)]
end TP
theorem oAnd_255 {x : Int} (h1 : -2147483648 ≤ x) (h2 : x < 2147483648) : oAnd x 255 = x % 256 := by
  have e0 : (Int32.ofInt x).toBitVec.toNat = (x % 4294967296).toNat := by
    show (BitVec.ofInt 32 x).toNat = _
    rw [BitVec.toNat_ofInt]
    rfl
  have e : (Int32.ofInt x &&& Int32.ofInt 255).toBitVec.toNat = (x % 4294967296).toNat % 256 := by
    rw [Int32.toBitVec_and, BitVec.toNat_and, e0]
    show (x % 4294967296).toNat &&& (2 ^ 8 - 1) = _
    rw [Nat.and_two_pow_sub_one_eq_mod]
  unfold oAnd
  show (Int32.ofInt x &&& Int32.ofInt 255).toBitVec.toInt = _
  rw [bvi (by rw [e]; omega), e]
  omega
theorem oUshr_0 {x : Int} (h1 : -2147483648 ≤ x) (h2 : x < 2147483648) : oUshr x 0 = x := by
  unfold oUshr
  have e : ((Int32.ofInt x).toUInt32 >>> ((Int32.ofInt 0).toUInt32 &&& Int32.toUInt32 31)) = (Int32.ofInt x).toUInt32 := by
    have : ((Int32.ofInt 0).toUInt32 &&& Int32.toUInt32 31) = 0 := by decide
    rw [this, UInt32.shiftRight_zero]
  rw [e, Int32.toInt32_toUInt32]
  exact Int32.toInt_ofInt_of_le (by omega) (by omega)
/-- a byte of an int, as both lay it down -/
theorem fby_rel {b : Int} (h1 : -2147483648 ≤ b) (h2 : b < 2147483648) {j : Nat} (hj : j < 4) : fby b (24 - 8 * (j : Int)) % 256 = oAnd (oShr b (24 - 8 * (j : Int))) 255 ∧ -128 ≤ fby b (24 - 8 * (j : Int)) ∧ fby b (24 - 8 * (j : Int)) < 128 := by
  have main : ∀ s : Nat, s < 32 → oUshr b (s : Int) % 256 = (b / ((2 ^ s : Nat) : Int)) % 256 → fby b (s : Int) % 256 = oAnd (oShr b (s : Int)) 255 ∧ -128 ≤ fby b (s : Int) ∧ fby b (s : Int) < 128 := fun s hs e => by
    have r : ∀ x : Int, -2147483648 ≤ oUshr x (s : Int) ∧ oUshr x (s : Int) < 2147483648 := fun x => by
      unfold oUshr
      generalize ((Int32.ofInt x).toUInt32 >>> ((Int32.ofInt (s : Int)).toUInt32 &&& Int32.toUInt32 31)).toInt32 = z
      have a1 := Int32.minValue_le_toInt z
      have a2 := Int32.toInt_lt z
      have e1 : Int32.minValue.toInt = -2147483648 := by decide
      omega
    have p : (1 : Int) ≤ ((2 ^ s : Nat) : Int) := by
      have := Nat.one_le_two_pow (n := s)
      omega
    have q1 : b / ((2 ^ s : Nat) : Int) ≤ max b 0 := by
      by_cases z : 0 ≤ b
      · have := Int.ediv_le_self ((2 ^ s : Nat) : Int) z
        omega
      · have := Int.ediv_nonpos_of_nonpos_of_neg (show b ≤ 0 by omega) (show (0 : Int) < ((2 ^ s : Nat) : Int) by omega)
        omega
    have q2 : min b 0 ≤ b / ((2 ^ s : Nat) : Int) := by
      by_cases z : 0 ≤ b
      · have := Int.ediv_nonneg z (show (0 : Int) ≤ ((2 ^ s : Nat) : Int) by omega)
        omega
      · have : b ≤ b / ((2 ^ s : Nat) : Int) := Int.le_ediv_of_mul_le (by omega) (by
          have := Int.mul_le_mul_of_nonpos_left (a := b) (show b ≤ 0 by omega) p
          omega)
        omega
    rw [oShr_i h1 h2 hs, oAnd_255 (by omega) (by omega)]
    unfold fby
    have r1 := r b
    rw [oI2b_of (x := oUshr b (s : Int)) (by omega) (by omega), oI2b_of (by omega) (by omega)]
    omega
  have cases : j = 0 ∨ j = 1 ∨ j = 2 ∨ j = 3 := by omega
  rcases cases with rfl | rfl | rfl | rfl
  · refine main 24 (by decide) ?_
    rw [oUshr_i h1 h2 (by decide) (by decide)]
    show (((b % 4294967296).toNat / 16777216 : Nat) : Int) % 256 = (b / 16777216) % 256
    omega
  · refine main 16 (by decide) ?_
    rw [oUshr_i h1 h2 (by decide) (by decide)]
    show (((b % 4294967296).toNat / 65536 : Nat) : Int) % 256 = (b / 65536) % 256
    omega
  · refine main 8 (by decide) ?_
    rw [oUshr_i h1 h2 (by decide) (by decide)]
    show (((b % 4294967296).toNat / 256 : Nat) : Int) % 256 = (b / 256) % 256
    omega
  · refine main 0 (by decide) ?_
    show oUshr b 0 % 256 = (b / 1) % 256
    rw [oUshr_0 h1 h2, Int.ediv_one]
