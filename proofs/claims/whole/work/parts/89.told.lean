/-! judge and perform: told hours -/
section TO
variable {μ : Mem} {I : Nat → Nat → Int} {c m n : Nat} {s l : Ld} {β : Type}
theorem lDiv_of {x y : Int} (h1 : 0 ≤ x) (h2 : x < 9223372036854775808) (h3 : 0 < y) (h4 : y < 9223372036854775808) : lDiv x y = x / y := by
  unfold lDiv
  rw [Int64.toInt_div_of_ne_right _ _ (fun e => by
    have := congrArg Int64.toInt e
    rw [Int64.toInt_ofInt_of_le (by omega) (by omega)] at this
    have e1 : (-1 : Int64).toInt = -1 := rfl
    omega), Int64.toInt_ofInt_of_le (by omega) (by omega), Int64.toInt_ofInt_of_le (by omega) (by omega), Int.tdiv_eq_ediv_of_nonneg h1]
theorem lRem_of {x y : Int} (h1 : 0 ≤ x) (h2 : x < 9223372036854775808) (h3 : 0 < y) (h4 : y < 9223372036854775808) : lRem x y = x % y := by
  have hd := lDiv_of h1 h2 h3 h4
  unfold lDiv at hd
  unfold lRem
  have e : Int64.ofInt x / Int64.ofInt y = Int64.ofInt (x / y) := by rw [← hd, Int64.ofInt_toInt]
  rw [e, ← Int64.ofInt_mul, ← Int64.ofInt_sub]
  have h5 : x - x / y * y = x % y := by rw [Int.emod_def, Int.mul_comm]
  rw [h5]
  have := Int.emod_nonneg x (show y ≠ 0 by omega)
  have := Int.emod_lt_of_pos x h3
  exact Int64.toInt_ofInt_of_le (by omega) (by omega)
theorem isHouse_w2 (h : isM μ m) (hl : LR l (s 1)) (hk : okL l) {b : Int} (hb : -9223372036854775808 ≤ b ∧ b < 9223372036854775808) {f : Int × Mem → Option β} : (mX11_isHouse n m b (wi μ (wm I m s))).bind f = f (bi (0 ≤ b ∧ b < l 0 0), wi μ (wm I m s)) := bnd (isHouse_eq h hl hk hb) f
theorem isRope_w2 (h : isM μ m) (hl : LR l (s 1)) (hk : okL l) {b : Int} (hb : -9223372036854775808 ≤ b ∧ b < 9223372036854775808) {f : Int × Mem → Option β} : (mX11_isRope n m b (wi μ (wm I m s))).bind f = f (bi (0 ≤ b ∧ b < l 0 1), wi μ (wm I m s)) := bnd (isRope_eq h hl hk hb) f
theorem i_lc_t {α : Type} {x y : Int} {a b : α} {i : Decidable (lt32 (oLcmp x y) 0)} (h : -9223372036854775808 ≤ x ∧ x < 9223372036854775808 ∧ -9223372036854775808 ≤ y ∧ y < 9223372036854775808 ∧ x < y) : @ite α (lt32 (oLcmp x y) 0) i a b = a := if_pos ((lcmp_lt h.1 h.2.1 h.2.2.1 h.2.2.2.1).mpr h.2.2.2.2)
theorem i_lc_f {α : Type} {x y : Int} {a b : α} {i : Decidable (lt32 (oLcmp x y) 0)} (h : -9223372036854775808 ≤ x ∧ x < 9223372036854775808 ∧ -9223372036854775808 ≤ y ∧ y < 9223372036854775808 ∧ ¬ x < y) : @ite α (lt32 (oLcmp x y) 0) i a b = b := if_neg (fun z => h.2.2.2.2 ((lcmp_lt h.1 h.2.1 h.2.2.1 h.2.2.2.1).mp z))
theorem i_le_t {α : Type} {x y : Int} {a b : α} {i : Decidable (eq32 (oLcmp x y) 0)} (h : -9223372036854775808 ≤ x ∧ x < 9223372036854775808 ∧ -9223372036854775808 ≤ y ∧ y < 9223372036854775808 ∧ x = y) : @ite α (eq32 (oLcmp x y) 0) i a b = a := if_pos ((lcmp_eq h.1 h.2.1 h.2.2.1 h.2.2.2.1).mpr h.2.2.2.2)
theorem i_le_f {α : Type} {x y : Int} {a b : α} {i : Decidable (eq32 (oLcmp x y) 0)} (h : -9223372036854775808 ≤ x ∧ x < 9223372036854775808 ∧ -9223372036854775808 ≤ y ∧ y < 9223372036854775808 ∧ ¬ x = y) : @ite α (eq32 (oLcmp x y) 0) i a b = b := if_neg (fun z => h.2.2.2.2 ((lcmp_eq h.1 h.2.1 h.2.2.1 h.2.2.2.1).mp z))
/-- why a told pull can't be, as the class has it -/
def rfL (l : Ld) (p : Nat → Int) (v : Int) : Int := if v < 0 ∨ 200 ≤ v then 1 else if hgP l (v % 20) (v / 20) ∧ l 9 (v % 20).toNat = 0 then (if p (v / 20).toNat = -1 then 0 else 2) else 1
theorem oDiv_20 {v : Int} (h : 0 ≤ v) (h2 : v < 200) : oDiv v 20 = v / 20 := oDiv_of h (by omega) (by omega) (by omega)
theorem oRem_20 {v : Int} (h : 0 ≤ v) (h2 : v < 200) : oRem v 20 = v % 20 := oRem_of h (by omega) (by omega) (by omega)
theorem refuses_eq (h : isM μ m) (hl : LR l (s 1)) (hk : okL l) (hp : ∀ k : Nat, k < 10 → -1 ≤ s 5 k ∧ s 5 k < 16) {v : Int} (hv : -9223372036854775808 ≤ v ∧ v < 9223372036854775808) : mX11_refuses n m v (wi μ (wm I m s)) = some (rfL l (s 5) v, wi μ (wm I m s)) := by
  have hz := hk.1
  unfold mX11_refuses
  by_cases c1 : v < 0
  · have ev : rfL l (s 5) v = 1 := if_pos (Or.inl c1)
    simp (disch := omega) only [↓i_lc_t, ↓i_lc_f, ev]
  · by_cases c2 : 200 ≤ v
    · have ev : rfL l (s 5) v = 1 := if_pos (Or.inr c2)
      have d := lDiv_of (x := v) (y := 20) (by omega) (by omega) (by omega) (by omega)
      have dd : 10 ≤ v / 20 ∧ v / 20 < 9223372036854775808 := by omega
      simp (disch := omega) only [↓i_lc_t, ↓i_lc_f, ↓i_lt_t, ↓i_lt_f, ↓i_eq_t, ↓i_eq_f, ↓i_bi_t, ↓i_bi_f, ↓i_some, ↓bM_gI h, ↓bM_pI h, ↓bM_inv h, ↓bM_g1 h, ↓bM_g2 h, ↓bM_g3 h, ↓bM_g4 h, ↓bM_g15 h, ↓bM_g16 h, ↓bM_g22 h, ↓bM_g23 h, ↓bM_g24 h, ↓bM_g25 h, ↓bM_g28 h, ↓bM_g29 h, ↓bM_g30 h, ↓bM_g32 h, ↓bM_g33 h, ↓bM_g34 h, ↓bM_g36 h, ↓bM_g37 h, ↓bM_g41 h, ↓bM_g42 h, ↓bM_g43 h, ↓bM_ld1 h, ↓bM_ld2 h, ↓bM_ld3 h, ↓bM_ld4 h, ↓bM_ld5 h, ↓bM_ld6 h, ↓bM_ld7 h, ↓bM_ld8 h, ↓bM_ld9 h, ↓bM_ld10 h, ↓bM_ld11 h, ↓bM_ld12 h, ↓bM_ld13 h, ↓bM_ld14 h, ↓bM_ld15 h, ↓bM_ld16 h, ↓bM_ld17 h, ↓bM_ld18 h, ↓bM_ld19 h, ↓bM_ld20 h, ↓bM_ld21 h, ↓bM_st1 h, ↓bM_st2 h, ↓bM_st3 h, ↓bM_st4 h, ↓bM_st5 h, ↓bM_st6 h, ↓bM_st7 h, ↓bM_st8 h, ↓bM_st9 h, ↓bM_st10 h, ↓bM_st11 h, ↓bM_st12 h, ↓bM_st13 h, ↓bM_st14 h, ↓bM_st15 h, ↓bM_st16 h, ↓bM_st17 h, ↓bM_st18 h, ↓bM_st19 h, ↓bM_st20 h, ↓bM_st21 h, d, ↓isHouse_w2 h hl hk, ev]
    · have d := lDiv_of (x := v) (y := 20) (by omega) (by omega) (by omega) (by omega)
      have r := lRem_of (x := v) (y := 20) (by omega) (by omega) (by omega) (by omega)
      have d2 := oDiv_20 (v := v) (by omega) (by omega)
      have r2 := oRem_20 (v := v) (by omega) (by omega)
      have ev : rfL l (s 5) v = if hgP l (v % 20) (v / 20) ∧ l 9 (v % 20).toNat = 0 then (if s 5 (v / 20).toNat = -1 then 0 else 2) else 1 := if_neg (by omega)
      obtain ⟨q, eq⟩ : ∃ q : Nat, v % 20 = (q : Int) := ⟨(v % 20).toNat, by omega⟩
      obtain ⟨g, eg⟩ : ∃ g : Nat, v / 20 = (g : Int) := ⟨(v / 20).toNat, by omega⟩
      rw [eq] at r r2 ev
      rw [eg] at d d2 ev
      rw [Int.toNat_natCast, Int.toNat_natCast] at ev
      have hg : (g : Int) < 10 := by omega
      have hq : (q : Int) < 20 := by omega
      by_cases c3 : (g : Int) < l 0 0
      · by_cases c4 : (q : Int) < l 0 1
        · have he := hg_end (l := l) (b := g) (k := q) c3 c4
          by_cases c5 : l 10 (2 * q) = g ∨ l 10 (2 * q + 1) = g
          · by_cases c6 : l 9 q = 0
            · rw [if_pos ⟨he.mpr c5, c6⟩] at ev
              have pr := hp g (by omega)
              by_cases c7 : s 5 g = -1
              · rw [if_pos c7] at ev
                simp (disch := omega) only [↓i_lc_f, ↓i_lt_t, ↓i_lt_f, ↓i_eq_t, ↓i_eq_f, ↓i_bi_t, ↓i_bi_f, ↓i_some, ↓bM_gI h, ↓bM_pI h, ↓bM_inv h, ↓bM_g1 h, ↓bM_g2 h, ↓bM_g3 h, ↓bM_g4 h, ↓bM_g15 h, ↓bM_g16 h, ↓bM_g22 h, ↓bM_g23 h, ↓bM_g24 h, ↓bM_g25 h, ↓bM_g28 h, ↓bM_g29 h, ↓bM_g30 h, ↓bM_g32 h, ↓bM_g33 h, ↓bM_g34 h, ↓bM_g36 h, ↓bM_g37 h, ↓bM_g41 h, ↓bM_g42 h, ↓bM_g43 h, ↓bM_ld1 h, ↓bM_ld2 h, ↓bM_ld3 h, ↓bM_ld4 h, ↓bM_ld5 h, ↓bM_ld6 h, ↓bM_ld7 h, ↓bM_ld8 h, ↓bM_ld9 h, ↓bM_ld10 h, ↓bM_ld11 h, ↓bM_ld12 h, ↓bM_ld13 h, ↓bM_ld14 h, ↓bM_ld15 h, ↓bM_ld16 h, ↓bM_ld17 h, ↓bM_ld18 h, ↓bM_ld19 h, ↓bM_ld20 h, ↓bM_ld21 h, ↓bM_st1 h, ↓bM_st2 h, ↓bM_st3 h, ↓bM_st4 h, ↓bM_st5 h, ↓bM_st6 h, ↓bM_st7 h, ↓bM_st8 h, ↓bM_st9 h, ↓bM_st10 h, ↓bM_st11 h, ↓bM_st12 h, ↓bM_st13 h, ↓bM_st14 h, ↓bM_st15 h, ↓bM_st16 h, ↓bM_st17 h, ↓bM_st18 h, ↓bM_st19 h, ↓bM_st20 h, ↓bM_st21 h, d, r, d2, r2, ↓isHouse_w2 h hl hk, ↓isRope_w2 h hl hk, ↓isEnd_w h hl hk, ↓mhangs_w h hl hk, Int.toNat_add, Int.toNat_mul, Int.toNat_natCast, Int.reduceToNat, Nat.reduceAdd, Nat.reduceMul, ev]
              · rw [if_neg c7] at ev
                simp (disch := omega) only [↓i_lc_f, ↓i_lt_t, ↓i_lt_f, ↓i_eq_t, ↓i_eq_f, ↓i_bi_t, ↓i_bi_f, ↓i_some, ↓bM_gI h, ↓bM_pI h, ↓bM_inv h, ↓bM_g1 h, ↓bM_g2 h, ↓bM_g3 h, ↓bM_g4 h, ↓bM_g15 h, ↓bM_g16 h, ↓bM_g22 h, ↓bM_g23 h, ↓bM_g24 h, ↓bM_g25 h, ↓bM_g28 h, ↓bM_g29 h, ↓bM_g30 h, ↓bM_g32 h, ↓bM_g33 h, ↓bM_g34 h, ↓bM_g36 h, ↓bM_g37 h, ↓bM_g41 h, ↓bM_g42 h, ↓bM_g43 h, ↓bM_ld1 h, ↓bM_ld2 h, ↓bM_ld3 h, ↓bM_ld4 h, ↓bM_ld5 h, ↓bM_ld6 h, ↓bM_ld7 h, ↓bM_ld8 h, ↓bM_ld9 h, ↓bM_ld10 h, ↓bM_ld11 h, ↓bM_ld12 h, ↓bM_ld13 h, ↓bM_ld14 h, ↓bM_ld15 h, ↓bM_ld16 h, ↓bM_ld17 h, ↓bM_ld18 h, ↓bM_ld19 h, ↓bM_ld20 h, ↓bM_ld21 h, ↓bM_st1 h, ↓bM_st2 h, ↓bM_st3 h, ↓bM_st4 h, ↓bM_st5 h, ↓bM_st6 h, ↓bM_st7 h, ↓bM_st8 h, ↓bM_st9 h, ↓bM_st10 h, ↓bM_st11 h, ↓bM_st12 h, ↓bM_st13 h, ↓bM_st14 h, ↓bM_st15 h, ↓bM_st16 h, ↓bM_st17 h, ↓bM_st18 h, ↓bM_st19 h, ↓bM_st20 h, ↓bM_st21 h, d, r, d2, r2, ↓isHouse_w2 h hl hk, ↓isRope_w2 h hl hk, ↓isEnd_w h hl hk, ↓mhangs_w h hl hk, Int.toNat_add, Int.toNat_mul, Int.toNat_natCast, Int.reduceToNat, Nat.reduceAdd, Nat.reduceMul, ev]
            · rw [if_neg (fun z => c6 z.2)] at ev
              simp (disch := omega) only [↓i_lc_f, ↓i_lt_t, ↓i_lt_f, ↓i_eq_t, ↓i_eq_f, ↓i_bi_t, ↓i_bi_f, ↓i_some, ↓bM_gI h, ↓bM_pI h, ↓bM_inv h, ↓bM_g1 h, ↓bM_g2 h, ↓bM_g3 h, ↓bM_g4 h, ↓bM_g15 h, ↓bM_g16 h, ↓bM_g22 h, ↓bM_g23 h, ↓bM_g24 h, ↓bM_g25 h, ↓bM_g28 h, ↓bM_g29 h, ↓bM_g30 h, ↓bM_g32 h, ↓bM_g33 h, ↓bM_g34 h, ↓bM_g36 h, ↓bM_g37 h, ↓bM_g41 h, ↓bM_g42 h, ↓bM_g43 h, ↓bM_ld1 h, ↓bM_ld2 h, ↓bM_ld3 h, ↓bM_ld4 h, ↓bM_ld5 h, ↓bM_ld6 h, ↓bM_ld7 h, ↓bM_ld8 h, ↓bM_ld9 h, ↓bM_ld10 h, ↓bM_ld11 h, ↓bM_ld12 h, ↓bM_ld13 h, ↓bM_ld14 h, ↓bM_ld15 h, ↓bM_ld16 h, ↓bM_ld17 h, ↓bM_ld18 h, ↓bM_ld19 h, ↓bM_ld20 h, ↓bM_ld21 h, ↓bM_st1 h, ↓bM_st2 h, ↓bM_st3 h, ↓bM_st4 h, ↓bM_st5 h, ↓bM_st6 h, ↓bM_st7 h, ↓bM_st8 h, ↓bM_st9 h, ↓bM_st10 h, ↓bM_st11 h, ↓bM_st12 h, ↓bM_st13 h, ↓bM_st14 h, ↓bM_st15 h, ↓bM_st16 h, ↓bM_st17 h, ↓bM_st18 h, ↓bM_st19 h, ↓bM_st20 h, ↓bM_st21 h, d, r, d2, r2, ↓isHouse_w2 h hl hk, ↓isRope_w2 h hl hk, ↓isEnd_w h hl hk, ↓mhangs_w h hl hk, ev]
          · rw [if_neg (fun z => c5 (he.mp z.1))] at ev
            simp (disch := omega) only [↓i_lc_f, ↓i_lt_t, ↓i_lt_f, ↓i_eq_t, ↓i_eq_f, ↓i_bi_t, ↓i_bi_f, ↓i_some, ↓bM_gI h, ↓bM_pI h, ↓bM_inv h, ↓bM_g1 h, ↓bM_g2 h, ↓bM_g3 h, ↓bM_g4 h, ↓bM_g15 h, ↓bM_g16 h, ↓bM_g22 h, ↓bM_g23 h, ↓bM_g24 h, ↓bM_g25 h, ↓bM_g28 h, ↓bM_g29 h, ↓bM_g30 h, ↓bM_g32 h, ↓bM_g33 h, ↓bM_g34 h, ↓bM_g36 h, ↓bM_g37 h, ↓bM_g41 h, ↓bM_g42 h, ↓bM_g43 h, ↓bM_ld1 h, ↓bM_ld2 h, ↓bM_ld3 h, ↓bM_ld4 h, ↓bM_ld5 h, ↓bM_ld6 h, ↓bM_ld7 h, ↓bM_ld8 h, ↓bM_ld9 h, ↓bM_ld10 h, ↓bM_ld11 h, ↓bM_ld12 h, ↓bM_ld13 h, ↓bM_ld14 h, ↓bM_ld15 h, ↓bM_ld16 h, ↓bM_ld17 h, ↓bM_ld18 h, ↓bM_ld19 h, ↓bM_ld20 h, ↓bM_ld21 h, ↓bM_st1 h, ↓bM_st2 h, ↓bM_st3 h, ↓bM_st4 h, ↓bM_st5 h, ↓bM_st6 h, ↓bM_st7 h, ↓bM_st8 h, ↓bM_st9 h, ↓bM_st10 h, ↓bM_st11 h, ↓bM_st12 h, ↓bM_st13 h, ↓bM_st14 h, ↓bM_st15 h, ↓bM_st16 h, ↓bM_st17 h, ↓bM_st18 h, ↓bM_st19 h, ↓bM_st20 h, ↓bM_st21 h, d, r, d2, r2, ↓isHouse_w2 h hl hk, ↓isRope_w2 h hl hk, ↓isEnd_w h hl hk, ev]
        · rw [if_neg (fun z => c4 z.1.2.1.2)] at ev
          simp (disch := omega) only [↓i_lc_f, ↓i_lt_t, ↓i_lt_f, ↓i_eq_t, ↓i_eq_f, ↓i_bi_t, ↓i_bi_f, ↓i_some, ↓bM_gI h, ↓bM_pI h, ↓bM_inv h, ↓bM_g1 h, ↓bM_g2 h, ↓bM_g3 h, ↓bM_g4 h, ↓bM_g15 h, ↓bM_g16 h, ↓bM_g22 h, ↓bM_g23 h, ↓bM_g24 h, ↓bM_g25 h, ↓bM_g28 h, ↓bM_g29 h, ↓bM_g30 h, ↓bM_g32 h, ↓bM_g33 h, ↓bM_g34 h, ↓bM_g36 h, ↓bM_g37 h, ↓bM_g41 h, ↓bM_g42 h, ↓bM_g43 h, ↓bM_ld1 h, ↓bM_ld2 h, ↓bM_ld3 h, ↓bM_ld4 h, ↓bM_ld5 h, ↓bM_ld6 h, ↓bM_ld7 h, ↓bM_ld8 h, ↓bM_ld9 h, ↓bM_ld10 h, ↓bM_ld11 h, ↓bM_ld12 h, ↓bM_ld13 h, ↓bM_ld14 h, ↓bM_ld15 h, ↓bM_ld16 h, ↓bM_ld17 h, ↓bM_ld18 h, ↓bM_ld19 h, ↓bM_ld20 h, ↓bM_ld21 h, ↓bM_st1 h, ↓bM_st2 h, ↓bM_st3 h, ↓bM_st4 h, ↓bM_st5 h, ↓bM_st6 h, ↓bM_st7 h, ↓bM_st8 h, ↓bM_st9 h, ↓bM_st10 h, ↓bM_st11 h, ↓bM_st12 h, ↓bM_st13 h, ↓bM_st14 h, ↓bM_st15 h, ↓bM_st16 h, ↓bM_st17 h, ↓bM_st18 h, ↓bM_st19 h, ↓bM_st20 h, ↓bM_st21 h, d, r, d2, r2, ↓isHouse_w2 h hl hk, ↓isRope_w2 h hl hk, ev]
      · rw [if_neg (fun z => c3 z.1.1.2)] at ev
        simp (disch := omega) only [↓i_lc_f, ↓i_lt_t, ↓i_lt_f, ↓i_eq_t, ↓i_eq_f, ↓i_bi_t, ↓i_bi_f, ↓i_some, ↓bM_gI h, ↓bM_pI h, ↓bM_inv h, ↓bM_g1 h, ↓bM_g2 h, ↓bM_g3 h, ↓bM_g4 h, ↓bM_g15 h, ↓bM_g16 h, ↓bM_g22 h, ↓bM_g23 h, ↓bM_g24 h, ↓bM_g25 h, ↓bM_g28 h, ↓bM_g29 h, ↓bM_g30 h, ↓bM_g32 h, ↓bM_g33 h, ↓bM_g34 h, ↓bM_g36 h, ↓bM_g37 h, ↓bM_g41 h, ↓bM_g42 h, ↓bM_g43 h, ↓bM_ld1 h, ↓bM_ld2 h, ↓bM_ld3 h, ↓bM_ld4 h, ↓bM_ld5 h, ↓bM_ld6 h, ↓bM_ld7 h, ↓bM_ld8 h, ↓bM_ld9 h, ↓bM_ld10 h, ↓bM_ld11 h, ↓bM_ld12 h, ↓bM_ld13 h, ↓bM_ld14 h, ↓bM_ld15 h, ↓bM_ld16 h, ↓bM_ld17 h, ↓bM_ld18 h, ↓bM_ld19 h, ↓bM_ld20 h, ↓bM_ld21 h, ↓bM_st1 h, ↓bM_st2 h, ↓bM_st3 h, ↓bM_st4 h, ↓bM_st5 h, ↓bM_st6 h, ↓bM_st7 h, ↓bM_st8 h, ↓bM_st9 h, ↓bM_st10 h, ↓bM_st11 h, ↓bM_st12 h, ↓bM_st13 h, ↓bM_st14 h, ↓bM_st15 h, ↓bM_st16 h, ↓bM_st17 h, ↓bM_st18 h, ↓bM_st19 h, ↓bM_st20 h, ↓bM_st21 h, d, ↓isHouse_w2 h hl hk, ev]
/-- the class's step over one told number, by what the reference asks -/
theorem tlP_rf {y p : Nat → Int} {v : Int} (hv : v ≠ -1) : tlP l y p v = (rfL l p v, l, if rfL l p v = 0 then upA y 7 (y 7 + 1) else y, if rfL l p v = 0 then upA p (v / 20).toNat (v % 20) else p) := by
  unfold tlP rfL
  rw [if_neg hv]
  by_cases c1 : v < 0 ∨ 200 ≤ v
  · rw [if_pos c1, if_pos c1]
    rfl
  · rw [if_neg c1, if_neg c1]
    by_cases c2 : hgP l (v % 20) (v / 20) ∧ l 9 (v % 20).toNat = 0
    · rw [if_pos c2, if_pos c2]
      by_cases c3 : p (v / 20).toNat = -1
      · rw [if_pos c3, if_pos c3]
        rfl
      · rw [if_neg c3, if_neg c3]
        rfl
    · rw [if_neg c2, if_neg c2]
      rfl
theorem rf_cg {p q : Nat → Int} {v : Int} (h : ∀ j : Nat, j < 10 → p j = q j) : rfL l p v = rfL l q v := by
  unfold rfL
  by_cases c1 : v < 0 ∨ 200 ≤ v
  · rw [if_pos c1, if_pos c1]
  · rw [if_neg c1, if_neg c1, h (v / 20).toNat (by omega)]
theorem rf_cases (p : Nat → Int) (v : Int) : rfL l p v = 0 ∨ rfL l p v = 1 ∨ rfL l p v = 2 := by
  unfold rfL
  split
  · omega
  · split
    · split <;> omega
    · omega
/-- a told row, as the reference does it: the class's tally Z behind it -/
theorem hoursOf_m (h : isM μ m) (hl : RLl l (s 1)) {i : Nat} (hi : i < 4) {yr pr : Nat → Int} (h20 : s 20 i = yr 0) (hz : 0 ≤ yr 0 ∧ yr 0 ≤ 60) (hv : ∀ k : Nat, k < 60 → (-9223372036854775808 ≤ pr k ∧ pr k < 9223372036854775808) ∧ ((k : Int) < yr 0 → s 21 (60 * i + k) = pr k)) {y p : Nat → Int} (hp : ∀ j : Nat, j < 10 → p j = -1) (hy : y 0 = -1 ∧ y 1 = 0 ∧ y 2 = 0 ∧ y 3 = 0 ∧ y 4 = 0 ∧ y 7 = 0) (hn : 20000 ≤ n) {Z : Ld × Ts} (hZ : tlL yr pr (l, y, p) = Z) : ∃ s' : Ld, Fr s s' ∧ RLl Z.1 (s' 1) ∧ s' 0 17 = Z.2.1 1 ∧ s' 0 18 = Z.2.1 2 ∧ s' 0 19 = Z.2.1 3 ∧ s' 0 20 = Z.2.1 4 ∧ mX11_hoursOf n m (i : Int) (wi μ (wm I m s)) = some (Z.2.1 0, wi μ (wm I m s')) := by
  obtain ⟨hk, lr, lq, h0, h9⟩ := hl
  obtain ⟨p0, hp0, e0⟩ := nobody_eq (n := n) (I := I) (s := up2 (up2 (up2 (up2 s 0 17 0) 0 18 0) 0 19 0) 0 20 0) h (by omega)
  unfold mX11_hoursOf
  simp (disch := omega) only [↓i_lt_t, ↓i_lt_f, ↓i_eq_t, ↓i_eq_f, ↓i_bi_t, ↓i_bi_f, ↓i_some, ↓bM_gI h, ↓bM_pI h, ↓bM_inv h, ↓bM_g1 h, ↓bM_g2 h, ↓bM_g3 h, ↓bM_g4 h, ↓bM_g15 h, ↓bM_g16 h, ↓bM_g22 h, ↓bM_g23 h, ↓bM_g24 h, ↓bM_g25 h, ↓bM_g28 h, ↓bM_g29 h, ↓bM_g30 h, ↓bM_g32 h, ↓bM_g33 h, ↓bM_g34 h, ↓bM_g36 h, ↓bM_g37 h, ↓bM_g41 h, ↓bM_g42 h, ↓bM_g43 h, ↓bM_ld1 h, ↓bM_ld2 h, ↓bM_ld3 h, ↓bM_ld4 h, ↓bM_ld5 h, ↓bM_ld6 h, ↓bM_ld7 h, ↓bM_ld8 h, ↓bM_ld9 h, ↓bM_ld10 h, ↓bM_ld11 h, ↓bM_ld12 h, ↓bM_ld13 h, ↓bM_ld14 h, ↓bM_ld15 h, ↓bM_ld16 h, ↓bM_ld17 h, ↓bM_ld18 h, ↓bM_ld19 h, ↓bM_ld20 h, ↓bM_ld21 h, ↓bM_st1 h, ↓bM_st2 h, ↓bM_st3 h, ↓bM_st4 h, ↓bM_st5 h, ↓bM_st6 h, ↓bM_st7 h, ↓bM_st8 h, ↓bM_st9 h, ↓bM_st10 h, ↓bM_st11 h, ↓bM_st12 h, ↓bM_st13 h, ↓bM_st14 h, ↓bM_st15 h, ↓bM_st16 h, ↓bM_st17 h, ↓bM_st18 h, ↓bM_st19 h, ↓bM_st20 h, ↓bM_st21 h, ↓bnd e0]
  have f0 : Fr s (up1 (up2 (up2 (up2 (up2 s 0 17 0) 0 18 0) 0 19 0) 0 20 0) 5 p0) := (((((Fr.f0 s (by omega)).tr (Fr.f0 _ (by omega))).tr (Fr.f0 _ (by omega))).tr (Fr.f0 _ (by omega))).tr (Fr.p5 _ p0))
  have z17 : (up1 (up2 (up2 (up2 (up2 s 0 17 0) 0 18 0) 0 19 0) 0 20 0) 5 p0) 0 17 = 0 := by rw [up1_o (by decide), up2_n (by decide), up2_n (by decide), up2_n (by decide), up2_s]
  have z18 : (up1 (up2 (up2 (up2 (up2 s 0 17 0) 0 18 0) 0 19 0) 0 20 0) 5 p0) 0 18 = 0 := by rw [up1_o (by decide), up2_n (by decide), up2_n (by decide), up2_s]
  have z19 : (up1 (up2 (up2 (up2 (up2 s 0 17 0) 0 18 0) 0 19 0) 0 20 0) 5 p0) 0 19 = 0 := by rw [up1_o (by decide), up2_n (by decide), up2_s]
  have z20 : (up1 (up2 (up2 (up2 (up2 s 0 17 0) 0 18 0) 0 19 0) 0 20 0) 5 p0) 0 20 = 0 := by rw [up1_o (by decide), up2_s]
  have z5 : (up1 (up2 (up2 (up2 (up2 s 0 17 0) 0 18 0) 0 19 0) 0 20 0) 5 p0) 5 = p0 := up1_s
  have z1 : (up1 (up2 (up2 (up2 (up2 s 0 17 0) 0 18 0) 0 19 0) 0 20 0) 5 p0) 1 = s 1 := by rw [up1_o (by decide), up2_row (by decide), up2_row (by decide), up2_row (by decide), up2_row (by decide)]
  generalize up1 (up2 (up2 (up2 (up2 s 0 17 0) 0 18 0) 0 19 0) 0 20 0) 5 p0 = s0 at f0 z17 z18 z19 z20 z5 z1
  refine lp_ind (fun d (v : Int × Int) ν => ∃ (q : Ld × Ts) (t : Ld) (k : Nat), ν = wi μ (wm I m t) ∧ v = (q.2.1 7, (k : Int)) ∧ (k : Int) + d = yr 0 + 1 ∧ Fr s t ∧ RLl q.1 (t 1) ∧ (q.2.1 0 = -1 ∧ q.2.1 1 = 0) ∧ (t 0 17 = 0 ∧ t 0 18 = q.2.1 2 ∧ t 0 19 = q.2.1 3 ∧ t 0 20 = q.2.1 4) ∧ (∀ j : Nat, j < 10 → t 5 j = q.2.2 j ∧ -1 ≤ t 5 j ∧ t 5 j < 16) ∧ itx (tlS yr pr) (fun s => s) k d q = Z) (fun X => ∃ s' : Ld, Fr s s' ∧ RLl Z.1 (s' 1) ∧ s' 0 17 = Z.2.1 1 ∧ s' 0 18 = Z.2.1 2 ∧ s' 0 19 = Z.2.1 3 ∧ s' 0 20 = Z.2.1 4 ∧ X = some (Z.2.1 0, wi μ (wm I m s'))) (fun d v ν nx hP hnx => ?_) n ((yr 0).toNat + 1) (0, 0) _ (by omega) ⟨(l, y, p), s0, 0, rfl, by show ((0 : Int), (0 : Int)) = (y 7, ((0 : Nat) : Int)); rw [hy.2.2.2.2.2]; rfl, by omega, f0, by rw [z1]; exact ⟨hk, lr, lq, h0, h9⟩, ⟨hy.1, hy.2.1⟩, ⟨z17, z18.trans hy.2.2.1.symm, z19.trans hy.2.2.2.1.symm, z20.trans hy.2.2.2.2.1.symm⟩, fun j hj => by rw [z5, hp0 j hj]; exact ⟨(hp j hj).symm, by omega, by omega⟩, hZ⟩
  obtain ⟨q, t, k, rfl, rfl, h1, ft, ⟨ok, qr, qq, q0, q9⟩, ⟨y0, y1⟩, ⟨w17, w18, w19, w20⟩, hpp, hZ'⟩ := hP
  have t20 : t 20 i = yr 0 := by rw [ft.1 20 (by decide) (by decide) (by decide)]; exact h20
  have t21 : ∀ j : Nat, t 21 j = s 21 j := fun j => by rw [ft.1 21 (by decide) (by decide) (by decide)]
  have t2 : t 1 2 = q.1 0 2 := qq.1
  cases d with
  | zero =>
    have hZ2 : q = Z := hZ'
    subst hZ2
    simp (disch := omega) only [↓i_lt_t, ↓i_lt_f, ↓i_eq_t, ↓i_eq_f, ↓i_bi_t, ↓i_bi_f, ↓i_some, ↓bM_gI h, ↓bM_pI h, ↓bM_inv h, ↓bM_g1 h, ↓bM_g2 h, ↓bM_g3 h, ↓bM_g4 h, ↓bM_g15 h, ↓bM_g16 h, ↓bM_g22 h, ↓bM_g23 h, ↓bM_g24 h, ↓bM_g25 h, ↓bM_g28 h, ↓bM_g29 h, ↓bM_g30 h, ↓bM_g32 h, ↓bM_g33 h, ↓bM_g34 h, ↓bM_g36 h, ↓bM_g37 h, ↓bM_g41 h, ↓bM_g42 h, ↓bM_g43 h, ↓bM_ld1 h, ↓bM_ld2 h, ↓bM_ld3 h, ↓bM_ld4 h, ↓bM_ld5 h, ↓bM_ld6 h, ↓bM_ld7 h, ↓bM_ld8 h, ↓bM_ld9 h, ↓bM_ld10 h, ↓bM_ld11 h, ↓bM_ld12 h, ↓bM_ld13 h, ↓bM_ld14 h, ↓bM_ld15 h, ↓bM_ld16 h, ↓bM_ld17 h, ↓bM_ld18 h, ↓bM_ld19 h, ↓bM_ld20 h, ↓bM_ld21 h, ↓bM_st1 h, ↓bM_st2 h, ↓bM_st3 h, ↓bM_st4 h, ↓bM_st5 h, ↓bM_st6 h, ↓bM_st7 h, ↓bM_st8 h, ↓bM_st9 h, ↓bM_st10 h, ↓bM_st11 h, ↓bM_st12 h, ↓bM_st13 h, ↓bM_st14 h, ↓bM_st15 h, ↓bM_st16 h, ↓bM_st17 h, ↓bM_st18 h, ↓bM_st19 h, ↓bM_st20 h, ↓bM_st21 h, Int.toNat_add, Int.toNat_mul, Int.toNat_natCast, Int.reduceToNat, Nat.reduceAdd, Nat.reduceMul, t20]
    exact ⟨t, ft, ⟨ok, qr, qq, q0, q9⟩, by rw [w17, y1], w18, w19, w20, by rw [y0]⟩
  | succ d =>
    have eS : tlS yr pr k q = .inl ((tlP q.1 q.2.1 q.2.2 (toldAt yr pr k)).2.1, (if (tlP q.1 q.2.1 q.2.2 (toldAt yr pr k)).1 = 0 then upA (tlP q.1 q.2.1 q.2.2 (toldAt yr pr k)).2.2.1 1 (tlP q.1 q.2.1 q.2.2 (toldAt yr pr k)).1 else upA (upA (tlP q.1 q.2.1 q.2.2 (toldAt yr pr k)).2.2.1 1 (tlP q.1 q.2.1 q.2.2 (toldAt yr pr k)).1) 0 k), (tlP q.1 q.2.1 q.2.2 (toldAt yr pr k)).2.2.2) := if_pos y1
    have hZ2 : itx (tlS yr pr) (fun s => s) (k + 1) d ((tlP q.1 q.2.1 q.2.2 (toldAt yr pr k)).2.1, (if (tlP q.1 q.2.1 q.2.2 (toldAt yr pr k)).1 = 0 then upA (tlP q.1 q.2.1 q.2.2 (toldAt yr pr k)).2.2.1 1 (tlP q.1 q.2.1 q.2.2 (toldAt yr pr k)).1 else upA (upA (tlP q.1 q.2.1 q.2.2 (toldAt yr pr k)).2.2.1 1 (tlP q.1 q.2.1 q.2.2 (toldAt yr pr k)).1) 0 k), (tlP q.1 q.2.1 q.2.2 (toldAt yr pr k)).2.2.2) = Z := by
      unfold itx at hZ'
      rw [eS] at hZ'
      exact hZ'
    clear hZ' eS
    -- where the tally has stopped, the class stays as it is
    have stop : ∀ (d k : Nat) (u : Ld × Ts), u.2.1 1 ≠ 0 → itx (tlS yr pr) (fun s => s) k d u = u := by
      intro d
      cases d with
      | zero => intro k u _; rfl
      | succ d =>
        intro k u hu
        have e : tlS yr pr k u = .inr u := if_neg hu
        unfold itx
        rw [e]
    by_cases cA : (k : Int) < yr 0 ∧ pr k ≠ -1
    · obtain ⟨cA, cV⟩ := cA
      have eT : toldAt yr pr k = pr k := if_pos cA
      have v21 : t 21 (60 * i + k) = pr k := by rw [t21]; exact (hv k (by omega)).2 cA
      have vr := (hv k (by omega)).1
      have er := refuses_eq (n := n) (I := I) (s := t) (l := q.1) h qr ok (fun j hj => (hpp j hj).2) (v := pr k) vr
      have ec : rfL q.1 (t 5) (pr k) = rfL q.1 q.2.2 (pr k) := rf_cg (fun j hj => (hpp j hj).1)
      rw [ec] at er
      rw [eT, tlP_rf cV] at hZ2
      have e17 : ∀ x : Int, up2 t 0 17 x 0 17 = x := fun x => up2_s
      have e21 : ∀ x : Int, up2 t 0 17 x 21 (60 * i + k) = pr k := fun x => by rw [up2_row (by decide)]; exact v21
      have rc := rf_cases (l := q.1) q.2.2 (pr k)
      by_cases c0 : rfL q.1 q.2.2 (pr k) = 0
      · have hrg : (0 ≤ pr k ∧ pr k < 200) ∧ hgP q.1 (pr k % 20) (pr k / 20) := by
          unfold rfL at c0
          by_cases b1 : pr k < 0 ∨ 200 ≤ pr k
          · rw [if_pos b1] at c0; omega
          · rw [if_neg b1] at c0
            by_cases b2 : hgP q.1 (pr k % 20) (pr k / 20) ∧ q.1 9 (pr k % 20).toNat = 0
            · exact ⟨by omega, b2.1⟩
            · rw [if_neg b2] at c0; omega
        have okz := ok.1
        have hro := hrg.2.2.1
        have d2 := oDiv_20 (v := pr k) (by omega) (by omega)
        have r2 := oRem_20 (v := pr k) (by omega) (by omega)
        rw [c0] at er hZ2
        try dsimp only at hZ2
        rw [if_pos rfl, if_pos rfl, if_pos rfl] at hZ2
        simp (disch := omega) only [jn, ↓i_le_f, ↓i_lt_t, ↓i_lt_f, ↓i_eq_t, ↓i_eq_f, ↓i_bi_t, ↓i_bi_f, ↓i_some, ↓bM_gI h, ↓bM_pI h, ↓bM_inv h, ↓bM_g1 h, ↓bM_g2 h, ↓bM_g3 h, ↓bM_g4 h, ↓bM_g15 h, ↓bM_g16 h, ↓bM_g22 h, ↓bM_g23 h, ↓bM_g24 h, ↓bM_g25 h, ↓bM_g28 h, ↓bM_g29 h, ↓bM_g30 h, ↓bM_g32 h, ↓bM_g33 h, ↓bM_g34 h, ↓bM_g36 h, ↓bM_g37 h, ↓bM_g41 h, ↓bM_g42 h, ↓bM_g43 h, ↓bM_ld1 h, ↓bM_ld2 h, ↓bM_ld3 h, ↓bM_ld4 h, ↓bM_ld5 h, ↓bM_ld6 h, ↓bM_ld7 h, ↓bM_ld8 h, ↓bM_ld9 h, ↓bM_ld10 h, ↓bM_ld11 h, ↓bM_ld12 h, ↓bM_ld13 h, ↓bM_ld14 h, ↓bM_ld15 h, ↓bM_ld16 h, ↓bM_ld17 h, ↓bM_ld18 h, ↓bM_ld19 h, ↓bM_ld20 h, ↓bM_ld21 h, ↓bM_st1 h, ↓bM_st2 h, ↓bM_st3 h, ↓bM_st4 h, ↓bM_st5 h, ↓bM_st6 h, ↓bM_st7 h, ↓bM_st8 h, ↓bM_st9 h, ↓bM_st10 h, ↓bM_st11 h, ↓bM_st12 h, ↓bM_st13 h, ↓bM_st14 h, ↓bM_st15 h, ↓bM_st16 h, ↓bM_st17 h, ↓bM_st18 h, ↓bM_st19 h, ↓bM_st20 h, ↓bM_st21 h, Int.toNat_add, Int.toNat_mul, Int.toNat_natCast, Int.reduceToNat, Nat.reduceAdd, Nat.reduceMul, t20, v21, ↓bnd er, e17, e21, d2, r2]
        refine hnx d _ _ (by omega) ⟨(q.1, upA (upA q.2.1 7 (q.2.1 7 + 1)) 1 0, upA q.2.2 (pr k / 20).toNat (pr k % 20)), up2 (up2 t 0 17 0) 5 (pr k / 20).toNat (pr k % 20), k + 1, rfl, ?_, by omega, ?_, ?_, ⟨?_, ?_⟩, ⟨?_, ?_, ?_, ?_⟩, fun j hj => ?_, hZ2⟩
        · show _ = (upA (upA q.2.1 7 (q.2.1 7 + 1)) 1 0 7, ((k + 1 : Nat) : Int))
          rw [upA_n (by decide), upA_s]
          rfl
        · refine ft.tr ((Fr.f0 t (k := 17) (x := 0) (Or.inr (by decide))).tr ?_)
          exact ⟨fun a a0 a1 a5 => up2_row a5, fun j _ _ => congrFun (up2_row (show (0 : Nat) ≠ 5 by decide)) j, fun j _ => congrFun (up2_row (show (1 : Nat) ≠ 5 by decide)) j⟩
        · rw [up2_row (by decide), up2_row (by decide)]
          exact ⟨ok, qr, qq, q0, q9⟩
        · show upA (upA q.2.1 7 (q.2.1 7 + 1)) 1 0 0 = -1
          rw [upA_n (by decide), upA_n (by decide)]; exact y0
        · show upA (upA q.2.1 7 (q.2.1 7 + 1)) 1 0 1 = 0
          exact upA_s
        · rw [up2_row (by decide), up2_s]
        · show _ = upA (upA q.2.1 7 (q.2.1 7 + 1)) 1 0 2
          rw [upA_n (by decide), upA_n (by decide), up2_row (by decide), up2_n (by decide)]; exact w18
        · show _ = upA (upA q.2.1 7 (q.2.1 7 + 1)) 1 0 3
          rw [upA_n (by decide), upA_n (by decide), up2_row (by decide), up2_n (by decide)]; exact w19
        · show _ = upA (upA q.2.1 7 (q.2.1 7 + 1)) 1 0 4
          rw [upA_n (by decide), upA_n (by decide), up2_row (by decide), up2_n (by decide)]; exact w20
        · show _ = upA q.2.2 (pr k / 20).toNat (pr k % 20) j ∧ _
          by_cases e : j = (pr k / 20).toNat
          · subst e
            rw [up2_s, upA_s]
            exact ⟨rfl, by omega, by omega⟩
          · rw [up2_n (by omega), upA_n e, up2_row (by decide)]
            exact hpp j hj
      · try dsimp only at hZ2
        rw [if_neg c0, if_neg c0, if_neg c0, stop _ _ _ (by show upA (upA q.2.1 1 (rfL q.1 q.2.2 (pr k))) 0 (k : Int) 1 ≠ 0; rw [upA_n (by decide), upA_s]; exact c0)] at hZ2
        simp (disch := omega) only [jn, ↓i_le_f, ↓i_lt_t, ↓i_lt_f, ↓i_eq_t, ↓i_eq_f, ↓i_bi_t, ↓i_bi_f, ↓i_some, ↓bM_gI h, ↓bM_pI h, ↓bM_inv h, ↓bM_g1 h, ↓bM_g2 h, ↓bM_g3 h, ↓bM_g4 h, ↓bM_g15 h, ↓bM_g16 h, ↓bM_g22 h, ↓bM_g23 h, ↓bM_g24 h, ↓bM_g25 h, ↓bM_g28 h, ↓bM_g29 h, ↓bM_g30 h, ↓bM_g32 h, ↓bM_g33 h, ↓bM_g34 h, ↓bM_g36 h, ↓bM_g37 h, ↓bM_g41 h, ↓bM_g42 h, ↓bM_g43 h, ↓bM_ld1 h, ↓bM_ld2 h, ↓bM_ld3 h, ↓bM_ld4 h, ↓bM_ld5 h, ↓bM_ld6 h, ↓bM_ld7 h, ↓bM_ld8 h, ↓bM_ld9 h, ↓bM_ld10 h, ↓bM_ld11 h, ↓bM_ld12 h, ↓bM_ld13 h, ↓bM_ld14 h, ↓bM_ld15 h, ↓bM_ld16 h, ↓bM_ld17 h, ↓bM_ld18 h, ↓bM_ld19 h, ↓bM_ld20 h, ↓bM_ld21 h, ↓bM_st1 h, ↓bM_st2 h, ↓bM_st3 h, ↓bM_st4 h, ↓bM_st5 h, ↓bM_st6 h, ↓bM_st7 h, ↓bM_st8 h, ↓bM_st9 h, ↓bM_st10 h, ↓bM_st11 h, ↓bM_st12 h, ↓bM_st13 h, ↓bM_st14 h, ↓bM_st15 h, ↓bM_st16 h, ↓bM_st17 h, ↓bM_st18 h, ↓bM_st19 h, ↓bM_st20 h, ↓bM_st21 h, Int.toNat_add, Int.toNat_mul, Int.toNat_natCast, Int.reduceToNat, Nat.reduceAdd, Nat.reduceMul, t20, v21, ↓bnd er, e17, e21]
        subst hZ2
        refine ⟨_, ft.tr (Fr.f0 t (k := 17) (x := rfL q.1 q.2.2 (pr k)) (Or.inr (by decide))), ?_, ?_, ?_, ?_, ?_, ?_⟩
        · rw [up2_row (by decide)]
          exact ⟨ok, qr, qq, q0, q9⟩
        · show _ = upA (upA q.2.1 1 (rfL q.1 q.2.2 (pr k))) 0 (k : Int) 1
          rw [upA_n (by decide), upA_s, up2_s]
        · show _ = upA (upA q.2.1 1 (rfL q.1 q.2.2 (pr k))) 0 (k : Int) 2
          rw [upA_n (by decide), upA_n (by decide), up2_n (by decide)]; exact w18
        · show _ = upA (upA q.2.1 1 (rfL q.1 q.2.2 (pr k))) 0 (k : Int) 3
          rw [upA_n (by decide), upA_n (by decide), up2_n (by decide)]; exact w19
        · show _ = upA (upA q.2.1 1 (rfL q.1 q.2.2 (pr k))) 0 (k : Int) 4
          rw [upA_n (by decide), upA_n (by decide), up2_n (by decide)]; exact w20
        · show _ = some (upA (upA q.2.1 1 (rfL q.1 q.2.2 (pr k))) 0 (k : Int) 0, _)
          rw [upA_s]
    · have eT : toldAt yr pr k = -1 := by
        unfold toldAt
        by_cases b1 : (k : Int) < yr 0
        · rw [if_pos b1]
          by_cases b2 : pr k = -1
          · exact b2
          · exact absurd ⟨b1, b2⟩ cA
        · rw [if_neg b1]
      rw [eT] at hZ2
      have eP : tlP q.1 q.2.1 q.2.2 (-1) = if q.1 0 2 < 9999 then (0, enS q.1 q.2.1 q.2.2) else (3, q.1, q.2.1, q.2.2) := if_pos rfl
      rw [eP] at hZ2
      have vm : (k : Int) < yr 0 → t 21 (60 * i + k) = -1 := fun b1 => by
        rw [t21, (hv k (by omega)).2 b1]
        by_cases b2 : pr k = -1
        · exact b2
        · exact absurd ⟨b1, b2⟩ cA
      have fin : ∃ s' : Ld, Fr s s' ∧ RLl Z.1 (s' 1) ∧ s' 0 17 = Z.2.1 1 ∧ s' 0 18 = Z.2.1 2 ∧ s' 0 19 = Z.2.1 3 ∧ s' 0 20 = Z.2.1 4 ∧ (if eq32 (t 1 2) 9999 then some ((k : Int), wi μ (wm I m (up2 t 0 17 3))) else
          (mX11_goes n m (wi μ (wm I m t))).bind fun p160 =>
          (pI p160.2 12 m 19 (t 0 19 + p160.1)).bind fun μ164 =>
          (gI μ164 12 m 20).bind fun x169 =>
          (pI μ164 12 m 20 (x169 + q.2.1 7)).bind fun μ174 =>
          (gI μ174 12 m 18).bind fun x179 =>
          (pI μ174 12 m 18 (x179 + 1)).bind fun μ184 =>
          (inv μ184 12 m (mX11_nobody n m μ184)).bind fun p190 =>
          nx (0, ((k : Int) + 1)) p190.2) = some (Z.2.1 0, wi μ (wm I m s')) := by
        by_cases c9 : q.1 0 2 < 9999
        · rw [if_pos c9] at hZ2
          try dsimp only at hZ2
          rw [if_pos rfl] at hZ2
          obtain ⟨A, eg, l2, -, q2, k2⟩ := goes_eq (n := n) (I := I) (s := t) (l := q.1) h qr ok (fun j hj => by have := (hpp j hj).2; omega) (by omega)
          have hcg : goL (t 5) q.1 = goL q.2.2 q.1 := goL_cg ok (fun j hj => (hpp j hj).1)
          rw [hcg] at eg l2 q2
          have g19 : up1 t 1 A 0 19 = q.2.1 3 := (congrFun (up1_o (by decide)) 19).trans w19
          have g18 : up1 t 1 A 0 18 = q.2.1 2 := (congrFun (up1_o (by decide)) 18).trans w18
          have g20 : up1 t 1 A 0 20 = q.2.1 4 := (congrFun (up1_o (by decide)) 20).trans w20
          have g17 : up1 t 1 A 0 17 = 0 := (congrFun (up1_o (by decide)) 17).trans w17
          obtain ⟨p1, hp1, e1⟩ := nobody_eq (n := n) (I := I) (s := up2 (up2 (up2 (up1 t 1 A) 0 19 (q.2.1 3 + (goL q.2.2 q.1).2)) 0 20 (q.2.1 4 + q.2.1 7)) 0 18 (q.2.1 2 + 1)) h (by omega)
          have f20 : up2 (up1 t 1 A) 0 19 (q.2.1 3 + (goL q.2.2 q.1).2) 0 20 = q.2.1 4 := by rw [up2_n (by decide)]; exact g20
          have f18 : up2 (up2 (up1 t 1 A) 0 19 (q.2.1 3 + (goL q.2.2 q.1).2)) 0 20 (q.2.1 4 + q.2.1 7) 0 18 = q.2.1 2 := by rw [up2_n (by decide), up2_n (by decide)]; exact g18
          simp (disch := omega) only [↓i_lt_t, ↓i_lt_f, ↓i_eq_t, ↓i_eq_f, ↓i_bi_t, ↓i_bi_f, ↓i_some, ↓bM_gI h, ↓bM_pI h, ↓bM_inv h, ↓bM_g1 h, ↓bM_g2 h, ↓bM_g3 h, ↓bM_g4 h, ↓bM_g15 h, ↓bM_g16 h, ↓bM_g22 h, ↓bM_g23 h, ↓bM_g24 h, ↓bM_g25 h, ↓bM_g28 h, ↓bM_g29 h, ↓bM_g30 h, ↓bM_g32 h, ↓bM_g33 h, ↓bM_g34 h, ↓bM_g36 h, ↓bM_g37 h, ↓bM_g41 h, ↓bM_g42 h, ↓bM_g43 h, ↓bM_ld1 h, ↓bM_ld2 h, ↓bM_ld3 h, ↓bM_ld4 h, ↓bM_ld5 h, ↓bM_ld6 h, ↓bM_ld7 h, ↓bM_ld8 h, ↓bM_ld9 h, ↓bM_ld10 h, ↓bM_ld11 h, ↓bM_ld12 h, ↓bM_ld13 h, ↓bM_ld14 h, ↓bM_ld15 h, ↓bM_ld16 h, ↓bM_ld17 h, ↓bM_ld18 h, ↓bM_ld19 h, ↓bM_ld20 h, ↓bM_ld21 h, ↓bM_st1 h, ↓bM_st2 h, ↓bM_st3 h, ↓bM_st4 h, ↓bM_st5 h, ↓bM_st6 h, ↓bM_st7 h, ↓bM_st8 h, ↓bM_st9 h, ↓bM_st10 h, ↓bM_st11 h, ↓bM_st12 h, ↓bM_st13 h, ↓bM_st14 h, ↓bM_st15 h, ↓bM_st16 h, ↓bM_st17 h, ↓bM_st18 h, ↓bM_st19 h, ↓bM_st20 h, ↓bM_st21 h, Int.toNat_add, Int.toNat_mul, Int.toNat_natCast, Int.reduceToNat, Nat.reduceAdd, Nat.reduceMul, t2, w19, ↓bnd eg, f20, f18, ↓bnd e1]
          refine hnx d _ _ (by omega) ⟨((goL q.2.2 q.1).1, upA (yE q.2.1 (goL q.2.2 q.1).2) 1 0, flR q.2.2 10 (-1)), _, k + 1, rfl, ?_, by omega, ?_, ?_, ⟨?_, ?_⟩, ⟨?_, ?_, ?_, ?_⟩, fun j hj => ?_, hZ2⟩
          · show _ = (upA (yE q.2.1 (goL q.2.2 q.1).2) 1 0 7, ((k + 1 : Nat) : Int))
            unfold yE
            rw [upA_n (by decide), upA_s]
            rfl
          · exact ft.tr ((Fr.w1 t k2).tr ((((Fr.f0 _ (Or.inr (by decide))).tr (Fr.f0 _ (Or.inr (by decide)))).tr (Fr.f0 _ (Or.inr (by decide)))).tr (Fr.p5 _ p1)))
          · rw [up1_o (by decide), up2_row (by decide), up2_row (by decide), up2_row (by decide), up1_s]
            exact goL_RLl ok q0 c9 q9.2 l2 (q2 qq c9)
          · show upA (yE q.2.1 (goL q.2.2 q.1).2) 1 0 0 = -1
            unfold yE
            rw [upA_n (by decide), upA_n (by decide), upA_n (by decide), upA_n (by decide), upA_n (by decide)]; exact y0
          · show upA (yE q.2.1 (goL q.2.2 q.1).2) 1 0 1 = 0
            exact upA_s
          · rw [up1_o (by decide), up2_n (by decide), up2_n (by decide), up2_n (by decide)]; exact g17
          · show _ = upA (yE q.2.1 (goL q.2.2 q.1).2) 1 0 2
            unfold yE
            rw [upA_n (by decide), upA_n (by decide), upA_n (by decide), upA_s, up1_o (by decide), up2_s]
          · show _ = upA (yE q.2.1 (goL q.2.2 q.1).2) 1 0 3
            unfold yE
            rw [upA_n (by decide), upA_n (by decide), upA_n (by decide), upA_n (by decide), upA_s, up1_o (by decide), up2_n (by decide), up2_n (by decide), up2_s]
          · show _ = upA (yE q.2.1 (goL q.2.2 q.1).2) 1 0 4
            unfold yE
            rw [upA_n (by decide), upA_n (by decide), upA_s, up1_o (by decide), up2_n (by decide), up2_s]
          · show _ = flR q.2.2 10 (-1) j ∧ _
            rw [flR_lt hj, up1_s, hp1 j hj]
            exact ⟨rfl, by omega, by omega⟩
        · rw [if_neg c9] at hZ2
          try dsimp only at hZ2
          rw [if_neg (by decide), stop _ _ _ (by show upA (upA q.2.1 1 3) 0 (k : Int) 1 ≠ 0; rw [upA_n (by decide), upA_s]; decide)] at hZ2
          simp (disch := omega) only [↓i_lt_t, ↓i_lt_f, ↓i_eq_t, ↓i_eq_f, ↓i_bi_t, ↓i_bi_f, ↓i_some, ↓bM_gI h, ↓bM_pI h, ↓bM_inv h, ↓bM_g1 h, ↓bM_g2 h, ↓bM_g3 h, ↓bM_g4 h, ↓bM_g15 h, ↓bM_g16 h, ↓bM_g22 h, ↓bM_g23 h, ↓bM_g24 h, ↓bM_g25 h, ↓bM_g28 h, ↓bM_g29 h, ↓bM_g30 h, ↓bM_g32 h, ↓bM_g33 h, ↓bM_g34 h, ↓bM_g36 h, ↓bM_g37 h, ↓bM_g41 h, ↓bM_g42 h, ↓bM_g43 h, ↓bM_ld1 h, ↓bM_ld2 h, ↓bM_ld3 h, ↓bM_ld4 h, ↓bM_ld5 h, ↓bM_ld6 h, ↓bM_ld7 h, ↓bM_ld8 h, ↓bM_ld9 h, ↓bM_ld10 h, ↓bM_ld11 h, ↓bM_ld12 h, ↓bM_ld13 h, ↓bM_ld14 h, ↓bM_ld15 h, ↓bM_ld16 h, ↓bM_ld17 h, ↓bM_ld18 h, ↓bM_ld19 h, ↓bM_ld20 h, ↓bM_ld21 h, ↓bM_st1 h, ↓bM_st2 h, ↓bM_st3 h, ↓bM_st4 h, ↓bM_st5 h, ↓bM_st6 h, ↓bM_st7 h, ↓bM_st8 h, ↓bM_st9 h, ↓bM_st10 h, ↓bM_st11 h, ↓bM_st12 h, ↓bM_st13 h, ↓bM_st14 h, ↓bM_st15 h, ↓bM_st16 h, ↓bM_st17 h, ↓bM_st18 h, ↓bM_st19 h, ↓bM_st20 h, ↓bM_st21 h, Int.toNat_add, Int.toNat_mul, Int.toNat_natCast, Int.reduceToNat, Nat.reduceAdd, Nat.reduceMul, t2]
          subst hZ2
          refine ⟨_, ft.tr (Fr.f0 t (k := 17) (x := 3) (Or.inr (by decide))), ?_, ?_, ?_, ?_, ?_, ?_⟩
          · rw [up2_row (by decide)]
            exact ⟨ok, qr, qq, q0, q9⟩
          · show _ = upA (upA q.2.1 1 3) 0 (k : Int) 1
            rw [upA_n (by decide), upA_s, up2_s]
          · show _ = upA (upA q.2.1 1 3) 0 (k : Int) 2
            rw [upA_n (by decide), upA_n (by decide), up2_n (by decide)]; exact w18
          · show _ = upA (upA q.2.1 1 3) 0 (k : Int) 3
            rw [upA_n (by decide), upA_n (by decide), up2_n (by decide)]; exact w19
          · show _ = upA (upA q.2.1 1 3) 0 (k : Int) 4
            rw [upA_n (by decide), upA_n (by decide), up2_n (by decide)]; exact w20
          · show _ = some (upA (upA q.2.1 1 3) 0 (k : Int) 0, _)
            rw [upA_s]
      by_cases b1 : (k : Int) < yr 0
      · have v21 := vm b1
        simp (disch := omega) only [jn, ↓i_lt_t, ↓i_lt_f, ↓i_eq_t, ↓i_eq_f, ↓i_bi_t, ↓i_bi_f, ↓i_some, ↓bM_gI h, ↓bM_pI h, ↓bM_inv h, ↓bM_g1 h, ↓bM_g2 h, ↓bM_g3 h, ↓bM_g4 h, ↓bM_g15 h, ↓bM_g16 h, ↓bM_g22 h, ↓bM_g23 h, ↓bM_g24 h, ↓bM_g25 h, ↓bM_g28 h, ↓bM_g29 h, ↓bM_g30 h, ↓bM_g32 h, ↓bM_g33 h, ↓bM_g34 h, ↓bM_g36 h, ↓bM_g37 h, ↓bM_g41 h, ↓bM_g42 h, ↓bM_g43 h, ↓bM_ld1 h, ↓bM_ld2 h, ↓bM_ld3 h, ↓bM_ld4 h, ↓bM_ld5 h, ↓bM_ld6 h, ↓bM_ld7 h, ↓bM_ld8 h, ↓bM_ld9 h, ↓bM_ld10 h, ↓bM_ld11 h, ↓bM_ld12 h, ↓bM_ld13 h, ↓bM_ld14 h, ↓bM_ld15 h, ↓bM_ld16 h, ↓bM_ld17 h, ↓bM_ld18 h, ↓bM_ld19 h, ↓bM_ld20 h, ↓bM_ld21 h, ↓bM_st1 h, ↓bM_st2 h, ↓bM_st3 h, ↓bM_st4 h, ↓bM_st5 h, ↓bM_st6 h, ↓bM_st7 h, ↓bM_st8 h, ↓bM_st9 h, ↓bM_st10 h, ↓bM_st11 h, ↓bM_st12 h, ↓bM_st13 h, ↓bM_st14 h, ↓bM_st15 h, ↓bM_st16 h, ↓bM_st17 h, ↓bM_st18 h, ↓bM_st19 h, ↓bM_st20 h, ↓bM_st21 h, Int.toNat_add, Int.toNat_mul, Int.toNat_natCast, Int.reduceToNat, Nat.reduceAdd, Nat.reduceMul, t20, v21, ↓i_le_t]
        exact fin
      · simp (disch := omega) only [jn, ↓i_lt_t, ↓i_lt_f, ↓i_eq_t, ↓i_eq_f, ↓i_bi_t, ↓i_bi_f, ↓i_some, ↓bM_gI h, ↓bM_pI h, ↓bM_inv h, ↓bM_g1 h, ↓bM_g2 h, ↓bM_g3 h, ↓bM_g4 h, ↓bM_g15 h, ↓bM_g16 h, ↓bM_g22 h, ↓bM_g23 h, ↓bM_g24 h, ↓bM_g25 h, ↓bM_g28 h, ↓bM_g29 h, ↓bM_g30 h, ↓bM_g32 h, ↓bM_g33 h, ↓bM_g34 h, ↓bM_g36 h, ↓bM_g37 h, ↓bM_g41 h, ↓bM_g42 h, ↓bM_g43 h, ↓bM_ld1 h, ↓bM_ld2 h, ↓bM_ld3 h, ↓bM_ld4 h, ↓bM_ld5 h, ↓bM_ld6 h, ↓bM_ld7 h, ↓bM_ld8 h, ↓bM_ld9 h, ↓bM_ld10 h, ↓bM_ld11 h, ↓bM_ld12 h, ↓bM_ld13 h, ↓bM_ld14 h, ↓bM_ld15 h, ↓bM_ld16 h, ↓bM_ld17 h, ↓bM_ld18 h, ↓bM_ld19 h, ↓bM_ld20 h, ↓bM_ld21 h, ↓bM_st1 h, ↓bM_st2 h, ↓bM_st3 h, ↓bM_st4 h, ↓bM_st5 h, ↓bM_st6 h, ↓bM_st7 h, ↓bM_st8 h, ↓bM_st9 h, ↓bM_st10 h, ↓bM_st11 h, ↓bM_st12 h, ↓bM_st13 h, ↓bM_st14 h, ↓bM_st15 h, ↓bM_st16 h, ↓bM_st17 h, ↓bM_st18 h, ↓bM_st19 h, ↓bM_st20 h, ↓bM_st21 h, Int.toNat_add, Int.toNat_mul, Int.toNat_natCast, Int.reduceToNat, Nat.reduceAdd, Nat.reduceMul, t20]
        exact fin
end TO
