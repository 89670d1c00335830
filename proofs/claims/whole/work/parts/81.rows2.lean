/-! write and copy -/
section RX
variable {μ : Mem} {I : Nat → Nat → Int} {c n : Nat} {β : Type}
theorem cutS_range {s v : Int} (hv : -9223372036854775808 ≤ v ∧ v < 9223372036854775808) : -9223372036854775808 ≤ cutS s v ∧ cutS s v < 9223372036854775808 := by
  have h32 : ∀ x : Int, -9223372036854775808 ≤ oI2l x ∧ oI2l x < 9223372036854775808 := fun x => by
    unfold oI2l
    have h1 := Int32.minValue_le_toInt (Int32.ofInt x)
    have h2 := Int32.toInt_lt (Int32.ofInt x)
    have e1 : Int32.minValue.toInt = -2147483648 := by decide
    omega
  unfold cutS
  split
  · exact h32 _
  · split
    · exact h32 _
    · split
      · exact h32 _
      · exact hv
theorem cutTo_w {ν : Mem} {v s : Int} (hs : -1 ≤ s ∧ s ≤ 3) {f : Int × Mem → Option β} : (mX11_cutTo n v s ν).bind f = f (cutS s v, ν) := by
  unfold mX11_cutTo cutS
  by_cases c0 : s = 0
  · rw [if_pos c0]; simp (disch := omega) only [↓i_lt_t, ↓i_lt_f, ↓i_eq_t, ↓i_eq_f, ↓i_bi_t, ↓i_bi_f, ↓i_some]
  · rw [if_neg c0]
    by_cases c1 : s = 1
    · rw [if_pos c1]; simp (disch := omega) only [↓i_lt_t, ↓i_lt_f, ↓i_eq_t, ↓i_eq_f, ↓i_bi_t, ↓i_bi_f, ↓i_some]
    · rw [if_neg c1]
      by_cases c2 : s = 2
      · rw [if_pos c2]; simp (disch := omega) only [↓i_lt_t, ↓i_lt_f, ↓i_eq_t, ↓i_eq_f, ↓i_bi_t, ↓i_bi_f, ↓i_some]
      · rw [if_neg c2]; simp (disch := omega) only [↓i_lt_t, ↓i_lt_f, ↓i_eq_t, ↓i_eq_f, ↓i_bi_t, ↓i_bi_f, ↓i_some]
theorem nput_w {r : Nat} (h : isN μ r) (hs : -2147483648 ≤ I r 1 ∧ I r 1 < 2147483648) (hz : 0 ≤ I r 0 ∧ I r 0 ≤ 60) {i v : Int} (h0 : 0 ≤ i) (h1 : i < I r 0) {f : Int × Mem → Option β} : (mX3_put n r i v (wi μ I)).bind f = f (cutS (I r 1) v, wi μ (up2 I (r + 1) i.toNat (cutS (I r 1) v))) := by
  have e := nput_eq (n := n) (I := I) (r := r) (y := I r) (p := I (r + 1)) (v := v) h hs hz h0 h1
  rw [← wT_up, wT_id] at e
  exact bnd e f
theorem both_write (hC : isC μ c) (hM : isM μ (c + 193)) (hR : RelC c I) {b x v : Int} (hb : -2147483648 ≤ b ∧ b < 2147483648) (hx : -2147483648 ≤ x ∧ x < 2147483648) (hv : -9223372036854775808 ≤ v ∧ v < 9223372036854775808) : Both μ c I (mX10_write n c b x v) (mX11_write n (c + 193) b x v) := by
  by_cases c1 : 0 ≤ b ∧ b ≤ 3
  · obtain ⟨i, rfl⟩ : ∃ i : Nat, b = (i : Int) := ⟨b.toNat, by omega⟩
    have hi : i < 4 := by omega
    have hN := hC.row hi
    obtain ⟨r1, r2, r3, r4, r5⟩ := hR.2.2.1 i hi
    have s19 : up2 (ld I (c + 193)) 0 0 0 19 i = I (c + 185 + 2 * i) 1 := (congrFun (up2_row (by decide)) i).trans r1.symm
    have s20 : up2 (ld I (c + 193)) 0 0 0 20 i = I (c + 185 + 2 * i) 0 := (congrFun (up2_row (by decide)) i).trans r3.symm
    by_cases c2 : I (c + 185 + 2 * i) 1 = -1
    · refine Both.q (v := -6) hR ?_ ?_
      · unfold mX10_write
        simp (disch := omega) only [↓i_lt_t, ↓i_lt_f, ↓i_eq_t, ↓i_eq_f, ↓i_bi_t, ↓i_bi_f, ↓i_some, ↓bC_g0 hC, ↓bC_g1 hC, ↓bC_g2 hC, ↓bC_g3 hC, ↓bC_g4 hC, ↓bC_g5 hC, ↓bC_g6 hC, ↓bC_g7 hC, ↓bC_g8 hC, ↓bC_g9 hC, ↓bC_g10 hC, ↓bC_inv hC, ↓isRow_w, ↓bC_row hC, ↓bN_inv hN, ↓isMissing_w hN]
      · unfold mX11_write
        simp (disch := omega) only [↓i_lt_t, ↓i_lt_f, ↓i_eq_t, ↓i_eq_f, ↓i_bi_t, ↓i_bi_f, ↓i_some, ↓bM_gI hM, ↓bM_pI hM, ↓bM_inv hM, ↓bM_g1 hM, ↓bM_g2 hM, ↓bM_g3 hM, ↓bM_g4 hM, ↓bM_g15 hM, ↓bM_g16 hM, ↓bM_g22 hM, ↓bM_g23 hM, ↓bM_g24 hM, ↓bM_g25 hM, ↓bM_g28 hM, ↓bM_g29 hM, ↓bM_g30 hM, ↓bM_g32 hM, ↓bM_g33 hM, ↓bM_g34 hM, ↓bM_g36 hM, ↓bM_g37 hM, ↓bM_g41 hM, ↓bM_g42 hM, ↓bM_g43 hM, ↓bM_ld1 hM, ↓bM_ld2 hM, ↓bM_ld3 hM, ↓bM_ld4 hM, ↓bM_ld5 hM, ↓bM_ld6 hM, ↓bM_ld7 hM, ↓bM_ld8 hM, ↓bM_ld9 hM, ↓bM_ld10 hM, ↓bM_ld11 hM, ↓bM_ld12 hM, ↓bM_ld13 hM, ↓bM_ld14 hM, ↓bM_ld15 hM, ↓bM_ld16 hM, ↓bM_ld17 hM, ↓bM_ld18 hM, ↓bM_ld19 hM, ↓bM_ld20 hM, ↓bM_ld21 hM, ↓bM_st1 hM, ↓bM_st2 hM, ↓bM_st3 hM, ↓bM_st4 hM, ↓bM_st5 hM, ↓bM_st6 hM, ↓bM_st7 hM, ↓bM_st8 hM, ↓bM_st9 hM, ↓bM_st10 hM, ↓bM_st11 hM, ↓bM_st12 hM, ↓bM_st13 hM, ↓bM_st14 hM, ↓bM_st15 hM, ↓bM_st16 hM, ↓bM_st17 hM, ↓bM_st18 hM, ↓bM_st19 hM, ↓bM_st20 hM, ↓bM_st21 hM, ↓within_w, Int.toNat_add, Int.toNat_mul, Int.toNat_natCast, Int.reduceToNat, Nat.reduceAdd, Nat.reduceMul, s19]
    · by_cases c3 : 0 ≤ x ∧ x ≤ I (c + 185 + 2 * i) 0 - 1
      · have cr := cutS_range (s := I (c + 185 + 2 * i) 1) hv
        refine ⟨cutS (I (c + 185 + 2 * i) 1) v, up2 I (c + 185 + 2 * i + 1) x.toNat (cutS (I (c + 185 + 2 * i) 1) v), wm (up2 I (c + 185 + 2 * i + 1) x.toNat (cutS (I (c + 185 + 2 * i) 1) v)) (c + 193) (up2 (up2 (ld I (c + 193)) 0 0 0) 21 (60 * i + x.toNat) (cutS (I (c + 185 + 2 * i) 1) v)), ?_, ?_, ?_, fun b hb => ?_⟩
        · unfold mX10_write
          simp (disch := omega) only [jn, ↓i_lt_t, ↓i_lt_f, ↓i_eq_t, ↓i_eq_f, ↓i_bi_t, ↓i_bi_f, ↓i_some, ↓bC_g0 hC, ↓bC_g1 hC, ↓bC_g2 hC, ↓bC_g3 hC, ↓bC_g4 hC, ↓bC_g5 hC, ↓bC_g6 hC, ↓bC_g7 hC, ↓bC_g8 hC, ↓bC_g9 hC, ↓bC_g10 hC, ↓bC_inv hC, ↓isRow_w, ↓bC_row hC, ↓bN_inv hN, ↓isMissing_w hN, ↓bN_gI hN, ↓nput_w hN]
        · have eJ : ld (up2 I (c + 185 + 2 * i + 1) x.toNat (cutS (I (c + 185 + 2 * i) 1) v)) (c + 193) = ld I (c + 193) := funext fun k => up2_row (by omega)
          have el := ldwm (μ := μ) (up2 I (c + 185 + 2 * i + 1) x.toNat (cutS (I (c + 185 + 2 * i) 1) v)) (c + 193)
          rw [eJ] at el
          rw [← el]
          have ew := oI2l_of (x := I (c + 185 + 2 * i) 0 - 1) (by omega) (by omega)
          unfold mX11_write
          simp (disch := omega) only [↓i_lt_t, ↓i_lt_f, ↓i_eq_t, ↓i_eq_f, ↓i_bi_t, ↓i_bi_f, ↓i_some, ↓bM_gI hM, ↓bM_pI hM, ↓bM_inv hM, ↓bM_g1 hM, ↓bM_g2 hM, ↓bM_g3 hM, ↓bM_g4 hM, ↓bM_g15 hM, ↓bM_g16 hM, ↓bM_g22 hM, ↓bM_g23 hM, ↓bM_g24 hM, ↓bM_g25 hM, ↓bM_g28 hM, ↓bM_g29 hM, ↓bM_g30 hM, ↓bM_g32 hM, ↓bM_g33 hM, ↓bM_g34 hM, ↓bM_g36 hM, ↓bM_g37 hM, ↓bM_g41 hM, ↓bM_g42 hM, ↓bM_g43 hM, ↓bM_ld1 hM, ↓bM_ld2 hM, ↓bM_ld3 hM, ↓bM_ld4 hM, ↓bM_ld5 hM, ↓bM_ld6 hM, ↓bM_ld7 hM, ↓bM_ld8 hM, ↓bM_ld9 hM, ↓bM_ld10 hM, ↓bM_ld11 hM, ↓bM_ld12 hM, ↓bM_ld13 hM, ↓bM_ld14 hM, ↓bM_ld15 hM, ↓bM_ld16 hM, ↓bM_ld17 hM, ↓bM_ld18 hM, ↓bM_ld19 hM, ↓bM_ld20 hM, ↓bM_ld21 hM, ↓bM_st1 hM, ↓bM_st2 hM, ↓bM_st3 hM, ↓bM_st4 hM, ↓bM_st5 hM, ↓bM_st6 hM, ↓bM_st7 hM, ↓bM_st8 hM, ↓bM_st9 hM, ↓bM_st10 hM, ↓bM_st11 hM, ↓bM_st12 hM, ↓bM_st13 hM, ↓bM_st14 hM, ↓bM_st15 hM, ↓bM_st16 hM, ↓bM_st17 hM, ↓bM_st18 hM, ↓bM_st19 hM, ↓bM_st20 hM, ↓bM_st21 hM, ↓within_w, Int.toNat_add, Int.toNat_mul, Int.toNat_natCast, Int.reduceToNat, Nat.reduceAdd, Nat.reduceMul, s19, s20, ew, ↓cutTo_w, up2_s]
        · generalize cutS (I (c + 185 + 2 * i) 1) v = w at cr
          have wr : ∀ k : Nat, k ≤ 21 → wm (up2 I (c + 185 + 2 * i + 1) x.toNat w) (c + 193) (up2 (up2 (ld I (c + 193)) 0 0 0) 21 (60 * i + x.toNat) w) (c + 193 + k) = up2 (up2 (ld I (c + 193)) 0 0 0) 21 (60 * i + x.toNat) w k := fun k hk => wm_row hk
          have w0 := wr 0 (by decide)
          rw [Nat.add_zero] at w0
          refine hR.row hi (fun b h1 h2 h3 h4 h5 h6 h7 => ?_) (fun j hj _ => ?_) (fun j hj => ?_) (fun j hj => ?_) (fun j hj => ?_) ?_
          · by_cases hb : c + 193 ≤ b ∧ b ≤ c + 193 + 21
            · obtain ⟨k, rfl⟩ : ∃ k : Nat, b = c + 193 + k := ⟨b - (c + 193), by omega⟩
              rw [wr k (by omega), up2_row (by omega), up2_row (by omega)]
              rfl
            · rw [wm_out (by omega), up2_row h3]
          · rw [w0, up2_n (by omega), up2_n (by omega)]; rfl
          · rw [wr 19 (by decide), up2_row (by decide), up2_row (by decide)]; rfl
          · rw [wr 20 (by decide), up2_row (by decide), up2_row (by decide)]; rfl
          · rw [wr 21 (by decide), up2_n (by omega), up2_row (by decide)]; rfl
          · have a1 : wm (up2 I (c + 185 + 2 * i + 1) x.toNat w) (c + 193) (up2 (up2 (ld I (c + 193)) 0 0 0) 21 (60 * i + x.toNat) w) (c + 185 + 2 * i) = I (c + 185 + 2 * i) := (wm_out (by omega)).trans (up2_row (by omega))
            have a2 : wm (up2 I (c + 185 + 2 * i + 1) x.toNat w) (c + 193) (up2 (up2 (ld I (c + 193)) 0 0 0) 21 (60 * i + x.toNat) w) (c + 185 + 2 * i + 1) = up2 I (c + 185 + 2 * i + 1) x.toNat w (c + 185 + 2 * i + 1) := wm_out (by omega)
            unfold RN1
            rw [a1, a2, wr 19 (by decide), wr 20 (by decide), wr 21 (by decide), up2_row (show 19 ≠ 21 by decide), up2_row (show 20 ≠ 21 by decide), s19, s20]
            refine ⟨rfl, r2, rfl, r4, fun k hk => ?_⟩
            by_cases e : k = x.toNat
            · subst e
              rw [up2_s, up2_s]
              exact ⟨cr, fun _ => rfl⟩
            · rw [up2_n (by omega), up2_n (by omega), up2_n (by omega)]
              exact r5 k hk
        · exact ⟨by rw [wm_out (by omega), up2_row (by omega)], up2_row (by omega)⟩
      · refine Both.q (v := -7) hR ?_ ?_
        · unfold mX10_write
          by_cases c4 : x < 0
          · simp (disch := omega) only [jn, ↓i_lt_t, ↓i_lt_f, ↓i_eq_t, ↓i_eq_f, ↓i_bi_t, ↓i_bi_f, ↓i_some, ↓bC_g0 hC, ↓bC_g1 hC, ↓bC_g2 hC, ↓bC_g3 hC, ↓bC_g4 hC, ↓bC_g5 hC, ↓bC_g6 hC, ↓bC_g7 hC, ↓bC_g8 hC, ↓bC_g9 hC, ↓bC_g10 hC, ↓bC_inv hC, ↓isRow_w, ↓bC_row hC, ↓bN_inv hN, ↓isMissing_w hN, ↓bN_gI hN]
          · simp (disch := omega) only [jn, ↓i_lt_t, ↓i_lt_f, ↓i_eq_t, ↓i_eq_f, ↓i_bi_t, ↓i_bi_f, ↓i_some, ↓bC_g0 hC, ↓bC_g1 hC, ↓bC_g2 hC, ↓bC_g3 hC, ↓bC_g4 hC, ↓bC_g5 hC, ↓bC_g6 hC, ↓bC_g7 hC, ↓bC_g8 hC, ↓bC_g9 hC, ↓bC_g10 hC, ↓bC_inv hC, ↓isRow_w, ↓bC_row hC, ↓bN_inv hN, ↓isMissing_w hN, ↓bN_gI hN]
        · have ew := oI2l_of (x := I (c + 185 + 2 * i) 0 - 1) (by omega) (by omega)
          unfold mX11_write
          simp (disch := omega) only [↓i_lt_t, ↓i_lt_f, ↓i_eq_t, ↓i_eq_f, ↓i_bi_t, ↓i_bi_f, ↓i_some, ↓bM_gI hM, ↓bM_pI hM, ↓bM_inv hM, ↓bM_g1 hM, ↓bM_g2 hM, ↓bM_g3 hM, ↓bM_g4 hM, ↓bM_g15 hM, ↓bM_g16 hM, ↓bM_g22 hM, ↓bM_g23 hM, ↓bM_g24 hM, ↓bM_g25 hM, ↓bM_g28 hM, ↓bM_g29 hM, ↓bM_g30 hM, ↓bM_g32 hM, ↓bM_g33 hM, ↓bM_g34 hM, ↓bM_g36 hM, ↓bM_g37 hM, ↓bM_g41 hM, ↓bM_g42 hM, ↓bM_g43 hM, ↓bM_ld1 hM, ↓bM_ld2 hM, ↓bM_ld3 hM, ↓bM_ld4 hM, ↓bM_ld5 hM, ↓bM_ld6 hM, ↓bM_ld7 hM, ↓bM_ld8 hM, ↓bM_ld9 hM, ↓bM_ld10 hM, ↓bM_ld11 hM, ↓bM_ld12 hM, ↓bM_ld13 hM, ↓bM_ld14 hM, ↓bM_ld15 hM, ↓bM_ld16 hM, ↓bM_ld17 hM, ↓bM_ld18 hM, ↓bM_ld19 hM, ↓bM_ld20 hM, ↓bM_ld21 hM, ↓bM_st1 hM, ↓bM_st2 hM, ↓bM_st3 hM, ↓bM_st4 hM, ↓bM_st5 hM, ↓bM_st6 hM, ↓bM_st7 hM, ↓bM_st8 hM, ↓bM_st9 hM, ↓bM_st10 hM, ↓bM_st11 hM, ↓bM_st12 hM, ↓bM_st13 hM, ↓bM_st14 hM, ↓bM_st15 hM, ↓bM_st16 hM, ↓bM_st17 hM, ↓bM_st18 hM, ↓bM_st19 hM, ↓bM_st20 hM, ↓bM_st21 hM, ↓within_w, Int.toNat_add, Int.toNat_mul, Int.toNat_natCast, Int.reduceToNat, Nat.reduceAdd, Nat.reduceMul, s19, s20, ew]
  · refine Both.q (v := -2) hR ?_ ?_
    · unfold mX10_write
      simp (disch := omega) only [↓i_lt_t, ↓i_lt_f, ↓i_eq_t, ↓i_eq_f, ↓i_bi_t, ↓i_bi_f, ↓i_some, ↓bC_g0 hC, ↓bC_g1 hC, ↓bC_g2 hC, ↓bC_g3 hC, ↓bC_g4 hC, ↓bC_g5 hC, ↓bC_g6 hC, ↓bC_g7 hC, ↓bC_g8 hC, ↓bC_g9 hC, ↓bC_g10 hC, ↓bC_inv hC, ↓isRow_w]
    · unfold mX11_write
      simp (disch := omega) only [↓i_lt_t, ↓i_lt_f, ↓i_eq_t, ↓i_eq_f, ↓i_bi_t, ↓i_bi_f, ↓i_some, ↓bM_gI hM, ↓bM_pI hM, ↓bM_inv hM, ↓bM_g1 hM, ↓bM_g2 hM, ↓bM_g3 hM, ↓bM_g4 hM, ↓bM_g15 hM, ↓bM_g16 hM, ↓bM_g22 hM, ↓bM_g23 hM, ↓bM_g24 hM, ↓bM_g25 hM, ↓bM_g28 hM, ↓bM_g29 hM, ↓bM_g30 hM, ↓bM_g32 hM, ↓bM_g33 hM, ↓bM_g34 hM, ↓bM_g36 hM, ↓bM_g37 hM, ↓bM_g41 hM, ↓bM_g42 hM, ↓bM_g43 hM, ↓bM_ld1 hM, ↓bM_ld2 hM, ↓bM_ld3 hM, ↓bM_ld4 hM, ↓bM_ld5 hM, ↓bM_ld6 hM, ↓bM_ld7 hM, ↓bM_ld8 hM, ↓bM_ld9 hM, ↓bM_ld10 hM, ↓bM_ld11 hM, ↓bM_ld12 hM, ↓bM_ld13 hM, ↓bM_ld14 hM, ↓bM_ld15 hM, ↓bM_ld16 hM, ↓bM_ld17 hM, ↓bM_ld18 hM, ↓bM_ld19 hM, ↓bM_ld20 hM, ↓bM_ld21 hM, ↓bM_st1 hM, ↓bM_st2 hM, ↓bM_st3 hM, ↓bM_st4 hM, ↓bM_st5 hM, ↓bM_st6 hM, ↓bM_st7 hM, ↓bM_st8 hM, ↓bM_st9 hM, ↓bM_st10 hM, ↓bM_st11 hM, ↓bM_st12 hM, ↓bM_st13 hM, ↓bM_st14 hM, ↓bM_st15 hM, ↓bM_st16 hM, ↓bM_st17 hM, ↓bM_st18 hM, ↓bM_st19 hM, ↓bM_st20 hM, ↓bM_st21 hM, ↓within_w]
end RX
