/-! lifts -/
section LF
variable {μ : Mem} {I : Nat → Nat → Int} {c n m : Nat} {s l : Ld} {β : Type}
theorem dp_0 {l : Ld} (r : Nat) : dpL l (2 * r) = l 8 r := by unfold dpL; rw [if_pos (by omega), show 2 * r / 2 = r by omega]
theorem dp_1 {l : Ld} (r : Nat) : dpL l (2 * r + 1) = l 7 r - l 8 r := by unfold dpL; rw [if_neg (by omega), show (2 * r + 1) / 2 = r by omega]
theorem mweight_w0 (h : isM μ m) (hl : LR l (s 1)) (hk : okL l) {r : Nat} (hr : (r : Int) < l 0 1) {f : Int × Mem → Option β} : (mX11_weight n m (r : Int) 0 (wi μ (wm I m s))).bind f = f (wtL l (2 * r), wi μ (wm I m s)) := bnd (mweight_eq (w := 0) h hl hk hr (by omega)) f
theorem mweight_w1 (h : isM μ m) (hl : LR l (s 1)) (hk : okL l) {r : Nat} (hr : (r : Int) < l 0 1) {f : Int × Mem → Option β} : (mX11_weight n m (r : Int) 1 (wi μ (wm I m s))).bind f = f (wtL l (2 * r + 1), wi μ (wm I m s)) := bnd (mweight_eq (w := 1) h hl hk hr (by omega)) f
theorem mdepth_w0 (h : isM μ m) (hl : LR l (s 1)) (hk : okL l) {r : Nat} (hr : (r : Int) < l 0 1) {f : Int × Mem → Option β} : (mX11_depth n m (r : Int) 0 (wi μ (wm I m s))).bind f = f (l 8 r, wi μ (wm I m s)) := bnd ((mdepth_eq (w := 0) h hl hk hr (by omega)).trans (by rw [Nat.add_zero, dp_0])) f
theorem mdepth_w1 (h : isM μ m) (hl : LR l (s 1)) (hk : okL l) {r : Nat} (hr : (r : Int) < l 0 1) {f : Int × Mem → Option β} : (mX11_depth n m (r : Int) 1 (wi μ (wm I m s))).bind f = f (l 7 r - l 8 r, wi μ (wm I m s)) := bnd ((mdepth_eq (w := 1) h hl hk hr (by omega)).trans (by rw [dp_1])) f
theorem db_10 (hk : okL l) {r : Nat} (hr : (r : Int) < l 0 1) : dbL l r 1 0 < l 8 r ↔ 0 < l 8 r ∧ wtL l (2 * r) < wtL l (2 * r + 1) + l 1 (l 10 (2 * r)).toNat := by
  have hz := hk.1
  have g := hk.2.2.1 r hr
  unfold dbL plL
  rw [if_pos rfl, if_neg (by omega)]
  generalize wtL l (2 * r) = x
  generalize wtL l (2 * r + 1) = y
  generalize l 1 (l 10 (2 * r)).toNat = z
  unfold dfL
  split
  · split <;> omega
  · split
    · split <;> omega
    · omega
theorem db_01 (hk : okL l) {r : Nat} (hr : (r : Int) < l 0 1) : l 8 r < dbL l r 0 1 ↔ 0 < l 7 r - l 8 r ∧ wtL l (2 * r + 1) < wtL l (2 * r) + l 1 (l 10 (2 * r + 1)).toNat := by
  have hz := hk.1
  have g := hk.2.2.1 r hr
  unfold dbL plL
  rw [if_neg (by omega), if_pos rfl]
  generalize wtL l (2 * r) = x
  generalize wtL l (2 * r + 1) = y
  generalize l 1 (l 10 (2 * r + 1)).toNat = z
  unfold dfL
  split
  · split <;> omega
  · split
    · split <;> omega
    · omega
theorem s1_of {J I : Nat → Nat → Int} {c : Nat} (e : J (c + 193 + 1) = I (c + 193 + 1)) : up2 (ld J (c + 193)) 0 0 0 1 = I (c + 193 + 1) := (up2_row (show (1 : Nat) ≠ 0 by decide)).trans e
theorem both_lifts (hC : isC μ c) (hM : isM μ (c + 193)) (hR : RelC c I) {b x : Int} (hb : -2147483648 ≤ b ∧ b < 2147483648) (hx : -2147483648 ≤ x ∧ x < 2147483648) : Both μ c I (mX10_lifts n c b x) (mX11_lifts n (c + 193) b x) := by
  obtain ⟨hk, lr, lq, h0, h9⟩ := hR.1
  have hz := hk.1
  have s1 := s1_of (I := I) (J := I) (c := c) rfl
  have lr' : LR (ld I (c + 3)) (up2 (ld I (c + 193)) 0 0 0 1) := by rw [s1]; exact lr
  have hH := hC.here
  by_cases cg : hgP (ld I (c + 3)) x b
  · obtain ⟨⟨b0, b1⟩, ⟨x0, x1⟩, ce⟩ := id cg
    obtain ⟨r, rfl⟩ : ∃ r : Nat, x = (r : Int) := ⟨x.toNat, by omega⟩
    obtain ⟨q, rfl⟩ : ∃ q : Nat, b = (q : Int) := ⟨b.toNat, by omega⟩
    rw [tn2, tn3] at ce
    have g := hk.2.2.1 r x1
    have g1 := hk.2.2.2 (2 * r) (by omega)
    have g2 := hk.2.2.2 (2 * r + 1) (by omega)
    have g3 := hk.2.1 q b1
    obtain ⟨k1, k2, k3, k4, k5, k6, k7, k8, k9⟩ := lr'.2.2 r x1
    obtain ⟨j1, j2, j3, j4, j5⟩ := lr'.2.1 q b1
    by_cases c9 : ld I (c + 3) 9 r = 0
    · refine Both.q (v := if ld I (c + 3) 10 (2 * r) = q then (if dbL (ld I (c + 3)) r 1 0 < ld I (c + 3) 8 r then 1 else 0) else (if ld I (c + 3) 8 r < dbL (ld I (c + 3)) r 0 1 then 1 else 0)) hR ?_ ?_
      · have d1 := db_range hk x1 1 0
        have d2 := db_range hk x1 0 1
        unfold mX10_lifts
        simp (disch := omega) only [↓i_lt_t, ↓i_lt_f, ↓i_eq_t, ↓i_eq_f, ↓i_bi_t, ↓i_bi_f, ↓i_some, ↓bC_g0 hC, ↓bC_g1 hC, ↓bC_g2 hC, ↓bC_g3 hC, ↓bC_g4 hC, ↓bC_g5 hC, ↓bC_g6 hC, ↓bC_g7 hC, ↓bC_g8 hC, ↓bC_g9 hC, ↓bC_g10 hC, ↓bC_inv hC, ↓bL_gI hH, ↓bL_inv hH, ↓bL_g6 hH, ↓bL_g7 hH, ↓bL_g8 hH, ↓bL_g9 hH, ↓bL_g10 hH, ↓bL_g11 hH, ↓bL_g12 hH, ↓bL_g13 hH, ↓bL_g14 hH, ↓bL_g15 hH, ↓bL_g16 hH, ↓bL_g17 hH, ↓bL_ld1 hH, ↓bL_ld2 hH, ↓bL_ld3 hH, ↓bL_ld4 hH, ↓bL_ld5 hH, ↓bL_ld6 hH, ↓bL_ld7 hH, ↓bL_ld8 hH, ↓bL_ld9 hH, ↓bL_ld10 hH, ↓bL_ld11 hH, ↓bL_ld12 hH, ↓bL_st1 hH, ↓bL_st2 hH, ↓bL_st3 hH, ↓bL_st4 hH, ↓bL_st5 hH, ↓bL_st6 hH, ↓bL_st7 hH, ↓bL_st8 hH, ↓bL_st9 hH, ↓bL_st10 hH, ↓bL_st11 hH, ↓bL_st12 hH, ↓hangs_w hH hk, ↓i_bi_t cg, Int.toNat_natCast, tn2]
        by_cases e : ld I (c + 3) 10 (2 * r) = q
        · simp (disch := omega) only [jn, ↓i_lt_t, ↓i_lt_f, ↓i_eq_t, ↓i_eq_f, ↓i_bi_t, ↓i_bi_f, ↓i_some, ↓bC_g0 hC, ↓bC_g1 hC, ↓bC_g2 hC, ↓bC_g3 hC, ↓bC_g4 hC, ↓bC_g5 hC, ↓bC_g6 hC, ↓bC_g7 hC, ↓bC_g8 hC, ↓bC_g9 hC, ↓bC_g10 hC, ↓bC_inv hC, ↓bL_gI hH, ↓bL_inv hH, ↓bL_g6 hH, ↓bL_g7 hH, ↓bL_g8 hH, ↓bL_g9 hH, ↓bL_g10 hH, ↓bL_g11 hH, ↓bL_g12 hH, ↓bL_g13 hH, ↓bL_g14 hH, ↓bL_g15 hH, ↓bL_g16 hH, ↓bL_g17 hH, ↓bL_ld1 hH, ↓bL_ld2 hH, ↓bL_ld3 hH, ↓bL_ld4 hH, ↓bL_ld5 hH, ↓bL_ld6 hH, ↓bL_ld7 hH, ↓bL_ld8 hH, ↓bL_ld9 hH, ↓bL_ld10 hH, ↓bL_ld11 hH, ↓bL_ld12 hH, ↓bL_st1 hH, ↓bL_st2 hH, ↓bL_st3 hH, ↓bL_st4 hH, ↓bL_st5 hH, ↓bL_st6 hH, ↓bL_st7 hH, ↓bL_st8 hH, ↓bL_st9 hH, ↓bL_st10 hH, ↓bL_st11 hH, ↓bL_st12 hH, ↓depthBehind_w hH hk x1, if_pos e, Int.toNat_natCast]
          by_cases e2 : dbL (ld I (c + 3)) r 1 0 < ld I (c + 3) 8 r
          · simp (disch := omega) only [↓i_lt_t, ↓i_lt_f, ↓i_eq_t, ↓i_eq_f, ↓i_bi_t, ↓i_bi_f, ↓i_some, if_pos e2]
          · simp (disch := omega) only [↓i_lt_t, ↓i_lt_f, ↓i_eq_t, ↓i_eq_f, ↓i_bi_t, ↓i_bi_f, ↓i_some, if_neg e2]
        · simp (disch := omega) only [jn, ↓i_lt_t, ↓i_lt_f, ↓i_eq_t, ↓i_eq_f, ↓i_bi_t, ↓i_bi_f, ↓i_some, ↓bC_g0 hC, ↓bC_g1 hC, ↓bC_g2 hC, ↓bC_g3 hC, ↓bC_g4 hC, ↓bC_g5 hC, ↓bC_g6 hC, ↓bC_g7 hC, ↓bC_g8 hC, ↓bC_g9 hC, ↓bC_g10 hC, ↓bC_inv hC, ↓bL_gI hH, ↓bL_inv hH, ↓bL_g6 hH, ↓bL_g7 hH, ↓bL_g8 hH, ↓bL_g9 hH, ↓bL_g10 hH, ↓bL_g11 hH, ↓bL_g12 hH, ↓bL_g13 hH, ↓bL_g14 hH, ↓bL_g15 hH, ↓bL_g16 hH, ↓bL_g17 hH, ↓bL_ld1 hH, ↓bL_ld2 hH, ↓bL_ld3 hH, ↓bL_ld4 hH, ↓bL_ld5 hH, ↓bL_ld6 hH, ↓bL_ld7 hH, ↓bL_ld8 hH, ↓bL_ld9 hH, ↓bL_ld10 hH, ↓bL_ld11 hH, ↓bL_ld12 hH, ↓bL_st1 hH, ↓bL_st2 hH, ↓bL_st3 hH, ↓bL_st4 hH, ↓bL_st5 hH, ↓bL_st6 hH, ↓bL_st7 hH, ↓bL_st8 hH, ↓bL_st9 hH, ↓bL_st10 hH, ↓bL_st11 hH, ↓bL_st12 hH, ↓depthBehind_w hH hk x1, if_neg e, Int.toNat_natCast]
          by_cases e2 : ld I (c + 3) 8 r < dbL (ld I (c + 3)) r 0 1
          · simp (disch := omega) only [↓i_lt_t, ↓i_lt_f, ↓i_eq_t, ↓i_eq_f, ↓i_bi_t, ↓i_bi_f, ↓i_some, if_pos e2]
          · simp (disch := omega) only [↓i_lt_t, ↓i_lt_f, ↓i_eq_t, ↓i_eq_f, ↓i_bi_t, ↓i_bi_f, ↓i_some, if_neg e2]
      · have w1 := wt_range hk (b := 2 * r) (by omega)
        have w2 := wt_range hk (b := 2 * r + 1) (by omega)
        have d1 := db_10 hk x1
        have d2 := db_01 hk x1
        unfold mX11_lifts
        simp (disch := omega) only [↓i_lt_t, ↓i_lt_f, ↓i_eq_t, ↓i_eq_f, ↓i_bi_t, ↓i_bi_f, ↓i_some, ↓bM_gI hM, ↓bM_pI hM, ↓bM_inv hM, ↓bM_g1 hM, ↓bM_g2 hM, ↓bM_g3 hM, ↓bM_g4 hM, ↓bM_g15 hM, ↓bM_g16 hM, ↓bM_g22 hM, ↓bM_g23 hM, ↓bM_g24 hM, ↓bM_g25 hM, ↓bM_g28 hM, ↓bM_g29 hM, ↓bM_g30 hM, ↓bM_g32 hM, ↓bM_g33 hM, ↓bM_g34 hM, ↓bM_g36 hM, ↓bM_g37 hM, ↓bM_g41 hM, ↓bM_g42 hM, ↓bM_g43 hM, ↓bM_ld1 hM, ↓bM_ld2 hM, ↓bM_ld3 hM, ↓bM_ld4 hM, ↓bM_ld5 hM, ↓bM_ld6 hM, ↓bM_ld7 hM, ↓bM_ld8 hM, ↓bM_ld9 hM, ↓bM_ld10 hM, ↓bM_ld11 hM, ↓bM_ld12 hM, ↓bM_ld13 hM, ↓bM_ld14 hM, ↓bM_ld15 hM, ↓bM_ld16 hM, ↓bM_ld17 hM, ↓bM_ld18 hM, ↓bM_ld19 hM, ↓bM_ld20 hM, ↓bM_ld21 hM, ↓bM_st1 hM, ↓bM_st2 hM, ↓bM_st3 hM, ↓bM_st4 hM, ↓bM_st5 hM, ↓bM_st6 hM, ↓bM_st7 hM, ↓bM_st8 hM, ↓bM_st9 hM, ↓bM_st10 hM, ↓bM_st11 hM, ↓bM_st12 hM, ↓bM_st13 hM, ↓bM_st14 hM, ↓bM_st15 hM, ↓bM_st16 hM, ↓bM_st17 hM, ↓bM_st18 hM, ↓bM_st19 hM, ↓bM_st20 hM, ↓bM_st21 hM, ↓isHouse_w hM lr' hk, ↓isRope_w hM lr' hk, ↓isEnd_w hM lr' hk, ↓mhangs_w hM lr' hk, Int.toNat_add, Int.toNat_mul, Int.toNat_natCast, Int.reduceToNat, Nat.reduceAdd, Nat.reduceMul, k1]
        by_cases e : ld I (c + 3) 10 (2 * r) = q
        · rw [e, Int.toNat_natCast] at d1
          rw [if_pos e]
          by_cases e1 : 0 < ld I (c + 3) 8 r
          · simp (disch := omega) only [jn, ↓i_lt_t, ↓i_lt_f, ↓i_eq_t, ↓i_eq_f, ↓i_bi_t, ↓i_bi_f, ↓i_some, ↓bM_gI hM, ↓bM_pI hM, ↓bM_inv hM, ↓bM_g1 hM, ↓bM_g2 hM, ↓bM_g3 hM, ↓bM_g4 hM, ↓bM_g15 hM, ↓bM_g16 hM, ↓bM_g22 hM, ↓bM_g23 hM, ↓bM_g24 hM, ↓bM_g25 hM, ↓bM_g28 hM, ↓bM_g29 hM, ↓bM_g30 hM, ↓bM_g32 hM, ↓bM_g33 hM, ↓bM_g34 hM, ↓bM_g36 hM, ↓bM_g37 hM, ↓bM_g41 hM, ↓bM_g42 hM, ↓bM_g43 hM, ↓bM_ld1 hM, ↓bM_ld2 hM, ↓bM_ld3 hM, ↓bM_ld4 hM, ↓bM_ld5 hM, ↓bM_ld6 hM, ↓bM_ld7 hM, ↓bM_ld8 hM, ↓bM_ld9 hM, ↓bM_ld10 hM, ↓bM_ld11 hM, ↓bM_ld12 hM, ↓bM_ld13 hM, ↓bM_ld14 hM, ↓bM_ld15 hM, ↓bM_ld16 hM, ↓bM_ld17 hM, ↓bM_ld18 hM, ↓bM_ld19 hM, ↓bM_ld20 hM, ↓bM_ld21 hM, ↓bM_st1 hM, ↓bM_st2 hM, ↓bM_st3 hM, ↓bM_st4 hM, ↓bM_st5 hM, ↓bM_st6 hM, ↓bM_st7 hM, ↓bM_st8 hM, ↓bM_st9 hM, ↓bM_st10 hM, ↓bM_st11 hM, ↓bM_st12 hM, ↓bM_st13 hM, ↓bM_st14 hM, ↓bM_st15 hM, ↓bM_st16 hM, ↓bM_st17 hM, ↓bM_st18 hM, ↓bM_st19 hM, ↓bM_st20 hM, ↓bM_st21 hM, ↓mdepth_w0 hM lr' hk x1, ↓mweight_w0 hM lr' hk x1, ↓mweight_w1 hM lr' hk x1, Int.toNat_add, Int.toNat_mul, Int.toNat_natCast, Int.reduceToNat, Nat.reduceAdd, Nat.reduceMul, j1, Int.reduceSub]
            by_cases e2 : dbL (ld I (c + 3)) r 1 0 < ld I (c + 3) 8 r
            · simp (disch := omega) only [↓i_lt_t, ↓i_lt_f, ↓i_eq_t, ↓i_eq_f, ↓i_bi_t, ↓i_bi_f, ↓i_some, if_pos e2]
            · simp (disch := omega) only [↓i_lt_t, ↓i_lt_f, ↓i_eq_t, ↓i_eq_f, ↓i_bi_t, ↓i_bi_f, ↓i_some, if_neg e2]
          · simp (disch := omega) only [jn, ↓i_lt_t, ↓i_lt_f, ↓i_eq_t, ↓i_eq_f, ↓i_bi_t, ↓i_bi_f, ↓i_some, ↓bM_gI hM, ↓bM_pI hM, ↓bM_inv hM, ↓bM_g1 hM, ↓bM_g2 hM, ↓bM_g3 hM, ↓bM_g4 hM, ↓bM_g15 hM, ↓bM_g16 hM, ↓bM_g22 hM, ↓bM_g23 hM, ↓bM_g24 hM, ↓bM_g25 hM, ↓bM_g28 hM, ↓bM_g29 hM, ↓bM_g30 hM, ↓bM_g32 hM, ↓bM_g33 hM, ↓bM_g34 hM, ↓bM_g36 hM, ↓bM_g37 hM, ↓bM_g41 hM, ↓bM_g42 hM, ↓bM_g43 hM, ↓bM_ld1 hM, ↓bM_ld2 hM, ↓bM_ld3 hM, ↓bM_ld4 hM, ↓bM_ld5 hM, ↓bM_ld6 hM, ↓bM_ld7 hM, ↓bM_ld8 hM, ↓bM_ld9 hM, ↓bM_ld10 hM, ↓bM_ld11 hM, ↓bM_ld12 hM, ↓bM_ld13 hM, ↓bM_ld14 hM, ↓bM_ld15 hM, ↓bM_ld16 hM, ↓bM_ld17 hM, ↓bM_ld18 hM, ↓bM_ld19 hM, ↓bM_ld20 hM, ↓bM_ld21 hM, ↓bM_st1 hM, ↓bM_st2 hM, ↓bM_st3 hM, ↓bM_st4 hM, ↓bM_st5 hM, ↓bM_st6 hM, ↓bM_st7 hM, ↓bM_st8 hM, ↓bM_st9 hM, ↓bM_st10 hM, ↓bM_st11 hM, ↓bM_st12 hM, ↓bM_st13 hM, ↓bM_st14 hM, ↓bM_st15 hM, ↓bM_st16 hM, ↓bM_st17 hM, ↓bM_st18 hM, ↓bM_st19 hM, ↓bM_st20 hM, ↓bM_st21 hM, ↓mdepth_w0 hM lr' hk x1, if_neg (show ¬ dbL (ld I (c + 3)) r 1 0 < ld I (c + 3) 8 r by omega)]
        · have e' : ld I (c + 3) 10 (2 * r + 1) = q := by omega
          rw [e', Int.toNat_natCast] at d2
          rw [if_neg e]
          by_cases e1 : 0 < ld I (c + 3) 7 r - ld I (c + 3) 8 r
          · simp (disch := omega) only [jn, ↓i_lt_t, ↓i_lt_f, ↓i_eq_t, ↓i_eq_f, ↓i_bi_t, ↓i_bi_f, ↓i_some, ↓bM_gI hM, ↓bM_pI hM, ↓bM_inv hM, ↓bM_g1 hM, ↓bM_g2 hM, ↓bM_g3 hM, ↓bM_g4 hM, ↓bM_g15 hM, ↓bM_g16 hM, ↓bM_g22 hM, ↓bM_g23 hM, ↓bM_g24 hM, ↓bM_g25 hM, ↓bM_g28 hM, ↓bM_g29 hM, ↓bM_g30 hM, ↓bM_g32 hM, ↓bM_g33 hM, ↓bM_g34 hM, ↓bM_g36 hM, ↓bM_g37 hM, ↓bM_g41 hM, ↓bM_g42 hM, ↓bM_g43 hM, ↓bM_ld1 hM, ↓bM_ld2 hM, ↓bM_ld3 hM, ↓bM_ld4 hM, ↓bM_ld5 hM, ↓bM_ld6 hM, ↓bM_ld7 hM, ↓bM_ld8 hM, ↓bM_ld9 hM, ↓bM_ld10 hM, ↓bM_ld11 hM, ↓bM_ld12 hM, ↓bM_ld13 hM, ↓bM_ld14 hM, ↓bM_ld15 hM, ↓bM_ld16 hM, ↓bM_ld17 hM, ↓bM_ld18 hM, ↓bM_ld19 hM, ↓bM_ld20 hM, ↓bM_ld21 hM, ↓bM_st1 hM, ↓bM_st2 hM, ↓bM_st3 hM, ↓bM_st4 hM, ↓bM_st5 hM, ↓bM_st6 hM, ↓bM_st7 hM, ↓bM_st8 hM, ↓bM_st9 hM, ↓bM_st10 hM, ↓bM_st11 hM, ↓bM_st12 hM, ↓bM_st13 hM, ↓bM_st14 hM, ↓bM_st15 hM, ↓bM_st16 hM, ↓bM_st17 hM, ↓bM_st18 hM, ↓bM_st19 hM, ↓bM_st20 hM, ↓bM_st21 hM, ↓mdepth_w1 hM lr' hk x1, ↓mweight_w0 hM lr' hk x1, ↓mweight_w1 hM lr' hk x1, Int.toNat_add, Int.toNat_mul, Int.toNat_natCast, Int.reduceToNat, Nat.reduceAdd, Nat.reduceMul, j1, Int.reduceSub]
            by_cases e2 : ld I (c + 3) 8 r < dbL (ld I (c + 3)) r 0 1
            · simp (disch := omega) only [↓i_lt_t, ↓i_lt_f, ↓i_eq_t, ↓i_eq_f, ↓i_bi_t, ↓i_bi_f, ↓i_some, if_pos e2]
            · simp (disch := omega) only [↓i_lt_t, ↓i_lt_f, ↓i_eq_t, ↓i_eq_f, ↓i_bi_t, ↓i_bi_f, ↓i_some, if_neg e2]
          · simp (disch := omega) only [jn, ↓i_lt_t, ↓i_lt_f, ↓i_eq_t, ↓i_eq_f, ↓i_bi_t, ↓i_bi_f, ↓i_some, ↓bM_gI hM, ↓bM_pI hM, ↓bM_inv hM, ↓bM_g1 hM, ↓bM_g2 hM, ↓bM_g3 hM, ↓bM_g4 hM, ↓bM_g15 hM, ↓bM_g16 hM, ↓bM_g22 hM, ↓bM_g23 hM, ↓bM_g24 hM, ↓bM_g25 hM, ↓bM_g28 hM, ↓bM_g29 hM, ↓bM_g30 hM, ↓bM_g32 hM, ↓bM_g33 hM, ↓bM_g34 hM, ↓bM_g36 hM, ↓bM_g37 hM, ↓bM_g41 hM, ↓bM_g42 hM, ↓bM_g43 hM, ↓bM_ld1 hM, ↓bM_ld2 hM, ↓bM_ld3 hM, ↓bM_ld4 hM, ↓bM_ld5 hM, ↓bM_ld6 hM, ↓bM_ld7 hM, ↓bM_ld8 hM, ↓bM_ld9 hM, ↓bM_ld10 hM, ↓bM_ld11 hM, ↓bM_ld12 hM, ↓bM_ld13 hM, ↓bM_ld14 hM, ↓bM_ld15 hM, ↓bM_ld16 hM, ↓bM_ld17 hM, ↓bM_ld18 hM, ↓bM_ld19 hM, ↓bM_ld20 hM, ↓bM_ld21 hM, ↓bM_st1 hM, ↓bM_st2 hM, ↓bM_st3 hM, ↓bM_st4 hM, ↓bM_st5 hM, ↓bM_st6 hM, ↓bM_st7 hM, ↓bM_st8 hM, ↓bM_st9 hM, ↓bM_st10 hM, ↓bM_st11 hM, ↓bM_st12 hM, ↓bM_st13 hM, ↓bM_st14 hM, ↓bM_st15 hM, ↓bM_st16 hM, ↓bM_st17 hM, ↓bM_st18 hM, ↓bM_st19 hM, ↓bM_st20 hM, ↓bM_st21 hM, ↓mdepth_w1 hM lr' hk x1, if_neg (show ¬ ld I (c + 3) 8 r < dbL (ld I (c + 3)) r 0 1 by omega)]
    · refine Both.q (v := -5) hR ?_ ?_
      · unfold mX10_lifts
        simp (disch := omega) only [↓i_lt_t, ↓i_lt_f, ↓i_eq_t, ↓i_eq_f, ↓i_bi_t, ↓i_bi_f, ↓i_some, ↓bC_g0 hC, ↓bC_g1 hC, ↓bC_g2 hC, ↓bC_g3 hC, ↓bC_g4 hC, ↓bC_g5 hC, ↓bC_g6 hC, ↓bC_g7 hC, ↓bC_g8 hC, ↓bC_g9 hC, ↓bC_g10 hC, ↓bC_inv hC, ↓bL_gI hH, ↓bL_inv hH, ↓bL_g6 hH, ↓bL_g7 hH, ↓bL_g8 hH, ↓bL_g9 hH, ↓bL_g10 hH, ↓bL_g11 hH, ↓bL_g12 hH, ↓bL_g13 hH, ↓bL_g14 hH, ↓bL_g15 hH, ↓bL_g16 hH, ↓bL_g17 hH, ↓bL_ld1 hH, ↓bL_ld2 hH, ↓bL_ld3 hH, ↓bL_ld4 hH, ↓bL_ld5 hH, ↓bL_ld6 hH, ↓bL_ld7 hH, ↓bL_ld8 hH, ↓bL_ld9 hH, ↓bL_ld10 hH, ↓bL_ld11 hH, ↓bL_ld12 hH, ↓bL_st1 hH, ↓bL_st2 hH, ↓bL_st3 hH, ↓bL_st4 hH, ↓bL_st5 hH, ↓bL_st6 hH, ↓bL_st7 hH, ↓bL_st8 hH, ↓bL_st9 hH, ↓bL_st10 hH, ↓bL_st11 hH, ↓bL_st12 hH, ↓hangs_w hH hk, ↓i_bi_t cg, Int.toNat_natCast]
      · unfold mX11_lifts
        simp (disch := omega) only [↓i_lt_t, ↓i_lt_f, ↓i_eq_t, ↓i_eq_f, ↓i_bi_t, ↓i_bi_f, ↓i_some, ↓bM_gI hM, ↓bM_pI hM, ↓bM_inv hM, ↓bM_g1 hM, ↓bM_g2 hM, ↓bM_g3 hM, ↓bM_g4 hM, ↓bM_g15 hM, ↓bM_g16 hM, ↓bM_g22 hM, ↓bM_g23 hM, ↓bM_g24 hM, ↓bM_g25 hM, ↓bM_g28 hM, ↓bM_g29 hM, ↓bM_g30 hM, ↓bM_g32 hM, ↓bM_g33 hM, ↓bM_g34 hM, ↓bM_g36 hM, ↓bM_g37 hM, ↓bM_g41 hM, ↓bM_g42 hM, ↓bM_g43 hM, ↓bM_ld1 hM, ↓bM_ld2 hM, ↓bM_ld3 hM, ↓bM_ld4 hM, ↓bM_ld5 hM, ↓bM_ld6 hM, ↓bM_ld7 hM, ↓bM_ld8 hM, ↓bM_ld9 hM, ↓bM_ld10 hM, ↓bM_ld11 hM, ↓bM_ld12 hM, ↓bM_ld13 hM, ↓bM_ld14 hM, ↓bM_ld15 hM, ↓bM_ld16 hM, ↓bM_ld17 hM, ↓bM_ld18 hM, ↓bM_ld19 hM, ↓bM_ld20 hM, ↓bM_ld21 hM, ↓bM_st1 hM, ↓bM_st2 hM, ↓bM_st3 hM, ↓bM_st4 hM, ↓bM_st5 hM, ↓bM_st6 hM, ↓bM_st7 hM, ↓bM_st8 hM, ↓bM_st9 hM, ↓bM_st10 hM, ↓bM_st11 hM, ↓bM_st12 hM, ↓bM_st13 hM, ↓bM_st14 hM, ↓bM_st15 hM, ↓bM_st16 hM, ↓bM_st17 hM, ↓bM_st18 hM, ↓bM_st19 hM, ↓bM_st20 hM, ↓bM_st21 hM, ↓isHouse_w hM lr' hk, ↓isRope_w hM lr' hk, ↓isEnd_w hM lr' hk, ↓mhangs_w hM lr' hk]
  · refine Both.q (v := -2) hR ?_ ?_
    · unfold mX10_lifts
      simp (disch := omega) only [↓i_lt_t, ↓i_lt_f, ↓i_eq_t, ↓i_eq_f, ↓i_bi_t, ↓i_bi_f, ↓i_some, ↓bC_g0 hC, ↓bC_g1 hC, ↓bC_g2 hC, ↓bC_g3 hC, ↓bC_g4 hC, ↓bC_g5 hC, ↓bC_g6 hC, ↓bC_g7 hC, ↓bC_g8 hC, ↓bC_g9 hC, ↓bC_g10 hC, ↓bC_inv hC, ↓bL_gI hH, ↓bL_inv hH, ↓bL_g6 hH, ↓bL_g7 hH, ↓bL_g8 hH, ↓bL_g9 hH, ↓bL_g10 hH, ↓bL_g11 hH, ↓bL_g12 hH, ↓bL_g13 hH, ↓bL_g14 hH, ↓bL_g15 hH, ↓bL_g16 hH, ↓bL_g17 hH, ↓bL_ld1 hH, ↓bL_ld2 hH, ↓bL_ld3 hH, ↓bL_ld4 hH, ↓bL_ld5 hH, ↓bL_ld6 hH, ↓bL_ld7 hH, ↓bL_ld8 hH, ↓bL_ld9 hH, ↓bL_ld10 hH, ↓bL_ld11 hH, ↓bL_ld12 hH, ↓bL_st1 hH, ↓bL_st2 hH, ↓bL_st3 hH, ↓bL_st4 hH, ↓bL_st5 hH, ↓bL_st6 hH, ↓bL_st7 hH, ↓bL_st8 hH, ↓bL_st9 hH, ↓bL_st10 hH, ↓bL_st11 hH, ↓bL_st12 hH, ↓hangs_w hH hk, ↓i_bi_f cg]
    · unfold mX11_lifts
      by_cases e1 : 0 ≤ b ∧ b < ld I (c + 3) 0 0
      · by_cases e2 : 0 ≤ x ∧ x < ld I (c + 3) 0 1
        · obtain ⟨r, rfl⟩ : ∃ r : Nat, x = (r : Int) := ⟨x.toNat, by omega⟩
          have e3 : ¬ (ld I (c + 3) 10 (2 * r) = b ∨ ld I (c + 3) 10 (2 * r + 1) = b) := fun z => cg ⟨e1, e2, by rw [tn2, tn3]; exact z⟩
          simp (disch := omega) only [↓i_lt_t, ↓i_lt_f, ↓i_eq_t, ↓i_eq_f, ↓i_bi_t, ↓i_bi_f, ↓i_some, ↓bM_gI hM, ↓bM_pI hM, ↓bM_inv hM, ↓bM_g1 hM, ↓bM_g2 hM, ↓bM_g3 hM, ↓bM_g4 hM, ↓bM_g15 hM, ↓bM_g16 hM, ↓bM_g22 hM, ↓bM_g23 hM, ↓bM_g24 hM, ↓bM_g25 hM, ↓bM_g28 hM, ↓bM_g29 hM, ↓bM_g30 hM, ↓bM_g32 hM, ↓bM_g33 hM, ↓bM_g34 hM, ↓bM_g36 hM, ↓bM_g37 hM, ↓bM_g41 hM, ↓bM_g42 hM, ↓bM_g43 hM, ↓bM_ld1 hM, ↓bM_ld2 hM, ↓bM_ld3 hM, ↓bM_ld4 hM, ↓bM_ld5 hM, ↓bM_ld6 hM, ↓bM_ld7 hM, ↓bM_ld8 hM, ↓bM_ld9 hM, ↓bM_ld10 hM, ↓bM_ld11 hM, ↓bM_ld12 hM, ↓bM_ld13 hM, ↓bM_ld14 hM, ↓bM_ld15 hM, ↓bM_ld16 hM, ↓bM_ld17 hM, ↓bM_ld18 hM, ↓bM_ld19 hM, ↓bM_ld20 hM, ↓bM_ld21 hM, ↓bM_st1 hM, ↓bM_st2 hM, ↓bM_st3 hM, ↓bM_st4 hM, ↓bM_st5 hM, ↓bM_st6 hM, ↓bM_st7 hM, ↓bM_st8 hM, ↓bM_st9 hM, ↓bM_st10 hM, ↓bM_st11 hM, ↓bM_st12 hM, ↓bM_st13 hM, ↓bM_st14 hM, ↓bM_st15 hM, ↓bM_st16 hM, ↓bM_st17 hM, ↓bM_st18 hM, ↓bM_st19 hM, ↓bM_st20 hM, ↓bM_st21 hM, ↓isHouse_w hM lr' hk, ↓isRope_w hM lr' hk, ↓isEnd_w hM lr' hk]
        · simp (disch := omega) only [↓i_lt_t, ↓i_lt_f, ↓i_eq_t, ↓i_eq_f, ↓i_bi_t, ↓i_bi_f, ↓i_some, ↓bM_gI hM, ↓bM_pI hM, ↓bM_inv hM, ↓bM_g1 hM, ↓bM_g2 hM, ↓bM_g3 hM, ↓bM_g4 hM, ↓bM_g15 hM, ↓bM_g16 hM, ↓bM_g22 hM, ↓bM_g23 hM, ↓bM_g24 hM, ↓bM_g25 hM, ↓bM_g28 hM, ↓bM_g29 hM, ↓bM_g30 hM, ↓bM_g32 hM, ↓bM_g33 hM, ↓bM_g34 hM, ↓bM_g36 hM, ↓bM_g37 hM, ↓bM_g41 hM, ↓bM_g42 hM, ↓bM_g43 hM, ↓bM_ld1 hM, ↓bM_ld2 hM, ↓bM_ld3 hM, ↓bM_ld4 hM, ↓bM_ld5 hM, ↓bM_ld6 hM, ↓bM_ld7 hM, ↓bM_ld8 hM, ↓bM_ld9 hM, ↓bM_ld10 hM, ↓bM_ld11 hM, ↓bM_ld12 hM, ↓bM_ld13 hM, ↓bM_ld14 hM, ↓bM_ld15 hM, ↓bM_ld16 hM, ↓bM_ld17 hM, ↓bM_ld18 hM, ↓bM_ld19 hM, ↓bM_ld20 hM, ↓bM_ld21 hM, ↓bM_st1 hM, ↓bM_st2 hM, ↓bM_st3 hM, ↓bM_st4 hM, ↓bM_st5 hM, ↓bM_st6 hM, ↓bM_st7 hM, ↓bM_st8 hM, ↓bM_st9 hM, ↓bM_st10 hM, ↓bM_st11 hM, ↓bM_st12 hM, ↓bM_st13 hM, ↓bM_st14 hM, ↓bM_st15 hM, ↓bM_st16 hM, ↓bM_st17 hM, ↓bM_st18 hM, ↓bM_st19 hM, ↓bM_st20 hM, ↓bM_st21 hM, ↓isHouse_w hM lr' hk, ↓isRope_w hM lr' hk]
      · simp (disch := omega) only [↓i_lt_t, ↓i_lt_f, ↓i_eq_t, ↓i_eq_f, ↓i_bi_t, ↓i_bi_f, ↓i_some, ↓bM_gI hM, ↓bM_pI hM, ↓bM_inv hM, ↓bM_g1 hM, ↓bM_g2 hM, ↓bM_g3 hM, ↓bM_g4 hM, ↓bM_g15 hM, ↓bM_g16 hM, ↓bM_g22 hM, ↓bM_g23 hM, ↓bM_g24 hM, ↓bM_g25 hM, ↓bM_g28 hM, ↓bM_g29 hM, ↓bM_g30 hM, ↓bM_g32 hM, ↓bM_g33 hM, ↓bM_g34 hM, ↓bM_g36 hM, ↓bM_g37 hM, ↓bM_g41 hM, ↓bM_g42 hM, ↓bM_g43 hM, ↓bM_ld1 hM, ↓bM_ld2 hM, ↓bM_ld3 hM, ↓bM_ld4 hM, ↓bM_ld5 hM, ↓bM_ld6 hM, ↓bM_ld7 hM, ↓bM_ld8 hM, ↓bM_ld9 hM, ↓bM_ld10 hM, ↓bM_ld11 hM, ↓bM_ld12 hM, ↓bM_ld13 hM, ↓bM_ld14 hM, ↓bM_ld15 hM, ↓bM_ld16 hM, ↓bM_ld17 hM, ↓bM_ld18 hM, ↓bM_ld19 hM, ↓bM_ld20 hM, ↓bM_ld21 hM, ↓bM_st1 hM, ↓bM_st2 hM, ↓bM_st3 hM, ↓bM_st4 hM, ↓bM_st5 hM, ↓bM_st6 hM, ↓bM_st7 hM, ↓bM_st8 hM, ↓bM_st9 hM, ↓bM_st10 hM, ↓bM_st11 hM, ↓bM_st12 hM, ↓bM_st13 hM, ↓bM_st14 hM, ↓bM_st15 hM, ↓bM_st16 hM, ↓bM_st17 hM, ↓bM_st18 hM, ↓bM_st19 hM, ↓bM_st20 hM, ↓bM_st21 hM, ↓isHouse_w hM lr' hk]
end LF
