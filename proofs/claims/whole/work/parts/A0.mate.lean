/-! clash and mate -/
def shN (l : Ld) (a b : Nat) : Nat := (l 4 a).toNat &&& (l 4 b).toNat
section MT
variable {μ : Mem} {I J : Nat → Nat → Int} {c m n t a : Nat} {s l : Ld} {w : Int} {β : Type}
theorem shN_lt {x y : Nat} (hk : okL l) (hx : (x : Int) < l 0 0) : shN l x y < 4096 := by
  have := (hk.2.1 x hx).2.2.2.2.2.2
  exact Nat.lt_of_le_of_lt Nat.and_le_left (by omega)
theorem oAnd_th {x y : Nat} (hk : okL l) (hx : (x : Int) < l 0 0) (hy : (y : Int) < l 0 0) : oAnd (l 4 x) (l 4 y) = ((shN l x y : Nat) : Int) := by
  have g1 := (hk.2.1 x hx).2.2.2.2.2.2
  have g2 := (hk.2.1 y hy).2.2.2.2.2.2
  have e := oAnd_n (x := (l 4 x).toNat) (y := (l 4 y).toNat) (by omega) (by omega)
  rw [show (((l 4 x).toNat : Nat) : Int) = l 4 x by omega, show (((l 4 y).toNat : Nat) : Int) = l 4 y by omega] at e
  exact e
/-- hours in which both ends of a rope thirst -/
def clR (l : Ld) (r : Nat) : Int := ((pcN (shN l (l 10 (2 * r)).toNat (l 10 (2 * r + 1)).toNat) : Nat) : Int)
theorem sharedThirst_w (hL : isL μ a) (hk : okL (ld I a)) {r : Nat} (hr : (r : Int) < ld I a 0 1) {f : Int × Mem → Option β} : (mX1_sharedThirst n a (r : Int) (wi μ I)).bind f = f (clR (ld I a) r, wi μ I) := by
  have hz := hk.1
  have g1 := hk.2.2.2 (2 * r) (by omega)
  have g2 := hk.2.2.2 (2 * r + 1) (by omega)
  obtain ⟨x, hx⟩ : ∃ x : Nat, ld I a 10 (2 * r) = (x : Int) := ⟨(ld I a 10 (2 * r)).toNat, by omega⟩
  obtain ⟨y, hy⟩ : ∃ y : Nat, ld I a 10 (2 * r + 1) = (y : Int) := ⟨(ld I a 10 (2 * r + 1)).toNat, by omega⟩
  rw [hx] at g1
  rw [hy] at g2
  have oa := oAnd_th (x := x) (y := y) hk (by omega) (by omega)
  have sl := shN_lt (x := x) (y := y) hk (by omega)
  unfold mX1_sharedThirst clR
  simp (disch := omega) only [↓i_lt_t, ↓i_lt_f, ↓i_eq_t, ↓i_eq_f, ↓i_bi_t, ↓i_bi_f, ↓i_some, ↓bL_gI hL, ↓bL_inv hL, ↓bL_g6 hL, ↓bL_g7 hL, ↓bL_g8 hL, ↓bL_g9 hL, ↓bL_g10 hL, ↓bL_g11 hL, ↓bL_g12 hL, ↓bL_g13 hL, ↓bL_g14 hL, ↓bL_g15 hL, ↓bL_g16 hL, ↓bL_g17 hL, ↓bL_ld1 hL, ↓bL_ld2 hL, ↓bL_ld3 hL, ↓bL_ld4 hL, ↓bL_ld5 hL, ↓bL_ld6 hL, ↓bL_ld7 hL, ↓bL_ld8 hL, ↓bL_ld9 hL, ↓bL_ld10 hL, ↓bL_ld11 hL, ↓bL_ld12 hL, ↓bL_st1 hL, ↓bL_st2 hL, ↓bL_st3 hL, ↓bL_st4 hL, ↓bL_st5 hL, ↓bL_st6 hL, ↓bL_st7 hL, ↓bL_st8 hL, ↓bL_st9 hL, ↓bL_st10 hL, ↓bL_st11 hL, ↓bL_st12 hL, Int.toNat_add, Int.toNat_mul, Int.toNat_natCast, Int.reduceToNat, Nat.reduceAdd, Nat.reduceMul, hx, hy, oa, ↓bitCount_w]
theorem clashOf_w (h : isM μ m) (hl : LR l (s 1)) (hk : okL l) {x y : Nat} {r : Int} (hx : (x : Int) < l 0 0) (hy : (y : Int) < l 0 0) (hn : 20000 ≤ n) {f : Int × Mem → Option β} : (mX11_clashOf n m r (x : Int) (y : Int) (wi μ (wm I m s))).bind f = f (((pcN (shN l x y) : Nat) : Int), wi μ (wm I m s)) := by
  have hz := hk.1
  have oa := oAnd_th (x := x) (y := y) hk hx hy
  have sl := shN_lt (x := x) (y := y) hk hx
  have k1 := (hl.2.1 x hx).2.2.2.1
  have k2 := (hl.2.1 y hy).2.2.2.1
  unfold mX11_clashOf
  simp (disch := omega) only [↓i_lt_t, ↓i_lt_f, ↓i_eq_t, ↓i_eq_f, ↓i_bi_t, ↓i_bi_f, ↓i_some, ↓bM_gI h, ↓bM_pI h, ↓bM_inv h, ↓bM_g1 h, ↓bM_g2 h, ↓bM_g3 h, ↓bM_g4 h, ↓bM_g15 h, ↓bM_g16 h, ↓bM_g22 h, ↓bM_g23 h, ↓bM_g24 h, ↓bM_g25 h, ↓bM_g28 h, ↓bM_g29 h, ↓bM_g30 h, ↓bM_g32 h, ↓bM_g33 h, ↓bM_g34 h, ↓bM_g36 h, ↓bM_g37 h, ↓bM_g41 h, ↓bM_g42 h, ↓bM_g43 h, ↓bM_ld1 h, ↓bM_ld2 h, ↓bM_ld3 h, ↓bM_ld4 h, ↓bM_ld5 h, ↓bM_ld6 h, ↓bM_ld7 h, ↓bM_ld8 h, ↓bM_ld9 h, ↓bM_ld10 h, ↓bM_ld11 h, ↓bM_ld12 h, ↓bM_ld13 h, ↓bM_ld14 h, ↓bM_ld15 h, ↓bM_ld16 h, ↓bM_ld17 h, ↓bM_ld18 h, ↓bM_ld19 h, ↓bM_ld20 h, ↓bM_ld21 h, ↓bM_st1 h, ↓bM_st2 h, ↓bM_st3 h, ↓bM_st4 h, ↓bM_st5 h, ↓bM_st6 h, ↓bM_st7 h, ↓bM_st8 h, ↓bM_st9 h, ↓bM_st10 h, ↓bM_st11 h, ↓bM_st12 h, ↓bM_st13 h, ↓bM_st14 h, ↓bM_st15 h, ↓bM_st16 h, ↓bM_st17 h, ↓bM_st18 h, ↓bM_st19 h, ↓bM_st20 h, ↓bM_st21 h, Int.toNat_add, Int.toNat_mul, Int.toNat_natCast, Int.reduceToNat, Nat.reduceAdd, Nat.reduceMul, k1, k2, oa, ↓bitsOf_w]
def clS (l : Ld) (r : Nat) (x : Int) : Int := if l 9 r = 0 then x + clR l r else x
theorem both_clash (hC : isC μ c) (hM : isM μ (c + 193)) (hR : RelC c I) {b : Int} (hb : -2147483648 ≤ b ∧ b < 2147483648) (hn : 20000 ≤ n) : Both μ c I (mX10_clash n c b) (mX11_clash n (c + 193) b) := by
  obtain ⟨hk, lr, lq, h0, h9⟩ := id hR.1
  have hz := hk.1
  have hH := hC.here
  have s1 := s1_of (I := I) (J := I) (c := c) rfl
  have lr' : LR (ld I (c + 3)) (up2 (ld I (c + 193)) 0 0 0 1) := by rw [s1]; exact lr
  have a1 : up2 (ld I (c + 193)) 0 0 0 1 1 = ld I (c + 3) 0 1 := lr'.1.2.1
  by_cases cb : b = -1
  · refine Both.q (v := itr (clS (ld I (c + 3))) 0 (ld I (c + 3) 0 1).toNat 0) hR ?_ ?_
    · unfold mX10_clash
      simp (disch := omega) only [↓i_lt_t, ↓i_lt_f, ↓i_eq_t, ↓i_eq_f, ↓i_bi_t, ↓i_bi_f, ↓i_some]
      refine lp_ind (fun d (v : Int × Int) ν => ∃ r : Nat, ν = wi μ I ∧ v.2 = (r : Int) ∧ (r : Int) + d = ld I (c + 3) 0 1 ∧ itr (clS (ld I (c + 3))) r d v.1 = itr (clS (ld I (c + 3))) 0 (ld I (c + 3) 0 1).toNat 0) (fun X => X = some (itr (clS (ld I (c + 3))) 0 (ld I (c + 3) 0 1).toNat 0, wi μ I)) (fun d v ν nx hP hnx => ?_) n (ld I (c + 3) 0 1).toNat _ _ (by omega) ⟨0, rfl, rfl, by omega, rfl⟩
      obtain ⟨r, rfl, e2, h1, hV⟩ := hP
      obtain ⟨x, kk⟩ := v
      dsimp only at e2 hV
      subst e2
      cases d with
      | zero =>
        have hV' : x = _ := hV
        simp (disch := omega) only [↓i_lt_t, ↓i_lt_f, ↓i_eq_t, ↓i_eq_f, ↓i_bi_t, ↓i_bi_f, ↓i_some, ↓bC_g0 hC, ↓bC_g1 hC, ↓bC_g2 hC, ↓bC_g3 hC, ↓bC_g4 hC, ↓bC_g5 hC, ↓bC_g6 hC, ↓bC_g7 hC, ↓bC_g8 hC, ↓bC_g9 hC, ↓bC_g10 hC, ↓bC_inv hC, ↓bL_gI hH, ↓bL_inv hH, ↓bL_g6 hH, ↓bL_g7 hH, ↓bL_g8 hH, ↓bL_g9 hH, ↓bL_g10 hH, ↓bL_g11 hH, ↓bL_g12 hH, ↓bL_g13 hH, ↓bL_g14 hH, ↓bL_g15 hH, ↓bL_g16 hH, ↓bL_g17 hH, ↓bL_ld1 hH, ↓bL_ld2 hH, ↓bL_ld3 hH, ↓bL_ld4 hH, ↓bL_ld5 hH, ↓bL_ld6 hH, ↓bL_ld7 hH, ↓bL_ld8 hH, ↓bL_ld9 hH, ↓bL_ld10 hH, ↓bL_ld11 hH, ↓bL_ld12 hH, ↓bL_st1 hH, ↓bL_st2 hH, ↓bL_st3 hH, ↓bL_st4 hH, ↓bL_st5 hH, ↓bL_st6 hH, ↓bL_st7 hH, ↓bL_st8 hH, ↓bL_st9 hH, ↓bL_st10 hH, ↓bL_st11 hH, ↓bL_st12 hH]
        rw [hV']
      | succ d =>
        have hr : (r : Int) < ld I (c + 3) 0 1 := by omega
        have g9 := hk.2.2.1 r hr
        have hV' : itr (clS (ld I (c + 3))) (r + 1) d (clS (ld I (c + 3)) r x) = _ := hV
        unfold clS at hV'
        by_cases c9 : ld I (c + 3) 9 r = 0
        · rw [if_pos c9] at hV'
          simp (disch := omega) only [↓i_lt_t, ↓i_lt_f, ↓i_eq_t, ↓i_eq_f, ↓i_bi_t, ↓i_bi_f, ↓i_some, ↓bC_g0 hC, ↓bC_g1 hC, ↓bC_g2 hC, ↓bC_g3 hC, ↓bC_g4 hC, ↓bC_g5 hC, ↓bC_g6 hC, ↓bC_g7 hC, ↓bC_g8 hC, ↓bC_g9 hC, ↓bC_g10 hC, ↓bC_inv hC, ↓bL_gI hH, ↓bL_inv hH, ↓bL_g6 hH, ↓bL_g7 hH, ↓bL_g8 hH, ↓bL_g9 hH, ↓bL_g10 hH, ↓bL_g11 hH, ↓bL_g12 hH, ↓bL_g13 hH, ↓bL_g14 hH, ↓bL_g15 hH, ↓bL_g16 hH, ↓bL_g17 hH, ↓bL_ld1 hH, ↓bL_ld2 hH, ↓bL_ld3 hH, ↓bL_ld4 hH, ↓bL_ld5 hH, ↓bL_ld6 hH, ↓bL_ld7 hH, ↓bL_ld8 hH, ↓bL_ld9 hH, ↓bL_ld10 hH, ↓bL_ld11 hH, ↓bL_ld12 hH, ↓bL_st1 hH, ↓bL_st2 hH, ↓bL_st3 hH, ↓bL_st4 hH, ↓bL_st5 hH, ↓bL_st6 hH, ↓bL_st7 hH, ↓bL_st8 hH, ↓bL_st9 hH, ↓bL_st10 hH, ↓bL_st11 hH, ↓bL_st12 hH, Int.toNat_add, Int.toNat_mul, Int.toNat_natCast, Int.reduceToNat, Nat.reduceAdd, Nat.reduceMul, ↓sharedThirst_w hH hk hr]
          exact hnx d _ _ (by omega) ⟨r + 1, rfl, rfl, by omega, hV'⟩
        · rw [if_neg c9] at hV'
          simp (disch := omega) only [↓i_lt_t, ↓i_lt_f, ↓i_eq_t, ↓i_eq_f, ↓i_bi_t, ↓i_bi_f, ↓i_some, ↓bC_g0 hC, ↓bC_g1 hC, ↓bC_g2 hC, ↓bC_g3 hC, ↓bC_g4 hC, ↓bC_g5 hC, ↓bC_g6 hC, ↓bC_g7 hC, ↓bC_g8 hC, ↓bC_g9 hC, ↓bC_g10 hC, ↓bC_inv hC, ↓bL_gI hH, ↓bL_inv hH, ↓bL_g6 hH, ↓bL_g7 hH, ↓bL_g8 hH, ↓bL_g9 hH, ↓bL_g10 hH, ↓bL_g11 hH, ↓bL_g12 hH, ↓bL_g13 hH, ↓bL_g14 hH, ↓bL_g15 hH, ↓bL_g16 hH, ↓bL_g17 hH, ↓bL_ld1 hH, ↓bL_ld2 hH, ↓bL_ld3 hH, ↓bL_ld4 hH, ↓bL_ld5 hH, ↓bL_ld6 hH, ↓bL_ld7 hH, ↓bL_ld8 hH, ↓bL_ld9 hH, ↓bL_ld10 hH, ↓bL_ld11 hH, ↓bL_ld12 hH, ↓bL_st1 hH, ↓bL_st2 hH, ↓bL_st3 hH, ↓bL_st4 hH, ↓bL_st5 hH, ↓bL_st6 hH, ↓bL_st7 hH, ↓bL_st8 hH, ↓bL_st9 hH, ↓bL_st10 hH, ↓bL_st11 hH, ↓bL_st12 hH, Int.toNat_add, Int.toNat_mul, Int.toNat_natCast, Int.reduceToNat, Nat.reduceAdd, Nat.reduceMul]
          exact hnx d _ _ (by omega) ⟨r + 1, rfl, rfl, by omega, hV'⟩
    · have key : mX11_clashes n (c + 193) 0 (wi μ (wm I (c + 193) (up2 (ld I (c + 193)) 0 0 0))) = some (itr (clS (ld I (c + 3))) 0 (ld I (c + 3) 0 1).toNat 0, wi μ (wm I (c + 193) (up2 (ld I (c + 193)) 0 0 0))) := by
        unfold mX11_clashes
        refine lp_ind (fun d (v : Int × Int) ν => ∃ r : Nat, ν = wi μ (wm I (c + 193) (up2 (ld I (c + 193)) 0 0 0)) ∧ v.2 = (r : Int) ∧ (r : Int) + d = ld I (c + 3) 0 1 ∧ itr (clS (ld I (c + 3))) r d v.1 = itr (clS (ld I (c + 3))) 0 (ld I (c + 3) 0 1).toNat 0) (fun X => X = some (itr (clS (ld I (c + 3))) 0 (ld I (c + 3) 0 1).toNat 0, wi μ (wm I (c + 193) (up2 (ld I (c + 193)) 0 0 0)))) (fun d v ν nx hP hnx => ?_) n (ld I (c + 3) 0 1).toNat _ _ (by omega) ⟨0, rfl, rfl, by omega, rfl⟩
        obtain ⟨r, rfl, e2, h1, hV⟩ := hP
        obtain ⟨x, kk⟩ := v
        dsimp only at e2 hV
        subst e2
        cases d with
        | zero =>
          have hV' : x = _ := hV
          simp (disch := omega) only [↓i_lt_t, ↓i_lt_f, ↓i_eq_t, ↓i_eq_f, ↓i_bi_t, ↓i_bi_f, ↓i_some, ↓bM_gI hM, ↓bM_pI hM, ↓bM_inv hM, ↓bM_g1 hM, ↓bM_g2 hM, ↓bM_g3 hM, ↓bM_g4 hM, ↓bM_g15 hM, ↓bM_g16 hM, ↓bM_g22 hM, ↓bM_g23 hM, ↓bM_g24 hM, ↓bM_g25 hM, ↓bM_g28 hM, ↓bM_g29 hM, ↓bM_g30 hM, ↓bM_g32 hM, ↓bM_g33 hM, ↓bM_g34 hM, ↓bM_g36 hM, ↓bM_g37 hM, ↓bM_g41 hM, ↓bM_g42 hM, ↓bM_g43 hM, ↓bM_ld1 hM, ↓bM_ld2 hM, ↓bM_ld3 hM, ↓bM_ld4 hM, ↓bM_ld5 hM, ↓bM_ld6 hM, ↓bM_ld7 hM, ↓bM_ld8 hM, ↓bM_ld9 hM, ↓bM_ld10 hM, ↓bM_ld11 hM, ↓bM_ld12 hM, ↓bM_ld13 hM, ↓bM_ld14 hM, ↓bM_ld15 hM, ↓bM_ld16 hM, ↓bM_ld17 hM, ↓bM_ld18 hM, ↓bM_ld19 hM, ↓bM_ld20 hM, ↓bM_ld21 hM, ↓bM_st1 hM, ↓bM_st2 hM, ↓bM_st3 hM, ↓bM_st4 hM, ↓bM_st5 hM, ↓bM_st6 hM, ↓bM_st7 hM, ↓bM_st8 hM, ↓bM_st9 hM, ↓bM_st10 hM, ↓bM_st11 hM, ↓bM_st12 hM, ↓bM_st13 hM, ↓bM_st14 hM, ↓bM_st15 hM, ↓bM_st16 hM, ↓bM_st17 hM, ↓bM_st18 hM, ↓bM_st19 hM, ↓bM_st20 hM, ↓bM_st21 hM, Int.toNat_add, Int.toNat_mul, Int.toNat_natCast, Int.reduceToNat, Nat.reduceAdd, Nat.reduceMul, a1]
          rw [hV']
        | succ d =>
          have hr : (r : Int) < ld I (c + 3) 0 1 := by omega
          obtain ⟨k1, k2, -⟩ := lr'.2.2 r hr
          have g1 := hk.2.2.2 (2 * r) (by omega)
          have g2 := hk.2.2.2 (2 * r + 1) (by omega)
          obtain ⟨p, hp⟩ : ∃ p : Nat, ld I (c + 3) 10 (2 * r) = (p : Int) := ⟨(ld I (c + 3) 10 (2 * r)).toNat, by omega⟩
          obtain ⟨q, hq⟩ : ∃ q : Nat, ld I (c + 3) 10 (2 * r + 1) = (q : Int) := ⟨(ld I (c + 3) 10 (2 * r + 1)).toNat, by omega⟩
          rw [hp] at k1 g1
          rw [hq] at k2 g2
          have hV' : itr (clS (ld I (c + 3))) (r + 1) d (clS (ld I (c + 3)) r x) = _ := hV
          unfold clS at hV'
          by_cases c9 : ld I (c + 3) 9 r = 0
          · rw [if_pos c9] at hV'
            unfold clR at hV'
            rw [hp, hq, Int.toNat_natCast, Int.toNat_natCast] at hV'
            simp (disch := omega) only [↓i_lt_t, ↓i_lt_f, ↓i_eq_t, ↓i_eq_f, ↓i_bi_t, ↓i_bi_f, ↓i_some, ↓bM_gI hM, ↓bM_pI hM, ↓bM_inv hM, ↓bM_g1 hM, ↓bM_g2 hM, ↓bM_g3 hM, ↓bM_g4 hM, ↓bM_g15 hM, ↓bM_g16 hM, ↓bM_g22 hM, ↓bM_g23 hM, ↓bM_g24 hM, ↓bM_g25 hM, ↓bM_g28 hM, ↓bM_g29 hM, ↓bM_g30 hM, ↓bM_g32 hM, ↓bM_g33 hM, ↓bM_g34 hM, ↓bM_g36 hM, ↓bM_g37 hM, ↓bM_g41 hM, ↓bM_g42 hM, ↓bM_g43 hM, ↓bM_ld1 hM, ↓bM_ld2 hM, ↓bM_ld3 hM, ↓bM_ld4 hM, ↓bM_ld5 hM, ↓bM_ld6 hM, ↓bM_ld7 hM, ↓bM_ld8 hM, ↓bM_ld9 hM, ↓bM_ld10 hM, ↓bM_ld11 hM, ↓bM_ld12 hM, ↓bM_ld13 hM, ↓bM_ld14 hM, ↓bM_ld15 hM, ↓bM_ld16 hM, ↓bM_ld17 hM, ↓bM_ld18 hM, ↓bM_ld19 hM, ↓bM_ld20 hM, ↓bM_ld21 hM, ↓bM_st1 hM, ↓bM_st2 hM, ↓bM_st3 hM, ↓bM_st4 hM, ↓bM_st5 hM, ↓bM_st6 hM, ↓bM_st7 hM, ↓bM_st8 hM, ↓bM_st9 hM, ↓bM_st10 hM, ↓bM_st11 hM, ↓bM_st12 hM, ↓bM_st13 hM, ↓bM_st14 hM, ↓bM_st15 hM, ↓bM_st16 hM, ↓bM_st17 hM, ↓bM_st18 hM, ↓bM_st19 hM, ↓bM_st20 hM, ↓bM_st21 hM, Int.toNat_add, Int.toNat_mul, Int.toNat_natCast, Int.reduceToNat, Nat.reduceAdd, Nat.reduceMul, a1, k1, k2, ↓mhangs_w hM lr' hk, ↓clashOf_w hM lr' hk]
            exact hnx d _ _ (by omega) ⟨r + 1, rfl, rfl, by omega, hV'⟩
          · rw [if_neg c9] at hV'
            simp (disch := omega) only [↓i_lt_t, ↓i_lt_f, ↓i_eq_t, ↓i_eq_f, ↓i_bi_t, ↓i_bi_f, ↓i_some, ↓bM_gI hM, ↓bM_pI hM, ↓bM_inv hM, ↓bM_g1 hM, ↓bM_g2 hM, ↓bM_g3 hM, ↓bM_g4 hM, ↓bM_g15 hM, ↓bM_g16 hM, ↓bM_g22 hM, ↓bM_g23 hM, ↓bM_g24 hM, ↓bM_g25 hM, ↓bM_g28 hM, ↓bM_g29 hM, ↓bM_g30 hM, ↓bM_g32 hM, ↓bM_g33 hM, ↓bM_g34 hM, ↓bM_g36 hM, ↓bM_g37 hM, ↓bM_g41 hM, ↓bM_g42 hM, ↓bM_g43 hM, ↓bM_ld1 hM, ↓bM_ld2 hM, ↓bM_ld3 hM, ↓bM_ld4 hM, ↓bM_ld5 hM, ↓bM_ld6 hM, ↓bM_ld7 hM, ↓bM_ld8 hM, ↓bM_ld9 hM, ↓bM_ld10 hM, ↓bM_ld11 hM, ↓bM_ld12 hM, ↓bM_ld13 hM, ↓bM_ld14 hM, ↓bM_ld15 hM, ↓bM_ld16 hM, ↓bM_ld17 hM, ↓bM_ld18 hM, ↓bM_ld19 hM, ↓bM_ld20 hM, ↓bM_ld21 hM, ↓bM_st1 hM, ↓bM_st2 hM, ↓bM_st3 hM, ↓bM_st4 hM, ↓bM_st5 hM, ↓bM_st6 hM, ↓bM_st7 hM, ↓bM_st8 hM, ↓bM_st9 hM, ↓bM_st10 hM, ↓bM_st11 hM, ↓bM_st12 hM, ↓bM_st13 hM, ↓bM_st14 hM, ↓bM_st15 hM, ↓bM_st16 hM, ↓bM_st17 hM, ↓bM_st18 hM, ↓bM_st19 hM, ↓bM_st20 hM, ↓bM_st21 hM, Int.toNat_add, Int.toNat_mul, Int.toNat_natCast, Int.reduceToNat, Nat.reduceAdd, Nat.reduceMul, a1, k1, k2, ↓mhangs_w hM lr' hk]
            exact hnx d _ _ (by omega) ⟨r + 1, rfl, rfl, by omega, hV'⟩
      unfold mX11_clash
      simp (disch := omega) only [↓i_lt_t, ↓i_lt_f, ↓i_eq_t, ↓i_eq_f, ↓i_bi_t, ↓i_bi_f, ↓i_some, ↓bM_gI hM, ↓bM_pI hM, ↓bM_inv hM, ↓bM_g1 hM, ↓bM_g2 hM, ↓bM_g3 hM, ↓bM_g4 hM, ↓bM_g15 hM, ↓bM_g16 hM, ↓bM_g22 hM, ↓bM_g23 hM, ↓bM_g24 hM, ↓bM_g25 hM, ↓bM_g28 hM, ↓bM_g29 hM, ↓bM_g30 hM, ↓bM_g32 hM, ↓bM_g33 hM, ↓bM_g34 hM, ↓bM_g36 hM, ↓bM_g37 hM, ↓bM_g41 hM, ↓bM_g42 hM, ↓bM_g43 hM, ↓bM_ld1 hM, ↓bM_ld2 hM, ↓bM_ld3 hM, ↓bM_ld4 hM, ↓bM_ld5 hM, ↓bM_ld6 hM, ↓bM_ld7 hM, ↓bM_ld8 hM, ↓bM_ld9 hM, ↓bM_ld10 hM, ↓bM_ld11 hM, ↓bM_ld12 hM, ↓bM_ld13 hM, ↓bM_ld14 hM, ↓bM_ld15 hM, ↓bM_ld16 hM, ↓bM_ld17 hM, ↓bM_ld18 hM, ↓bM_ld19 hM, ↓bM_ld20 hM, ↓bM_ld21 hM, ↓bM_st1 hM, ↓bM_st2 hM, ↓bM_st3 hM, ↓bM_st4 hM, ↓bM_st5 hM, ↓bM_st6 hM, ↓bM_st7 hM, ↓bM_st8 hM, ↓bM_st9 hM, ↓bM_st10 hM, ↓bM_st11 hM, ↓bM_st12 hM, ↓bM_st13 hM, ↓bM_st14 hM, ↓bM_st15 hM, ↓bM_st16 hM, ↓bM_st17 hM, ↓bM_st18 hM, ↓bM_st19 hM, ↓bM_st20 hM, ↓bM_st21 hM, ↓bnd key]
  · by_cases cr : 0 ≤ b ∧ b < ld I (c + 3) 0 1
    · obtain ⟨r, rfl⟩ : ∃ r : Nat, b = (r : Int) := ⟨b.toNat, by omega⟩
      obtain ⟨k1, k2, -⟩ := lr'.2.2 r cr.2
      have g1 := hk.2.2.2 (2 * r) (by omega)
      have g2 := hk.2.2.2 (2 * r + 1) (by omega)
      obtain ⟨p, hp⟩ : ∃ p : Nat, ld I (c + 3) 10 (2 * r) = (p : Int) := ⟨(ld I (c + 3) 10 (2 * r)).toNat, by omega⟩
      obtain ⟨q, hq⟩ : ∃ q : Nat, ld I (c + 3) 10 (2 * r + 1) = (q : Int) := ⟨(ld I (c + 3) 10 (2 * r + 1)).toNat, by omega⟩
      rw [hp] at k1 g1
      rw [hq] at k2 g2
      refine Both.q (v := clR (ld I (c + 3)) r) hR ?_ ?_
      · unfold mX10_clash
        simp (disch := omega) only [↓i_lt_t, ↓i_lt_f, ↓i_eq_t, ↓i_eq_f, ↓i_bi_t, ↓i_bi_f, ↓i_some, ↓bC_g0 hC, ↓bC_g1 hC, ↓bC_g2 hC, ↓bC_g3 hC, ↓bC_g4 hC, ↓bC_g5 hC, ↓bC_g6 hC, ↓bC_g7 hC, ↓bC_g8 hC, ↓bC_g9 hC, ↓bC_g10 hC, ↓bC_inv hC, ↓bL_gI hH, ↓bL_inv hH, ↓bL_g6 hH, ↓bL_g7 hH, ↓bL_g8 hH, ↓bL_g9 hH, ↓bL_g10 hH, ↓bL_g11 hH, ↓bL_g12 hH, ↓bL_g13 hH, ↓bL_g14 hH, ↓bL_g15 hH, ↓bL_g16 hH, ↓bL_g17 hH, ↓bL_ld1 hH, ↓bL_ld2 hH, ↓bL_ld3 hH, ↓bL_ld4 hH, ↓bL_ld5 hH, ↓bL_ld6 hH, ↓bL_ld7 hH, ↓bL_ld8 hH, ↓bL_ld9 hH, ↓bL_ld10 hH, ↓bL_ld11 hH, ↓bL_ld12 hH, ↓bL_st1 hH, ↓bL_st2 hH, ↓bL_st3 hH, ↓bL_st4 hH, ↓bL_st5 hH, ↓bL_st6 hH, ↓bL_st7 hH, ↓bL_st8 hH, ↓bL_st9 hH, ↓bL_st10 hH, ↓bL_st11 hH, ↓bL_st12 hH, ↓hasRope_w hH hk, ↓sharedThirst_w hH hk cr.2]
      · unfold mX11_clash clR
        rw [hp, hq, Int.toNat_natCast, Int.toNat_natCast]
        simp (disch := omega) only [↓i_lt_t, ↓i_lt_f, ↓i_eq_t, ↓i_eq_f, ↓i_bi_t, ↓i_bi_f, ↓i_some, ↓bM_gI hM, ↓bM_pI hM, ↓bM_inv hM, ↓bM_g1 hM, ↓bM_g2 hM, ↓bM_g3 hM, ↓bM_g4 hM, ↓bM_g15 hM, ↓bM_g16 hM, ↓bM_g22 hM, ↓bM_g23 hM, ↓bM_g24 hM, ↓bM_g25 hM, ↓bM_g28 hM, ↓bM_g29 hM, ↓bM_g30 hM, ↓bM_g32 hM, ↓bM_g33 hM, ↓bM_g34 hM, ↓bM_g36 hM, ↓bM_g37 hM, ↓bM_g41 hM, ↓bM_g42 hM, ↓bM_g43 hM, ↓bM_ld1 hM, ↓bM_ld2 hM, ↓bM_ld3 hM, ↓bM_ld4 hM, ↓bM_ld5 hM, ↓bM_ld6 hM, ↓bM_ld7 hM, ↓bM_ld8 hM, ↓bM_ld9 hM, ↓bM_ld10 hM, ↓bM_ld11 hM, ↓bM_ld12 hM, ↓bM_ld13 hM, ↓bM_ld14 hM, ↓bM_ld15 hM, ↓bM_ld16 hM, ↓bM_ld17 hM, ↓bM_ld18 hM, ↓bM_ld19 hM, ↓bM_ld20 hM, ↓bM_ld21 hM, ↓bM_st1 hM, ↓bM_st2 hM, ↓bM_st3 hM, ↓bM_st4 hM, ↓bM_st5 hM, ↓bM_st6 hM, ↓bM_st7 hM, ↓bM_st8 hM, ↓bM_st9 hM, ↓bM_st10 hM, ↓bM_st11 hM, ↓bM_st12 hM, ↓bM_st13 hM, ↓bM_st14 hM, ↓bM_st15 hM, ↓bM_st16 hM, ↓bM_st17 hM, ↓bM_st18 hM, ↓bM_st19 hM, ↓bM_st20 hM, ↓bM_st21 hM, Int.toNat_add, Int.toNat_mul, Int.toNat_natCast, Int.reduceToNat, Nat.reduceAdd, Nat.reduceMul, ↓isRope_w hM lr' hk, k1, k2, ↓clashOf_w hM lr' hk]
    · refine Both.q (v := -2) hR ?_ ?_
      · unfold mX10_clash
        simp (disch := omega) only [↓i_lt_t, ↓i_lt_f, ↓i_eq_t, ↓i_eq_f, ↓i_bi_t, ↓i_bi_f, ↓i_some, ↓bC_g0 hC, ↓bC_g1 hC, ↓bC_g2 hC, ↓bC_g3 hC, ↓bC_g4 hC, ↓bC_g5 hC, ↓bC_g6 hC, ↓bC_g7 hC, ↓bC_g8 hC, ↓bC_g9 hC, ↓bC_g10 hC, ↓bC_inv hC, ↓bL_gI hH, ↓bL_inv hH, ↓bL_g6 hH, ↓bL_g7 hH, ↓bL_g8 hH, ↓bL_g9 hH, ↓bL_g10 hH, ↓bL_g11 hH, ↓bL_g12 hH, ↓bL_g13 hH, ↓bL_g14 hH, ↓bL_g15 hH, ↓bL_g16 hH, ↓bL_g17 hH, ↓bL_ld1 hH, ↓bL_ld2 hH, ↓bL_ld3 hH, ↓bL_ld4 hH, ↓bL_ld5 hH, ↓bL_ld6 hH, ↓bL_ld7 hH, ↓bL_ld8 hH, ↓bL_ld9 hH, ↓bL_ld10 hH, ↓bL_ld11 hH, ↓bL_ld12 hH, ↓bL_st1 hH, ↓bL_st2 hH, ↓bL_st3 hH, ↓bL_st4 hH, ↓bL_st5 hH, ↓bL_st6 hH, ↓bL_st7 hH, ↓bL_st8 hH, ↓bL_st9 hH, ↓bL_st10 hH, ↓bL_st11 hH, ↓bL_st12 hH, ↓hasRope_w hH hk]
      · unfold mX11_clash
        simp (disch := omega) only [↓i_lt_t, ↓i_lt_f, ↓i_eq_t, ↓i_eq_f, ↓i_bi_t, ↓i_bi_f, ↓i_some, ↓bM_gI hM, ↓bM_pI hM, ↓bM_inv hM, ↓bM_g1 hM, ↓bM_g2 hM, ↓bM_g3 hM, ↓bM_g4 hM, ↓bM_g15 hM, ↓bM_g16 hM, ↓bM_g22 hM, ↓bM_g23 hM, ↓bM_g24 hM, ↓bM_g25 hM, ↓bM_g28 hM, ↓bM_g29 hM, ↓bM_g30 hM, ↓bM_g32 hM, ↓bM_g33 hM, ↓bM_g34 hM, ↓bM_g36 hM, ↓bM_g37 hM, ↓bM_g41 hM, ↓bM_g42 hM, ↓bM_g43 hM, ↓bM_ld1 hM, ↓bM_ld2 hM, ↓bM_ld3 hM, ↓bM_ld4 hM, ↓bM_ld5 hM, ↓bM_ld6 hM, ↓bM_ld7 hM, ↓bM_ld8 hM, ↓bM_ld9 hM, ↓bM_ld10 hM, ↓bM_ld11 hM, ↓bM_ld12 hM, ↓bM_ld13 hM, ↓bM_ld14 hM, ↓bM_ld15 hM, ↓bM_ld16 hM, ↓bM_ld17 hM, ↓bM_ld18 hM, ↓bM_ld19 hM, ↓bM_ld20 hM, ↓bM_ld21 hM, ↓bM_st1 hM, ↓bM_st2 hM, ↓bM_st3 hM, ↓bM_st4 hM, ↓bM_st5 hM, ↓bM_st6 hM, ↓bM_st7 hM, ↓bM_st8 hM, ↓bM_st9 hM, ↓bM_st10 hM, ↓bM_st11 hM, ↓bM_st12 hM, ↓bM_st13 hM, ↓bM_st14 hM, ↓bM_st15 hM, ↓bM_st16 hM, ↓bM_st17 hM, ↓bM_st18 hM, ↓bM_st19 hM, ↓bM_st20 hM, ↓bM_st21 hM, ↓isRope_w hM lr' hk]
/-- the mate so far, and how many hours it has in common -/
noncomputable def mtS (l : Ld) (h : Nat) (q : Nat) (z : Int × Int) : Int × Int := @ite (Int × Int) (q ≠ h ∧ ¬ adj l (-1) h q ∧ ((pcN (shN l h q) : Nat) : Int) < z.2) (Classical.propDecidable _) ((q : Int), ((pcN (shN l h q) : Nat) : Int)) z
theorem mtS_t {h q : Nat} {z : Int × Int} (g : q ≠ h ∧ ¬ adj l (-1) h q ∧ ((pcN (shN l h q) : Nat) : Int) < z.2) : mtS l h q z = ((q : Int), ((pcN (shN l h q) : Nat) : Int)) := if_pos g
theorem mtS_f {h q : Nat} {z : Int × Int} (g : ¬ (q ≠ h ∧ ¬ adj l (-1) h q ∧ ((pcN (shN l h q) : Nat) : Int) < z.2)) : mtS l h q z = z := if_neg g
theorem tied_w (hT : isTi μ t) (hJ : tsP l w J t) {h q : Nat} (hh : h < 10) (hq : q < 10) {f : Int × Mem → Option β} : (mX9_tied n t (h : Int) (q : Int) (wi μ J)).bind f = f (bc (adj l w h q), wi μ J) := by
  have mk := hJ.2 h hh
  unfold mX9_tied
  simp (disch := omega) only [↓i_lt_t, ↓i_lt_f, ↓i_eq_t, ↓i_eq_f, ↓i_bi_t, ↓i_bi_f, ↓i_some, ↓bt_gA hT, ↓bt_ld hT, Int.toNat_natCast]
  by_cases e : adj l w h q
  · rw [i_mk_t mk (by omega) e, retZ_1, bc_t e]; rfl
  · rw [i_mk_f mk (by omega) e, retZ_0, bc_f e]; rfl
theorem haveRope_w (h : isM μ m) (hl : LR l (s 1)) (hk : okL l) {x y : Nat} (hx : (x : Int) < l 0 0) (hy : (y : Int) < l 0 0) (hxy : x ≠ y) (hn : 20000 ≤ n) {f : Int × Mem → Option β} : (mX11_haveRope n m (x : Int) (y : Int) (wi μ (wm I m s))).bind f = f (bc (adj l (-1) x y), wi μ (wm I m s)) := by
  have hz := hk.1
  have a1 : s 1 1 = l 0 1 := hl.1.2.1
  refine bnd ?_ f
  unfold mX11_haveRope
  refine lp_ind (fun d (v : Int) ν => ∃ r : Nat, ν = wi μ (wm I m s) ∧ v = (r : Int) ∧ (r : Int) + d = l 0 1 ∧ ¬ adjK l (-1) r x y) (fun X => X = some (bc (adj l (-1) x y), wi μ (wm I m s))) (fun d v ν nx hP hnx => ?_) n (l 0 1).toNat _ _ (by omega) ⟨0, rfl, rfl, by omega, fun ⟨r, hr, _⟩ => by omega⟩
  obtain ⟨r, rfl, rfl, h1, h2⟩ := hP
  cases d with
  | zero =>
    simp (disch := omega) only [↓i_lt_t, ↓i_lt_f, ↓i_eq_t, ↓i_eq_f, ↓i_bi_t, ↓i_bi_f, ↓i_some, ↓bM_gI h, ↓bM_pI h, ↓bM_inv h, ↓bM_g1 h, ↓bM_g2 h, ↓bM_g3 h, ↓bM_g4 h, ↓bM_g15 h, ↓bM_g16 h, ↓bM_g22 h, ↓bM_g23 h, ↓bM_g24 h, ↓bM_g25 h, ↓bM_g28 h, ↓bM_g29 h, ↓bM_g30 h, ↓bM_g32 h, ↓bM_g33 h, ↓bM_g34 h, ↓bM_g36 h, ↓bM_g37 h, ↓bM_g41 h, ↓bM_g42 h, ↓bM_g43 h, ↓bM_ld1 h, ↓bM_ld2 h, ↓bM_ld3 h, ↓bM_ld4 h, ↓bM_ld5 h, ↓bM_ld6 h, ↓bM_ld7 h, ↓bM_ld8 h, ↓bM_ld9 h, ↓bM_ld10 h, ↓bM_ld11 h, ↓bM_ld12 h, ↓bM_ld13 h, ↓bM_ld14 h, ↓bM_ld15 h, ↓bM_ld16 h, ↓bM_ld17 h, ↓bM_ld18 h, ↓bM_ld19 h, ↓bM_ld20 h, ↓bM_ld21 h, ↓bM_st1 h, ↓bM_st2 h, ↓bM_st3 h, ↓bM_st4 h, ↓bM_st5 h, ↓bM_st6 h, ↓bM_st7 h, ↓bM_st8 h, ↓bM_st9 h, ↓bM_st10 h, ↓bM_st11 h, ↓bM_st12 h, ↓bM_st13 h, ↓bM_st14 h, ↓bM_st15 h, ↓bM_st16 h, ↓bM_st17 h, ↓bM_st18 h, ↓bM_st19 h, ↓bM_st20 h, ↓bM_st21 h, Int.toNat_add, Int.toNat_mul, Int.toNat_natCast, Int.reduceToNat, Nat.reduceAdd, Nat.reduceMul, a1]
    rw [bc_f (fun ⟨r', g1, g2⟩ => h2 ⟨r', by omega, g2⟩), retZ_0]
  | succ d =>
    have hr : (r : Int) < l 0 1 := by omega
    have nxt : ¬ (l 9 r = 0 ∧ (l 10 (2 * r) = x ∨ l 10 (2 * r + 1) = x) ∧ (l 10 (2 * r) = y ∨ l 10 (2 * r + 1) = y)) → ¬ adjK l (-1) (r + 1) x y := fun g z => by
      rw [adjK_s] at z
      rcases z with z | ⟨z1, -, z2⟩
      · exact h2 z
      · exact g ⟨z1, by omega, by omega⟩
    by_cases c9 : l 9 r = 0
    · by_cases cx : l 10 (2 * r) = x ∨ l 10 (2 * r + 1) = x
      · by_cases cy : l 10 (2 * r) = y ∨ l 10 (2 * r + 1) = y
        · simp (disch := omega) only [↓i_lt_t, ↓i_lt_f, ↓i_eq_t, ↓i_eq_f, ↓i_bi_t, ↓i_bi_f, ↓i_some, ↓bM_gI h, ↓bM_pI h, ↓bM_inv h, ↓bM_g1 h, ↓bM_g2 h, ↓bM_g3 h, ↓bM_g4 h, ↓bM_g15 h, ↓bM_g16 h, ↓bM_g22 h, ↓bM_g23 h, ↓bM_g24 h, ↓bM_g25 h, ↓bM_g28 h, ↓bM_g29 h, ↓bM_g30 h, ↓bM_g32 h, ↓bM_g33 h, ↓bM_g34 h, ↓bM_g36 h, ↓bM_g37 h, ↓bM_g41 h, ↓bM_g42 h, ↓bM_g43 h, ↓bM_ld1 h, ↓bM_ld2 h, ↓bM_ld3 h, ↓bM_ld4 h, ↓bM_ld5 h, ↓bM_ld6 h, ↓bM_ld7 h, ↓bM_ld8 h, ↓bM_ld9 h, ↓bM_ld10 h, ↓bM_ld11 h, ↓bM_ld12 h, ↓bM_ld13 h, ↓bM_ld14 h, ↓bM_ld15 h, ↓bM_ld16 h, ↓bM_ld17 h, ↓bM_ld18 h, ↓bM_ld19 h, ↓bM_ld20 h, ↓bM_ld21 h, ↓bM_st1 h, ↓bM_st2 h, ↓bM_st3 h, ↓bM_st4 h, ↓bM_st5 h, ↓bM_st6 h, ↓bM_st7 h, ↓bM_st8 h, ↓bM_st9 h, ↓bM_st10 h, ↓bM_st11 h, ↓bM_st12 h, ↓bM_st13 h, ↓bM_st14 h, ↓bM_st15 h, ↓bM_st16 h, ↓bM_st17 h, ↓bM_st18 h, ↓bM_st19 h, ↓bM_st20 h, ↓bM_st21 h, Int.toNat_add, Int.toNat_mul, Int.toNat_natCast, Int.reduceToNat, Nat.reduceAdd, Nat.reduceMul, a1, ↓mhangs_w h hl hk, ↓isEnd_w h hl hk]
          rw [bc_t ⟨r, hr, c9, by omega, by omega⟩, retZ_1]
        · simp (disch := omega) only [↓i_lt_t, ↓i_lt_f, ↓i_eq_t, ↓i_eq_f, ↓i_bi_t, ↓i_bi_f, ↓i_some, ↓bM_gI h, ↓bM_pI h, ↓bM_inv h, ↓bM_g1 h, ↓bM_g2 h, ↓bM_g3 h, ↓bM_g4 h, ↓bM_g15 h, ↓bM_g16 h, ↓bM_g22 h, ↓bM_g23 h, ↓bM_g24 h, ↓bM_g25 h, ↓bM_g28 h, ↓bM_g29 h, ↓bM_g30 h, ↓bM_g32 h, ↓bM_g33 h, ↓bM_g34 h, ↓bM_g36 h, ↓bM_g37 h, ↓bM_g41 h, ↓bM_g42 h, ↓bM_g43 h, ↓bM_ld1 h, ↓bM_ld2 h, ↓bM_ld3 h, ↓bM_ld4 h, ↓bM_ld5 h, ↓bM_ld6 h, ↓bM_ld7 h, ↓bM_ld8 h, ↓bM_ld9 h, ↓bM_ld10 h, ↓bM_ld11 h, ↓bM_ld12 h, ↓bM_ld13 h, ↓bM_ld14 h, ↓bM_ld15 h, ↓bM_ld16 h, ↓bM_ld17 h, ↓bM_ld18 h, ↓bM_ld19 h, ↓bM_ld20 h, ↓bM_ld21 h, ↓bM_st1 h, ↓bM_st2 h, ↓bM_st3 h, ↓bM_st4 h, ↓bM_st5 h, ↓bM_st6 h, ↓bM_st7 h, ↓bM_st8 h, ↓bM_st9 h, ↓bM_st10 h, ↓bM_st11 h, ↓bM_st12 h, ↓bM_st13 h, ↓bM_st14 h, ↓bM_st15 h, ↓bM_st16 h, ↓bM_st17 h, ↓bM_st18 h, ↓bM_st19 h, ↓bM_st20 h, ↓bM_st21 h, Int.toNat_add, Int.toNat_mul, Int.toNat_natCast, Int.reduceToNat, Nat.reduceAdd, Nat.reduceMul, a1, ↓mhangs_w h hl hk, ↓isEnd_w h hl hk]
          exact hnx d _ _ (by omega) ⟨r + 1, rfl, rfl, by omega, nxt (fun z => cy z.2.2)⟩
      · simp (disch := omega) only [↓i_lt_t, ↓i_lt_f, ↓i_eq_t, ↓i_eq_f, ↓i_bi_t, ↓i_bi_f, ↓i_some, ↓bM_gI h, ↓bM_pI h, ↓bM_inv h, ↓bM_g1 h, ↓bM_g2 h, ↓bM_g3 h, ↓bM_g4 h, ↓bM_g15 h, ↓bM_g16 h, ↓bM_g22 h, ↓bM_g23 h, ↓bM_g24 h, ↓bM_g25 h, ↓bM_g28 h, ↓bM_g29 h, ↓bM_g30 h, ↓bM_g32 h, ↓bM_g33 h, ↓bM_g34 h, ↓bM_g36 h, ↓bM_g37 h, ↓bM_g41 h, ↓bM_g42 h, ↓bM_g43 h, ↓bM_ld1 h, ↓bM_ld2 h, ↓bM_ld3 h, ↓bM_ld4 h, ↓bM_ld5 h, ↓bM_ld6 h, ↓bM_ld7 h, ↓bM_ld8 h, ↓bM_ld9 h, ↓bM_ld10 h, ↓bM_ld11 h, ↓bM_ld12 h, ↓bM_ld13 h, ↓bM_ld14 h, ↓bM_ld15 h, ↓bM_ld16 h, ↓bM_ld17 h, ↓bM_ld18 h, ↓bM_ld19 h, ↓bM_ld20 h, ↓bM_ld21 h, ↓bM_st1 h, ↓bM_st2 h, ↓bM_st3 h, ↓bM_st4 h, ↓bM_st5 h, ↓bM_st6 h, ↓bM_st7 h, ↓bM_st8 h, ↓bM_st9 h, ↓bM_st10 h, ↓bM_st11 h, ↓bM_st12 h, ↓bM_st13 h, ↓bM_st14 h, ↓bM_st15 h, ↓bM_st16 h, ↓bM_st17 h, ↓bM_st18 h, ↓bM_st19 h, ↓bM_st20 h, ↓bM_st21 h, Int.toNat_add, Int.toNat_mul, Int.toNat_natCast, Int.reduceToNat, Nat.reduceAdd, Nat.reduceMul, a1, ↓mhangs_w h hl hk, ↓isEnd_w h hl hk]
        exact hnx d _ _ (by omega) ⟨r + 1, rfl, rfl, by omega, nxt (fun z => cx z.2.1)⟩
    · simp (disch := omega) only [↓i_lt_t, ↓i_lt_f, ↓i_eq_t, ↓i_eq_f, ↓i_bi_t, ↓i_bi_f, ↓i_some, ↓bM_gI h, ↓bM_pI h, ↓bM_inv h, ↓bM_g1 h, ↓bM_g2 h, ↓bM_g3 h, ↓bM_g4 h, ↓bM_g15 h, ↓bM_g16 h, ↓bM_g22 h, ↓bM_g23 h, ↓bM_g24 h, ↓bM_g25 h, ↓bM_g28 h, ↓bM_g29 h, ↓bM_g30 h, ↓bM_g32 h, ↓bM_g33 h, ↓bM_g34 h, ↓bM_g36 h, ↓bM_g37 h, ↓bM_g41 h, ↓bM_g42 h, ↓bM_g43 h, ↓bM_ld1 h, ↓bM_ld2 h, ↓bM_ld3 h, ↓bM_ld4 h, ↓bM_ld5 h, ↓bM_ld6 h, ↓bM_ld7 h, ↓bM_ld8 h, ↓bM_ld9 h, ↓bM_ld10 h, ↓bM_ld11 h, ↓bM_ld12 h, ↓bM_ld13 h, ↓bM_ld14 h, ↓bM_ld15 h, ↓bM_ld16 h, ↓bM_ld17 h, ↓bM_ld18 h, ↓bM_ld19 h, ↓bM_ld20 h, ↓bM_ld21 h, ↓bM_st1 h, ↓bM_st2 h, ↓bM_st3 h, ↓bM_st4 h, ↓bM_st5 h, ↓bM_st6 h, ↓bM_st7 h, ↓bM_st8 h, ↓bM_st9 h, ↓bM_st10 h, ↓bM_st11 h, ↓bM_st12 h, ↓bM_st13 h, ↓bM_st14 h, ↓bM_st15 h, ↓bM_st16 h, ↓bM_st17 h, ↓bM_st18 h, ↓bM_st19 h, ↓bM_st20 h, ↓bM_st21 h, Int.toNat_add, Int.toNat_mul, Int.toNat_natCast, Int.reduceToNat, Nat.reduceAdd, Nat.reduceMul, a1, ↓mhangs_w h hl hk]
      exact hnx d _ _ (by omega) ⟨r + 1, rfl, rfl, by omega, nxt (fun z => c9 z.1)⟩
theorem both_mate (hC : isC μ c) (hM : isM μ (c + 193)) (hR : RelC c I) {b : Int} (hb : -2147483648 ≤ b ∧ b < 2147483648) (hn : 20000 ≤ n) : Both μ c I (mX10_mate n c b) (mX11_mate n (c + 193) b) := by
  obtain ⟨hk, lr, lq, h0, h9⟩ := id hR.1
  have hz := hk.1
  have hH := hC.here
  have hT := hC.ti
  have s1 := s1_of (I := I) (J := I) (c := c) rfl
  have lr' : LR (ld I (c + 3)) (up2 (ld I (c + 193)) 0 0 0 1) := by rw [s1]; exact lr
  have a0 : up2 (ld I (c + 193)) 0 0 0 1 0 = ld I (c + 3) 0 0 := lr'.1.1
  by_cases ch : 0 ≤ b ∧ b < ld I (c + 3) 0 0
  · obtain ⟨h, rfl⟩ : ∃ h : Nat, b = (h : Int) := ⟨b.toNat, by omega⟩
    obtain ⟨J, e1, oJ, tJ⟩ := look_eq (n := n) (I := I) (a := c + 3) (t := c + 34) (w := -1) hH hT (by omega) hk (by omega) hn
    have cJ : CF c I J := fun b hb => oJ b (by unfold tmp at hb; omega) (by unfold tmp at hb; omega)
    have jr : ld J (c + 193) = ld I (c + 193) := funext fun k => oJ _ (by omega) (by omega)
    have eL : ∀ j : Nat, j ≤ 12 → ld J (c + 3) j = ld I (c + 3) j := fun j hj => oJ _ (by omega) (by omega)
    have e00 : ld J (c + 3) 0 0 = ld I (c + 3) 0 0 := by rw [eL 0 (by decide)]
    have e4 : ∀ i : Nat, ld J (c + 3) 4 i = ld I (c + 3) 4 i := fun i => by rw [eL 4 (by decide)]
    have el := ldwm (μ := μ) J (c + 193)
    rw [jr] at el
    refine Both.mk (J := J) (v := (itr (mtS (ld I (c + 3)) h) 0 (ld I (c + 3) 0 0).toNat (-1, 13)).1) (s' := up2 (ld I (c + 193)) 0 0 0) hR cJ.h ?_ ?_ ?_ ?_
    · unfold mX10_mate
      simp (disch := omega) only [↓i_lt_t, ↓i_lt_f, ↓i_eq_t, ↓i_eq_f, ↓i_bi_t, ↓i_bi_f, ↓i_some, ↓bC_g0 hC, ↓bC_g1 hC, ↓bC_g2 hC, ↓bC_g3 hC, ↓bC_g4 hC, ↓bC_g5 hC, ↓bC_g6 hC, ↓bC_g7 hC, ↓bC_g8 hC, ↓bC_g9 hC, ↓bC_g10 hC, ↓bC_inv hC, ↓bL_inv hH, ↓hasHouse_w hH hk, ↓bt_inv hT, ↓bnd e1]
      refine lp_ind (fun d (v : Int × Int × Int) ν => ∃ q : Nat, ν = wi μ J ∧ v.2.2 = (q : Int) ∧ (q : Int) + d = ld I (c + 3) 0 0 ∧ (0 ≤ v.2.1 ∧ v.2.1 ≤ 13) ∧ itr (mtS (ld I (c + 3)) h) q d (v.1, v.2.1) = itr (mtS (ld I (c + 3)) h) 0 (ld I (c + 3) 0 0).toNat (-1, 13)) (fun X => X = some ((itr (mtS (ld I (c + 3)) h) 0 (ld I (c + 3) 0 0).toNat (-1, 13)).1, wi μ J)) (fun d v ν nx hP hnx => ?_) n (ld I (c + 3) 0 0).toNat _ _ (by omega) ⟨0, rfl, rfl, by omega, by dsimp only; omega, rfl⟩
      obtain ⟨q, rfl, e3, h1, hF, hV⟩ := hP
      obtain ⟨M, F, kk⟩ := v
      dsimp only at e3 hF hV
      subst e3
      cases d with
      | zero =>
        have hV' : (M, F) = _ := hV
        simp (disch := omega) only [↓i_lt_t, ↓i_lt_f, ↓i_eq_t, ↓i_eq_f, ↓i_bi_t, ↓i_bi_f, ↓i_some, ↓bC_g0 hC, ↓bC_g1 hC, ↓bC_g2 hC, ↓bC_g3 hC, ↓bC_g4 hC, ↓bC_g5 hC, ↓bC_g6 hC, ↓bC_g7 hC, ↓bC_g8 hC, ↓bC_g9 hC, ↓bC_g10 hC, ↓bC_inv hC, ↓bL_gI hH, ↓bL_inv hH, ↓bL_g6 hH, ↓bL_g7 hH, ↓bL_g8 hH, ↓bL_g9 hH, ↓bL_g10 hH, ↓bL_g11 hH, ↓bL_g12 hH, ↓bL_g13 hH, ↓bL_g14 hH, ↓bL_g15 hH, ↓bL_g16 hH, ↓bL_g17 hH, ↓bL_ld1 hH, ↓bL_ld2 hH, ↓bL_ld3 hH, ↓bL_ld4 hH, ↓bL_ld5 hH, ↓bL_ld6 hH, ↓bL_ld7 hH, ↓bL_ld8 hH, ↓bL_ld9 hH, ↓bL_ld10 hH, ↓bL_ld11 hH, ↓bL_ld12 hH, ↓bL_st1 hH, ↓bL_st2 hH, ↓bL_st3 hH, ↓bL_st4 hH, ↓bL_st5 hH, ↓bL_st6 hH, ↓bL_st7 hH, ↓bL_st8 hH, ↓bL_st9 hH, ↓bL_st10 hH, ↓bL_st11 hH, ↓bL_st12 hH, e00]
        rw [← hV']
      | succ d =>
        have oa := oAnd_th (x := h) (y := q) hk (by omega) (by omega)
        have sl := shN_lt (x := h) (y := q) hk (by omega)
        have pl := pcN_le (shN (ld I (c + 3)) h q)
        have hV' : itr (mtS (ld I (c + 3)) h) (q + 1) d (mtS (ld I (c + 3)) h q (M, F)) = _ := hV
        by_cases cq : q = h
        · rw [mtS_f (fun z => z.1 cq)] at hV'
          simp (disch := omega) only [↓i_lt_t, ↓i_lt_f, ↓i_eq_t, ↓i_eq_f, ↓i_bi_t, ↓i_bi_f, ↓i_some, ↓bC_g0 hC, ↓bC_g1 hC, ↓bC_g2 hC, ↓bC_g3 hC, ↓bC_g4 hC, ↓bC_g5 hC, ↓bC_g6 hC, ↓bC_g7 hC, ↓bC_g8 hC, ↓bC_g9 hC, ↓bC_g10 hC, ↓bC_inv hC, ↓bL_gI hH, ↓bL_inv hH, ↓bL_g6 hH, ↓bL_g7 hH, ↓bL_g8 hH, ↓bL_g9 hH, ↓bL_g10 hH, ↓bL_g11 hH, ↓bL_g12 hH, ↓bL_g13 hH, ↓bL_g14 hH, ↓bL_g15 hH, ↓bL_g16 hH, ↓bL_g17 hH, ↓bL_ld1 hH, ↓bL_ld2 hH, ↓bL_ld3 hH, ↓bL_ld4 hH, ↓bL_ld5 hH, ↓bL_ld6 hH, ↓bL_ld7 hH, ↓bL_ld8 hH, ↓bL_ld9 hH, ↓bL_ld10 hH, ↓bL_ld11 hH, ↓bL_ld12 hH, ↓bL_st1 hH, ↓bL_st2 hH, ↓bL_st3 hH, ↓bL_st4 hH, ↓bL_st5 hH, ↓bL_st6 hH, ↓bL_st7 hH, ↓bL_st8 hH, ↓bL_st9 hH, ↓bL_st10 hH, ↓bL_st11 hH, ↓bL_st12 hH, Int.toNat_add, Int.toNat_mul, Int.toNat_natCast, Int.reduceToNat, Nat.reduceAdd, Nat.reduceMul, e00, e4, oa, ↓bitCount_w]
          exact hnx d _ _ (by omega) ⟨q + 1, rfl, rfl, by omega, hF, hV'⟩
        · by_cases ca : adj (ld I (c + 3)) (-1) h q
          · rw [mtS_f (fun z => z.2.1 ca)] at hV'
            simp (disch := omega) only [↓i_lt_t, ↓i_lt_f, ↓i_eq_t, ↓i_eq_f, ↓i_bi_t, ↓i_bi_f, ↓i_some, ↓bC_g0 hC, ↓bC_g1 hC, ↓bC_g2 hC, ↓bC_g3 hC, ↓bC_g4 hC, ↓bC_g5 hC, ↓bC_g6 hC, ↓bC_g7 hC, ↓bC_g8 hC, ↓bC_g9 hC, ↓bC_g10 hC, ↓bC_inv hC, ↓bL_gI hH, ↓bL_inv hH, ↓bL_g6 hH, ↓bL_g7 hH, ↓bL_g8 hH, ↓bL_g9 hH, ↓bL_g10 hH, ↓bL_g11 hH, ↓bL_g12 hH, ↓bL_g13 hH, ↓bL_g14 hH, ↓bL_g15 hH, ↓bL_g16 hH, ↓bL_g17 hH, ↓bL_ld1 hH, ↓bL_ld2 hH, ↓bL_ld3 hH, ↓bL_ld4 hH, ↓bL_ld5 hH, ↓bL_ld6 hH, ↓bL_ld7 hH, ↓bL_ld8 hH, ↓bL_ld9 hH, ↓bL_ld10 hH, ↓bL_ld11 hH, ↓bL_ld12 hH, ↓bL_st1 hH, ↓bL_st2 hH, ↓bL_st3 hH, ↓bL_st4 hH, ↓bL_st5 hH, ↓bL_st6 hH, ↓bL_st7 hH, ↓bL_st8 hH, ↓bL_st9 hH, ↓bL_st10 hH, ↓bL_st11 hH, ↓bL_st12 hH, Int.toNat_add, Int.toNat_mul, Int.toNat_natCast, Int.reduceToNat, Nat.reduceAdd, Nat.reduceMul, e00, e4, oa, ↓bitCount_w, ↓bt_inv hT, ↓tied_w hT tJ, ↓i_bc_t ca]
            exact hnx d _ _ (by omega) ⟨q + 1, rfl, rfl, by omega, hF, hV'⟩
          · by_cases cl : ((pcN (shN (ld I (c + 3)) h q) : Nat) : Int) < F
            · rw [mtS_t ⟨cq, ca, cl⟩] at hV'
              simp (disch := omega) only [↓i_lt_t, ↓i_lt_f, ↓i_eq_t, ↓i_eq_f, ↓i_bi_t, ↓i_bi_f, ↓i_some, ↓bC_g0 hC, ↓bC_g1 hC, ↓bC_g2 hC, ↓bC_g3 hC, ↓bC_g4 hC, ↓bC_g5 hC, ↓bC_g6 hC, ↓bC_g7 hC, ↓bC_g8 hC, ↓bC_g9 hC, ↓bC_g10 hC, ↓bC_inv hC, ↓bL_gI hH, ↓bL_inv hH, ↓bL_g6 hH, ↓bL_g7 hH, ↓bL_g8 hH, ↓bL_g9 hH, ↓bL_g10 hH, ↓bL_g11 hH, ↓bL_g12 hH, ↓bL_g13 hH, ↓bL_g14 hH, ↓bL_g15 hH, ↓bL_g16 hH, ↓bL_g17 hH, ↓bL_ld1 hH, ↓bL_ld2 hH, ↓bL_ld3 hH, ↓bL_ld4 hH, ↓bL_ld5 hH, ↓bL_ld6 hH, ↓bL_ld7 hH, ↓bL_ld8 hH, ↓bL_ld9 hH, ↓bL_ld10 hH, ↓bL_ld11 hH, ↓bL_ld12 hH, ↓bL_st1 hH, ↓bL_st2 hH, ↓bL_st3 hH, ↓bL_st4 hH, ↓bL_st5 hH, ↓bL_st6 hH, ↓bL_st7 hH, ↓bL_st8 hH, ↓bL_st9 hH, ↓bL_st10 hH, ↓bL_st11 hH, ↓bL_st12 hH, Int.toNat_add, Int.toNat_mul, Int.toNat_natCast, Int.reduceToNat, Nat.reduceAdd, Nat.reduceMul, e00, e4, oa, ↓bitCount_w, ↓bt_inv hT, ↓tied_w hT tJ, ↓i_bc_f ca]
              exact hnx d _ _ (by omega) ⟨q + 1, rfl, rfl, by omega, by dsimp only; omega, hV'⟩
            · rw [mtS_f (fun z => cl z.2.2)] at hV'
              simp (disch := omega) only [↓i_lt_t, ↓i_lt_f, ↓i_eq_t, ↓i_eq_f, ↓i_bi_t, ↓i_bi_f, ↓i_some, ↓bC_g0 hC, ↓bC_g1 hC, ↓bC_g2 hC, ↓bC_g3 hC, ↓bC_g4 hC, ↓bC_g5 hC, ↓bC_g6 hC, ↓bC_g7 hC, ↓bC_g8 hC, ↓bC_g9 hC, ↓bC_g10 hC, ↓bC_inv hC, ↓bL_gI hH, ↓bL_inv hH, ↓bL_g6 hH, ↓bL_g7 hH, ↓bL_g8 hH, ↓bL_g9 hH, ↓bL_g10 hH, ↓bL_g11 hH, ↓bL_g12 hH, ↓bL_g13 hH, ↓bL_g14 hH, ↓bL_g15 hH, ↓bL_g16 hH, ↓bL_g17 hH, ↓bL_ld1 hH, ↓bL_ld2 hH, ↓bL_ld3 hH, ↓bL_ld4 hH, ↓bL_ld5 hH, ↓bL_ld6 hH, ↓bL_ld7 hH, ↓bL_ld8 hH, ↓bL_ld9 hH, ↓bL_ld10 hH, ↓bL_ld11 hH, ↓bL_ld12 hH, ↓bL_st1 hH, ↓bL_st2 hH, ↓bL_st3 hH, ↓bL_st4 hH, ↓bL_st5 hH, ↓bL_st6 hH, ↓bL_st7 hH, ↓bL_st8 hH, ↓bL_st9 hH, ↓bL_st10 hH, ↓bL_st11 hH, ↓bL_st12 hH, Int.toNat_add, Int.toNat_mul, Int.toNat_natCast, Int.reduceToNat, Nat.reduceAdd, Nat.reduceMul, e00, e4, oa, ↓bitCount_w, ↓bt_inv hT, ↓tied_w hT tJ, ↓i_bc_f ca]
              exact hnx d _ _ (by omega) ⟨q + 1, rfl, rfl, by omega, hF, hV'⟩
    · rw [← el]
      unfold mX11_mate
      simp (disch := omega) only [↓i_lt_t, ↓i_lt_f, ↓i_eq_t, ↓i_eq_f, ↓i_bi_t, ↓i_bi_f, ↓i_some, ↓bM_gI hM, ↓bM_pI hM, ↓bM_inv hM, ↓bM_g1 hM, ↓bM_g2 hM, ↓bM_g3 hM, ↓bM_g4 hM, ↓bM_g15 hM, ↓bM_g16 hM, ↓bM_g22 hM, ↓bM_g23 hM, ↓bM_g24 hM, ↓bM_g25 hM, ↓bM_g28 hM, ↓bM_g29 hM, ↓bM_g30 hM, ↓bM_g32 hM, ↓bM_g33 hM, ↓bM_g34 hM, ↓bM_g36 hM, ↓bM_g37 hM, ↓bM_g41 hM, ↓bM_g42 hM, ↓bM_g43 hM, ↓bM_ld1 hM, ↓bM_ld2 hM, ↓bM_ld3 hM, ↓bM_ld4 hM, ↓bM_ld5 hM, ↓bM_ld6 hM, ↓bM_ld7 hM, ↓bM_ld8 hM, ↓bM_ld9 hM, ↓bM_ld10 hM, ↓bM_ld11 hM, ↓bM_ld12 hM, ↓bM_ld13 hM, ↓bM_ld14 hM, ↓bM_ld15 hM, ↓bM_ld16 hM, ↓bM_ld17 hM, ↓bM_ld18 hM, ↓bM_ld19 hM, ↓bM_ld20 hM, ↓bM_ld21 hM, ↓bM_st1 hM, ↓bM_st2 hM, ↓bM_st3 hM, ↓bM_st4 hM, ↓bM_st5 hM, ↓bM_st6 hM, ↓bM_st7 hM, ↓bM_st8 hM, ↓bM_st9 hM, ↓bM_st10 hM, ↓bM_st11 hM, ↓bM_st12 hM, ↓bM_st13 hM, ↓bM_st14 hM, ↓bM_st15 hM, ↓bM_st16 hM, ↓bM_st17 hM, ↓bM_st18 hM, ↓bM_st19 hM, ↓bM_st20 hM, ↓bM_st21 hM, ↓isHouse_w hM lr' hk]
      refine lp_ind (fun d (v : Int × Int × Int) ν => ∃ (q : Nat) (z : Int × Int), ν = wi μ (wm J (c + 193) (up2 (ld I (c + 193)) 0 0 0)) ∧ v.2.2 = (q : Int) ∧ (q : Int) + d = ld I (c + 3) 0 0 ∧ z.1 = v.1 ∧ ((z = (-1, 13)) ∨ (z.2 = v.2.1 ∧ 0 ≤ v.1 ∧ v.1 < 10 ∧ 0 ≤ v.2.1 ∧ v.2.1 ≤ 12)) ∧ itr (mtS (ld I (c + 3)) h) q d z = itr (mtS (ld I (c + 3)) h) 0 (ld I (c + 3) 0 0).toNat (-1, 13)) (fun X => X = some ((itr (mtS (ld I (c + 3)) h) 0 (ld I (c + 3) 0 0).toNat (-1, 13)).1, wi μ (wm J (c + 193) (up2 (ld I (c + 193)) 0 0 0)))) (fun d v ν nx hP hnx => ?_) n (ld I (c + 3) 0 0).toNat _ _ (by omega) ⟨0, (-1, 13), rfl, rfl, by omega, rfl, Or.inl rfl, rfl⟩
      obtain ⟨q, z, rfl, e3, h1, hz1, hF, hV⟩ := hP
      obtain ⟨M, F, kk⟩ := v
      dsimp only at e3 hz1 hF
      subst e3
      cases d with
      | zero =>
        have hV' : z = _ := hV
        simp (disch := omega) only [↓i_lt_t, ↓i_lt_f, ↓i_eq_t, ↓i_eq_f, ↓i_bi_t, ↓i_bi_f, ↓i_some, ↓bM_gI hM, ↓bM_pI hM, ↓bM_inv hM, ↓bM_g1 hM, ↓bM_g2 hM, ↓bM_g3 hM, ↓bM_g4 hM, ↓bM_g15 hM, ↓bM_g16 hM, ↓bM_g22 hM, ↓bM_g23 hM, ↓bM_g24 hM, ↓bM_g25 hM, ↓bM_g28 hM, ↓bM_g29 hM, ↓bM_g30 hM, ↓bM_g32 hM, ↓bM_g33 hM, ↓bM_g34 hM, ↓bM_g36 hM, ↓bM_g37 hM, ↓bM_g41 hM, ↓bM_g42 hM, ↓bM_g43 hM, ↓bM_ld1 hM, ↓bM_ld2 hM, ↓bM_ld3 hM, ↓bM_ld4 hM, ↓bM_ld5 hM, ↓bM_ld6 hM, ↓bM_ld7 hM, ↓bM_ld8 hM, ↓bM_ld9 hM, ↓bM_ld10 hM, ↓bM_ld11 hM, ↓bM_ld12 hM, ↓bM_ld13 hM, ↓bM_ld14 hM, ↓bM_ld15 hM, ↓bM_ld16 hM, ↓bM_ld17 hM, ↓bM_ld18 hM, ↓bM_ld19 hM, ↓bM_ld20 hM, ↓bM_ld21 hM, ↓bM_st1 hM, ↓bM_st2 hM, ↓bM_st3 hM, ↓bM_st4 hM, ↓bM_st5 hM, ↓bM_st6 hM, ↓bM_st7 hM, ↓bM_st8 hM, ↓bM_st9 hM, ↓bM_st10 hM, ↓bM_st11 hM, ↓bM_st12 hM, ↓bM_st13 hM, ↓bM_st14 hM, ↓bM_st15 hM, ↓bM_st16 hM, ↓bM_st17 hM, ↓bM_st18 hM, ↓bM_st19 hM, ↓bM_st20 hM, ↓bM_st21 hM, Int.toNat_add, Int.toNat_mul, Int.toNat_natCast, Int.reduceToNat, Nat.reduceAdd, Nat.reduceMul, a0]
        rw [← hV', hz1]
      | succ d =>
        have oa := oAnd_th (x := h) (y := q) hk (by omega) (by omega)
        have sl := shN_lt (x := h) (y := q) hk (by omega)
        have pl := pcN_le (shN (ld I (c + 3)) h q)
        have k1 := (lr'.2.1 h ch.2).2.2.2.1
        have k2 := (lr'.2.1 q (by omega)).2.2.2.1
        have hV' : itr (mtS (ld I (c + 3)) h) (q + 1) d (mtS (ld I (c + 3)) h q z) = _ := hV
        by_cases cq : q = h
        · rw [mtS_f (fun z => z.1 cq)] at hV'
          simp (disch := omega) only [↓i_lt_t, ↓i_lt_f, ↓i_eq_t, ↓i_eq_f, ↓i_bi_t, ↓i_bi_f, ↓i_some, ↓bM_gI hM, ↓bM_pI hM, ↓bM_inv hM, ↓bM_g1 hM, ↓bM_g2 hM, ↓bM_g3 hM, ↓bM_g4 hM, ↓bM_g15 hM, ↓bM_g16 hM, ↓bM_g22 hM, ↓bM_g23 hM, ↓bM_g24 hM, ↓bM_g25 hM, ↓bM_g28 hM, ↓bM_g29 hM, ↓bM_g30 hM, ↓bM_g32 hM, ↓bM_g33 hM, ↓bM_g34 hM, ↓bM_g36 hM, ↓bM_g37 hM, ↓bM_g41 hM, ↓bM_g42 hM, ↓bM_g43 hM, ↓bM_ld1 hM, ↓bM_ld2 hM, ↓bM_ld3 hM, ↓bM_ld4 hM, ↓bM_ld5 hM, ↓bM_ld6 hM, ↓bM_ld7 hM, ↓bM_ld8 hM, ↓bM_ld9 hM, ↓bM_ld10 hM, ↓bM_ld11 hM, ↓bM_ld12 hM, ↓bM_ld13 hM, ↓bM_ld14 hM, ↓bM_ld15 hM, ↓bM_ld16 hM, ↓bM_ld17 hM, ↓bM_ld18 hM, ↓bM_ld19 hM, ↓bM_ld20 hM, ↓bM_ld21 hM, ↓bM_st1 hM, ↓bM_st2 hM, ↓bM_st3 hM, ↓bM_st4 hM, ↓bM_st5 hM, ↓bM_st6 hM, ↓bM_st7 hM, ↓bM_st8 hM, ↓bM_st9 hM, ↓bM_st10 hM, ↓bM_st11 hM, ↓bM_st12 hM, ↓bM_st13 hM, ↓bM_st14 hM, ↓bM_st15 hM, ↓bM_st16 hM, ↓bM_st17 hM, ↓bM_st18 hM, ↓bM_st19 hM, ↓bM_st20 hM, ↓bM_st21 hM, Int.toNat_add, Int.toNat_mul, Int.toNat_natCast, Int.reduceToNat, Nat.reduceAdd, Nat.reduceMul, a0, k1, k2, oa, ↓bitsOf_w]
          exact hnx d _ _ (by omega) ⟨q + 1, z, rfl, rfl, by omega, hz1, hF, hV'⟩
        · by_cases ca : adj (ld I (c + 3)) (-1) h q
          · rw [mtS_f (fun z => z.2.1 ca)] at hV'
            simp (disch := omega) only [↓i_lt_t, ↓i_lt_f, ↓i_eq_t, ↓i_eq_f, ↓i_bi_t, ↓i_bi_f, ↓i_some, ↓bM_gI hM, ↓bM_pI hM, ↓bM_inv hM, ↓bM_g1 hM, ↓bM_g2 hM, ↓bM_g3 hM, ↓bM_g4 hM, ↓bM_g15 hM, ↓bM_g16 hM, ↓bM_g22 hM, ↓bM_g23 hM, ↓bM_g24 hM, ↓bM_g25 hM, ↓bM_g28 hM, ↓bM_g29 hM, ↓bM_g30 hM, ↓bM_g32 hM, ↓bM_g33 hM, ↓bM_g34 hM, ↓bM_g36 hM, ↓bM_g37 hM, ↓bM_g41 hM, ↓bM_g42 hM, ↓bM_g43 hM, ↓bM_ld1 hM, ↓bM_ld2 hM, ↓bM_ld3 hM, ↓bM_ld4 hM, ↓bM_ld5 hM, ↓bM_ld6 hM, ↓bM_ld7 hM, ↓bM_ld8 hM, ↓bM_ld9 hM, ↓bM_ld10 hM, ↓bM_ld11 hM, ↓bM_ld12 hM, ↓bM_ld13 hM, ↓bM_ld14 hM, ↓bM_ld15 hM, ↓bM_ld16 hM, ↓bM_ld17 hM, ↓bM_ld18 hM, ↓bM_ld19 hM, ↓bM_ld20 hM, ↓bM_ld21 hM, ↓bM_st1 hM, ↓bM_st2 hM, ↓bM_st3 hM, ↓bM_st4 hM, ↓bM_st5 hM, ↓bM_st6 hM, ↓bM_st7 hM, ↓bM_st8 hM, ↓bM_st9 hM, ↓bM_st10 hM, ↓bM_st11 hM, ↓bM_st12 hM, ↓bM_st13 hM, ↓bM_st14 hM, ↓bM_st15 hM, ↓bM_st16 hM, ↓bM_st17 hM, ↓bM_st18 hM, ↓bM_st19 hM, ↓bM_st20 hM, ↓bM_st21 hM, Int.toNat_add, Int.toNat_mul, Int.toNat_natCast, Int.reduceToNat, Nat.reduceAdd, Nat.reduceMul, a0, k1, k2, oa, ↓bitsOf_w, ↓haveRope_w hM lr' hk, ↓i_bc_t ca]
            exact hnx d _ _ (by omega) ⟨q + 1, z, rfl, rfl, by omega, hz1, hF, hV'⟩
          · rcases hF with rfl | ⟨f1, f2, f3, f4, f5⟩
            · rw [mtS_t ⟨cq, ca, by dsimp only; omega⟩] at hV'
              obtain rfl : M = -1 := hz1.symm
              simp (disch := omega) only [↓i_lt_t, ↓i_lt_f, ↓i_eq_t, ↓i_eq_f, ↓i_bi_t, ↓i_bi_f, ↓i_some, ↓bM_gI hM, ↓bM_pI hM, ↓bM_inv hM, ↓bM_g1 hM, ↓bM_g2 hM, ↓bM_g3 hM, ↓bM_g4 hM, ↓bM_g15 hM, ↓bM_g16 hM, ↓bM_g22 hM, ↓bM_g23 hM, ↓bM_g24 hM, ↓bM_g25 hM, ↓bM_g28 hM, ↓bM_g29 hM, ↓bM_g30 hM, ↓bM_g32 hM, ↓bM_g33 hM, ↓bM_g34 hM, ↓bM_g36 hM, ↓bM_g37 hM, ↓bM_g41 hM, ↓bM_g42 hM, ↓bM_g43 hM, ↓bM_ld1 hM, ↓bM_ld2 hM, ↓bM_ld3 hM, ↓bM_ld4 hM, ↓bM_ld5 hM, ↓bM_ld6 hM, ↓bM_ld7 hM, ↓bM_ld8 hM, ↓bM_ld9 hM, ↓bM_ld10 hM, ↓bM_ld11 hM, ↓bM_ld12 hM, ↓bM_ld13 hM, ↓bM_ld14 hM, ↓bM_ld15 hM, ↓bM_ld16 hM, ↓bM_ld17 hM, ↓bM_ld18 hM, ↓bM_ld19 hM, ↓bM_ld20 hM, ↓bM_ld21 hM, ↓bM_st1 hM, ↓bM_st2 hM, ↓bM_st3 hM, ↓bM_st4 hM, ↓bM_st5 hM, ↓bM_st6 hM, ↓bM_st7 hM, ↓bM_st8 hM, ↓bM_st9 hM, ↓bM_st10 hM, ↓bM_st11 hM, ↓bM_st12 hM, ↓bM_st13 hM, ↓bM_st14 hM, ↓bM_st15 hM, ↓bM_st16 hM, ↓bM_st17 hM, ↓bM_st18 hM, ↓bM_st19 hM, ↓bM_st20 hM, ↓bM_st21 hM, Int.toNat_add, Int.toNat_mul, Int.toNat_natCast, Int.reduceToNat, Nat.reduceAdd, Nat.reduceMul, a0, k1, k2, oa, ↓bitsOf_w, ↓haveRope_w hM lr' hk, ↓i_bc_f ca]
              exact hnx d _ _ (by omega) ⟨q + 1, _, rfl, rfl, by omega, rfl, Or.inr ⟨rfl, by dsimp only; omega, by dsimp only; omega, by dsimp only; omega, by dsimp only; omega⟩, hV'⟩
            · by_cases cl : ((pcN (shN (ld I (c + 3)) h q) : Nat) : Int) < F
              · rw [mtS_t ⟨cq, ca, by omega⟩] at hV'
                simp (disch := omega) only [↓i_lt_t, ↓i_lt_f, ↓i_eq_t, ↓i_eq_f, ↓i_bi_t, ↓i_bi_f, ↓i_some, ↓bM_gI hM, ↓bM_pI hM, ↓bM_inv hM, ↓bM_g1 hM, ↓bM_g2 hM, ↓bM_g3 hM, ↓bM_g4 hM, ↓bM_g15 hM, ↓bM_g16 hM, ↓bM_g22 hM, ↓bM_g23 hM, ↓bM_g24 hM, ↓bM_g25 hM, ↓bM_g28 hM, ↓bM_g29 hM, ↓bM_g30 hM, ↓bM_g32 hM, ↓bM_g33 hM, ↓bM_g34 hM, ↓bM_g36 hM, ↓bM_g37 hM, ↓bM_g41 hM, ↓bM_g42 hM, ↓bM_g43 hM, ↓bM_ld1 hM, ↓bM_ld2 hM, ↓bM_ld3 hM, ↓bM_ld4 hM, ↓bM_ld5 hM, ↓bM_ld6 hM, ↓bM_ld7 hM, ↓bM_ld8 hM, ↓bM_ld9 hM, ↓bM_ld10 hM, ↓bM_ld11 hM, ↓bM_ld12 hM, ↓bM_ld13 hM, ↓bM_ld14 hM, ↓bM_ld15 hM, ↓bM_ld16 hM, ↓bM_ld17 hM, ↓bM_ld18 hM, ↓bM_ld19 hM, ↓bM_ld20 hM, ↓bM_ld21 hM, ↓bM_st1 hM, ↓bM_st2 hM, ↓bM_st3 hM, ↓bM_st4 hM, ↓bM_st5 hM, ↓bM_st6 hM, ↓bM_st7 hM, ↓bM_st8 hM, ↓bM_st9 hM, ↓bM_st10 hM, ↓bM_st11 hM, ↓bM_st12 hM, ↓bM_st13 hM, ↓bM_st14 hM, ↓bM_st15 hM, ↓bM_st16 hM, ↓bM_st17 hM, ↓bM_st18 hM, ↓bM_st19 hM, ↓bM_st20 hM, ↓bM_st21 hM, Int.toNat_add, Int.toNat_mul, Int.toNat_natCast, Int.reduceToNat, Nat.reduceAdd, Nat.reduceMul, a0, k1, k2, oa, ↓bitsOf_w, ↓haveRope_w hM lr' hk, ↓i_bc_f ca]
                exact hnx d _ _ (by omega) ⟨q + 1, _, rfl, rfl, by omega, rfl, Or.inr ⟨rfl, by dsimp only; omega, by dsimp only; omega, by dsimp only; omega, by dsimp only; omega⟩, hV'⟩
              · rw [mtS_f (fun z => cl (by have := z.2.2; omega))] at hV'
                simp (disch := omega) only [↓i_lt_t, ↓i_lt_f, ↓i_eq_t, ↓i_eq_f, ↓i_bi_t, ↓i_bi_f, ↓i_some, ↓bM_gI hM, ↓bM_pI hM, ↓bM_inv hM, ↓bM_g1 hM, ↓bM_g2 hM, ↓bM_g3 hM, ↓bM_g4 hM, ↓bM_g15 hM, ↓bM_g16 hM, ↓bM_g22 hM, ↓bM_g23 hM, ↓bM_g24 hM, ↓bM_g25 hM, ↓bM_g28 hM, ↓bM_g29 hM, ↓bM_g30 hM, ↓bM_g32 hM, ↓bM_g33 hM, ↓bM_g34 hM, ↓bM_g36 hM, ↓bM_g37 hM, ↓bM_g41 hM, ↓bM_g42 hM, ↓bM_g43 hM, ↓bM_ld1 hM, ↓bM_ld2 hM, ↓bM_ld3 hM, ↓bM_ld4 hM, ↓bM_ld5 hM, ↓bM_ld6 hM, ↓bM_ld7 hM, ↓bM_ld8 hM, ↓bM_ld9 hM, ↓bM_ld10 hM, ↓bM_ld11 hM, ↓bM_ld12 hM, ↓bM_ld13 hM, ↓bM_ld14 hM, ↓bM_ld15 hM, ↓bM_ld16 hM, ↓bM_ld17 hM, ↓bM_ld18 hM, ↓bM_ld19 hM, ↓bM_ld20 hM, ↓bM_ld21 hM, ↓bM_st1 hM, ↓bM_st2 hM, ↓bM_st3 hM, ↓bM_st4 hM, ↓bM_st5 hM, ↓bM_st6 hM, ↓bM_st7 hM, ↓bM_st8 hM, ↓bM_st9 hM, ↓bM_st10 hM, ↓bM_st11 hM, ↓bM_st12 hM, ↓bM_st13 hM, ↓bM_st14 hM, ↓bM_st15 hM, ↓bM_st16 hM, ↓bM_st17 hM, ↓bM_st18 hM, ↓bM_st19 hM, ↓bM_st20 hM, ↓bM_st21 hM, Int.toNat_add, Int.toNat_mul, Int.toNat_natCast, Int.reduceToNat, Nat.reduceAdd, Nat.reduceMul, a0, k1, k2, oa, ↓bitsOf_w, ↓haveRope_w hM lr' hk, ↓i_bc_f ca]
                exact hnx d _ _ (by omega) ⟨q + 1, z, rfl, rfl, by omega, hz1, Or.inr ⟨f1, f2, f3, f4, f5⟩, hV'⟩
    · rw [jr]; exact (Fr.f0 _ (Or.inl rfl)).w
    · rw [s1]
      exact hR.1.cg (fun k hk => cJ _ (by unfold tmp; omega))
  · refine Both.q (v := -2) hR ?_ ?_
    · unfold mX10_mate
      simp (disch := omega) only [↓i_lt_t, ↓i_lt_f, ↓i_eq_t, ↓i_eq_f, ↓i_bi_t, ↓i_bi_f, ↓i_some, ↓bC_g0 hC, ↓bC_g1 hC, ↓bC_g2 hC, ↓bC_g3 hC, ↓bC_g4 hC, ↓bC_g5 hC, ↓bC_g6 hC, ↓bC_g7 hC, ↓bC_g8 hC, ↓bC_g9 hC, ↓bC_g10 hC, ↓bC_inv hC, ↓bL_inv hH, ↓hasHouse_w hH hk]
    · unfold mX11_mate
      simp (disch := omega) only [↓i_lt_t, ↓i_lt_f, ↓i_eq_t, ↓i_eq_f, ↓i_bi_t, ↓i_bi_f, ↓i_some, ↓bM_gI hM, ↓bM_pI hM, ↓bM_inv hM, ↓bM_g1 hM, ↓bM_g2 hM, ↓bM_g3 hM, ↓bM_g4 hM, ↓bM_g15 hM, ↓bM_g16 hM, ↓bM_g22 hM, ↓bM_g23 hM, ↓bM_g24 hM, ↓bM_g25 hM, ↓bM_g28 hM, ↓bM_g29 hM, ↓bM_g30 hM, ↓bM_g32 hM, ↓bM_g33 hM, ↓bM_g34 hM, ↓bM_g36 hM, ↓bM_g37 hM, ↓bM_g41 hM, ↓bM_g42 hM, ↓bM_g43 hM, ↓bM_ld1 hM, ↓bM_ld2 hM, ↓bM_ld3 hM, ↓bM_ld4 hM, ↓bM_ld5 hM, ↓bM_ld6 hM, ↓bM_ld7 hM, ↓bM_ld8 hM, ↓bM_ld9 hM, ↓bM_ld10 hM, ↓bM_ld11 hM, ↓bM_ld12 hM, ↓bM_ld13 hM, ↓bM_ld14 hM, ↓bM_ld15 hM, ↓bM_ld16 hM, ↓bM_ld17 hM, ↓bM_ld18 hM, ↓bM_ld19 hM, ↓bM_ld20 hM, ↓bM_ld21 hM, ↓bM_st1 hM, ↓bM_st2 hM, ↓bM_st3 hM, ↓bM_st4 hM, ↓bM_st5 hM, ↓bM_st6 hM, ↓bM_st7 hM, ↓bM_st8 hM, ↓bM_st9 hM, ↓bM_st10 hM, ↓bM_st11 hM, ↓bM_st12 hM, ↓bM_st13 hM, ↓bM_st14 hM, ↓bM_st15 hM, ↓bM_st16 hM, ↓bM_st17 hM, ↓bM_st18 hM, ↓bM_st19 hM, ↓bM_st20 hM, ↓bM_st21 hM, ↓isHouse_w hM lr' hk]
end MT
