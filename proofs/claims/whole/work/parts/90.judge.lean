/-! judge and perform of both -/
section JU
variable {μ : Mem} {I : Nat → Nat → Int} {c m n : Nat} {s l : Ld} {β : Type}
theorem yB_at (y : Nat → Int) : yB y 0 = -1 ∧ yB y 1 = 0 ∧ yB y 2 = 0 ∧ yB y 3 = 0 ∧ yB y 4 = 0 ∧ yB y 7 = 0 := by
  unfold yB
  refine ⟨?_, ?_, ?_, ?_, ?_, upA_s⟩
  · rw [upA_n (by decide), upA_n (by decide), upA_n (by decide), upA_n (by decide), upA_n (by decide), upA_n (by decide), upA_s]
  · rw [upA_n (by decide), upA_n (by decide), upA_n (by decide), upA_n (by decide), upA_n (by decide), upA_s]
  · rw [upA_n (by decide), upA_n (by decide), upA_n (by decide), upA_n (by decide), upA_s]
  · rw [upA_n (by decide), upA_n (by decide), upA_n (by decide), upA_s]
  · rw [upA_n (by decide), upA_n (by decide), upA_s]
theorem both_perform (hC : isC μ c) (hM : isM μ (c + 193)) (hR : RelC c I) {b : Int} (hb : -2147483648 ≤ b ∧ b < 2147483648) (hn : 20000 ≤ n) : Both μ c I (mX10_perform n c b) (mX11_perform n (c + 193) b) := by
  obtain ⟨hk, lr, lq, h0, h9⟩ := id hR.1
  have hH := hC.here
  have hY := hC.ty
  by_cases c1 : 0 ≤ b ∧ b ≤ 3
  · obtain ⟨i, rfl⟩ : ∃ i : Nat, b = (i : Int) := ⟨b.toNat, by omega⟩
    have hi : i < 4 := by omega
    have hN := hC.row hi
    obtain ⟨r1, r2, r3, r4, r5⟩ := hR.2.2.1 i hi
    have s19 : up2 (ld I (c + 193)) 0 0 0 19 i = I (c + 185 + 2 * i) 1 := (congrFun (up2_row (by decide)) i).trans r1.symm
    by_cases c2 : I (c + 185 + 2 * i) 1 = -1
    · refine Both.q (v := -6) hR ?_ ?_
      · unfold mX10_perform
        simp (disch := omega) only [↓i_lt_t, ↓i_lt_f, ↓i_eq_t, ↓i_eq_f, ↓i_bi_t, ↓i_bi_f, ↓i_some, ↓bC_g0 hC, ↓bC_g1 hC, ↓bC_g2 hC, ↓bC_g3 hC, ↓bC_g4 hC, ↓bC_g5 hC, ↓bC_g6 hC, ↓bC_g7 hC, ↓bC_g8 hC, ↓bC_g9 hC, ↓bC_g10 hC, ↓bC_inv hC, ↓isRow_w, ↓bC_row hC, ↓bN_inv hN, ↓isMissing_w hN]
      · unfold mX11_perform
        simp (disch := omega) only [↓i_lt_t, ↓i_lt_f, ↓i_eq_t, ↓i_eq_f, ↓i_bi_t, ↓i_bi_f, ↓i_some, ↓bM_gI hM, ↓bM_pI hM, ↓bM_inv hM, ↓bM_g1 hM, ↓bM_g2 hM, ↓bM_g3 hM, ↓bM_g4 hM, ↓bM_g15 hM, ↓bM_g16 hM, ↓bM_g22 hM, ↓bM_g23 hM, ↓bM_g24 hM, ↓bM_g25 hM, ↓bM_g28 hM, ↓bM_g29 hM, ↓bM_g30 hM, ↓bM_g32 hM, ↓bM_g33 hM, ↓bM_g34 hM, ↓bM_g36 hM, ↓bM_g37 hM, ↓bM_g41 hM, ↓bM_g42 hM, ↓bM_g43 hM, ↓bM_ld1 hM, ↓bM_ld2 hM, ↓bM_ld3 hM, ↓bM_ld4 hM, ↓bM_ld5 hM, ↓bM_ld6 hM, ↓bM_ld7 hM, ↓bM_ld8 hM, ↓bM_ld9 hM, ↓bM_ld10 hM, ↓bM_ld11 hM, ↓bM_ld12 hM, ↓bM_ld13 hM, ↓bM_ld14 hM, ↓bM_ld15 hM, ↓bM_ld16 hM, ↓bM_ld17 hM, ↓bM_ld18 hM, ↓bM_ld19 hM, ↓bM_ld20 hM, ↓bM_ld21 hM, ↓bM_st1 hM, ↓bM_st2 hM, ↓bM_st3 hM, ↓bM_st4 hM, ↓bM_st5 hM, ↓bM_st6 hM, ↓bM_st7 hM, ↓bM_st8 hM, ↓bM_st9 hM, ↓bM_st10 hM, ↓bM_st11 hM, ↓bM_st12 hM, ↓bM_st13 hM, ↓bM_st14 hM, ↓bM_st15 hM, ↓bM_st16 hM, ↓bM_st17 hM, ↓bM_st18 hM, ↓bM_st19 hM, ↓bM_st20 hM, ↓bM_st21 hM, ↓within_w, Int.toNat_add, Int.toNat_mul, Int.toNat_natCast, Int.reduceToNat, Nat.reduceAdd, Nat.reduceMul, s19]
    · have hd := tdoTold (n := n) (I := I) (t := c + 32) (a := c + 3) (r := c + 185 + 2 * i) (y := I (c + 32)) (p := I (c + 32 + 1)) (l := ld I (c + 3)) hH hY hN (by omega) (by omega) (by omega) hk (by omega) r4 (fun k hk => (r5 k hk).1) hn rfl
      rw [wlwT_id] at hd
      have hm := fun J (hl : RLl (ld I (c + 3)) (up2 (ld J (c + 193)) 0 0 0 1)) (h20 : up2 (ld J (c + 193)) 0 0 0 20 i = I (c + 185 + 2 * i) 0) (h21 : ∀ j : Nat, up2 (ld J (c + 193)) 0 0 0 21 j = I (c + 193 + 21) j) => hoursOf_m (n := n) (μ := μ) (I := J) (s := up2 (ld J (c + 193)) 0 0 0) (l := ld I (c + 3)) hM hl hi (yr := I (c + 185 + 2 * i)) (pr := I (c + 185 + 2 * i + 1)) h20 r4 (fun k hk => ⟨(r5 k hk).1, fun z => (h21 _).trans ((r5 k hk).2 z)⟩) (y := yB (I (c + 32))) (p := flR (I (c + 32 + 1)) 10 (-1)) (fun j hj => flR_lt hj) (yB_at _) hn rfl
      generalize tlL (I (c + 185 + 2 * i)) (I (c + 185 + 2 * i + 1)) (ld I (c + 3), yB (I (c + 32)), flR (I (c + 32 + 1)) 10 (-1)) = Z at hd hm
      have oJ : CFh c I (wl (wT I (c + 32) Z.2.1 Z.2.2) (c + 3) Z.1) := fun b h1 h2 => by
        unfold tmp at h1
        rw [wl_out (by omega), wT_o (by omega)]
      have y32 : (wl (wT I (c + 32) Z.2.1 Z.2.2) (c + 3) Z.1) (c + 32) = Z.2.1 := by rw [wl_out (by omega), wT_y]
      have l3 : ∀ k : Nat, k ≤ 12 → ld (wl (wT I (c + 32) Z.2.1 Z.2.2) (c + 3) Z.1) (c + 3) k = Z.1 k := fun k hk => wl_row hk
      generalize wl (wT I (c + 32) Z.2.1 Z.2.2) (c + 3) Z.1 = J at hd oJ y32 l3
      have jr : ∀ k : Nat, k ≤ 21 → ld J (c + 193) k = I (c + 193 + k) := fun k hk => oJ _ (by unfold tmp; omega) (by omega)
      have u1 : up2 (ld J (c + 193)) 0 0 0 1 = I (c + 193 + 1) := (up2_row (by decide)).trans (jr 1 (by decide))
      have u19 : up2 (ld J (c + 193)) 0 0 0 19 i = I (c + 185 + 2 * i) 1 := by rw [up2_row (by decide), jr 19 (by decide)]; exact r1.symm
      obtain ⟨s', fr, hl', -, w18, -, -, e⟩ := hm J (by rw [u1]; exact hR.1) (by rw [up2_row (by decide), jr 20 (by decide)]; exact r3.symm) (fun j => by rw [up2_row (by decide), jr 21 (by decide)])
      have bt : ∀ (k : Nat) (f : Int → Option (Int × Mem)), (gI (wi μ J) 8 (c + 32) k).bind f = f (Z.2.1 k) := fun k f => (bnd (e_gI hY.k) f).trans (by rw [y32])
      have bi8 : ∀ {ρ : Type} {K : Nat → Nat → Int} (X : Option ρ) (f : ρ → Option (Int × Mem)), (inv (wi μ K) 8 (c + 32) X).bind f = X.bind f := fun X f => by rw [tinv hY]
      refine Both.mk (v := Z.2.1 2) (s' := s') hR oJ ?_ ?_ ((Fr.f0 _ (Or.inl rfl)).tr fr).w (hl'.cg l3)
      · unfold mX10_perform
        simp (disch := omega) only [↓i_lt_t, ↓i_lt_f, ↓i_eq_t, ↓i_eq_f, ↓i_bi_t, ↓i_bi_f, ↓i_some, ↓bC_g0 hC, ↓bC_g1 hC, ↓bC_g2 hC, ↓bC_g3 hC, ↓bC_g4 hC, ↓bC_g5 hC, ↓bC_g6 hC, ↓bC_g7 hC, ↓bC_g8 hC, ↓bC_g9 hC, ↓bC_g10 hC, ↓bC_inv hC, ↓isRow_w, ↓bC_row hC, ↓bN_inv hN, ↓isMissing_w hN, ↓bi8, ↓bnd hd, ↓bt]
      · rw [← ldwm J (c + 193)]
        unfold mX11_perform
        simp (disch := omega) only [↓i_lt_t, ↓i_lt_f, ↓i_eq_t, ↓i_eq_f, ↓i_bi_t, ↓i_bi_f, ↓i_some, ↓bM_gI hM, ↓bM_pI hM, ↓bM_inv hM, ↓bM_g1 hM, ↓bM_g2 hM, ↓bM_g3 hM, ↓bM_g4 hM, ↓bM_g15 hM, ↓bM_g16 hM, ↓bM_g22 hM, ↓bM_g23 hM, ↓bM_g24 hM, ↓bM_g25 hM, ↓bM_g28 hM, ↓bM_g29 hM, ↓bM_g30 hM, ↓bM_g32 hM, ↓bM_g33 hM, ↓bM_g34 hM, ↓bM_g36 hM, ↓bM_g37 hM, ↓bM_g41 hM, ↓bM_g42 hM, ↓bM_g43 hM, ↓bM_ld1 hM, ↓bM_ld2 hM, ↓bM_ld3 hM, ↓bM_ld4 hM, ↓bM_ld5 hM, ↓bM_ld6 hM, ↓bM_ld7 hM, ↓bM_ld8 hM, ↓bM_ld9 hM, ↓bM_ld10 hM, ↓bM_ld11 hM, ↓bM_ld12 hM, ↓bM_ld13 hM, ↓bM_ld14 hM, ↓bM_ld15 hM, ↓bM_ld16 hM, ↓bM_ld17 hM, ↓bM_ld18 hM, ↓bM_ld19 hM, ↓bM_ld20 hM, ↓bM_ld21 hM, ↓bM_st1 hM, ↓bM_st2 hM, ↓bM_st3 hM, ↓bM_st4 hM, ↓bM_st5 hM, ↓bM_st6 hM, ↓bM_st7 hM, ↓bM_st8 hM, ↓bM_st9 hM, ↓bM_st10 hM, ↓bM_st11 hM, ↓bM_st12 hM, ↓bM_st13 hM, ↓bM_st14 hM, ↓bM_st15 hM, ↓bM_st16 hM, ↓bM_st17 hM, ↓bM_st18 hM, ↓bM_st19 hM, ↓bM_st20 hM, ↓bM_st21 hM, ↓within_w, Int.toNat_add, Int.toNat_mul, Int.toNat_natCast, Int.reduceToNat, Nat.reduceAdd, Nat.reduceMul, u19, ↓bnd e, w18]
  · refine Both.q (v := -2) hR ?_ ?_
    · unfold mX10_perform
      simp (disch := omega) only [↓i_lt_t, ↓i_lt_f, ↓i_eq_t, ↓i_eq_f, ↓i_bi_t, ↓i_bi_f, ↓i_some, ↓bC_g0 hC, ↓bC_g1 hC, ↓bC_g2 hC, ↓bC_g3 hC, ↓bC_g4 hC, ↓bC_g5 hC, ↓bC_g6 hC, ↓bC_g7 hC, ↓bC_g8 hC, ↓bC_g9 hC, ↓bC_g10 hC, ↓bC_inv hC, ↓isRow_w]
    · unfold mX11_perform
      simp (disch := omega) only [↓i_lt_t, ↓i_lt_f, ↓i_eq_t, ↓i_eq_f, ↓i_bi_t, ↓i_bi_f, ↓i_some, ↓bM_gI hM, ↓bM_pI hM, ↓bM_inv hM, ↓bM_g1 hM, ↓bM_g2 hM, ↓bM_g3 hM, ↓bM_g4 hM, ↓bM_g15 hM, ↓bM_g16 hM, ↓bM_g22 hM, ↓bM_g23 hM, ↓bM_g24 hM, ↓bM_g25 hM, ↓bM_g28 hM, ↓bM_g29 hM, ↓bM_g30 hM, ↓bM_g32 hM, ↓bM_g33 hM, ↓bM_g34 hM, ↓bM_g36 hM, ↓bM_g37 hM, ↓bM_g41 hM, ↓bM_g42 hM, ↓bM_g43 hM, ↓bM_ld1 hM, ↓bM_ld2 hM, ↓bM_ld3 hM, ↓bM_ld4 hM, ↓bM_ld5 hM, ↓bM_ld6 hM, ↓bM_ld7 hM, ↓bM_ld8 hM, ↓bM_ld9 hM, ↓bM_ld10 hM, ↓bM_ld11 hM, ↓bM_ld12 hM, ↓bM_ld13 hM, ↓bM_ld14 hM, ↓bM_ld15 hM, ↓bM_ld16 hM, ↓bM_ld17 hM, ↓bM_ld18 hM, ↓bM_ld19 hM, ↓bM_ld20 hM, ↓bM_ld21 hM, ↓bM_st1 hM, ↓bM_st2 hM, ↓bM_st3 hM, ↓bM_st4 hM, ↓bM_st5 hM, ↓bM_st6 hM, ↓bM_st7 hM, ↓bM_st8 hM, ↓bM_st9 hM, ↓bM_st10 hM, ↓bM_st11 hM, ↓bM_st12 hM, ↓bM_st13 hM, ↓bM_st14 hM, ↓bM_st15 hM, ↓bM_st16 hM, ↓bM_st17 hM, ↓bM_st18 hM, ↓bM_st19 hM, ↓bM_st20 hM, ↓bM_st21 hM, ↓within_w]
def juV (y : Nat → Int) (x : Int) : Int := if x = 0 then y 0 else if x = 1 then y 1 else if x = 2 then y 2 else if x = 3 then y 3 else y 4
theorem both_judge (hC : isC μ c) (hM : isM μ (c + 193)) (hR : RelC c I) {b x : Int} (hb : -2147483648 ≤ b ∧ b < 2147483648) (hx : -2147483648 ≤ x ∧ x < 2147483648) (hn : 20000 ≤ n) : Both μ c I (mX10_judge n c b x) (mX11_judge n (c + 193) b x) := by
  obtain ⟨hk, lr, lq, h0, h9⟩ := id hR.1
  have hH := hC.here
  have hT := hC.trial
  have hY := hC.ty
  by_cases c1 : 0 ≤ b ∧ b ≤ 3
  · by_cases c3 : 0 ≤ x ∧ x ≤ 4
    · obtain ⟨i, rfl⟩ : ∃ i : Nat, b = (i : Int) := ⟨b.toNat, by omega⟩
      have hi : i < 4 := by omega
      have hN := hC.row hi
      obtain ⟨r1, r2, r3, r4, r5⟩ := hR.2.2.1 i hi
      have s19 : up2 (ld I (c + 193)) 0 0 0 19 i = I (c + 185 + 2 * i) 1 := (congrFun (up2_row (by decide)) i).trans r1.symm
      by_cases c2 : I (c + 185 + 2 * i) 1 = -1
      · refine Both.q (v := -6) hR ?_ ?_
        · unfold mX10_judge
          simp (disch := omega) only [↓i_lt_t, ↓i_lt_f, ↓i_eq_t, ↓i_eq_f, ↓i_bi_t, ↓i_bi_f, ↓i_some, ↓bC_g0 hC, ↓bC_g1 hC, ↓bC_g2 hC, ↓bC_g3 hC, ↓bC_g4 hC, ↓bC_g5 hC, ↓bC_g6 hC, ↓bC_g7 hC, ↓bC_g8 hC, ↓bC_g9 hC, ↓bC_g10 hC, ↓bC_inv hC, ↓isRow_w, ↓bC_row hC, ↓bN_inv hN, ↓isMissing_w hN]
        · unfold mX11_judge
          simp (disch := omega) only [↓i_lt_t, ↓i_lt_f, ↓i_eq_t, ↓i_eq_f, ↓i_bi_t, ↓i_bi_f, ↓i_some, ↓bM_gI hM, ↓bM_pI hM, ↓bM_inv hM, ↓bM_g1 hM, ↓bM_g2 hM, ↓bM_g3 hM, ↓bM_g4 hM, ↓bM_g15 hM, ↓bM_g16 hM, ↓bM_g22 hM, ↓bM_g23 hM, ↓bM_g24 hM, ↓bM_g25 hM, ↓bM_g28 hM, ↓bM_g29 hM, ↓bM_g30 hM, ↓bM_g32 hM, ↓bM_g33 hM, ↓bM_g34 hM, ↓bM_g36 hM, ↓bM_g37 hM, ↓bM_g41 hM, ↓bM_g42 hM, ↓bM_g43 hM, ↓bM_ld1 hM, ↓bM_ld2 hM, ↓bM_ld3 hM, ↓bM_ld4 hM, ↓bM_ld5 hM, ↓bM_ld6 hM, ↓bM_ld7 hM, ↓bM_ld8 hM, ↓bM_ld9 hM, ↓bM_ld10 hM, ↓bM_ld11 hM, ↓bM_ld12 hM, ↓bM_ld13 hM, ↓bM_ld14 hM, ↓bM_ld15 hM, ↓bM_ld16 hM, ↓bM_ld17 hM, ↓bM_ld18 hM, ↓bM_ld19 hM, ↓bM_ld20 hM, ↓bM_ld21 hM, ↓bM_st1 hM, ↓bM_st2 hM, ↓bM_st3 hM, ↓bM_st4 hM, ↓bM_st5 hM, ↓bM_st6 hM, ↓bM_st7 hM, ↓bM_st8 hM, ↓bM_st9 hM, ↓bM_st10 hM, ↓bM_st11 hM, ↓bM_st12 hM, ↓bM_st13 hM, ↓bM_st14 hM, ↓bM_st15 hM, ↓bM_st16 hM, ↓bM_st17 hM, ↓bM_st18 hM, ↓bM_st19 hM, ↓bM_st20 hM, ↓bM_st21 hM, ↓within_w, Int.toNat_add, Int.toNat_mul, Int.toNat_natCast, Int.reduceToNat, Nat.reduceAdd, Nat.reduceMul, s19]
      · obtain ⟨k, ht, hm'⟩ := takeAll_w (n := n) (I := I) (a := c + 16) (b := c + 3) hT hH (by omega)
        have hlk := hm'.rl hR.1
        have er : wl I (c + 16) k (c + 185 + 2 * i) = I (c + 185 + 2 * i) := wl_out (by omega)
        have er1 : wl I (c + 16) k (c + 185 + 2 * i + 1) = I (c + 185 + 2 * i + 1) := wl_out (by omega)
        have hd := tdoTold (n := n) (I := I) (t := c + 32) (a := c + 16) (r := c + 185 + 2 * i) (y := I (c + 32)) (p := I (c + 32 + 1)) (l := k) hT hY hN (by omega) (by omega) (by omega) hlk.1 (by have := hlk.2.2.2; omega) r4 (fun k hk => (r5 k hk).1) hn rfl
        rw [wT_id] at hd
        have hm := fun J t (hl : RLl k (t 1)) (h20 : t 20 i = I (c + 185 + 2 * i) 0) (h21 : ∀ j : Nat, t 21 j = I (c + 193 + 21) j) => hoursOf_m (n := n) (μ := μ) (I := J) (s := t) (l := k) hM hl hi (yr := I (c + 185 + 2 * i)) (pr := I (c + 185 + 2 * i + 1)) h20 r4 (fun k hk => ⟨(r5 k hk).1, fun z => (h21 _).trans ((r5 k hk).2 z)⟩) (y := yB (I (c + 32))) (p := flR (I (c + 32 + 1)) 10 (-1)) (fun j hj => flR_lt hj) (yB_at _) hn rfl
        generalize tlL (I (c + 185 + 2 * i)) (I (c + 185 + 2 * i + 1)) (k, yB (I (c + 32)), flR (I (c + 32 + 1)) 10 (-1)) = Z at hd hm
        have oJ : CF c I (wl (wT I (c + 32) Z.2.1 Z.2.2) (c + 16) Z.1) := fun b h1 => by
          unfold tmp at h1
          rw [wl_out (by omega), wT_o (by omega)]
        have y32 : (wl (wT I (c + 32) Z.2.1 Z.2.2) (c + 16) Z.1) (c + 32) = Z.2.1 := by rw [wl_out (by omega), wT_y]
        generalize wl (wT I (c + 32) Z.2.1 Z.2.2) (c + 16) Z.1 = J at hd oJ y32
        have jr : ∀ k : Nat, k ≤ 21 → ld J (c + 193) k = I (c + 193 + k) := fun k hk => oJ _ (by unfold tmp; omega)
        have u1 : up2 (ld J (c + 193)) 0 0 0 1 = I (c + 193 + 1) := (up2_row (by decide)).trans (jr 1 (by decide))
        have u19 : up2 (ld J (c + 193)) 0 0 0 19 i = I (c + 185 + 2 * i) 1 := by rw [up2_row (by decide), jr 19 (by decide)]; exact r1.symm
        have u20 : up2 (ld J (c + 193)) 0 0 0 20 i = I (c + 185 + 2 * i) 0 := by rw [up2_row (by decide), jr 20 (by decide)]; exact r3.symm
        have u21 : up2 (ld J (c + 193)) 0 0 0 21 = I (c + 193 + 21) := (up2_row (by decide)).trans (jr 21 (by decide))
        have f0 : FrW (ld J (c + 193)) (up2 (ld J (c + 193)) 0 0 0) := (Fr.f0 _ (Or.inl rfl)).w
        have bt : ∀ (k : Nat) (f : Int → Option (Int × Mem)), (gI (wi μ J) 8 (c + 32) k).bind f = f (Z.2.1 k) := fun k f => (bnd (e_gI hY.k) f).trans (by rw [y32])
        have bi8 : ∀ {ρ : Type} {K : Nat → Nat → Int} (X : Option ρ) (f : ρ → Option (Int × Mem)), (inv (wi μ K) 8 (c + 32) X).bind f = X.bind f := fun X f => by rw [tinv hY]
        have wel := ldwm (μ := μ) J (c + 193)
        generalize hs0 : up2 (ld J (c + 193)) 0 0 0 = s0 at u1 u19 u20 u21 f0
        obtain ⟨t, fr, -, w17, w18, w19, w20, e⟩ := hm J (up1 s0 6 (cpR 220 (s0 6) (s0 1))) (by rw [up1_o (by decide), u1]; exact hlk) (by rw [up1_o (by decide)]; exact u20) (fun j => by rw [up1_o (by decide), u21])
        have done := again fr
        have x17 : up1 t 1 (cpR 220 (t 1) (t 6)) 0 17 = Z.2.1 1 := (congrFun (up1_o (by decide)) _).trans w17
        have x18 : up1 t 1 (cpR 220 (t 1) (t 6)) 0 18 = Z.2.1 2 := (congrFun (up1_o (by decide)) _).trans w18
        have x19 : up1 t 1 (cpR 220 (t 1) (t 6)) 0 19 = Z.2.1 3 := (congrFun (up1_o (by decide)) _).trans w19
        have x20 : up1 t 1 (cpR 220 (t 1) (t 6)) 0 20 = Z.2.1 4 := (congrFun (up1_o (by decide)) _).trans w20
        refine Both.mk (v := juV Z.2.1 x) (s' := up1 t 1 (cpR 220 (t 1) (t 6))) hR oJ.h ?_ ?_ (f0.tr done.1) ?_
        · unfold mX10_judge
          simp (disch := omega) only [↓i_lt_t, ↓i_lt_f, ↓i_eq_t, ↓i_eq_f, ↓i_bi_t, ↓i_bi_f, ↓i_some, ↓bC_g0 hC, ↓bC_g1 hC, ↓bC_g2 hC, ↓bC_g3 hC, ↓bC_g4 hC, ↓bC_g5 hC, ↓bC_g6 hC, ↓bC_g7 hC, ↓bC_g8 hC, ↓bC_g9 hC, ↓bC_g10 hC, ↓bC_inv hC, ↓isRow_w, ↓bC_row hC, ↓bN_inv hN, ↓isMissing_w hN, ↓bL_inv hT, ↓bnd ht, ↓bi8, ↓bnd hd]
          unfold juV
          by_cases x0 : x = 0
          · simp (disch := omega) only [↓i_lt_t, ↓i_lt_f, ↓i_eq_t, ↓i_eq_f, ↓i_bi_t, ↓i_bi_f, ↓i_some, if_pos x0, ↓bC_g0 hC, ↓bC_g1 hC, ↓bC_g2 hC, ↓bC_g3 hC, ↓bC_g4 hC, ↓bC_g5 hC, ↓bC_g6 hC, ↓bC_g7 hC, ↓bC_g8 hC, ↓bC_g9 hC, ↓bC_g10 hC, ↓bC_inv hC, ↓bt]
          · by_cases x1 : x = 1
            · simp (disch := omega) only [↓i_lt_t, ↓i_lt_f, ↓i_eq_t, ↓i_eq_f, ↓i_bi_t, ↓i_bi_f, ↓i_some, if_neg x0, if_pos x1, ↓bC_g0 hC, ↓bC_g1 hC, ↓bC_g2 hC, ↓bC_g3 hC, ↓bC_g4 hC, ↓bC_g5 hC, ↓bC_g6 hC, ↓bC_g7 hC, ↓bC_g8 hC, ↓bC_g9 hC, ↓bC_g10 hC, ↓bC_inv hC, ↓bt]
            · by_cases x2 : x = 2
              · simp (disch := omega) only [↓i_lt_t, ↓i_lt_f, ↓i_eq_t, ↓i_eq_f, ↓i_bi_t, ↓i_bi_f, ↓i_some, if_neg x0, if_neg x1, if_pos x2, ↓bC_g0 hC, ↓bC_g1 hC, ↓bC_g2 hC, ↓bC_g3 hC, ↓bC_g4 hC, ↓bC_g5 hC, ↓bC_g6 hC, ↓bC_g7 hC, ↓bC_g8 hC, ↓bC_g9 hC, ↓bC_g10 hC, ↓bC_inv hC, ↓bt]
              · by_cases x3 : x = 3
                · simp (disch := omega) only [↓i_lt_t, ↓i_lt_f, ↓i_eq_t, ↓i_eq_f, ↓i_bi_t, ↓i_bi_f, ↓i_some, if_neg x0, if_neg x1, if_neg x2, if_pos x3, ↓bC_g0 hC, ↓bC_g1 hC, ↓bC_g2 hC, ↓bC_g3 hC, ↓bC_g4 hC, ↓bC_g5 hC, ↓bC_g6 hC, ↓bC_g7 hC, ↓bC_g8 hC, ↓bC_g9 hC, ↓bC_g10 hC, ↓bC_inv hC, ↓bt]
                · simp (disch := omega) only [↓i_lt_t, ↓i_lt_f, ↓i_eq_t, ↓i_eq_f, ↓i_bi_t, ↓i_bi_f, ↓i_some, if_neg x0, if_neg x1, if_neg x2, if_neg x3, ↓bC_g0 hC, ↓bC_g1 hC, ↓bC_g2 hC, ↓bC_g3 hC, ↓bC_g4 hC, ↓bC_g5 hC, ↓bC_g6 hC, ↓bC_g7 hC, ↓bC_g8 hC, ↓bC_g9 hC, ↓bC_g10 hC, ↓bC_inv hC, ↓bt]
        · rw [← wel]
          unfold mX11_judge
          simp (disch := omega) only [↓i_lt_t, ↓i_lt_f, ↓i_eq_t, ↓i_eq_f, ↓i_bi_t, ↓i_bi_f, ↓i_some, ↓bM_gI hM, ↓bM_pI hM, ↓bM_inv hM, ↓bM_g1 hM, ↓bM_g2 hM, ↓bM_g3 hM, ↓bM_g4 hM, ↓bM_g15 hM, ↓bM_g16 hM, ↓bM_g22 hM, ↓bM_g23 hM, ↓bM_g24 hM, ↓bM_g25 hM, ↓bM_g28 hM, ↓bM_g29 hM, ↓bM_g30 hM, ↓bM_g32 hM, ↓bM_g33 hM, ↓bM_g34 hM, ↓bM_g36 hM, ↓bM_g37 hM, ↓bM_g41 hM, ↓bM_g42 hM, ↓bM_g43 hM, ↓bM_ld1 hM, ↓bM_ld2 hM, ↓bM_ld3 hM, ↓bM_ld4 hM, ↓bM_ld5 hM, ↓bM_ld6 hM, ↓bM_ld7 hM, ↓bM_ld8 hM, ↓bM_ld9 hM, ↓bM_ld10 hM, ↓bM_ld11 hM, ↓bM_ld12 hM, ↓bM_ld13 hM, ↓bM_ld14 hM, ↓bM_ld15 hM, ↓bM_ld16 hM, ↓bM_ld17 hM, ↓bM_ld18 hM, ↓bM_ld19 hM, ↓bM_ld20 hM, ↓bM_ld21 hM, ↓bM_st1 hM, ↓bM_st2 hM, ↓bM_st3 hM, ↓bM_st4 hM, ↓bM_st5 hM, ↓bM_st6 hM, ↓bM_st7 hM, ↓bM_st8 hM, ↓bM_st9 hM, ↓bM_st10 hM, ↓bM_st11 hM, ↓bM_st12 hM, ↓bM_st13 hM, ↓bM_st14 hM, ↓bM_st15 hM, ↓bM_st16 hM, ↓bM_st17 hM, ↓bM_st18 hM, ↓bM_st19 hM, ↓bM_st20 hM, ↓bM_st21 hM, ↓within_w, Int.toNat_add, Int.toNat_mul, Int.toNat_natCast, Int.reduceToNat, Nat.reduceAdd, Nat.reduceMul, hs0, u19, ↓keeps_w hM, ↓bnd e, ↓isAgain_w hM]
          unfold juV
          by_cases x0 : x = 0
          · simp (disch := omega) only [↓i_lt_t, ↓i_lt_f, ↓i_eq_t, ↓i_eq_f, ↓i_bi_t, ↓i_bi_f, ↓i_some, if_pos x0]
          · by_cases x1 : x = 1
            · simp (disch := omega) only [↓i_lt_t, ↓i_lt_f, ↓i_eq_t, ↓i_eq_f, ↓i_bi_t, ↓i_bi_f, ↓i_some, if_neg x0, if_pos x1, ↓bM_gI hM, ↓bM_pI hM, ↓bM_inv hM, ↓bM_g1 hM, ↓bM_g2 hM, ↓bM_g3 hM, ↓bM_g4 hM, ↓bM_g15 hM, ↓bM_g16 hM, ↓bM_g22 hM, ↓bM_g23 hM, ↓bM_g24 hM, ↓bM_g25 hM, ↓bM_g28 hM, ↓bM_g29 hM, ↓bM_g30 hM, ↓bM_g32 hM, ↓bM_g33 hM, ↓bM_g34 hM, ↓bM_g36 hM, ↓bM_g37 hM, ↓bM_g41 hM, ↓bM_g42 hM, ↓bM_g43 hM, ↓bM_ld1 hM, ↓bM_ld2 hM, ↓bM_ld3 hM, ↓bM_ld4 hM, ↓bM_ld5 hM, ↓bM_ld6 hM, ↓bM_ld7 hM, ↓bM_ld8 hM, ↓bM_ld9 hM, ↓bM_ld10 hM, ↓bM_ld11 hM, ↓bM_ld12 hM, ↓bM_ld13 hM, ↓bM_ld14 hM, ↓bM_ld15 hM, ↓bM_ld16 hM, ↓bM_ld17 hM, ↓bM_ld18 hM, ↓bM_ld19 hM, ↓bM_ld20 hM, ↓bM_ld21 hM, ↓bM_st1 hM, ↓bM_st2 hM, ↓bM_st3 hM, ↓bM_st4 hM, ↓bM_st5 hM, ↓bM_st6 hM, ↓bM_st7 hM, ↓bM_st8 hM, ↓bM_st9 hM, ↓bM_st10 hM, ↓bM_st11 hM, ↓bM_st12 hM, ↓bM_st13 hM, ↓bM_st14 hM, ↓bM_st15 hM, ↓bM_st16 hM, ↓bM_st17 hM, ↓bM_st18 hM, ↓bM_st19 hM, ↓bM_st20 hM, ↓bM_st21 hM, x17]
            · by_cases x2 : x = 2
              · simp (disch := omega) only [↓i_lt_t, ↓i_lt_f, ↓i_eq_t, ↓i_eq_f, ↓i_bi_t, ↓i_bi_f, ↓i_some, if_neg x0, if_neg x1, if_pos x2, ↓bM_gI hM, ↓bM_pI hM, ↓bM_inv hM, ↓bM_g1 hM, ↓bM_g2 hM, ↓bM_g3 hM, ↓bM_g4 hM, ↓bM_g15 hM, ↓bM_g16 hM, ↓bM_g22 hM, ↓bM_g23 hM, ↓bM_g24 hM, ↓bM_g25 hM, ↓bM_g28 hM, ↓bM_g29 hM, ↓bM_g30 hM, ↓bM_g32 hM, ↓bM_g33 hM, ↓bM_g34 hM, ↓bM_g36 hM, ↓bM_g37 hM, ↓bM_g41 hM, ↓bM_g42 hM, ↓bM_g43 hM, ↓bM_ld1 hM, ↓bM_ld2 hM, ↓bM_ld3 hM, ↓bM_ld4 hM, ↓bM_ld5 hM, ↓bM_ld6 hM, ↓bM_ld7 hM, ↓bM_ld8 hM, ↓bM_ld9 hM, ↓bM_ld10 hM, ↓bM_ld11 hM, ↓bM_ld12 hM, ↓bM_ld13 hM, ↓bM_ld14 hM, ↓bM_ld15 hM, ↓bM_ld16 hM, ↓bM_ld17 hM, ↓bM_ld18 hM, ↓bM_ld19 hM, ↓bM_ld20 hM, ↓bM_ld21 hM, ↓bM_st1 hM, ↓bM_st2 hM, ↓bM_st3 hM, ↓bM_st4 hM, ↓bM_st5 hM, ↓bM_st6 hM, ↓bM_st7 hM, ↓bM_st8 hM, ↓bM_st9 hM, ↓bM_st10 hM, ↓bM_st11 hM, ↓bM_st12 hM, ↓bM_st13 hM, ↓bM_st14 hM, ↓bM_st15 hM, ↓bM_st16 hM, ↓bM_st17 hM, ↓bM_st18 hM, ↓bM_st19 hM, ↓bM_st20 hM, ↓bM_st21 hM, x18]
              · by_cases x3 : x = 3
                · simp (disch := omega) only [↓i_lt_t, ↓i_lt_f, ↓i_eq_t, ↓i_eq_f, ↓i_bi_t, ↓i_bi_f, ↓i_some, if_neg x0, if_neg x1, if_neg x2, if_pos x3, ↓bM_gI hM, ↓bM_pI hM, ↓bM_inv hM, ↓bM_g1 hM, ↓bM_g2 hM, ↓bM_g3 hM, ↓bM_g4 hM, ↓bM_g15 hM, ↓bM_g16 hM, ↓bM_g22 hM, ↓bM_g23 hM, ↓bM_g24 hM, ↓bM_g25 hM, ↓bM_g28 hM, ↓bM_g29 hM, ↓bM_g30 hM, ↓bM_g32 hM, ↓bM_g33 hM, ↓bM_g34 hM, ↓bM_g36 hM, ↓bM_g37 hM, ↓bM_g41 hM, ↓bM_g42 hM, ↓bM_g43 hM, ↓bM_ld1 hM, ↓bM_ld2 hM, ↓bM_ld3 hM, ↓bM_ld4 hM, ↓bM_ld5 hM, ↓bM_ld6 hM, ↓bM_ld7 hM, ↓bM_ld8 hM, ↓bM_ld9 hM, ↓bM_ld10 hM, ↓bM_ld11 hM, ↓bM_ld12 hM, ↓bM_ld13 hM, ↓bM_ld14 hM, ↓bM_ld15 hM, ↓bM_ld16 hM, ↓bM_ld17 hM, ↓bM_ld18 hM, ↓bM_ld19 hM, ↓bM_ld20 hM, ↓bM_ld21 hM, ↓bM_st1 hM, ↓bM_st2 hM, ↓bM_st3 hM, ↓bM_st4 hM, ↓bM_st5 hM, ↓bM_st6 hM, ↓bM_st7 hM, ↓bM_st8 hM, ↓bM_st9 hM, ↓bM_st10 hM, ↓bM_st11 hM, ↓bM_st12 hM, ↓bM_st13 hM, ↓bM_st14 hM, ↓bM_st15 hM, ↓bM_st16 hM, ↓bM_st17 hM, ↓bM_st18 hM, ↓bM_st19 hM, ↓bM_st20 hM, ↓bM_st21 hM, x19]
                · simp (disch := omega) only [↓i_lt_t, ↓i_lt_f, ↓i_eq_t, ↓i_eq_f, ↓i_bi_t, ↓i_bi_f, ↓i_some, if_neg x0, if_neg x1, if_neg x2, if_neg x3, ↓bM_gI hM, ↓bM_pI hM, ↓bM_inv hM, ↓bM_g1 hM, ↓bM_g2 hM, ↓bM_g3 hM, ↓bM_g4 hM, ↓bM_g15 hM, ↓bM_g16 hM, ↓bM_g22 hM, ↓bM_g23 hM, ↓bM_g24 hM, ↓bM_g25 hM, ↓bM_g28 hM, ↓bM_g29 hM, ↓bM_g30 hM, ↓bM_g32 hM, ↓bM_g33 hM, ↓bM_g34 hM, ↓bM_g36 hM, ↓bM_g37 hM, ↓bM_g41 hM, ↓bM_g42 hM, ↓bM_g43 hM, ↓bM_ld1 hM, ↓bM_ld2 hM, ↓bM_ld3 hM, ↓bM_ld4 hM, ↓bM_ld5 hM, ↓bM_ld6 hM, ↓bM_ld7 hM, ↓bM_ld8 hM, ↓bM_ld9 hM, ↓bM_ld10 hM, ↓bM_ld11 hM, ↓bM_ld12 hM, ↓bM_ld13 hM, ↓bM_ld14 hM, ↓bM_ld15 hM, ↓bM_ld16 hM, ↓bM_ld17 hM, ↓bM_ld18 hM, ↓bM_ld19 hM, ↓bM_ld20 hM, ↓bM_ld21 hM, ↓bM_st1 hM, ↓bM_st2 hM, ↓bM_st3 hM, ↓bM_st4 hM, ↓bM_st5 hM, ↓bM_st6 hM, ↓bM_st7 hM, ↓bM_st8 hM, ↓bM_st9 hM, ↓bM_st10 hM, ↓bM_st11 hM, ↓bM_st12 hM, ↓bM_st13 hM, ↓bM_st14 hM, ↓bM_st15 hM, ↓bM_st16 hM, ↓bM_st17 hM, ↓bM_st18 hM, ↓bM_st19 hM, ↓bM_st20 hM, ↓bM_st21 hM, x20]
        · rw [done.2, u1]
          exact hR.1.cg (fun k hk => oJ _ (by unfold tmp; omega))
    · refine Both.q (v := -2) hR ?_ ?_
      · unfold mX10_judge
        by_cases c4 : x < 0
        · simp (disch := omega) only [↓i_lt_t, ↓i_lt_f, ↓i_eq_t, ↓i_eq_f, ↓i_bi_t, ↓i_bi_f, ↓i_some, ↓bC_g0 hC, ↓bC_g1 hC, ↓bC_g2 hC, ↓bC_g3 hC, ↓bC_g4 hC, ↓bC_g5 hC, ↓bC_g6 hC, ↓bC_g7 hC, ↓bC_g8 hC, ↓bC_g9 hC, ↓bC_g10 hC, ↓bC_inv hC, ↓isRow_w]
        · simp (disch := omega) only [↓i_lt_t, ↓i_lt_f, ↓i_eq_t, ↓i_eq_f, ↓i_bi_t, ↓i_bi_f, ↓i_some, ↓bC_g0 hC, ↓bC_g1 hC, ↓bC_g2 hC, ↓bC_g3 hC, ↓bC_g4 hC, ↓bC_g5 hC, ↓bC_g6 hC, ↓bC_g7 hC, ↓bC_g8 hC, ↓bC_g9 hC, ↓bC_g10 hC, ↓bC_inv hC, ↓isRow_w]
      · unfold mX11_judge
        simp (disch := omega) only [↓i_lt_t, ↓i_lt_f, ↓i_eq_t, ↓i_eq_f, ↓i_bi_t, ↓i_bi_f, ↓i_some, ↓bM_gI hM, ↓bM_pI hM, ↓bM_inv hM, ↓bM_g1 hM, ↓bM_g2 hM, ↓bM_g3 hM, ↓bM_g4 hM, ↓bM_g15 hM, ↓bM_g16 hM, ↓bM_g22 hM, ↓bM_g23 hM, ↓bM_g24 hM, ↓bM_g25 hM, ↓bM_g28 hM, ↓bM_g29 hM, ↓bM_g30 hM, ↓bM_g32 hM, ↓bM_g33 hM, ↓bM_g34 hM, ↓bM_g36 hM, ↓bM_g37 hM, ↓bM_g41 hM, ↓bM_g42 hM, ↓bM_g43 hM, ↓bM_ld1 hM, ↓bM_ld2 hM, ↓bM_ld3 hM, ↓bM_ld4 hM, ↓bM_ld5 hM, ↓bM_ld6 hM, ↓bM_ld7 hM, ↓bM_ld8 hM, ↓bM_ld9 hM, ↓bM_ld10 hM, ↓bM_ld11 hM, ↓bM_ld12 hM, ↓bM_ld13 hM, ↓bM_ld14 hM, ↓bM_ld15 hM, ↓bM_ld16 hM, ↓bM_ld17 hM, ↓bM_ld18 hM, ↓bM_ld19 hM, ↓bM_ld20 hM, ↓bM_ld21 hM, ↓bM_st1 hM, ↓bM_st2 hM, ↓bM_st3 hM, ↓bM_st4 hM, ↓bM_st5 hM, ↓bM_st6 hM, ↓bM_st7 hM, ↓bM_st8 hM, ↓bM_st9 hM, ↓bM_st10 hM, ↓bM_st11 hM, ↓bM_st12 hM, ↓bM_st13 hM, ↓bM_st14 hM, ↓bM_st15 hM, ↓bM_st16 hM, ↓bM_st17 hM, ↓bM_st18 hM, ↓bM_st19 hM, ↓bM_st20 hM, ↓bM_st21 hM, ↓within_w]
  · refine Both.q (v := -2) hR ?_ ?_
    · unfold mX10_judge
      simp (disch := omega) only [↓i_lt_t, ↓i_lt_f, ↓i_eq_t, ↓i_eq_f, ↓i_bi_t, ↓i_bi_f, ↓i_some, ↓bC_g0 hC, ↓bC_g1 hC, ↓bC_g2 hC, ↓bC_g3 hC, ↓bC_g4 hC, ↓bC_g5 hC, ↓bC_g6 hC, ↓bC_g7 hC, ↓bC_g8 hC, ↓bC_g9 hC, ↓bC_g10 hC, ↓bC_inv hC, ↓isRow_w]
    · unfold mX11_judge
      simp (disch := omega) only [↓i_lt_t, ↓i_lt_f, ↓i_eq_t, ↓i_eq_f, ↓i_bi_t, ↓i_bi_f, ↓i_some, ↓bM_gI hM, ↓bM_pI hM, ↓bM_inv hM, ↓bM_g1 hM, ↓bM_g2 hM, ↓bM_g3 hM, ↓bM_g4 hM, ↓bM_g15 hM, ↓bM_g16 hM, ↓bM_g22 hM, ↓bM_g23 hM, ↓bM_g24 hM, ↓bM_g25 hM, ↓bM_g28 hM, ↓bM_g29 hM, ↓bM_g30 hM, ↓bM_g32 hM, ↓bM_g33 hM, ↓bM_g34 hM, ↓bM_g36 hM, ↓bM_g37 hM, ↓bM_g41 hM, ↓bM_g42 hM, ↓bM_g43 hM, ↓bM_ld1 hM, ↓bM_ld2 hM, ↓bM_ld3 hM, ↓bM_ld4 hM, ↓bM_ld5 hM, ↓bM_ld6 hM, ↓bM_ld7 hM, ↓bM_ld8 hM, ↓bM_ld9 hM, ↓bM_ld10 hM, ↓bM_ld11 hM, ↓bM_ld12 hM, ↓bM_ld13 hM, ↓bM_ld14 hM, ↓bM_ld15 hM, ↓bM_ld16 hM, ↓bM_ld17 hM, ↓bM_ld18 hM, ↓bM_ld19 hM, ↓bM_ld20 hM, ↓bM_ld21 hM, ↓bM_st1 hM, ↓bM_st2 hM, ↓bM_st3 hM, ↓bM_st4 hM, ↓bM_st5 hM, ↓bM_st6 hM, ↓bM_st7 hM, ↓bM_st8 hM, ↓bM_st9 hM, ↓bM_st10 hM, ↓bM_st11 hM, ↓bM_st12 hM, ↓bM_st13 hM, ↓bM_st14 hM, ↓bM_st15 hM, ↓bM_st16 hM, ↓bM_st17 hM, ↓bM_st18 hM, ↓bM_st19 hM, ↓bM_st20 hM, ↓bM_st21 hM, ↓within_w]
end JU
