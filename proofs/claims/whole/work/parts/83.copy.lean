/-! copy -/
section CP
variable {μ : Mem} {I : Nat → Nat → Int} {c n : Nat} {β : Type}
theorem cutS_small {s d : Int} (hd : 0 ≤ d ∧ d ≤ 9) : cutS s d = d := by
  obtain ⟨k, rfl⟩ : ∃ k : Nat, d = (k : Int) := ⟨d.toNat, by omega⟩
  have hk : k < 10 := by omega
  have h1 : ∀ j : Nat, j < 10 → oI2l (oI2b (j : Int)) = j := by decide
  have h2 : ∀ j : Nat, j < 10 → oI2l (oI2s (j : Int)) = j := by decide
  have h3 : ∀ j : Nat, j < 10 → oI2l (j : Int) = j := by decide
  unfold cutS
  split
  · exact h1 k hk
  · split
    · exact h2 k hk
    · split
      · exact h3 k hk
      · rfl
theorem both_copy (hC : isC μ c) (hM : isM μ (c + 193)) (hR : RelC c I) {b : Int} (hb : -2147483648 ≤ b ∧ b < 2147483648) (hn : 20000 ≤ n) : Both μ c I (mX10_copy n c b) (mX11_copy n (c + 193) b) := by
  obtain ⟨hk, lr, lq, h0, h9⟩ := hR.1
  have hz := hk.1
  have hH := hC.here
  by_cases c1 : 0 ≤ b ∧ b ≤ 3
  · obtain ⟨i, rfl⟩ : ∃ i : Nat, b = (i : Int) := ⟨b.toNat, by omega⟩
    have hi : i < 4 := by omega
    have hN := hC.row hi
    obtain ⟨r1, r2, r3, r4, r5⟩ := hR.2.2.1 i hi
    have s19 : up2 (ld I (c + 193)) 0 0 0 19 i = I (c + 185 + 2 * i) 1 := (congrFun (up2_row (by decide)) i).trans r1.symm
    have s20 : up2 (ld I (c + 193)) 0 0 0 20 i = I (c + 185 + 2 * i) 0 := (congrFun (up2_row (by decide)) i).trans r3.symm
    have s1 : up2 (ld I (c + 193)) 0 0 0 1 = I (c + 193 + 1) := up2_row (by decide)
    have s11 : up2 (ld I (c + 193)) 0 0 0 1 1 = ld I (c + 3) 0 1 := by rw [s1]; exact lr.1.2.1
    by_cases c2 : I (c + 185 + 2 * i) 1 = -1
    · refine Both.q (v := -6) hR ?_ ?_
      · unfold mX10_copy
        simp (disch := omega) only [↓i_lt_t, ↓i_lt_f, ↓i_eq_t, ↓i_eq_f, ↓i_bi_t, ↓i_bi_f, ↓i_some, ↓bC_g0 hC, ↓bC_g1 hC, ↓bC_g2 hC, ↓bC_g3 hC, ↓bC_g4 hC, ↓bC_g5 hC, ↓bC_g6 hC, ↓bC_g7 hC, ↓bC_g8 hC, ↓bC_g9 hC, ↓bC_g10 hC, ↓bC_inv hC, ↓isRow_w, ↓bC_row hC, ↓bN_inv hN, ↓isMissing_w hN]
      · unfold mX11_copy
        simp (disch := omega) only [↓i_lt_t, ↓i_lt_f, ↓i_eq_t, ↓i_eq_f, ↓i_bi_t, ↓i_bi_f, ↓i_some, ↓bM_gI hM, ↓bM_pI hM, ↓bM_inv hM, ↓bM_g1 hM, ↓bM_g2 hM, ↓bM_g3 hM, ↓bM_g4 hM, ↓bM_g15 hM, ↓bM_g16 hM, ↓bM_g22 hM, ↓bM_g23 hM, ↓bM_g24 hM, ↓bM_g25 hM, ↓bM_g28 hM, ↓bM_g29 hM, ↓bM_g30 hM, ↓bM_g32 hM, ↓bM_g33 hM, ↓bM_g34 hM, ↓bM_g36 hM, ↓bM_g37 hM, ↓bM_g41 hM, ↓bM_g42 hM, ↓bM_g43 hM, ↓bM_ld1 hM, ↓bM_ld2 hM, ↓bM_ld3 hM, ↓bM_ld4 hM, ↓bM_ld5 hM, ↓bM_ld6 hM, ↓bM_ld7 hM, ↓bM_ld8 hM, ↓bM_ld9 hM, ↓bM_ld10 hM, ↓bM_ld11 hM, ↓bM_ld12 hM, ↓bM_ld13 hM, ↓bM_ld14 hM, ↓bM_ld15 hM, ↓bM_ld16 hM, ↓bM_ld17 hM, ↓bM_ld18 hM, ↓bM_ld19 hM, ↓bM_ld20 hM, ↓bM_ld21 hM, ↓bM_st1 hM, ↓bM_st2 hM, ↓bM_st3 hM, ↓bM_st4 hM, ↓bM_st5 hM, ↓bM_st6 hM, ↓bM_st7 hM, ↓bM_st8 hM, ↓bM_st9 hM, ↓bM_st10 hM, ↓bM_st11 hM, ↓bM_st12 hM, ↓bM_st13 hM, ↓bM_st14 hM, ↓bM_st15 hM, ↓bM_st16 hM, ↓bM_st17 hM, ↓bM_st18 hM, ↓bM_st19 hM, ↓bM_st20 hM, ↓bM_st21 hM, ↓within_w, Int.toNat_add, Int.toNat_mul, Int.toNat_natCast, Int.reduceToNat, Nat.reduceAdd, Nat.reduceMul, s19]
    · by_cases c3 : I (c + 185 + 2 * i) 0 < ld I (c + 3) 0 1
      · refine Both.q (v := -7) hR ?_ ?_
        · unfold mX10_copy
          simp (disch := omega) only [↓i_lt_t, ↓i_lt_f, ↓i_eq_t, ↓i_eq_f, ↓i_bi_t, ↓i_bi_f, ↓i_some, ↓bC_g0 hC, ↓bC_g1 hC, ↓bC_g2 hC, ↓bC_g3 hC, ↓bC_g4 hC, ↓bC_g5 hC, ↓bC_g6 hC, ↓bC_g7 hC, ↓bC_g8 hC, ↓bC_g9 hC, ↓bC_g10 hC, ↓bC_inv hC, ↓isRow_w, ↓bC_row hC, ↓bN_inv hN, ↓isMissing_w hN, ↓bN_gI hN, ↓bL_gI hH, ↓bL_inv hH, ↓bL_g6 hH, ↓bL_g7 hH, ↓bL_g8 hH, ↓bL_g9 hH, ↓bL_g10 hH, ↓bL_g11 hH, ↓bL_g12 hH, ↓bL_g13 hH, ↓bL_g14 hH, ↓bL_g15 hH, ↓bL_g16 hH, ↓bL_g17 hH, ↓bL_ld1 hH, ↓bL_ld2 hH, ↓bL_ld3 hH, ↓bL_ld4 hH, ↓bL_ld5 hH, ↓bL_ld6 hH, ↓bL_ld7 hH, ↓bL_ld8 hH, ↓bL_ld9 hH, ↓bL_ld10 hH, ↓bL_ld11 hH, ↓bL_ld12 hH, ↓bL_st1 hH, ↓bL_st2 hH, ↓bL_st3 hH, ↓bL_st4 hH, ↓bL_st5 hH, ↓bL_st6 hH, ↓bL_st7 hH, ↓bL_st8 hH, ↓bL_st9 hH, ↓bL_st10 hH, ↓bL_st11 hH, ↓bL_st12 hH]
        · unfold mX11_copy
          simp (disch := omega) only [↓i_lt_t, ↓i_lt_f, ↓i_eq_t, ↓i_eq_f, ↓i_bi_t, ↓i_bi_f, ↓i_some, ↓bM_gI hM, ↓bM_pI hM, ↓bM_inv hM, ↓bM_g1 hM, ↓bM_g2 hM, ↓bM_g3 hM, ↓bM_g4 hM, ↓bM_g15 hM, ↓bM_g16 hM, ↓bM_g22 hM, ↓bM_g23 hM, ↓bM_g24 hM, ↓bM_g25 hM, ↓bM_g28 hM, ↓bM_g29 hM, ↓bM_g30 hM, ↓bM_g32 hM, ↓bM_g33 hM, ↓bM_g34 hM, ↓bM_g36 hM, ↓bM_g37 hM, ↓bM_g41 hM, ↓bM_g42 hM, ↓bM_g43 hM, ↓bM_ld1 hM, ↓bM_ld2 hM, ↓bM_ld3 hM, ↓bM_ld4 hM, ↓bM_ld5 hM, ↓bM_ld6 hM, ↓bM_ld7 hM, ↓bM_ld8 hM, ↓bM_ld9 hM, ↓bM_ld10 hM, ↓bM_ld11 hM, ↓bM_ld12 hM, ↓bM_ld13 hM, ↓bM_ld14 hM, ↓bM_ld15 hM, ↓bM_ld16 hM, ↓bM_ld17 hM, ↓bM_ld18 hM, ↓bM_ld19 hM, ↓bM_ld20 hM, ↓bM_ld21 hM, ↓bM_st1 hM, ↓bM_st2 hM, ↓bM_st3 hM, ↓bM_st4 hM, ↓bM_st5 hM, ↓bM_st6 hM, ↓bM_st7 hM, ↓bM_st8 hM, ↓bM_st9 hM, ↓bM_st10 hM, ↓bM_st11 hM, ↓bM_st12 hM, ↓bM_st13 hM, ↓bM_st14 hM, ↓bM_st15 hM, ↓bM_st16 hM, ↓bM_st17 hM, ↓bM_st18 hM, ↓bM_st19 hM, ↓bM_st20 hM, ↓bM_st21 hM, ↓within_w, Int.toNat_add, Int.toNat_mul, Int.toNat_natCast, Int.reduceToNat, Nat.reduceAdd, Nat.reduceMul, s19, s20, s11]
      · have mainC : ∃ J : Nat → Nat → Int, mX10_copy n c (i : Int) (wi μ I) = some (ld I (c + 3) 0 1, wi μ J) ∧ (∀ b : Nat, b ≠ c + 185 + 2 * i + 1 → J b = I b) ∧ ∀ j : Nat, J (c + 185 + 2 * i + 1) j = if (j : Int) < ld I (c + 3) 0 1 then ld I (c + 3) 8 j else I (c + 185 + 2 * i + 1) j := by
          unfold mX10_copy
          simp (disch := omega) only [↓i_lt_t, ↓i_lt_f, ↓i_eq_t, ↓i_eq_f, ↓i_bi_t, ↓i_bi_f, ↓i_some, ↓bC_g0 hC, ↓bC_g1 hC, ↓bC_g2 hC, ↓bC_g3 hC, ↓bC_g4 hC, ↓bC_g5 hC, ↓bC_g6 hC, ↓bC_g7 hC, ↓bC_g8 hC, ↓bC_g9 hC, ↓bC_g10 hC, ↓bC_inv hC, ↓isRow_w, ↓bC_row hC, ↓bN_inv hN, ↓isMissing_w hN, ↓bN_gI hN, ↓bL_gI hH, ↓bL_inv hH, ↓bL_g6 hH, ↓bL_g7 hH, ↓bL_g8 hH, ↓bL_g9 hH, ↓bL_g10 hH, ↓bL_g11 hH, ↓bL_g12 hH, ↓bL_g13 hH, ↓bL_g14 hH, ↓bL_g15 hH, ↓bL_g16 hH, ↓bL_g17 hH, ↓bL_ld1 hH, ↓bL_ld2 hH, ↓bL_ld3 hH, ↓bL_ld4 hH, ↓bL_ld5 hH, ↓bL_ld6 hH, ↓bL_ld7 hH, ↓bL_ld8 hH, ↓bL_ld9 hH, ↓bL_ld10 hH, ↓bL_ld11 hH, ↓bL_ld12 hH, ↓bL_st1 hH, ↓bL_st2 hH, ↓bL_st3 hH, ↓bL_st4 hH, ↓bL_st5 hH, ↓bL_st6 hH, ↓bL_st7 hH, ↓bL_st8 hH, ↓bL_st9 hH, ↓bL_st10 hH, ↓bL_st11 hH, ↓bL_st12 hH]
          refine lp_ind (fun d v ν => ∃ J : Nat → Nat → Int, ν = wi μ J ∧ (d : Int) + v = ld I (c + 3) 0 1 ∧ 0 ≤ v ∧ (∀ b : Nat, b ≠ c + 185 + 2 * i + 1 → J b = I b) ∧ ∀ j : Nat, J (c + 185 + 2 * i + 1) j = if (j : Int) < v then ld I (c + 3) 8 j else I (c + 185 + 2 * i + 1) j) (fun X => ∃ J : Nat → Nat → Int, X = some (ld I (c + 3) 0 1, wi μ J) ∧ (∀ b : Nat, b ≠ c + 185 + 2 * i + 1 → J b = I b) ∧ ∀ j : Nat, J (c + 185 + 2 * i + 1) j = if (j : Int) < ld I (c + 3) 0 1 then ld I (c + 3) 8 j else I (c + 185 + 2 * i + 1) j) (fun d v ν nx hp hnx => ?_) n (ld I (c + 3) 0 1).toNat 0 _ (by omega) ⟨_, rfl, by omega, by omega, fun _ _ => rfl, fun j => ?_⟩
          · obtain ⟨J, rfl, h1, h2, h3, h4⟩ := hp
            have eL : ld J (c + 3) = ld I (c + 3) → True := fun _ => trivial
            have e01 : ld J (c + 3) 0 1 = ld I (c + 3) 0 1 := congrFun (h3 _ (by omega)) 1
            have ey : J (c + 185 + 2 * i) = I (c + 185 + 2 * i) := h3 _ (by omega)
            by_cases cv : v < ld I (c + 3) 0 1
            · have g := hk.2.2.1 v.toNat (by omega)
              have e8 : ld J (c + 3) 8 v.toNat = ld I (c + 3) 8 v.toNat := congrFun (h3 _ (by omega)) _
              have eo := oI2l_of (x := ld I (c + 3) 8 v.toNat) (by omega) (by omega)
              have cs := cutS_small (s := I (c + 185 + 2 * i) 1) (d := ld I (c + 3) 8 v.toNat) (by omega)
              have hp : ∀ f : Int × Mem → Option (Int × Mem), (mX3_put n (c + 185 + 2 * i) v (ld I (c + 3) 8 v.toNat) (wi μ J)).bind f = f (ld I (c + 3) 8 v.toNat, wi μ (up2 J (c + 185 + 2 * i + 1) v.toNat (ld I (c + 3) 8 v.toNat))) := fun f => by
                rw [nput_w hN (by rw [ey]; omega) (by rw [ey]; omega) (by omega) (by rw [ey]; omega), ey, cs]
              simp (disch := omega) only [↓i_lt_t, ↓i_lt_f, ↓i_eq_t, ↓i_eq_f, ↓i_bi_t, ↓i_bi_f, ↓i_some, ↓bC_g0 hC, ↓bC_g1 hC, ↓bC_g2 hC, ↓bC_g3 hC, ↓bC_g4 hC, ↓bC_g5 hC, ↓bC_g6 hC, ↓bC_g7 hC, ↓bC_g8 hC, ↓bC_g9 hC, ↓bC_g10 hC, ↓bC_inv hC, ↓bC_row hC, ↓bN_inv hN, ↓bL_gI hH, ↓bL_inv hH, ↓bL_g6 hH, ↓bL_g7 hH, ↓bL_g8 hH, ↓bL_g9 hH, ↓bL_g10 hH, ↓bL_g11 hH, ↓bL_g12 hH, ↓bL_g13 hH, ↓bL_g14 hH, ↓bL_g15 hH, ↓bL_g16 hH, ↓bL_g17 hH, ↓bL_ld1 hH, ↓bL_ld2 hH, ↓bL_ld3 hH, ↓bL_ld4 hH, ↓bL_ld5 hH, ↓bL_ld6 hH, ↓bL_ld7 hH, ↓bL_ld8 hH, ↓bL_ld9 hH, ↓bL_ld10 hH, ↓bL_ld11 hH, ↓bL_ld12 hH, ↓bL_st1 hH, ↓bL_st2 hH, ↓bL_st3 hH, ↓bL_st4 hH, ↓bL_st5 hH, ↓bL_st6 hH, ↓bL_st7 hH, ↓bL_st8 hH, ↓bL_st9 hH, ↓bL_st10 hH, ↓bL_st11 hH, ↓bL_st12 hH, e01, e8, eo, ↓hp]
              refine hnx (d - 1) _ _ (by omega) ⟨_, rfl, by omega, by omega, fun b hb => by rw [up2_row hb, h3 b hb], fun j => ?_⟩
              by_cases e : j = v.toNat
              · subst e; rw [up2_s, if_pos (by omega)]
              · rw [up2_n (by omega), h4 j]
                by_cases e2 : (j : Int) < v
                · rw [if_pos e2, if_pos (by omega)]
                · rw [if_neg e2, if_neg (by omega)]
            · have e : v = ld I (c + 3) 0 1 := by omega
              simp (disch := omega) only [↓i_lt_t, ↓i_lt_f, ↓i_eq_t, ↓i_eq_f, ↓i_bi_t, ↓i_bi_f, ↓i_some, ↓bC_g0 hC, ↓bC_g1 hC, ↓bC_g2 hC, ↓bC_g3 hC, ↓bC_g4 hC, ↓bC_g5 hC, ↓bC_g6 hC, ↓bC_g7 hC, ↓bC_g8 hC, ↓bC_g9 hC, ↓bC_g10 hC, ↓bC_inv hC, ↓bL_gI hH, ↓bL_inv hH, ↓bL_g6 hH, ↓bL_g7 hH, ↓bL_g8 hH, ↓bL_g9 hH, ↓bL_g10 hH, ↓bL_g11 hH, ↓bL_g12 hH, ↓bL_g13 hH, ↓bL_g14 hH, ↓bL_g15 hH, ↓bL_g16 hH, ↓bL_g17 hH, ↓bL_ld1 hH, ↓bL_ld2 hH, ↓bL_ld3 hH, ↓bL_ld4 hH, ↓bL_ld5 hH, ↓bL_ld6 hH, ↓bL_ld7 hH, ↓bL_ld8 hH, ↓bL_ld9 hH, ↓bL_ld10 hH, ↓bL_ld11 hH, ↓bL_ld12 hH, ↓bL_st1 hH, ↓bL_st2 hH, ↓bL_st3 hH, ↓bL_st4 hH, ↓bL_st5 hH, ↓bL_st6 hH, ↓bL_st7 hH, ↓bL_st8 hH, ↓bL_st9 hH, ↓bL_st10 hH, ↓bL_st11 hH, ↓bL_st12 hH, e01]
              refine ⟨J, rfl, h3, fun j => ?_⟩
              rw [h4 j, e]
          · rw [if_neg (by omega)]
        obtain ⟨J, eC, f1, f2⟩ := mainC
        have eJ : ld J (c + 193) = ld I (c + 193) := funext fun k => f1 _ (by omega)
        have mainM : ∃ s' : Ld, mX11_copy n (c + 193) (i : Int) (wi μ (wm J (c + 193) (ld J (c + 193)))) = some (ld I (c + 3) 0 1, wi μ (wm J (c + 193) s')) ∧ (∀ a : Nat, a ≠ 21 → s' a = up2 (ld I (c + 193)) 0 0 0 a) ∧ ∀ j : Nat, s' 21 j = if 60 * i ≤ j ∧ (j : Int) < 60 * i + ld I (c + 3) 0 1 then ld I (c + 3) 8 (j - 60 * i) else I (c + 193 + 21) j := by
          rw [eJ]
          unfold mX11_copy
          simp (disch := omega) only [↓i_lt_t, ↓i_lt_f, ↓i_eq_t, ↓i_eq_f, ↓i_bi_t, ↓i_bi_f, ↓i_some, ↓bM_gI hM, ↓bM_pI hM, ↓bM_inv hM, ↓bM_g1 hM, ↓bM_g2 hM, ↓bM_g3 hM, ↓bM_g4 hM, ↓bM_g15 hM, ↓bM_g16 hM, ↓bM_g22 hM, ↓bM_g23 hM, ↓bM_g24 hM, ↓bM_g25 hM, ↓bM_g28 hM, ↓bM_g29 hM, ↓bM_g30 hM, ↓bM_g32 hM, ↓bM_g33 hM, ↓bM_g34 hM, ↓bM_g36 hM, ↓bM_g37 hM, ↓bM_g41 hM, ↓bM_g42 hM, ↓bM_g43 hM, ↓bM_ld1 hM, ↓bM_ld2 hM, ↓bM_ld3 hM, ↓bM_ld4 hM, ↓bM_ld5 hM, ↓bM_ld6 hM, ↓bM_ld7 hM, ↓bM_ld8 hM, ↓bM_ld9 hM, ↓bM_ld10 hM, ↓bM_ld11 hM, ↓bM_ld12 hM, ↓bM_ld13 hM, ↓bM_ld14 hM, ↓bM_ld15 hM, ↓bM_ld16 hM, ↓bM_ld17 hM, ↓bM_ld18 hM, ↓bM_ld19 hM, ↓bM_ld20 hM, ↓bM_ld21 hM, ↓bM_st1 hM, ↓bM_st2 hM, ↓bM_st3 hM, ↓bM_st4 hM, ↓bM_st5 hM, ↓bM_st6 hM, ↓bM_st7 hM, ↓bM_st8 hM, ↓bM_st9 hM, ↓bM_st10 hM, ↓bM_st11 hM, ↓bM_st12 hM, ↓bM_st13 hM, ↓bM_st14 hM, ↓bM_st15 hM, ↓bM_st16 hM, ↓bM_st17 hM, ↓bM_st18 hM, ↓bM_st19 hM, ↓bM_st20 hM, ↓bM_st21 hM, ↓within_w, Int.toNat_add, Int.toNat_mul, Int.toNat_natCast, Int.reduceToNat, Nat.reduceAdd, Nat.reduceMul, s19, s20, s11]
          refine lp_ind (fun d v ν => ∃ s' : Ld, ν = wi μ (wm J (c + 193) s') ∧ (d : Int) + v = ld I (c + 3) 0 1 ∧ 0 ≤ v ∧ (∀ a : Nat, a ≠ 21 → s' a = up2 (ld I (c + 193)) 0 0 0 a) ∧ ∀ j : Nat, s' 21 j = if 60 * i ≤ j ∧ (j : Int) < 60 * i + v then ld I (c + 3) 8 (j - 60 * i) else I (c + 193 + 21) j) (fun X => ∃ s' : Ld, X = some (ld I (c + 3) 0 1, wi μ (wm J (c + 193) s')) ∧ (∀ a : Nat, a ≠ 21 → s' a = up2 (ld I (c + 193)) 0 0 0 a) ∧ ∀ j : Nat, s' 21 j = if 60 * i ≤ j ∧ (j : Int) < 60 * i + ld I (c + 3) 0 1 then ld I (c + 3) 8 (j - 60 * i) else I (c + 193 + 21) j) (fun d v ν nx hp hnx => ?_) n (ld I (c + 3) 0 1).toNat 0 _ (by omega) ⟨_, rfl, by omega, by omega, fun a _ => rfl, fun j => ?_⟩
          · obtain ⟨s', rfl, h1, h2, h3, h4⟩ := hp
            have e11 : s' 1 1 = ld I (c + 3) 0 1 := by rw [h3 1 (by decide)]; exact s11
            by_cases cv : v < ld I (c + 3) 0 1
            · have g := hk.2.2.1 v.toNat (by omega)
              have e8 : s' 1 (124 + v.toNat) = ld I (c + 3) 8 v.toNat := by rw [h3 1 (by decide), s1]; exact (lr.2.2 v.toNat (by omega)).2.2.2.1
              have eo := oI2l_of (x := ld I (c + 3) 8 v.toNat) (by omega) (by omega)
              simp (disch := omega) only [↓i_lt_t, ↓i_lt_f, ↓i_eq_t, ↓i_eq_f, ↓i_bi_t, ↓i_bi_f, ↓i_some, ↓bM_gI hM, ↓bM_pI hM, ↓bM_inv hM, ↓bM_g1 hM, ↓bM_g2 hM, ↓bM_g3 hM, ↓bM_g4 hM, ↓bM_g15 hM, ↓bM_g16 hM, ↓bM_g22 hM, ↓bM_g23 hM, ↓bM_g24 hM, ↓bM_g25 hM, ↓bM_g28 hM, ↓bM_g29 hM, ↓bM_g30 hM, ↓bM_g32 hM, ↓bM_g33 hM, ↓bM_g34 hM, ↓bM_g36 hM, ↓bM_g37 hM, ↓bM_g41 hM, ↓bM_g42 hM, ↓bM_g43 hM, ↓bM_ld1 hM, ↓bM_ld2 hM, ↓bM_ld3 hM, ↓bM_ld4 hM, ↓bM_ld5 hM, ↓bM_ld6 hM, ↓bM_ld7 hM, ↓bM_ld8 hM, ↓bM_ld9 hM, ↓bM_ld10 hM, ↓bM_ld11 hM, ↓bM_ld12 hM, ↓bM_ld13 hM, ↓bM_ld14 hM, ↓bM_ld15 hM, ↓bM_ld16 hM, ↓bM_ld17 hM, ↓bM_ld18 hM, ↓bM_ld19 hM, ↓bM_ld20 hM, ↓bM_ld21 hM, ↓bM_st1 hM, ↓bM_st2 hM, ↓bM_st3 hM, ↓bM_st4 hM, ↓bM_st5 hM, ↓bM_st6 hM, ↓bM_st7 hM, ↓bM_st8 hM, ↓bM_st9 hM, ↓bM_st10 hM, ↓bM_st11 hM, ↓bM_st12 hM, ↓bM_st13 hM, ↓bM_st14 hM, ↓bM_st15 hM, ↓bM_st16 hM, ↓bM_st17 hM, ↓bM_st18 hM, ↓bM_st19 hM, ↓bM_st20 hM, ↓bM_st21 hM, Int.toNat_add, Int.toNat_mul, Int.toNat_natCast, Int.reduceToNat, Nat.reduceAdd, Nat.reduceMul, e11, e8, eo]
              refine hnx (d - 1) _ _ (by omega) ⟨_, rfl, by omega, by omega, fun a ha => ?_, fun j => ?_⟩
              · rw [up2_row ha, h3 a ha]
              · by_cases e : j = 60 * i + v.toNat
                · rw [e, up2_s, if_pos (by omega), show 60 * i + v.toNat - 60 * i = v.toNat by omega]
                · rw [up2_n (by omega), h4 j]
                  by_cases e2 : 60 * i ≤ j ∧ (j : Int) < 60 * i + v
                  · rw [if_pos e2, if_pos (by omega)]
                  · rw [if_neg e2, if_neg (by omega)]
            · have e : v = ld I (c + 3) 0 1 := by omega
              simp (disch := omega) only [↓i_lt_t, ↓i_lt_f, ↓i_eq_t, ↓i_eq_f, ↓i_bi_t, ↓i_bi_f, ↓i_some, ↓bM_gI hM, ↓bM_pI hM, ↓bM_inv hM, ↓bM_g1 hM, ↓bM_g2 hM, ↓bM_g3 hM, ↓bM_g4 hM, ↓bM_g15 hM, ↓bM_g16 hM, ↓bM_g22 hM, ↓bM_g23 hM, ↓bM_g24 hM, ↓bM_g25 hM, ↓bM_g28 hM, ↓bM_g29 hM, ↓bM_g30 hM, ↓bM_g32 hM, ↓bM_g33 hM, ↓bM_g34 hM, ↓bM_g36 hM, ↓bM_g37 hM, ↓bM_g41 hM, ↓bM_g42 hM, ↓bM_g43 hM, ↓bM_ld1 hM, ↓bM_ld2 hM, ↓bM_ld3 hM, ↓bM_ld4 hM, ↓bM_ld5 hM, ↓bM_ld6 hM, ↓bM_ld7 hM, ↓bM_ld8 hM, ↓bM_ld9 hM, ↓bM_ld10 hM, ↓bM_ld11 hM, ↓bM_ld12 hM, ↓bM_ld13 hM, ↓bM_ld14 hM, ↓bM_ld15 hM, ↓bM_ld16 hM, ↓bM_ld17 hM, ↓bM_ld18 hM, ↓bM_ld19 hM, ↓bM_ld20 hM, ↓bM_ld21 hM, ↓bM_st1 hM, ↓bM_st2 hM, ↓bM_st3 hM, ↓bM_st4 hM, ↓bM_st5 hM, ↓bM_st6 hM, ↓bM_st7 hM, ↓bM_st8 hM, ↓bM_st9 hM, ↓bM_st10 hM, ↓bM_st11 hM, ↓bM_st12 hM, ↓bM_st13 hM, ↓bM_st14 hM, ↓bM_st15 hM, ↓bM_st16 hM, ↓bM_st17 hM, ↓bM_st18 hM, ↓bM_st19 hM, ↓bM_st20 hM, ↓bM_st21 hM, Int.toNat_add, Int.toNat_mul, Int.toNat_natCast, Int.reduceToNat, Nat.reduceAdd, Nat.reduceMul, e11]
              refine ⟨s', rfl, h3, fun j => ?_⟩
              rw [h4 j, e]
          · rw [if_neg (by omega), up2_row (by decide)]
            rfl
        obtain ⟨s', eM, g1, g2⟩ := mainM
        rw [ldwm] at eM
        refine ⟨_, J, _, eC, eM, ?_, fun b hb => ?_⟩
        · have w : ∀ k : Nat, k ≤ 21 → wm J (c + 193) s' (c + 193 + k) = s' k := fun k hk => wm_row hk
          have w0 : wm J (c + 193) s' (c + 193) = s' 0 := w 0 (by decide)
          refine hR.row hi (fun b h1 h2 h3 h4 h5 h6 h7 => ?_) (fun j hj _ => ?_) (fun j hj => ?_) (fun j hj => ?_) (fun j hj => ?_) ?_
          · by_cases hb : c + 193 ≤ b ∧ b ≤ c + 193 + 21
            · obtain ⟨k, rfl⟩ : ∃ k : Nat, b = c + 193 + k := ⟨b - (c + 193), by omega⟩
              rw [w k (by omega), g1 k (by omega), up2_row (by omega)]
              rfl
            · rw [wm_out (by omega), f1 b h3]
          · rw [w0, g1 0 (by decide), up2_n (by omega)]; rfl
          · rw [w 19 (by decide), g1 19 (by decide), up2_row (by decide)]; rfl
          · rw [w 20 (by decide), g1 20 (by decide), up2_row (by decide)]; rfl
          · rw [w 21 (by decide), g2, if_neg (by omega)]
          · have a1 : wm J (c + 193) s' (c + 185 + 2 * i) = I (c + 185 + 2 * i) := (wm_out (by omega)).trans (f1 _ (by omega))
            have a2 : wm J (c + 193) s' (c + 185 + 2 * i + 1) = J (c + 185 + 2 * i + 1) := wm_out (by omega)
            unfold RN1
            rw [a1, a2, w 19 (by decide), w 20 (by decide), w 21 (by decide), g1 19 (by decide), g1 20 (by decide), s19, s20]
            refine ⟨rfl, r2, rfl, r4, fun k hk' => ?_⟩
            rw [f2 k, g2]
            by_cases e : (k : Int) < ld I (c + 3) 0 1
            · have g := hk.2.2.1 k e
              rw [if_pos e, if_pos (by omega), show 60 * i + k - 60 * i = k by omega]
              exact ⟨by omega, fun _ => rfl⟩
            · rw [if_neg e, if_neg (by omega)]
              exact r5 k hk'
        · exact ⟨by rw [wm_out (by omega), f1 b (by omega)], f1 b (by omega)⟩
  · refine Both.q (v := -2) hR ?_ ?_
    · unfold mX10_copy
      simp (disch := omega) only [↓i_lt_t, ↓i_lt_f, ↓i_eq_t, ↓i_eq_f, ↓i_bi_t, ↓i_bi_f, ↓i_some, ↓bC_g0 hC, ↓bC_g1 hC, ↓bC_g2 hC, ↓bC_g3 hC, ↓bC_g4 hC, ↓bC_g5 hC, ↓bC_g6 hC, ↓bC_g7 hC, ↓bC_g8 hC, ↓bC_g9 hC, ↓bC_g10 hC, ↓bC_inv hC, ↓isRow_w]
    · unfold mX11_copy
      simp (disch := omega) only [↓i_lt_t, ↓i_lt_f, ↓i_eq_t, ↓i_eq_f, ↓i_bi_t, ↓i_bi_f, ↓i_some, ↓bM_gI hM, ↓bM_pI hM, ↓bM_inv hM, ↓bM_g1 hM, ↓bM_g2 hM, ↓bM_g3 hM, ↓bM_g4 hM, ↓bM_g15 hM, ↓bM_g16 hM, ↓bM_g22 hM, ↓bM_g23 hM, ↓bM_g24 hM, ↓bM_g25 hM, ↓bM_g28 hM, ↓bM_g29 hM, ↓bM_g30 hM, ↓bM_g32 hM, ↓bM_g33 hM, ↓bM_g34 hM, ↓bM_g36 hM, ↓bM_g37 hM, ↓bM_g41 hM, ↓bM_g42 hM, ↓bM_g43 hM, ↓bM_ld1 hM, ↓bM_ld2 hM, ↓bM_ld3 hM, ↓bM_ld4 hM, ↓bM_ld5 hM, ↓bM_ld6 hM, ↓bM_ld7 hM, ↓bM_ld8 hM, ↓bM_ld9 hM, ↓bM_ld10 hM, ↓bM_ld11 hM, ↓bM_ld12 hM, ↓bM_ld13 hM, ↓bM_ld14 hM, ↓bM_ld15 hM, ↓bM_ld16 hM, ↓bM_ld17 hM, ↓bM_ld18 hM, ↓bM_ld19 hM, ↓bM_ld20 hM, ↓bM_ld21 hM, ↓bM_st1 hM, ↓bM_st2 hM, ↓bM_st3 hM, ↓bM_st4 hM, ↓bM_st5 hM, ↓bM_st6 hM, ↓bM_st7 hM, ↓bM_st8 hM, ↓bM_st9 hM, ↓bM_st10 hM, ↓bM_st11 hM, ↓bM_st12 hM, ↓bM_st13 hM, ↓bM_st14 hM, ↓bM_st15 hM, ↓bM_st16 hM, ↓bM_st17 hM, ↓bM_st18 hM, ↓bM_st19 hM, ↓bM_st20 hM, ↓bM_st21 hM, ↓within_w]
end CP
