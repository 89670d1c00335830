/-! rows of numbers -/
def RN1 (c : Nat) (I : Nat → Nat → Int) (i : Nat) : Prop := I (c + 185 + 2 * i) 1 = I (c + 193 + 19) i ∧ (-1 ≤ I (c + 185 + 2 * i) 1 ∧ I (c + 185 + 2 * i) 1 ≤ 3) ∧ I (c + 185 + 2 * i) 0 = I (c + 193 + 20) i ∧ (0 ≤ I (c + 185 + 2 * i) 0 ∧ I (c + 185 + 2 * i) 0 ≤ 60) ∧ ∀ k : Nat, k < 60 → (-9223372036854775808 ≤ I (c + 185 + 2 * i + 1) k ∧ I (c + 185 + 2 * i + 1) k < 9223372036854775808) ∧ ((k : Int) < I (c + 185 + 2 * i) 0 → I (c + 193 + 21) (60 * i + k) = I (c + 185 + 2 * i + 1) k)
theorem RelC.row {c i : Nat} {I K : Nat → Nat → Int} (hR : RelC c I) (hi : i < 4) (o : ∀ b : Nat, ¬ tmp c b → b ≠ c + 185 + 2 * i → b ≠ c + 185 + 2 * i + 1 → b ≠ c + 193 → b ≠ c + 193 + 19 → b ≠ c + 193 + 20 → b ≠ c + 193 + 21 → K b = I b) (o0 : ∀ j : Nat, 0 < j → j < 17 → K (c + 193) j = I (c + 193) j) (o19 : ∀ j : Nat, j ≠ i → K (c + 193 + 19) j = I (c + 193 + 19) j) (o20 : ∀ j : Nat, j ≠ i → K (c + 193 + 20) j = I (c + 193 + 20) j) (o21 : ∀ j : Nat, ¬ (60 * i ≤ j ∧ j < 60 * i + 60) → K (c + 193 + 21) j = I (c + 193 + 21) j) (hn : RN1 c K i) : RelC c K := by
  obtain ⟨rl, ri, rn, rt⟩ := hR
  have e : ∀ b : Nat, (b < c + 16 ∨ (c + 29 ≤ b ∧ b ≤ c + 31) ∨ (c + 159 ≤ b ∧ b < c + 185) ∨ (c + 193 < b ∧ b < c + 193 + 19)) → K b = I b := fun b hb => o b (by unfold tmp; omega) (by omega) (by omega) (by omega) (by omega) (by omega) (by omega)
  refine ⟨?_, fun k hk => ?_, fun k hk => ?_, ?_⟩
  · rw [e (c + 193 + 1) (by omega)]
    exact rl.cg (fun k hk => e _ (by omega))
  · rw [e (c + 30) (by omega), e (c + 193 + 2) (by omega), e (c + 193 + 1) (by omega)]
    exact ⟨(ri k hk).1, (ri k hk).2.1, fun z => ((ri k hk).2.2 z).cg (fun j hj => e _ (by omega))⟩
  · by_cases ek : k = i
    · subst ek; exact hn
    · have e1 : K (c + 185 + 2 * k) = I (c + 185 + 2 * k) := o _ (by unfold tmp; omega) (by omega) (by omega) (by omega) (by omega) (by omega) (by omega)
      have e2 : K (c + 185 + 2 * k + 1) = I (c + 185 + 2 * k + 1) := o _ (by unfold tmp; omega) (by omega) (by omega) (by omega) (by omega) (by omega) (by omega)
      rw [o19 k ek, o20 k ek, e1, e2]
      obtain ⟨a1, a2, a3, a4, a5⟩ := rn k hk
      exact ⟨a1, a2, a3, a4, fun j hj => ⟨(a5 j hj).1, fun z => by rw [o21 _ (by omega)]; exact (a5 j hj).2 z⟩⟩
  · unfold RT
    rw [e (c + 1) (by omega), e (c + 2) (by omega), e (c + 193 + 3) (by omega), o0 5 (by omega) (by omega), o0 13 (by omega) (by omega), o0 14 (by omega) (by omega)]
    exact rt
theorem wT_ld {I : Nat → Nat → Int} {r m : Nat} {y p : Nat → Int} (h : ∀ k : Nat, m + k ≠ r ∧ m + k ≠ r + 1) : ld (wT I r y p) m = ld I m := funext fun k => wT_o (h k)
section RW
variable {μ : Mem} {I : Nat → Nat → Int} {c n : Nat} {β : Type}
theorem isRow_w {ν : Mem} {b : Int} (hb : -2147483648 ≤ b ∧ b < 2147483648) {f : Int × Mem → Option β} : (mX10_isRow n b ν).bind f = f (bi (0 ≤ b ∧ b ≤ 3), ν) := by
  unfold mX10_isRow
  by_cases c1 : b < 0
  · simp (disch := omega) only [↓i_lt_t, ↓i_lt_f, ↓i_eq_t, ↓i_eq_f, ↓i_bi_t, ↓i_bi_f, ↓i_some, retZ_0, retZ_1]
    rw [bi_f (by omega)]
  · by_cases c2 : b < 4
    · simp (disch := omega) only [↓i_lt_t, ↓i_lt_f, ↓i_eq_t, ↓i_eq_f, ↓i_bi_t, ↓i_bi_f, ↓i_some, retZ_0, retZ_1]
      rw [bi_t (by omega)]
    · simp (disch := omega) only [↓i_lt_t, ↓i_lt_f, ↓i_eq_t, ↓i_eq_f, ↓i_bi_t, ↓i_bi_f, ↓i_some, retZ_0, retZ_1]
      rw [bi_f (by omega)]
theorem isC.row {μ : Mem} {c : Nat} (h : isC μ c) {i : Nat} (hi : i < 4) : isN μ (c + 185 + 2 * i) := (h.2.2.2.2.2.1 i hi).1
theorem bC_row (h : isC μ c) {i : Nat} (hi : i < 4) {f : Nat → Option β} : (ldA (wi μ I) 5 (c + 31) (i : Int)).bind f = f (c + 185 + 2 * i) := bnd ((e_ldA (L := 4) h.2.2.2.1.2.2 (by omega) (by omega) (by omega)).trans (congrArg some (by rw [Int.toNat_natCast]; exact (h.2.2.2.2.2.1 i hi).2))) f
theorem bN_inv {ρ : Type} {r : Nat} {X : Option ρ} (h : isN μ r) {f : ρ → Option β} : (inv (wi μ I) 4 r X).bind f = X.bind f := by rw [e_inv h.k]
theorem bN_gI {r k : Nat} (h : isN μ r) {f : Int → Option β} : (gI (wi μ I) 4 r k).bind f = f (I r k) := bnd (e_gI h.k) f
theorem isMissing_w {r : Nat} (h : isN μ r) (hs : -2147483648 ≤ I r 1 ∧ I r 1 < 2147483648) {f : Int × Mem → Option β} : (mX3_isMissing n r (wi μ I)).bind f = f (bi (I r 1 = -1), wi μ I) := bnd (isMissing_eq h hs) f
theorem both_numbers (hC : isC μ c) (hM : isM μ (c + 193)) (hR : RelC c I) {b x z : Int} (hb : -2147483648 ≤ b ∧ b < 2147483648) (hx : -2147483648 ≤ x ∧ x < 2147483648) (hzz : -2147483648 ≤ z ∧ z < 2147483648) (hn : 20000 ≤ n) : Both μ c I (mX10_numbers n c b x z) (mX11_numbers n (c + 193) b x z) := by
  by_cases c1 : 0 ≤ b ∧ b ≤ 3
  · by_cases c2 : 0 ≤ x ∧ x ≤ 3
    · by_cases c3 : 0 ≤ z ∧ z ≤ 60
      · obtain ⟨i, rfl⟩ : ∃ i : Nat, b = (i : Int) := ⟨b.toNat, by omega⟩
        have hi : i < 4 := by omega
        have hN := hC.row hi
        have hg := nbegin_eq (n := n) (I := I) (y := I (c + 185 + 2 * i)) (p := I (c + 185 + 2 * i + 1)) (s := x) (k := z) hN (by omega) hn
        rw [wT_id] at hg
        generalize hJ : wT I (c + 185 + 2 * i) (upA (upA (I (c + 185 + 2 * i)) 1 x) 0 (max 0 (min z 60))) (flR (I (c + 185 + 2 * i + 1)) 60 0) = J at hg
        have eJ : ld J (c + 193) = ld I (c + 193) := by rw [← hJ]; exact wT_ld (fun k => ⟨by omega, by omega⟩)
        have main : ∃ s' : Ld, mX11_numbers n (c + 193) (i : Int) x z (wi μ (wm J (c + 193) (ld J (c + 193)))) = some (0, wi μ (wm J (c + 193) s')) ∧ (∀ a : Nat, a ≠ 21 → s' a = up2 (up2 (up2 (ld I (c + 193)) 0 0 0) 19 i x) 20 i z a) ∧ ∀ j : Nat, s' 21 j = if 60 * i ≤ j ∧ j < 60 * i + z.toNat then 0 else ld I (c + 193) 21 j := by
          rw [eJ]
          unfold mX11_numbers
          simp (disch := omega) only [↓i_lt_t, ↓i_lt_f, ↓i_eq_t, ↓i_eq_f, ↓i_bi_t, ↓i_bi_f, ↓i_some, ↓bM_gI hM, ↓bM_pI hM, ↓bM_inv hM, ↓bM_g1 hM, ↓bM_g2 hM, ↓bM_g3 hM, ↓bM_g4 hM, ↓bM_g15 hM, ↓bM_g16 hM, ↓bM_g22 hM, ↓bM_g23 hM, ↓bM_g24 hM, ↓bM_g25 hM, ↓bM_g28 hM, ↓bM_g29 hM, ↓bM_g30 hM, ↓bM_g32 hM, ↓bM_g33 hM, ↓bM_g34 hM, ↓bM_g36 hM, ↓bM_g37 hM, ↓bM_g41 hM, ↓bM_g42 hM, ↓bM_g43 hM, ↓bM_ld1 hM, ↓bM_ld2 hM, ↓bM_ld3 hM, ↓bM_ld4 hM, ↓bM_ld5 hM, ↓bM_ld6 hM, ↓bM_ld7 hM, ↓bM_ld8 hM, ↓bM_ld9 hM, ↓bM_ld10 hM, ↓bM_ld11 hM, ↓bM_ld12 hM, ↓bM_ld13 hM, ↓bM_ld14 hM, ↓bM_ld15 hM, ↓bM_ld16 hM, ↓bM_ld17 hM, ↓bM_ld18 hM, ↓bM_ld19 hM, ↓bM_ld20 hM, ↓bM_ld21 hM, ↓bM_st1 hM, ↓bM_st2 hM, ↓bM_st3 hM, ↓bM_st4 hM, ↓bM_st5 hM, ↓bM_st6 hM, ↓bM_st7 hM, ↓bM_st8 hM, ↓bM_st9 hM, ↓bM_st10 hM, ↓bM_st11 hM, ↓bM_st12 hM, ↓bM_st13 hM, ↓bM_st14 hM, ↓bM_st15 hM, ↓bM_st16 hM, ↓bM_st17 hM, ↓bM_st18 hM, ↓bM_st19 hM, ↓bM_st20 hM, ↓bM_st21 hM, ↓within_w, Int.toNat_add, Int.toNat_mul, Int.toNat_natCast, Int.reduceToNat, Nat.reduceAdd, Nat.reduceMul]
          refine lp_ind (fun d v ν => ∃ s' : Ld, ν = wi μ (wm J (c + 193) s') ∧ (d : Int) + v = z ∧ 0 ≤ v ∧ (∀ a : Nat, a ≠ 21 → s' a = up2 (up2 (up2 (ld I (c + 193)) 0 0 0) 19 i x) 20 i z a) ∧ ∀ j : Nat, s' 21 j = if 60 * i ≤ j ∧ j < 60 * i + v.toNat then 0 else ld I (c + 193) 21 j) (fun X => ∃ s' : Ld, X = some (0, wi μ (wm J (c + 193) s')) ∧ (∀ a : Nat, a ≠ 21 → s' a = up2 (up2 (up2 (ld I (c + 193)) 0 0 0) 19 i x) 20 i z a) ∧ ∀ j : Nat, s' 21 j = if 60 * i ≤ j ∧ j < 60 * i + z.toNat then 0 else ld I (c + 193) 21 j) (fun d v ν nx hp hnx => ?_) n z.toNat 0 _ (by omega) ⟨_, rfl, by omega, by omega, fun a _ => rfl, fun j => ?_⟩
          · obtain ⟨s', rfl, h1, h2, h3, h4⟩ := hp
            by_cases cv : v < z
            · simp (disch := omega) only [↓i_lt_t, ↓i_lt_f, ↓i_eq_t, ↓i_eq_f, ↓i_bi_t, ↓i_bi_f, ↓i_some, ↓bM_gI hM, ↓bM_pI hM, ↓bM_inv hM, ↓bM_g1 hM, ↓bM_g2 hM, ↓bM_g3 hM, ↓bM_g4 hM, ↓bM_g15 hM, ↓bM_g16 hM, ↓bM_g22 hM, ↓bM_g23 hM, ↓bM_g24 hM, ↓bM_g25 hM, ↓bM_g28 hM, ↓bM_g29 hM, ↓bM_g30 hM, ↓bM_g32 hM, ↓bM_g33 hM, ↓bM_g34 hM, ↓bM_g36 hM, ↓bM_g37 hM, ↓bM_g41 hM, ↓bM_g42 hM, ↓bM_g43 hM, ↓bM_ld1 hM, ↓bM_ld2 hM, ↓bM_ld3 hM, ↓bM_ld4 hM, ↓bM_ld5 hM, ↓bM_ld6 hM, ↓bM_ld7 hM, ↓bM_ld8 hM, ↓bM_ld9 hM, ↓bM_ld10 hM, ↓bM_ld11 hM, ↓bM_ld12 hM, ↓bM_ld13 hM, ↓bM_ld14 hM, ↓bM_ld15 hM, ↓bM_ld16 hM, ↓bM_ld17 hM, ↓bM_ld18 hM, ↓bM_ld19 hM, ↓bM_ld20 hM, ↓bM_ld21 hM, ↓bM_st1 hM, ↓bM_st2 hM, ↓bM_st3 hM, ↓bM_st4 hM, ↓bM_st5 hM, ↓bM_st6 hM, ↓bM_st7 hM, ↓bM_st8 hM, ↓bM_st9 hM, ↓bM_st10 hM, ↓bM_st11 hM, ↓bM_st12 hM, ↓bM_st13 hM, ↓bM_st14 hM, ↓bM_st15 hM, ↓bM_st16 hM, ↓bM_st17 hM, ↓bM_st18 hM, ↓bM_st19 hM, ↓bM_st20 hM, ↓bM_st21 hM, Int.toNat_add, Int.toNat_mul, Int.toNat_natCast, Int.reduceToNat, Nat.reduceAdd, Nat.reduceMul]
              refine hnx (d - 1) _ _ (by omega) ⟨_, rfl, by omega, by omega, fun a ha => ?_, fun j => ?_⟩
              · rw [up2_row ha, h3 a ha]
              · by_cases e : j = 60 * i + v.toNat
                · rw [e, up2_s, if_pos (by omega)]
                · rw [up2_n (by omega), h4 j]
                  by_cases e2 : 60 * i ≤ j ∧ j < 60 * i + v.toNat
                  · rw [if_pos e2, if_pos (by omega)]
                  · rw [if_neg e2, if_neg (by omega)]
            · simp (disch := omega) only [↓i_lt_t, ↓i_lt_f, ↓i_eq_t, ↓i_eq_f, ↓i_bi_t, ↓i_bi_f, ↓i_some]
              have e : v = z := by omega
              subst e
              exact ⟨s', rfl, h3, h4⟩
          · rw [if_neg (by omega), up2_row (by decide), up2_row (by decide), up2_row (by decide)]
        obtain ⟨s', e, f1, f2⟩ := main
        rw [ldwm] at e
        refine ⟨0, J, _, ?_, e, ?_, fun b hb => ?_⟩
        · unfold mX10_numbers
          simp (disch := omega) only [↓i_lt_t, ↓i_lt_f, ↓i_eq_t, ↓i_eq_f, ↓i_bi_t, ↓i_bi_f, ↓i_some, ↓bC_g0 hC, ↓bC_g1 hC, ↓bC_g2 hC, ↓bC_g3 hC, ↓bC_g4 hC, ↓bC_g5 hC, ↓bC_g6 hC, ↓bC_g7 hC, ↓bC_g8 hC, ↓bC_g9 hC, ↓bC_g10 hC, ↓bC_inv hC, ↓isRow_w, ↓bC_row hC, ↓bN_inv hN, ↓bnd hg]
        · have w : ∀ k : Nat, k ≤ 21 → wm J (c + 193) s' (c + 193 + k) = s' k := fun k hk => wm_row hk
          have w0 : wm J (c + 193) s' (c + 193) = s' 0 := w 0 (by decide)
          have g0 : s' 0 = up2 (ld I (c + 193)) 0 0 0 0 := by rw [f1 0 (by decide), up2_row (by decide), up2_row (by decide)]
          have g19 : s' 19 = up2 (ld I (c + 193)) 19 i x 19 := by
            rw [f1 19 (by decide), up2_row (by decide)]
            funext j
            by_cases e : j = i
            · rw [e, up2_s, up2_s]
            · rw [up2_n (by omega), up2_n (by omega), up2_n (by omega)]
          have g20 : s' 20 = up2 (ld I (c + 193)) 20 i z 20 := by
            rw [f1 20 (by decide)]
            funext j
            by_cases e : j = i
            · rw [e, up2_s, up2_s]
            · rw [up2_n (by omega), up2_n (by omega), up2_n (by omega), up2_n (by omega)]
          have oj : ∀ b : Nat, b ≠ c + 185 + 2 * i → b ≠ c + 185 + 2 * i + 1 → J b = I b := fun b h1 h2 => by rw [← hJ]; exact wT_o ⟨h1, h2⟩
          have jy : J (c + 185 + 2 * i) = upA (upA (I (c + 185 + 2 * i)) 1 x) 0 (max 0 (min z 60)) := by rw [← hJ]; exact wT_y
          have jp : J (c + 185 + 2 * i + 1) = flR (I (c + 185 + 2 * i + 1)) 60 0 := by rw [← hJ]; exact wT_p
          refine hR.row hi (fun b h1 h2 h3 h4 h5 h6 h7 => ?_) (fun j hj _ => ?_) (fun j hj => ?_) (fun j hj => ?_) (fun j hj => ?_) ?_
          · by_cases hb : c + 193 ≤ b ∧ b ≤ c + 193 + 21
            · obtain ⟨k, rfl⟩ : ∃ k : Nat, b = c + 193 + k := ⟨b - (c + 193), by omega⟩
              rw [w k (by omega), f1 k (by omega), up2_row (by omega), up2_row (by omega), up2_row (by omega)]
              rfl
            · rw [wm_out (by omega), oj b h2 h3]
          · rw [w0, g0, up2_n (by omega)]; rfl
          · rw [w 19 (by decide), g19, up2_n (by omega)]; rfl
          · rw [w 20 (by decide), g20, up2_n (by omega)]; rfl
          · rw [w 21 (by decide), f2, if_neg (by omega)]; rfl
          · have a1 : wm J (c + 193) s' (c + 185 + 2 * i) = J (c + 185 + 2 * i) := wm_out (by omega)
            have a2 : wm J (c + 193) s' (c + 185 + 2 * i + 1) = J (c + 185 + 2 * i + 1) := wm_out (by omega)
            unfold RN1
            rw [a1, a2, w 19 (by decide), w 20 (by decide), w 21 (by decide), jy, jp, g19, g20, up2_s, up2_s, upA_n (by decide), upA_s, upA_s]
            refine ⟨rfl, by omega, by omega, by omega, fun k hk => ?_⟩
            rw [flR_lt hk]
            refine ⟨by omega, fun hz => ?_⟩
            rw [f2, if_pos (by omega)]
        · exact ⟨by rw [wm_out (by omega), ← hJ, wT_o (by omega)], by rw [← hJ, wT_o (by omega)]⟩
      · refine Both.q (v := -3) hR ?_ ?_
        · unfold mX10_numbers
          by_cases c4 : z < 0
          · simp (disch := omega) only [↓i_lt_t, ↓i_lt_f, ↓i_eq_t, ↓i_eq_f, ↓i_bi_t, ↓i_bi_f, ↓i_some, ↓bC_g0 hC, ↓bC_g1 hC, ↓bC_g2 hC, ↓bC_g3 hC, ↓bC_g4 hC, ↓bC_g5 hC, ↓bC_g6 hC, ↓bC_g7 hC, ↓bC_g8 hC, ↓bC_g9 hC, ↓bC_g10 hC, ↓bC_inv hC, ↓isRow_w]
          · simp (disch := omega) only [↓i_lt_t, ↓i_lt_f, ↓i_eq_t, ↓i_eq_f, ↓i_bi_t, ↓i_bi_f, ↓i_some, ↓bC_g0 hC, ↓bC_g1 hC, ↓bC_g2 hC, ↓bC_g3 hC, ↓bC_g4 hC, ↓bC_g5 hC, ↓bC_g6 hC, ↓bC_g7 hC, ↓bC_g8 hC, ↓bC_g9 hC, ↓bC_g10 hC, ↓bC_inv hC, ↓isRow_w]
        · unfold mX11_numbers
          simp (disch := omega) only [↓i_lt_t, ↓i_lt_f, ↓i_eq_t, ↓i_eq_f, ↓i_bi_t, ↓i_bi_f, ↓i_some, ↓bM_gI hM, ↓bM_pI hM, ↓bM_inv hM, ↓bM_g1 hM, ↓bM_g2 hM, ↓bM_g3 hM, ↓bM_g4 hM, ↓bM_g15 hM, ↓bM_g16 hM, ↓bM_g22 hM, ↓bM_g23 hM, ↓bM_g24 hM, ↓bM_g25 hM, ↓bM_g28 hM, ↓bM_g29 hM, ↓bM_g30 hM, ↓bM_g32 hM, ↓bM_g33 hM, ↓bM_g34 hM, ↓bM_g36 hM, ↓bM_g37 hM, ↓bM_g41 hM, ↓bM_g42 hM, ↓bM_g43 hM, ↓bM_ld1 hM, ↓bM_ld2 hM, ↓bM_ld3 hM, ↓bM_ld4 hM, ↓bM_ld5 hM, ↓bM_ld6 hM, ↓bM_ld7 hM, ↓bM_ld8 hM, ↓bM_ld9 hM, ↓bM_ld10 hM, ↓bM_ld11 hM, ↓bM_ld12 hM, ↓bM_ld13 hM, ↓bM_ld14 hM, ↓bM_ld15 hM, ↓bM_ld16 hM, ↓bM_ld17 hM, ↓bM_ld18 hM, ↓bM_ld19 hM, ↓bM_ld20 hM, ↓bM_ld21 hM, ↓bM_st1 hM, ↓bM_st2 hM, ↓bM_st3 hM, ↓bM_st4 hM, ↓bM_st5 hM, ↓bM_st6 hM, ↓bM_st7 hM, ↓bM_st8 hM, ↓bM_st9 hM, ↓bM_st10 hM, ↓bM_st11 hM, ↓bM_st12 hM, ↓bM_st13 hM, ↓bM_st14 hM, ↓bM_st15 hM, ↓bM_st16 hM, ↓bM_st17 hM, ↓bM_st18 hM, ↓bM_st19 hM, ↓bM_st20 hM, ↓bM_st21 hM, ↓within_w]
    · refine Both.q (v := -2) hR ?_ ?_
      · unfold mX10_numbers
        by_cases c4 : x < 0
        · simp (disch := omega) only [↓i_lt_t, ↓i_lt_f, ↓i_eq_t, ↓i_eq_f, ↓i_bi_t, ↓i_bi_f, ↓i_some, ↓bC_g0 hC, ↓bC_g1 hC, ↓bC_g2 hC, ↓bC_g3 hC, ↓bC_g4 hC, ↓bC_g5 hC, ↓bC_g6 hC, ↓bC_g7 hC, ↓bC_g8 hC, ↓bC_g9 hC, ↓bC_g10 hC, ↓bC_inv hC, ↓isRow_w]
        · simp (disch := omega) only [↓i_lt_t, ↓i_lt_f, ↓i_eq_t, ↓i_eq_f, ↓i_bi_t, ↓i_bi_f, ↓i_some, ↓bC_g0 hC, ↓bC_g1 hC, ↓bC_g2 hC, ↓bC_g3 hC, ↓bC_g4 hC, ↓bC_g5 hC, ↓bC_g6 hC, ↓bC_g7 hC, ↓bC_g8 hC, ↓bC_g9 hC, ↓bC_g10 hC, ↓bC_inv hC, ↓isRow_w]
      · unfold mX11_numbers
        simp (disch := omega) only [↓i_lt_t, ↓i_lt_f, ↓i_eq_t, ↓i_eq_f, ↓i_bi_t, ↓i_bi_f, ↓i_some, ↓bM_gI hM, ↓bM_pI hM, ↓bM_inv hM, ↓bM_g1 hM, ↓bM_g2 hM, ↓bM_g3 hM, ↓bM_g4 hM, ↓bM_g15 hM, ↓bM_g16 hM, ↓bM_g22 hM, ↓bM_g23 hM, ↓bM_g24 hM, ↓bM_g25 hM, ↓bM_g28 hM, ↓bM_g29 hM, ↓bM_g30 hM, ↓bM_g32 hM, ↓bM_g33 hM, ↓bM_g34 hM, ↓bM_g36 hM, ↓bM_g37 hM, ↓bM_g41 hM, ↓bM_g42 hM, ↓bM_g43 hM, ↓bM_ld1 hM, ↓bM_ld2 hM, ↓bM_ld3 hM, ↓bM_ld4 hM, ↓bM_ld5 hM, ↓bM_ld6 hM, ↓bM_ld7 hM, ↓bM_ld8 hM, ↓bM_ld9 hM, ↓bM_ld10 hM, ↓bM_ld11 hM, ↓bM_ld12 hM, ↓bM_ld13 hM, ↓bM_ld14 hM, ↓bM_ld15 hM, ↓bM_ld16 hM, ↓bM_ld17 hM, ↓bM_ld18 hM, ↓bM_ld19 hM, ↓bM_ld20 hM, ↓bM_ld21 hM, ↓bM_st1 hM, ↓bM_st2 hM, ↓bM_st3 hM, ↓bM_st4 hM, ↓bM_st5 hM, ↓bM_st6 hM, ↓bM_st7 hM, ↓bM_st8 hM, ↓bM_st9 hM, ↓bM_st10 hM, ↓bM_st11 hM, ↓bM_st12 hM, ↓bM_st13 hM, ↓bM_st14 hM, ↓bM_st15 hM, ↓bM_st16 hM, ↓bM_st17 hM, ↓bM_st18 hM, ↓bM_st19 hM, ↓bM_st20 hM, ↓bM_st21 hM, ↓within_w]
  · refine Both.q (v := -2) hR ?_ ?_
    · unfold mX10_numbers
      simp (disch := omega) only [↓i_lt_t, ↓i_lt_f, ↓i_eq_t, ↓i_eq_f, ↓i_bi_t, ↓i_bi_f, ↓i_some, ↓bC_g0 hC, ↓bC_g1 hC, ↓bC_g2 hC, ↓bC_g3 hC, ↓bC_g4 hC, ↓bC_g5 hC, ↓bC_g6 hC, ↓bC_g7 hC, ↓bC_g8 hC, ↓bC_g9 hC, ↓bC_g10 hC, ↓bC_inv hC, ↓isRow_w]
    · unfold mX11_numbers
      simp (disch := omega) only [↓i_lt_t, ↓i_lt_f, ↓i_eq_t, ↓i_eq_f, ↓i_bi_t, ↓i_bi_f, ↓i_some, ↓bM_gI hM, ↓bM_pI hM, ↓bM_inv hM, ↓bM_g1 hM, ↓bM_g2 hM, ↓bM_g3 hM, ↓bM_g4 hM, ↓bM_g15 hM, ↓bM_g16 hM, ↓bM_g22 hM, ↓bM_g23 hM, ↓bM_g24 hM, ↓bM_g25 hM, ↓bM_g28 hM, ↓bM_g29 hM, ↓bM_g30 hM, ↓bM_g32 hM, ↓bM_g33 hM, ↓bM_g34 hM, ↓bM_g36 hM, ↓bM_g37 hM, ↓bM_g41 hM, ↓bM_g42 hM, ↓bM_g43 hM, ↓bM_ld1 hM, ↓bM_ld2 hM, ↓bM_ld3 hM, ↓bM_ld4 hM, ↓bM_ld5 hM, ↓bM_ld6 hM, ↓bM_ld7 hM, ↓bM_ld8 hM, ↓bM_ld9 hM, ↓bM_ld10 hM, ↓bM_ld11 hM, ↓bM_ld12 hM, ↓bM_ld13 hM, ↓bM_ld14 hM, ↓bM_ld15 hM, ↓bM_ld16 hM, ↓bM_ld17 hM, ↓bM_ld18 hM, ↓bM_ld19 hM, ↓bM_ld20 hM, ↓bM_ld21 hM, ↓bM_st1 hM, ↓bM_st2 hM, ↓bM_st3 hM, ↓bM_st4 hM, ↓bM_st5 hM, ↓bM_st6 hM, ↓bM_st7 hM, ↓bM_st8 hM, ↓bM_st9 hM, ↓bM_st10 hM, ↓bM_st11 hM, ↓bM_st12 hM, ↓bM_st13 hM, ↓bM_st14 hM, ↓bM_st15 hM, ↓bM_st16 hM, ↓bM_st17 hM, ↓bM_st18 hM, ↓bM_st19 hM, ↓bM_st20 hM, ↓bM_st21 hM, ↓within_w]
end RW
