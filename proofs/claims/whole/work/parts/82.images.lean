/-! image and restore -/
theorem RelC.img {c i : Nat} {I K : Nat → Nat → Int} (hR : RelC c I) (hi : i < 2) (o : ∀ b : Nat, ¬ tmp c b → ¬ (c + 159 + 13 * i ≤ b ∧ b ≤ c + 159 + 13 * i + 12) → b ≠ c + 30 → b ≠ c + 193 → b ≠ c + 193 + 1 → b ≠ c + 193 + 2 → K b = I b) (o30 : ∀ j : Nat, j ≠ i → K (c + 30) j = I (c + 30) j) (o0 : ∀ j : Nat, 0 < j → j < 17 → K (c + 193) j = I (c + 193) j) (o1 : ∀ j : Nat, ¬ (220 * (i + 1) ≤ j ∧ j < 220 * (i + 1) + 220) → K (c + 193 + 1) j = I (c + 193 + 1) j) (o2 : ∀ j : Nat, j ≠ i → K (c + 193 + 2) j = I (c + 193 + 2) j) (h1 : K (c + 30) i = 1) (h2 : K (c + 193 + 2) i = 1) (hl : RLl (ld K (c + 159 + 13 * i)) (fun k => K (c + 193 + 1) (220 * (i + 1) + k))) : RelC c K := by
  obtain ⟨rl, ri, rn, rt⟩ := hR
  have e : ∀ b : Nat, (b < c + 16 ∨ (c + 185 ≤ b ∧ b < c + 193) ∨ (c + 195 < b ∧ b < c + 193 + 22)) → K b = I b := fun b hb => o b (by unfold tmp; omega) (by omega) (by omega) (by omega) (by omega) (by omega)
  refine ⟨?_, fun k hk => ?_, fun k hk => ?_, ?_⟩
  · have rl' : RLl (ld K (c + 3)) (I (c + 193 + 1)) := rl.cg (fun k hk => e _ (by omega))
    obtain ⟨a1, a2, a3, a4⟩ := rl'
    refine ⟨a1, ?_, ?_, a4⟩
    · obtain ⟨b1, b2, b3⟩ := a2
      have hz := a1.1
      refine ⟨?_, fun h hh => ?_, fun r hr => ?_⟩
      · rw [o1 _ (by omega), o1 _ (by omega), o1 _ (by omega), o1 _ (by omega), o1 _ (by omega)]; exact b1
      · rw [o1 _ (by omega), o1 _ (by omega), o1 _ (by omega), o1 _ (by omega), o1 _ (by omega)]; exact b2 h hh
      · rw [o1 _ (by omega), o1 _ (by omega), o1 _ (by omega), o1 _ (by omega), o1 _ (by omega), o1 _ (by omega), o1 _ (by omega), o1 _ (by omega), o1 _ (by omega)]; exact b3 r hr
    · have hz := a1.1
      refine ⟨by rw [o1 _ (by omega)]; exact a3.1, fun h hh => ?_⟩
      rw [o1 _ (by omega), o1 _ (by omega)]; exact a3.2 h hh
  · by_cases ek : k = i
    · subst ek
      exact ⟨h1.trans h2.symm, Or.inr h1, fun _ => hl⟩
    · rw [o30 k ek, o2 k ek]
      refine ⟨(ri k hk).1, (ri k hk).2.1, fun z => ?_⟩
      have e2 : (fun j => K (c + 193 + 1) (220 * (k + 1) + j)) = (fun j => K (c + 193 + 1) (220 * (k + 1) + j)) := rfl
      have g := ((ri k hk).2.2 z).cg (l' := ld K (c + 159 + 13 * k)) (fun j hj => o _ (by unfold tmp; omega) (by omega) (by omega) (by omega) (by omega) (by omega))
      obtain ⟨a1, a2, a3, a4⟩ := g
      have hz := a1.1
      refine ⟨a1, ?_, ?_, a4⟩
      · obtain ⟨b1, b2, b3⟩ := a2
        refine ⟨?_, fun h hh => ?_, fun r hr => ?_⟩
        · try dsimp only
          rw [o1 _ (by omega), o1 _ (by omega), o1 _ (by omega), o1 _ (by omega), o1 _ (by omega)]; exact b1
        · try dsimp only
          rw [o1 _ (by omega), o1 _ (by omega), o1 _ (by omega), o1 _ (by omega), o1 _ (by omega)]; exact b2 h hh
        · try dsimp only
          rw [o1 _ (by omega), o1 _ (by omega), o1 _ (by omega), o1 _ (by omega), o1 _ (by omega), o1 _ (by omega), o1 _ (by omega), o1 _ (by omega), o1 _ (by omega)]; exact b3 r hr
      · refine ⟨?_, fun h hh => ?_⟩
        · try dsimp only
          rw [o1 _ (by omega)]; exact a3.1
        · try dsimp only
          rw [o1 _ (by omega), o1 _ (by omega)]; exact a3.2 h hh
  · have e1 : K (c + 185 + 2 * k) = I (c + 185 + 2 * k) := e _ (by omega)
    have e2 : K (c + 185 + 2 * k + 1) = I (c + 185 + 2 * k + 1) := e _ (by omega)
    rw [e1, e2, e (c + 193 + 19) (by omega), e (c + 193 + 20) (by omega), e (c + 193 + 21) (by omega)]
    exact rn k hk
  · unfold RT
    rw [e (c + 1) (by omega), e (c + 2) (by omega), e (c + 193 + 3) (by omega), o0 5 (by omega) (by omega), o0 13 (by omega) (by omega), o0 14 (by omega) (by omega)]
    exact rt
/-- a row that agrees with another one up to 220 -/
theorem RLl.row {l : Ld} {A B : Nat → Int} (h : RLl l A) (e : ∀ j : Nat, j < 220 → B j = A j) : RLl l B := by
  obtain ⟨a1, a2, a3, a4⟩ := h
  have hz := a1.1
  refine ⟨a1, ?_, ?_, a4⟩
  · obtain ⟨b1, b2, b3⟩ := a2
    refine ⟨?_, fun h hh => ?_, fun r hr => ?_⟩
    · rw [e _ (by omega), e _ (by omega), e _ (by omega), e _ (by omega), e _ (by omega)]; exact b1
    · rw [e _ (by omega), e _ (by omega), e _ (by omega), e _ (by omega), e _ (by omega)]; exact b2 h hh
    · rw [e _ (by omega), e _ (by omega), e _ (by omega), e _ (by omega), e _ (by omega), e _ (by omega), e _ (by omega), e _ (by omega), e _ (by omega)]; exact b3 r hr
  · refine ⟨by rw [e _ (by omega)]; exact a3.1, fun h hh => ?_⟩
    rw [e _ (by omega), e _ (by omega)]; exact a3.2 h hh
section IM
variable {μ : Mem} {I : Nat → Nat → Int} {c n : Nat} {β : Type}
theorem isC.img {μ : Mem} {c : Nat} (h : isC μ c) {i : Nat} (hi : i < 2) : isL μ (c + 159 + 13 * i) := (h.2.2.2.2.1 i hi).1
theorem bC_img (h : isC μ c) {i : Nat} (hi : i < 2) {f : Nat → Option β} : (ldA (wi μ I) 4 (c + 29) (i : Int)).bind f = f (c + 159 + 13 * i) := bnd ((e_ldA (L := 2) h.2.2.2.1.1 (by omega) (by omega) (by omega)).trans (congrArg some (by rw [Int.toNat_natCast]; exact (h.2.2.2.2.1 i hi).2))) f
theorem bC_imd (h : isC μ c) {i : Nat} (hi : i < 2) {f : Int → Option β} : (ldI (wi μ I) 2 (c + 30) (i : Int)).bind f = f (I (c + 30) i) := bnd ((e_ldI (L := 2) h.2.2.2.1.2.1 (by omega) (by omega) (by omega)).trans (by rw [Int.toNat_natCast])) f
theorem bC_ims (h : isC μ c) {i : Nat} (hi : i < 2) {f : Mem → Option β} : (stZ (wi μ I) (c + 30) (i : Int) 1).bind f = f (wi μ (up2 I (c + 30) i 1)) := bnd ((e_stZ (L := 2) h.2.2.2.1.2.1 (by omega) (by omega) (by omega) (Or.inr rfl)).trans (by rw [Int.toNat_natCast])) f
theorem wl_ldo {I : Nat → Nat → Int} {a m : Nat} {l : Ld} (h : ∀ k : Nat, m + k < a ∨ a + 12 < m + k) : ld (wl I a l) m = ld I m := funext fun k => wl_out (h k)
theorem both_image (hC : isC μ c) (hM : isM μ (c + 193)) (hR : RelC c I) {b : Int} (hb : -2147483648 ≤ b ∧ b < 2147483648) (hn : 20000 ≤ n) : Both μ c I (mX10_image n c b) (mX11_image n (c + 193) b) := by
  by_cases c1 : 0 ≤ b ∧ b ≤ 1
  · obtain ⟨i, rfl⟩ : ∃ i : Nat, b = (i : Int) := ⟨b.toNat, by omega⟩
    have hi : i < 2 := by omega
    obtain ⟨m, ht, hm⟩ := takeAll_w (n := n) (I := I) (a := c + 159 + 13 * i) (b := c + 3) (hC.img hi) hC.here (by omega)
    generalize hJ : up2 (wl I (c + 159 + 13 * i) m) (c + 30) i 1 = J
    have oj : ∀ b : Nat, ¬ (c + 159 + 13 * i ≤ b ∧ b ≤ c + 159 + 13 * i + 12) → b ≠ c + 30 → J b = I b := fun b h1 h2 => by rw [← hJ, up2_row h2, wl_out (by omega)]
    have eJ : ld J (c + 193) = ld I (c + 193) := funext fun k => oj _ (by omega) (by omega)
    have main : ∃ s' : Ld, mX11_image n (c + 193) (i : Int) (wi μ (wm J (c + 193) (ld J (c + 193)))) = some (0, wi μ (wm J (c + 193) s')) ∧ (∀ a : Nat, a ≠ 1 → s' a = up2 (up2 (ld I (c + 193)) 0 0 0) 2 i 1 a) ∧ ∀ j : Nat, s' 1 j = if 220 * (i + 1) ≤ j ∧ j < 220 * (i + 1) + 220 then I (c + 193 + 1) (j - 220 * (i + 1)) else I (c + 193 + 1) j := by
      rw [eJ]
      unfold mX11_image
      simp (disch := omega) only [↓i_lt_t, ↓i_lt_f, ↓i_eq_t, ↓i_eq_f, ↓i_bi_t, ↓i_bi_f, ↓i_some, ↓bM_gI hM, ↓bM_pI hM, ↓bM_inv hM, ↓bM_g1 hM, ↓bM_g2 hM, ↓bM_g3 hM, ↓bM_g4 hM, ↓bM_g15 hM, ↓bM_g16 hM, ↓bM_g22 hM, ↓bM_g23 hM, ↓bM_g24 hM, ↓bM_g25 hM, ↓bM_g28 hM, ↓bM_g29 hM, ↓bM_g30 hM, ↓bM_g32 hM, ↓bM_g33 hM, ↓bM_g34 hM, ↓bM_g36 hM, ↓bM_g37 hM, ↓bM_g41 hM, ↓bM_g42 hM, ↓bM_g43 hM, ↓bM_ld1 hM, ↓bM_ld2 hM, ↓bM_ld3 hM, ↓bM_ld4 hM, ↓bM_ld5 hM, ↓bM_ld6 hM, ↓bM_ld7 hM, ↓bM_ld8 hM, ↓bM_ld9 hM, ↓bM_ld10 hM, ↓bM_ld11 hM, ↓bM_ld12 hM, ↓bM_ld13 hM, ↓bM_ld14 hM, ↓bM_ld15 hM, ↓bM_ld16 hM, ↓bM_ld17 hM, ↓bM_ld18 hM, ↓bM_ld19 hM, ↓bM_ld20 hM, ↓bM_ld21 hM, ↓bM_st1 hM, ↓bM_st2 hM, ↓bM_st3 hM, ↓bM_st4 hM, ↓bM_st5 hM, ↓bM_st6 hM, ↓bM_st7 hM, ↓bM_st8 hM, ↓bM_st9 hM, ↓bM_st10 hM, ↓bM_st11 hM, ↓bM_st12 hM, ↓bM_st13 hM, ↓bM_st14 hM, ↓bM_st15 hM, ↓bM_st16 hM, ↓bM_st17 hM, ↓bM_st18 hM, ↓bM_st19 hM, ↓bM_st20 hM, ↓bM_st21 hM, ↓within_w, Int.toNat_add, Int.toNat_mul, Int.toNat_natCast, Int.reduceToNat, Nat.reduceAdd, Nat.reduceMul]
      refine lp_ind (fun d v ν => ∃ s' : Ld, ν = wi μ (wm J (c + 193) s') ∧ (d : Int) + v = 220 ∧ 0 ≤ v ∧ (∀ a : Nat, a ≠ 1 → s' a = up2 (ld I (c + 193)) 0 0 0 a) ∧ ∀ j : Nat, s' 1 j = if 220 * (i + 1) ≤ j ∧ j < 220 * (i + 1) + v.toNat then I (c + 193 + 1) (j - 220 * (i + 1)) else I (c + 193 + 1) j) (fun X => ∃ s' : Ld, X = some (0, wi μ (wm J (c + 193) s')) ∧ (∀ a : Nat, a ≠ 1 → s' a = up2 (up2 (ld I (c + 193)) 0 0 0) 2 i 1 a) ∧ ∀ j : Nat, s' 1 j = if 220 * (i + 1) ≤ j ∧ j < 220 * (i + 1) + 220 then I (c + 193 + 1) (j - 220 * (i + 1)) else I (c + 193 + 1) j) (fun d v ν nx hp hnx => ?_) n 220 0 _ (by omega) ⟨_, rfl, by omega, by omega, fun a _ => rfl, fun j => ?_⟩
      · obtain ⟨s', rfl, h1, h2, h3, h4⟩ := hp
        by_cases cv : v < 220
        · simp (disch := omega) only [↓i_lt_t, ↓i_lt_f, ↓i_eq_t, ↓i_eq_f, ↓i_bi_t, ↓i_bi_f, ↓i_some, ↓bM_gI hM, ↓bM_pI hM, ↓bM_inv hM, ↓bM_g1 hM, ↓bM_g2 hM, ↓bM_g3 hM, ↓bM_g4 hM, ↓bM_g15 hM, ↓bM_g16 hM, ↓bM_g22 hM, ↓bM_g23 hM, ↓bM_g24 hM, ↓bM_g25 hM, ↓bM_g28 hM, ↓bM_g29 hM, ↓bM_g30 hM, ↓bM_g32 hM, ↓bM_g33 hM, ↓bM_g34 hM, ↓bM_g36 hM, ↓bM_g37 hM, ↓bM_g41 hM, ↓bM_g42 hM, ↓bM_g43 hM, ↓bM_ld1 hM, ↓bM_ld2 hM, ↓bM_ld3 hM, ↓bM_ld4 hM, ↓bM_ld5 hM, ↓bM_ld6 hM, ↓bM_ld7 hM, ↓bM_ld8 hM, ↓bM_ld9 hM, ↓bM_ld10 hM, ↓bM_ld11 hM, ↓bM_ld12 hM, ↓bM_ld13 hM, ↓bM_ld14 hM, ↓bM_ld15 hM, ↓bM_ld16 hM, ↓bM_ld17 hM, ↓bM_ld18 hM, ↓bM_ld19 hM, ↓bM_ld20 hM, ↓bM_ld21 hM, ↓bM_st1 hM, ↓bM_st2 hM, ↓bM_st3 hM, ↓bM_st4 hM, ↓bM_st5 hM, ↓bM_st6 hM, ↓bM_st7 hM, ↓bM_st8 hM, ↓bM_st9 hM, ↓bM_st10 hM, ↓bM_st11 hM, ↓bM_st12 hM, ↓bM_st13 hM, ↓bM_st14 hM, ↓bM_st15 hM, ↓bM_st16 hM, ↓bM_st17 hM, ↓bM_st18 hM, ↓bM_st19 hM, ↓bM_st20 hM, ↓bM_st21 hM, Int.toNat_add, Int.toNat_mul, Int.toNat_natCast, Int.reduceToNat, Nat.reduceAdd, Nat.reduceMul]
          refine hnx (d - 1) _ _ (by omega) ⟨_, rfl, by omega, by omega, fun a ha => ?_, fun j => ?_⟩
          · rw [up2_row ha, h3 a ha]
          · by_cases e : j = 220 * (i + 1) + v.toNat
            · rw [e, up2_s, if_pos (by omega), h4, if_neg (by omega), show 220 * (i + 1) + v.toNat - 220 * (i + 1) = v.toNat by omega]
            · rw [up2_n (by omega), h4 j]
              by_cases e2 : 220 * (i + 1) ≤ j ∧ j < 220 * (i + 1) + v.toNat
              · rw [if_pos e2, if_pos (by omega)]
              · rw [if_neg e2, if_neg (by omega)]
        · have e : v = 220 := by omega
          subst e
          simp (disch := omega) only [↓i_lt_t, ↓i_lt_f, ↓i_eq_t, ↓i_eq_f, ↓i_bi_t, ↓i_bi_f, ↓i_some, ↓bM_gI hM, ↓bM_pI hM, ↓bM_inv hM, ↓bM_g1 hM, ↓bM_g2 hM, ↓bM_g3 hM, ↓bM_g4 hM, ↓bM_g15 hM, ↓bM_g16 hM, ↓bM_g22 hM, ↓bM_g23 hM, ↓bM_g24 hM, ↓bM_g25 hM, ↓bM_g28 hM, ↓bM_g29 hM, ↓bM_g30 hM, ↓bM_g32 hM, ↓bM_g33 hM, ↓bM_g34 hM, ↓bM_g36 hM, ↓bM_g37 hM, ↓bM_g41 hM, ↓bM_g42 hM, ↓bM_g43 hM, ↓bM_ld1 hM, ↓bM_ld2 hM, ↓bM_ld3 hM, ↓bM_ld4 hM, ↓bM_ld5 hM, ↓bM_ld6 hM, ↓bM_ld7 hM, ↓bM_ld8 hM, ↓bM_ld9 hM, ↓bM_ld10 hM, ↓bM_ld11 hM, ↓bM_ld12 hM, ↓bM_ld13 hM, ↓bM_ld14 hM, ↓bM_ld15 hM, ↓bM_ld16 hM, ↓bM_ld17 hM, ↓bM_ld18 hM, ↓bM_ld19 hM, ↓bM_ld20 hM, ↓bM_ld21 hM, ↓bM_st1 hM, ↓bM_st2 hM, ↓bM_st3 hM, ↓bM_st4 hM, ↓bM_st5 hM, ↓bM_st6 hM, ↓bM_st7 hM, ↓bM_st8 hM, ↓bM_st9 hM, ↓bM_st10 hM, ↓bM_st11 hM, ↓bM_st12 hM, ↓bM_st13 hM, ↓bM_st14 hM, ↓bM_st15 hM, ↓bM_st16 hM, ↓bM_st17 hM, ↓bM_st18 hM, ↓bM_st19 hM, ↓bM_st20 hM, ↓bM_st21 hM, Int.toNat_add, Int.toNat_mul, Int.toNat_natCast, Int.reduceToNat, Nat.reduceAdd, Nat.reduceMul]
          refine ⟨_, rfl, fun a ha => ?_, fun j => ?_⟩
          · by_cases e2 : a = 2
            · subst e2
              funext j
              by_cases ej : j = i
              · rw [ej, up2_s, up2_s]
              · rw [up2_n (by omega), up2_n (by omega), h3 2 (by decide)]
            · rw [up2_row e2, up2_row e2, h3 a ha]
          · rw [up2_row (by decide), h4 j]
            rfl
      · rw [if_neg (by omega), up2_row (by decide)]
        rfl
    obtain ⟨s', e, f1, f2⟩ := main
    rw [ldwm] at e
    refine ⟨0, J, _, ?_, e, ?_, fun b hb => ?_⟩
    · unfold mX10_image
      simp (disch := omega) only [↓i_lt_t, ↓i_lt_f, ↓i_eq_t, ↓i_eq_f, ↓i_bi_t, ↓i_bi_f, ↓i_some, ↓bC_g0 hC, ↓bC_g1 hC, ↓bC_g2 hC, ↓bC_g3 hC, ↓bC_g4 hC, ↓bC_g5 hC, ↓bC_g6 hC, ↓bC_g7 hC, ↓bC_g8 hC, ↓bC_g9 hC, ↓bC_g10 hC, ↓bC_inv hC, ↓bC_img hC hi, ↓bL_inv (hC.img hi), ↓bnd ht, ↓bC_ims hC hi, hJ]
    · have w : ∀ k : Nat, k ≤ 21 → wm J (c + 193) s' (c + 193 + k) = s' k := fun k hk => wm_row hk
      have w0 : wm J (c + 193) s' (c + 193) = s' 0 := w 0 (by decide)
      have g0 : s' 0 = up2 (ld I (c + 193)) 0 0 0 0 := by rw [f1 0 (by decide), up2_row (by decide)]
      have g2 : s' 2 = up2 (ld I (c + 193)) 2 i 1 2 := by
        rw [f1 2 (by decide)]
        funext j
        by_cases e : j = i
        · rw [e, up2_s, up2_s]
        · rw [up2_n (by omega), up2_n (by omega), up2_n (by omega)]
      have j30 : wm J (c + 193) s' (c + 30) = J (c + 30) := wm_out (by omega)
      refine hR.img hi (fun b h1 h2 h3 h4 h5 h6 => ?_) (fun j hj => ?_) (fun j hj _ => ?_) (fun j hj => ?_) (fun j hj => ?_) ?_ ?_ ?_
      · by_cases hb : c + 193 ≤ b ∧ b ≤ c + 193 + 21
        · obtain ⟨k, rfl⟩ : ∃ k : Nat, b = c + 193 + k := ⟨b - (c + 193), by omega⟩
          rw [w k (by omega), f1 k (by omega), up2_row (by omega), up2_row (by omega)]
          rfl
        · rw [wm_out (by omega), oj b h2 h3]
      · rw [j30, ← hJ, up2_n (by omega), wl_out (by omega)]
      · rw [w0, g0, up2_n (by omega)]; rfl
      · rw [w 1 (by decide), f2, if_neg hj]
      · rw [w 2 (by decide), g2, up2_n (by omega)]; rfl
      · rw [j30, ← hJ, up2_s]
      · rw [w 2 (by decide), g2, up2_s]
      · have hl := hm.rl hR.1
        have el : ∀ k : Nat, k ≤ 12 → ld (wm J (c + 193) s') (c + 159 + 13 * i) k = m k := fun k hk => by
          show wm J (c + 193) s' (c + 159 + 13 * i + k) = _
          rw [wm_out (by omega), ← hJ, up2_row (by omega), wl_row hk]
        refine (hl.cg el).row (fun j hj => ?_)
        rw [w 1 (by decide), f2, if_pos (by omega), show 220 * (i + 1) + j - 220 * (i + 1) = j by omega]
    · exact ⟨by rw [wm_out (by omega), oj b (by omega) (by omega)], oj b (by omega) (by omega)⟩
  · refine Both.q (v := -2) hR ?_ ?_
    · unfold mX10_image
      by_cases c4 : b < 0
      · simp (disch := omega) only [↓i_lt_t, ↓i_lt_f, ↓i_eq_t, ↓i_eq_f, ↓i_bi_t, ↓i_bi_f, ↓i_some]
      · simp (disch := omega) only [↓i_lt_t, ↓i_lt_f, ↓i_eq_t, ↓i_eq_f, ↓i_bi_t, ↓i_bi_f, ↓i_some]
    · unfold mX11_image
      simp (disch := omega) only [↓i_lt_t, ↓i_lt_f, ↓i_eq_t, ↓i_eq_f, ↓i_bi_t, ↓i_bi_f, ↓i_some, ↓bM_gI hM, ↓bM_pI hM, ↓bM_inv hM, ↓bM_g1 hM, ↓bM_g2 hM, ↓bM_g3 hM, ↓bM_g4 hM, ↓bM_g15 hM, ↓bM_g16 hM, ↓bM_g22 hM, ↓bM_g23 hM, ↓bM_g24 hM, ↓bM_g25 hM, ↓bM_g28 hM, ↓bM_g29 hM, ↓bM_g30 hM, ↓bM_g32 hM, ↓bM_g33 hM, ↓bM_g34 hM, ↓bM_g36 hM, ↓bM_g37 hM, ↓bM_g41 hM, ↓bM_g42 hM, ↓bM_g43 hM, ↓bM_ld1 hM, ↓bM_ld2 hM, ↓bM_ld3 hM, ↓bM_ld4 hM, ↓bM_ld5 hM, ↓bM_ld6 hM, ↓bM_ld7 hM, ↓bM_ld8 hM, ↓bM_ld9 hM, ↓bM_ld10 hM, ↓bM_ld11 hM, ↓bM_ld12 hM, ↓bM_ld13 hM, ↓bM_ld14 hM, ↓bM_ld15 hM, ↓bM_ld16 hM, ↓bM_ld17 hM, ↓bM_ld18 hM, ↓bM_ld19 hM, ↓bM_ld20 hM, ↓bM_ld21 hM, ↓bM_st1 hM, ↓bM_st2 hM, ↓bM_st3 hM, ↓bM_st4 hM, ↓bM_st5 hM, ↓bM_st6 hM, ↓bM_st7 hM, ↓bM_st8 hM, ↓bM_st9 hM, ↓bM_st10 hM, ↓bM_st11 hM, ↓bM_st12 hM, ↓bM_st13 hM, ↓bM_st14 hM, ↓bM_st15 hM, ↓bM_st16 hM, ↓bM_st17 hM, ↓bM_st18 hM, ↓bM_st19 hM, ↓bM_st20 hM, ↓bM_st21 hM, ↓within_w]
theorem both_restore (hC : isC μ c) (hM : isM μ (c + 193)) (hR : RelC c I) {b : Int} (hb : -2147483648 ≤ b ∧ b < 2147483648) (hn : 20000 ≤ n) : Both μ c I (mX10_restore n c b) (mX11_restore n (c + 193) b) := by
  by_cases c1 : 0 ≤ b ∧ b ≤ 1
  · obtain ⟨i, rfl⟩ : ∃ i : Nat, b = (i : Int) := ⟨b.toNat, by omega⟩
    have hi : i < 2 := by omega
    obtain ⟨r1, r2, r3⟩ := hR.2.1 i hi
    have s2 : up2 (ld I (c + 193)) 0 0 0 2 i = I (c + 30) i := (congrFun (up2_row (by decide)) i).trans r1.symm
    by_cases c2 : I (c + 30) i = 0
    · refine Both.q (v := -5) hR ?_ ?_
      · unfold mX10_restore
        simp (disch := omega) only [↓i_lt_t, ↓i_lt_f, ↓i_eq_t, ↓i_eq_f, ↓i_bi_t, ↓i_bi_f, ↓i_some, ↓bC_g0 hC, ↓bC_g1 hC, ↓bC_g2 hC, ↓bC_g3 hC, ↓bC_g4 hC, ↓bC_g5 hC, ↓bC_g6 hC, ↓bC_g7 hC, ↓bC_g8 hC, ↓bC_g9 hC, ↓bC_g10 hC, ↓bC_inv hC, ↓bC_imd hC hi]
      · unfold mX11_restore
        simp (disch := omega) only [↓i_lt_t, ↓i_lt_f, ↓i_eq_t, ↓i_eq_f, ↓i_bi_t, ↓i_bi_f, ↓i_some, ↓bM_gI hM, ↓bM_pI hM, ↓bM_inv hM, ↓bM_g1 hM, ↓bM_g2 hM, ↓bM_g3 hM, ↓bM_g4 hM, ↓bM_g15 hM, ↓bM_g16 hM, ↓bM_g22 hM, ↓bM_g23 hM, ↓bM_g24 hM, ↓bM_g25 hM, ↓bM_g28 hM, ↓bM_g29 hM, ↓bM_g30 hM, ↓bM_g32 hM, ↓bM_g33 hM, ↓bM_g34 hM, ↓bM_g36 hM, ↓bM_g37 hM, ↓bM_g41 hM, ↓bM_g42 hM, ↓bM_g43 hM, ↓bM_ld1 hM, ↓bM_ld2 hM, ↓bM_ld3 hM, ↓bM_ld4 hM, ↓bM_ld5 hM, ↓bM_ld6 hM, ↓bM_ld7 hM, ↓bM_ld8 hM, ↓bM_ld9 hM, ↓bM_ld10 hM, ↓bM_ld11 hM, ↓bM_ld12 hM, ↓bM_ld13 hM, ↓bM_ld14 hM, ↓bM_ld15 hM, ↓bM_ld16 hM, ↓bM_ld17 hM, ↓bM_ld18 hM, ↓bM_ld19 hM, ↓bM_ld20 hM, ↓bM_ld21 hM, ↓bM_st1 hM, ↓bM_st2 hM, ↓bM_st3 hM, ↓bM_st4 hM, ↓bM_st5 hM, ↓bM_st6 hM, ↓bM_st7 hM, ↓bM_st8 hM, ↓bM_st9 hM, ↓bM_st10 hM, ↓bM_st11 hM, ↓bM_st12 hM, ↓bM_st13 hM, ↓bM_st14 hM, ↓bM_st15 hM, ↓bM_st16 hM, ↓bM_st17 hM, ↓bM_st18 hM, ↓bM_st19 hM, ↓bM_st20 hM, ↓bM_st21 hM, ↓within_w, Int.toNat_add, Int.toNat_mul, Int.toNat_natCast, Int.reduceToNat, Nat.reduceAdd, Nat.reduceMul, s2]
    · obtain ⟨m, ht, hm⟩ := takeAll_w (n := n) (I := I) (a := c + 3) (b := c + 159 + 13 * i) hC.here (hC.img hi) (by omega)
      have hJ : CFh c I (wl I (c + 3) m) := fun b _ h2 => wl_out (by omega)
      have eJ : ld (wl I (c + 3) m) (c + 193) = ld I (c + 193) := wl_ldo (fun k => by omega)
      have main : ∃ s' : Ld, mX11_restore n (c + 193) (i : Int) (wi μ (wm (wl I (c + 3) m) (c + 193) (ld (wl I (c + 3) m) (c + 193)))) = some (0, wi μ (wm (wl I (c + 3) m) (c + 193) s')) ∧ (∀ a : Nat, a ≠ 1 → s' a = up2 (ld I (c + 193)) 0 0 0 a) ∧ ∀ j : Nat, s' 1 j = if j < 220 then I (c + 193 + 1) (220 * (i + 1) + j) else I (c + 193 + 1) j := by
        rw [eJ]
        unfold mX11_restore
        simp (disch := omega) only [↓i_lt_t, ↓i_lt_f, ↓i_eq_t, ↓i_eq_f, ↓i_bi_t, ↓i_bi_f, ↓i_some, ↓bM_gI hM, ↓bM_pI hM, ↓bM_inv hM, ↓bM_g1 hM, ↓bM_g2 hM, ↓bM_g3 hM, ↓bM_g4 hM, ↓bM_g15 hM, ↓bM_g16 hM, ↓bM_g22 hM, ↓bM_g23 hM, ↓bM_g24 hM, ↓bM_g25 hM, ↓bM_g28 hM, ↓bM_g29 hM, ↓bM_g30 hM, ↓bM_g32 hM, ↓bM_g33 hM, ↓bM_g34 hM, ↓bM_g36 hM, ↓bM_g37 hM, ↓bM_g41 hM, ↓bM_g42 hM, ↓bM_g43 hM, ↓bM_ld1 hM, ↓bM_ld2 hM, ↓bM_ld3 hM, ↓bM_ld4 hM, ↓bM_ld5 hM, ↓bM_ld6 hM, ↓bM_ld7 hM, ↓bM_ld8 hM, ↓bM_ld9 hM, ↓bM_ld10 hM, ↓bM_ld11 hM, ↓bM_ld12 hM, ↓bM_ld13 hM, ↓bM_ld14 hM, ↓bM_ld15 hM, ↓bM_ld16 hM, ↓bM_ld17 hM, ↓bM_ld18 hM, ↓bM_ld19 hM, ↓bM_ld20 hM, ↓bM_ld21 hM, ↓bM_st1 hM, ↓bM_st2 hM, ↓bM_st3 hM, ↓bM_st4 hM, ↓bM_st5 hM, ↓bM_st6 hM, ↓bM_st7 hM, ↓bM_st8 hM, ↓bM_st9 hM, ↓bM_st10 hM, ↓bM_st11 hM, ↓bM_st12 hM, ↓bM_st13 hM, ↓bM_st14 hM, ↓bM_st15 hM, ↓bM_st16 hM, ↓bM_st17 hM, ↓bM_st18 hM, ↓bM_st19 hM, ↓bM_st20 hM, ↓bM_st21 hM, ↓within_w, Int.toNat_add, Int.toNat_mul, Int.toNat_natCast, Int.reduceToNat, Nat.reduceAdd, Nat.reduceMul, s2]
        refine lp_ind (fun d v ν => ∃ s' : Ld, ν = wi μ (wm (wl I (c + 3) m) (c + 193) s') ∧ (d : Int) + v = 220 ∧ 0 ≤ v ∧ (∀ a : Nat, a ≠ 1 → s' a = up2 (ld I (c + 193)) 0 0 0 a) ∧ ∀ j : Nat, s' 1 j = if j < v.toNat then I (c + 193 + 1) (220 * (i + 1) + j) else I (c + 193 + 1) j) (fun X => ∃ s' : Ld, X = some (0, wi μ (wm (wl I (c + 3) m) (c + 193) s')) ∧ (∀ a : Nat, a ≠ 1 → s' a = up2 (ld I (c + 193)) 0 0 0 a) ∧ ∀ j : Nat, s' 1 j = if j < 220 then I (c + 193 + 1) (220 * (i + 1) + j) else I (c + 193 + 1) j) (fun d v ν nx hp hnx => ?_) n 220 0 _ (by omega) ⟨_, rfl, by omega, by omega, fun a _ => rfl, fun j => ?_⟩
        · obtain ⟨s', rfl, h1, h2, h3, h4⟩ := hp
          by_cases cv : v < 220
          · simp (disch := omega) only [↓i_lt_t, ↓i_lt_f, ↓i_eq_t, ↓i_eq_f, ↓i_bi_t, ↓i_bi_f, ↓i_some, ↓bM_gI hM, ↓bM_pI hM, ↓bM_inv hM, ↓bM_g1 hM, ↓bM_g2 hM, ↓bM_g3 hM, ↓bM_g4 hM, ↓bM_g15 hM, ↓bM_g16 hM, ↓bM_g22 hM, ↓bM_g23 hM, ↓bM_g24 hM, ↓bM_g25 hM, ↓bM_g28 hM, ↓bM_g29 hM, ↓bM_g30 hM, ↓bM_g32 hM, ↓bM_g33 hM, ↓bM_g34 hM, ↓bM_g36 hM, ↓bM_g37 hM, ↓bM_g41 hM, ↓bM_g42 hM, ↓bM_g43 hM, ↓bM_ld1 hM, ↓bM_ld2 hM, ↓bM_ld3 hM, ↓bM_ld4 hM, ↓bM_ld5 hM, ↓bM_ld6 hM, ↓bM_ld7 hM, ↓bM_ld8 hM, ↓bM_ld9 hM, ↓bM_ld10 hM, ↓bM_ld11 hM, ↓bM_ld12 hM, ↓bM_ld13 hM, ↓bM_ld14 hM, ↓bM_ld15 hM, ↓bM_ld16 hM, ↓bM_ld17 hM, ↓bM_ld18 hM, ↓bM_ld19 hM, ↓bM_ld20 hM, ↓bM_ld21 hM, ↓bM_st1 hM, ↓bM_st2 hM, ↓bM_st3 hM, ↓bM_st4 hM, ↓bM_st5 hM, ↓bM_st6 hM, ↓bM_st7 hM, ↓bM_st8 hM, ↓bM_st9 hM, ↓bM_st10 hM, ↓bM_st11 hM, ↓bM_st12 hM, ↓bM_st13 hM, ↓bM_st14 hM, ↓bM_st15 hM, ↓bM_st16 hM, ↓bM_st17 hM, ↓bM_st18 hM, ↓bM_st19 hM, ↓bM_st20 hM, ↓bM_st21 hM, Int.toNat_add, Int.toNat_mul, Int.toNat_natCast, Int.reduceToNat, Nat.reduceAdd, Nat.reduceMul]
            refine hnx (d - 1) _ _ (by omega) ⟨_, rfl, by omega, by omega, fun a ha => ?_, fun j => ?_⟩
            · rw [up2_row ha, h3 a ha]
            · by_cases e : j = v.toNat
              · rw [e, up2_s, if_pos (by omega), h4, if_neg (by omega)]
              · rw [up2_n (by omega), h4 j]
                by_cases e2 : j < v.toNat
                · rw [if_pos e2, if_pos (by omega)]
                · rw [if_neg e2, if_neg (by omega)]
          · have e : v = 220 := by omega
            subst e
            simp (disch := omega) only [↓i_lt_t, ↓i_lt_f, ↓i_eq_t, ↓i_eq_f, ↓i_bi_t, ↓i_bi_f, ↓i_some]
            exact ⟨s', rfl, h3, h4⟩
        · rw [if_neg (by omega), up2_row (by decide)]
          rfl
      obtain ⟨s', e, f1, f2⟩ := main
      rw [ldwm] at e
      refine Both.mk hR hJ ?_ e ?_ ?_
      · unfold mX10_restore
        simp (disch := omega) only [↓i_lt_t, ↓i_lt_f, ↓i_eq_t, ↓i_eq_f, ↓i_bi_t, ↓i_bi_f, ↓i_some, ↓bC_g0 hC, ↓bC_g1 hC, ↓bC_g2 hC, ↓bC_g3 hC, ↓bC_g4 hC, ↓bC_g5 hC, ↓bC_g6 hC, ↓bC_g7 hC, ↓bC_g8 hC, ↓bC_g9 hC, ↓bC_g10 hC, ↓bC_inv hC, ↓bC_imd hC hi, ↓bC_img hC hi, ↓bL_inv hC.here, ↓bnd ht]
      · have g : ∀ a : Nat, a ≠ 1 → a ≠ 0 → s' a = ld (wl I (c + 3) m) (c + 193) a := fun a h1 h2 => by rw [f1 a h1, up2_row h2, eJ]
        refine ⟨⟨g 2 (by decide) (by decide), g 3 (by decide) (by decide), g 19 (by decide) (by decide), g 20 (by decide) (by decide), g 21 (by decide) (by decide)⟩, fun j h1 h2 => ?_, fun j hj => ?_⟩
        · rw [f1 0 (by decide), up2_n (by omega), eJ]
        · rw [f2, if_neg (by omega), eJ]; rfl
      · have hl := hm.rl (r3 (by omega))
        have el : ∀ k : Nat, k ≤ 12 → ld (wl I (c + 3) m) (c + 3) k = m k := fun k hk => wl_row hk
        refine (hl.cg el).row (fun j hj => ?_)
        rw [f2, if_pos hj]
  · refine Both.q (v := -2) hR ?_ ?_
    · unfold mX10_restore
      by_cases c4 : b < 0
      · simp (disch := omega) only [↓i_lt_t, ↓i_lt_f, ↓i_eq_t, ↓i_eq_f, ↓i_bi_t, ↓i_bi_f, ↓i_some]
      · simp (disch := omega) only [↓i_lt_t, ↓i_lt_f, ↓i_eq_t, ↓i_eq_f, ↓i_bi_t, ↓i_bi_f, ↓i_some]
    · unfold mX11_restore
      simp (disch := omega) only [↓i_lt_t, ↓i_lt_f, ↓i_eq_t, ↓i_eq_f, ↓i_bi_t, ↓i_bi_f, ↓i_some, ↓bM_gI hM, ↓bM_pI hM, ↓bM_inv hM, ↓bM_g1 hM, ↓bM_g2 hM, ↓bM_g3 hM, ↓bM_g4 hM, ↓bM_g15 hM, ↓bM_g16 hM, ↓bM_g22 hM, ↓bM_g23 hM, ↓bM_g24 hM, ↓bM_g25 hM, ↓bM_g28 hM, ↓bM_g29 hM, ↓bM_g30 hM, ↓bM_g32 hM, ↓bM_g33 hM, ↓bM_g34 hM, ↓bM_g36 hM, ↓bM_g37 hM, ↓bM_g41 hM, ↓bM_g42 hM, ↓bM_g43 hM, ↓bM_ld1 hM, ↓bM_ld2 hM, ↓bM_ld3 hM, ↓bM_ld4 hM, ↓bM_ld5 hM, ↓bM_ld6 hM, ↓bM_ld7 hM, ↓bM_ld8 hM, ↓bM_ld9 hM, ↓bM_ld10 hM, ↓bM_ld11 hM, ↓bM_ld12 hM, ↓bM_ld13 hM, ↓bM_ld14 hM, ↓bM_ld15 hM, ↓bM_ld16 hM, ↓bM_ld17 hM, ↓bM_ld18 hM, ↓bM_ld19 hM, ↓bM_ld20 hM, ↓bM_ld21 hM, ↓bM_st1 hM, ↓bM_st2 hM, ↓bM_st3 hM, ↓bM_st4 hM, ↓bM_st5 hM, ↓bM_st6 hM, ↓bM_st7 hM, ↓bM_st8 hM, ↓bM_st9 hM, ↓bM_st10 hM, ↓bM_st11 hM, ↓bM_st12 hM, ↓bM_st13 hM, ↓bM_st14 hM, ↓bM_st15 hM, ↓bM_st16 hM, ↓bM_st17 hM, ↓bM_st18 hM, ↓bM_st19 hM, ↓bM_st20 hM, ↓bM_st21 hM, ↓within_w]
end IM
