section FE
variable {μ : Mem} {I : Nat → Nat → Int} {c m n : Nat} {s l : Ld}
def selF (a b x d e : Int) (k : Int) : Int := if k < 4 then a else if k < 8 then b else if k < 12 then x else if k < 16 then d else e
theorem feed_m (h : isM μ m) {a b x d e : Int} (hT : 0 ≤ s 0 5 ∧ s 0 5 + 20 ≤ 900) (hn : 20000 ≤ n) : ∃ s' : Ld, mX11_feed n m a b x d e (wi μ (wm I m s)) = some (s 0 5 + 20, wi μ (wm I m s')) ∧ (∀ k : Nat, k ≠ 0 → k ≠ 3 → s' k = s k) ∧ s' 0 = upA (upA (s 0) 0 0) 5 (s 0 5 + 20) ∧ ∀ j : Nat, s' 3 j = if s 0 5 ≤ (j : Int) ∧ (j : Int) < s 0 5 + 20 then oAnd (oShr (selF a b x d e ((j : Int) - s 0 5)) (24 - 8 * (((j : Int) - s 0 5) % 4))) 255 else s 3 j := by
  have e5 : up2 s 0 0 0 0 5 = s 0 5 := up2_n (by decide)
  unfold mX11_feed
  simp (disch := omega) only [↓i_lt_t, ↓i_lt_f, ↓i_eq_t, ↓i_eq_f, ↓i_bi_t, ↓i_bi_f, ↓i_some, ↓bM_gI h, ↓bM_pI h, ↓bM_inv h, ↓bM_g1 h, ↓bM_g2 h, ↓bM_g3 h, ↓bM_g4 h, ↓bM_g15 h, ↓bM_g16 h, ↓bM_g22 h, ↓bM_g23 h, ↓bM_g24 h, ↓bM_g25 h, ↓bM_g28 h, ↓bM_g29 h, ↓bM_g30 h, ↓bM_g32 h, ↓bM_g33 h, ↓bM_g34 h, ↓bM_g36 h, ↓bM_g37 h, ↓bM_g41 h, ↓bM_g42 h, ↓bM_g43 h, ↓bM_ld1 h, ↓bM_ld2 h, ↓bM_ld3 h, ↓bM_ld4 h, ↓bM_ld5 h, ↓bM_ld6 h, ↓bM_ld7 h, ↓bM_ld8 h, ↓bM_ld9 h, ↓bM_ld10 h, ↓bM_ld11 h, ↓bM_ld12 h, ↓bM_ld13 h, ↓bM_ld14 h, ↓bM_ld15 h, ↓bM_ld16 h, ↓bM_ld17 h, ↓bM_ld18 h, ↓bM_ld19 h, ↓bM_ld20 h, ↓bM_ld21 h, ↓bM_st1 h, ↓bM_st2 h, ↓bM_st3 h, ↓bM_st4 h, ↓bM_st5 h, ↓bM_st6 h, ↓bM_st7 h, ↓bM_st8 h, ↓bM_st9 h, ↓bM_st10 h, ↓bM_st11 h, ↓bM_st12 h, ↓bM_st13 h, ↓bM_st14 h, ↓bM_st15 h, ↓bM_st16 h, ↓bM_st17 h, ↓bM_st18 h, ↓bM_st19 h, ↓bM_st20 h, ↓bM_st21 h, e5]
  refine lp_ind (fun q (v : Int) ν => ∃ (t : Ld), ν = wi μ (wm I m t) ∧ v + q = 20 ∧ 0 ≤ v ∧ (∀ k : Nat, k ≠ 0 → k ≠ 3 → t k = s k) ∧ t 0 = upA (upA (s 0) 0 0) 5 (s 0 5 + v) ∧ ∀ j : Nat, t 3 j = if s 0 5 ≤ (j : Int) ∧ (j : Int) < s 0 5 + v then oAnd (oShr (selF a b x d e ((j : Int) - s 0 5)) (24 - 8 * (((j : Int) - s 0 5) % 4))) 255 else s 3 j) (fun X => ∃ s' : Ld, X = some (s 0 5 + 20, wi μ (wm I m s')) ∧ (∀ k : Nat, k ≠ 0 → k ≠ 3 → s' k = s k) ∧ s' 0 = upA (upA (s 0) 0 0) 5 (s 0 5 + 20) ∧ ∀ j : Nat, s' 3 j = if s 0 5 ≤ (j : Int) ∧ (j : Int) < s 0 5 + 20 then oAnd (oShr (selF a b x d e ((j : Int) - s 0 5)) (24 - 8 * (((j : Int) - s 0 5) % 4))) 255 else s 3 j) (fun q v ν nx hP hnx => ?_) n 20 0 _ (by omega) ⟨_, rfl, by omega, by omega, fun k k0 k3 => up2_row k0, ?_, fun j => ?_⟩
  · obtain ⟨t, rfl, h1, h2, h3, h4, h5⟩ := hP
    have t5 : t 0 5 = s 0 5 + v := by rw [h4, upA_s]
    by_cases cv : v < 20
    · have hr := oRem_of (x := v) (y := 4) (by omega) (by omega) (by omega) (by omega)
      have step : ∀ z : Int, z = selF a b x d e v → ∃ s' : Ld, ((gA (wi μ (wm I m t)) 12 m 3).bind fun x80 => (gI (wi μ (wm I m t)) 12 m 5).bind fun x84 => (stI (wi μ (wm I m t)) 0 x80 x84 (oAnd (oShr z (24 - (8 * (oRem v 4)))) 255)).bind fun μ104 => (gI μ104 12 m 5).bind fun x107 => (pI μ104 12 m 5 (x107 + 1)).bind fun μ112 => nx (v + 1) μ112) = some (s 0 5 + 20, wi μ (wm I m s')) ∧ (∀ k : Nat, k ≠ 0 → k ≠ 3 → s' k = s k) ∧ s' 0 = upA (upA (s 0) 0 0) 5 (s 0 5 + 20) ∧ ∀ j : Nat, s' 3 j = if s 0 5 ≤ (j : Int) ∧ (j : Int) < s 0 5 + 20 then oAnd (oShr (selF a b x d e ((j : Int) - s 0 5)) (24 - 8 * (((j : Int) - s 0 5) % 4))) 255 else s 3 j := by
        intro z hz
        have g5 : ∀ z : Int, up2 t 3 (s 0 5 + v).toNat z 0 5 = s 0 5 + v := fun z => by rw [up2_row (by decide)]; exact t5
        simp (disch := omega) only [↓i_lt_t, ↓i_lt_f, ↓i_eq_t, ↓i_eq_f, ↓i_bi_t, ↓i_bi_f, ↓i_some, ↓bM_gI h, ↓bM_pI h, ↓bM_inv h, ↓bM_g1 h, ↓bM_g2 h, ↓bM_g3 h, ↓bM_g4 h, ↓bM_g15 h, ↓bM_g16 h, ↓bM_g22 h, ↓bM_g23 h, ↓bM_g24 h, ↓bM_g25 h, ↓bM_g28 h, ↓bM_g29 h, ↓bM_g30 h, ↓bM_g32 h, ↓bM_g33 h, ↓bM_g34 h, ↓bM_g36 h, ↓bM_g37 h, ↓bM_g41 h, ↓bM_g42 h, ↓bM_g43 h, ↓bM_ld1 h, ↓bM_ld2 h, ↓bM_ld3 h, ↓bM_ld4 h, ↓bM_ld5 h, ↓bM_ld6 h, ↓bM_ld7 h, ↓bM_ld8 h, ↓bM_ld9 h, ↓bM_ld10 h, ↓bM_ld11 h, ↓bM_ld12 h, ↓bM_ld13 h, ↓bM_ld14 h, ↓bM_ld15 h, ↓bM_ld16 h, ↓bM_ld17 h, ↓bM_ld18 h, ↓bM_ld19 h, ↓bM_ld20 h, ↓bM_ld21 h, ↓bM_st1 h, ↓bM_st2 h, ↓bM_st3 h, ↓bM_st4 h, ↓bM_st5 h, ↓bM_st6 h, ↓bM_st7 h, ↓bM_st8 h, ↓bM_st9 h, ↓bM_st10 h, ↓bM_st11 h, ↓bM_st12 h, ↓bM_st13 h, ↓bM_st14 h, ↓bM_st15 h, ↓bM_st16 h, ↓bM_st17 h, ↓bM_st18 h, ↓bM_st19 h, ↓bM_st20 h, ↓bM_st21 h, t5, g5, hr]
        refine hnx (q - 1) _ _ (by omega) ⟨_, rfl, by omega, by omega, fun k k0 k3 => ?_, ?_, fun j => ?_⟩
        · rw [up2_row k0, up2_row k3, h3 k k0 k3]
        · funext i
          by_cases e : i = 5
          · subst e; rw [up2_s, upA_s]; omega
          · rw [up2_n (by omega), up2_row (by decide), h4, upA_n e, upA_n e]
        · rw [up2_row (by decide)]
          by_cases e : j = (s 0 5 + v).toNat
          · subst e
            rw [up2_s, if_pos (by omega), show (((s 0 5 + v).toNat : Int) - s 0 5) = v by omega, hz]
          · rw [up2_n (by omega), h5 j]
            by_cases e2 : s 0 5 ≤ (j : Int) ∧ (j : Int) < s 0 5 + v
            · rw [if_pos e2, if_pos (by omega)]
            · rw [if_neg e2, if_neg (by omega)]
      by_cases c4 : v < 4
      · simp (disch := omega) only [jn, ↓i_lt_t, ↓i_lt_f, ↓i_eq_t, ↓i_eq_f, ↓i_bi_t, ↓i_bi_f, ↓i_some]
        exact step _ (by unfold selF; rw [if_pos c4])
      · by_cases c8 : v < 8
        · simp (disch := omega) only [jn, ↓i_lt_t, ↓i_lt_f, ↓i_eq_t, ↓i_eq_f, ↓i_bi_t, ↓i_bi_f, ↓i_some]
          exact step _ (by unfold selF; rw [if_neg c4, if_pos c8])
        · by_cases c12 : v < 12
          · simp (disch := omega) only [jn, ↓i_lt_t, ↓i_lt_f, ↓i_eq_t, ↓i_eq_f, ↓i_bi_t, ↓i_bi_f, ↓i_some]
            exact step _ (by unfold selF; rw [if_neg c4, if_neg c8, if_pos c12])
          · by_cases c16 : v < 16
            · simp (disch := omega) only [jn, ↓i_lt_t, ↓i_lt_f, ↓i_eq_t, ↓i_eq_f, ↓i_bi_t, ↓i_bi_f, ↓i_some]
              exact step _ (by unfold selF; rw [if_neg c4, if_neg c8, if_neg c12, if_pos c16])
            · simp (disch := omega) only [jn, ↓i_lt_t, ↓i_lt_f, ↓i_eq_t, ↓i_eq_f, ↓i_bi_t, ↓i_bi_f, ↓i_some]
              exact step _ (by unfold selF; rw [if_neg c4, if_neg c8, if_neg c12, if_neg c16])
    · have e : v = 20 := by omega
      subst e
      simp (disch := omega) only [↓i_lt_t, ↓i_lt_f, ↓i_eq_t, ↓i_eq_f, ↓i_bi_t, ↓i_bi_f, ↓i_some, ↓bM_gI h, ↓bM_pI h, ↓bM_inv h, ↓bM_g1 h, ↓bM_g2 h, ↓bM_g3 h, ↓bM_g4 h, ↓bM_g15 h, ↓bM_g16 h, ↓bM_g22 h, ↓bM_g23 h, ↓bM_g24 h, ↓bM_g25 h, ↓bM_g28 h, ↓bM_g29 h, ↓bM_g30 h, ↓bM_g32 h, ↓bM_g33 h, ↓bM_g34 h, ↓bM_g36 h, ↓bM_g37 h, ↓bM_g41 h, ↓bM_g42 h, ↓bM_g43 h, ↓bM_ld1 h, ↓bM_ld2 h, ↓bM_ld3 h, ↓bM_ld4 h, ↓bM_ld5 h, ↓bM_ld6 h, ↓bM_ld7 h, ↓bM_ld8 h, ↓bM_ld9 h, ↓bM_ld10 h, ↓bM_ld11 h, ↓bM_ld12 h, ↓bM_ld13 h, ↓bM_ld14 h, ↓bM_ld15 h, ↓bM_ld16 h, ↓bM_ld17 h, ↓bM_ld18 h, ↓bM_ld19 h, ↓bM_ld20 h, ↓bM_ld21 h, ↓bM_st1 h, ↓bM_st2 h, ↓bM_st3 h, ↓bM_st4 h, ↓bM_st5 h, ↓bM_st6 h, ↓bM_st7 h, ↓bM_st8 h, ↓bM_st9 h, ↓bM_st10 h, ↓bM_st11 h, ↓bM_st12 h, ↓bM_st13 h, ↓bM_st14 h, ↓bM_st15 h, ↓bM_st16 h, ↓bM_st17 h, ↓bM_st18 h, ↓bM_st19 h, ↓bM_st20 h, ↓bM_st21 h, t5]
      exact ⟨t, rfl, h3, h4, h5⟩
  · rw [upA_id (k := 5) (x := s 0 5 + 0) (by rw [upA_n (by decide)]; omega)]
    funext i
    by_cases e : i = 0
    · subst e; rw [up2_s, upA_s]
    · rw [up2_n (by omega), upA_n e]
  · rw [if_neg (by omega), up2_row (by decide)]
theorem both_feed (hC : isC μ c) (hM : isM μ (c + 193)) (hR : RelC c I) {a b x d e : Int} (ha : -2147483648 ≤ a ∧ a < 2147483648) (hb : -2147483648 ≤ b ∧ b < 2147483648) (hx : -2147483648 ≤ x ∧ x < 2147483648) (hd : -2147483648 ≤ d ∧ d < 2147483648) (he : -2147483648 ≤ e ∧ e < 2147483648) (hn : 20000 ≤ n) : Both μ c I (mX10_feed n c a b x d e) (mX11_feed n (c + 193) a b x d e) := by
  obtain ⟨t0, t1, t2, t3, t4⟩ := id hR.2.2.2
  have hP := hC.tp
  have f5 : up2 (ld I (c + 193)) 0 0 0 0 5 = I (c + 1) 0 := (up2_n (by decide)).trans t0.symm
  by_cases c1 : I (c + 1) 0 + 20 ≤ 900
  · obtain ⟨p1, e1, q1⟩ := addInt_eq (n := n) (I := I) (y := I (c + 1)) (p := I (c + 1 + 1)) (b := a) hP (by omega) hn
    obtain ⟨p2, e2, q2⟩ := addInt_eq (n := n) (I := I) (y := upA (I (c + 1)) 0 (I (c + 1) 0 + 4)) (p := p1) (b := b) hP (by rw [upA_s]; omega) hn
    rw [upA_s, upA_up] at e2
    simp only [upA_s] at q2
    obtain ⟨p3, e3, q3⟩ := addInt_eq (n := n) (I := I) (y := upA (I (c + 1)) 0 (I (c + 1) 0 + 4 + 4)) (p := p2) (b := x) hP (by rw [upA_s]; omega) hn
    rw [upA_s, upA_up] at e3
    simp only [upA_s] at q3
    obtain ⟨p4, e4, q4⟩ := addInt_eq (n := n) (I := I) (y := upA (I (c + 1)) 0 (I (c + 1) 0 + 4 + 4 + 4)) (p := p3) (b := d) hP (by rw [upA_s]; omega) hn
    rw [upA_s, upA_up] at e4
    simp only [upA_s] at q4
    obtain ⟨p5, e5, q5⟩ := addInt_eq (n := n) (I := I) (y := upA (I (c + 1)) 0 (I (c + 1) 0 + 4 + 4 + 4 + 4)) (p := p4) (b := e) hP (by rw [upA_s]; omega) hn
    rw [upA_s, upA_up] at e5
    simp only [upA_s] at q5
    rw [wT_id] at e1
    have eC : mX10_feed n c a b x d e (wi μ I) = some (I (c + 1) 0 + 20, wi μ (wT I (c + 1) (upA (I (c + 1)) 0 (I (c + 1) 0 + 4 + 4 + 4 + 4 + 4)) p5)) := by
      unfold mX10_feed
      have g0 : ∀ f : Int → Option (Int × Mem), (gI (wi μ I) 9 (c + 1) 0).bind f = f (I (c + 1) 0) := fun f => bnd (e_gI hP.k) f
      simp (disch := omega) only [↓i_lt_t, ↓i_lt_f, ↓i_eq_t, ↓i_eq_f, ↓i_bi_t, ↓i_bi_f, ↓i_some, ↓bC_g0 hC, ↓bC_g1 hC, ↓bC_g2 hC, ↓bC_g3 hC, ↓bC_g4 hC, ↓bC_g5 hC, ↓bC_g6 hC, ↓bC_g7 hC, ↓bC_g8 hC, ↓bC_g9 hC, ↓bC_g10 hC, ↓bC_inv hC, ↓g0, ↓bT_inv hP, ↓bnd e1, ↓bnd e2, ↓bnd e3, ↓bnd e4, ↓bnd e5, ↓bT_gI hP, upA_s]
      rw [show I (c + 1) 0 + 4 + 4 + 4 + 4 + 4 = I (c + 1) 0 + 20 by omega]
    generalize hJ : wT I (c + 1) (upA (I (c + 1)) 0 (I (c + 1) 0 + 4 + 4 + 4 + 4 + 4)) p5 = J at eC
    have oj : ∀ b : Nat, b ≠ c + 1 → b ≠ c + 1 + 1 → J b = I b := fun b h1 h2 => by rw [← hJ]; exact wT_o ⟨h1, h2⟩
    have jy : J (c + 1) = upA (I (c + 1)) 0 (I (c + 1) 0 + 20) := by rw [← hJ, wT_y, show I (c + 1) 0 + 4 + 4 + 4 + 4 + 4 = I (c + 1) 0 + 20 by omega]
    have jp : J (c + 2) = p5 := by rw [← hJ]; exact wT_p
    have eJ : ld J (c + 193) = ld I (c + 193) := funext fun k => oj _ (by omega) (by omega)
    have t5 : ld I (c + 193) 0 5 = I (c + 1) 0 := t0.symm
    obtain ⟨s', eM, g1, g2, g3⟩ := feed_m (n := n) (I := J) (s := ld I (c + 193)) (a := a) (b := b) (x := x) (d := d) (e := e) hM (by omega) hn
    have el := ldwm (μ := μ) J (c + 193)
    rw [eJ] at el
    rw [el] at eM
    rw [t5] at eM g2
    simp only [t5] at g3
    refine ⟨_, J, _, eC, eM, ?_, fun b hb => ?_⟩
    · have w : ∀ k : Nat, k ≤ 21 → wm J (c + 193) s' (c + 193 + k) = s' k := fun k hk => wm_row hk
      have w0 : wm J (c + 193) s' (c + 193) = s' 0 := w 0 (by decide)
      have o1 : ∀ b : Nat, b < c + 193 → wm J (c + 193) s' b = J b := fun b hb => wm_out (by omega)
      have gi : ∀ k : Nat, k ≠ 0 → k ≠ 3 → s' k = I (c + 193 + k) := fun k h1 h2 => g1 k h1 h2
      refine hR.mk2 (fun b hb => ?_) ?_ ?_ ?_ ?_ (fun j hj => ?_) ?_ ⟨?_, ?_, fun k hk => ⟨?_, fun hlt => ?_⟩, ?_, ?_⟩
      · rw [o1 b (by omega), oj b (by omega) (by omega)]
      · rw [w 2 (by decide), gi 2 (by decide) (by decide)]
      · rw [w 19 (by decide), gi 19 (by decide) (by decide)]
      · rw [w 20 (by decide), gi 20 (by decide) (by decide)]
      · rw [w 21 (by decide), gi 21 (by decide) (by decide)]
      · rw [w 1 (by decide), gi 1 (by decide) (by decide)]
      · rw [w 1 (by decide), gi 1 (by decide) (by decide)]
        exact hR.1.cg (fun k hk => (o1 (c + 3 + k) (by omega)).trans (oj _ (by omega) (by omega)))
      · rw [o1 (c + 1) (by omega), jy, w0, g2, upA_s, upA_s]
      · rw [o1 (c + 1) (by omega), jy, upA_s]; omega
      · rw [o1 (c + 2) (by omega), jp]
        have old : -128 ≤ I (c + 1 + 1) k ∧ I (c + 1 + 1) k < 128 := (t2 k hk).1
        have fr : ∀ (z : Int) (T : Int), (-2147483648 ≤ z ∧ z < 2147483648) → T ≤ (k : Int) ∧ (k : Int) < T + 4 → -128 ≤ fby z (24 - 8 * ((k : Int) - T)) ∧ fby z (24 - 8 * ((k : Int) - T)) < 128 := fun z T hz hT => by
          obtain ⟨j, hj⟩ : ∃ j : Nat, (k : Int) - T = (j : Int) := ⟨((k : Int) - T).toNat, by omega⟩
          rw [hj]
          exact (fby_rel hz.1 hz.2 (by omega)).2
        rw [q5 k]
        split
        · rename_i z; exact fr e _ he z
        · rw [q4 k]
          split
          · rename_i z; exact fr d _ hd z
          · rw [q3 k]
            split
            · rename_i z; exact fr x _ hx z
            · rw [q2 k]
              split
              · rename_i z; exact fr b _ hb z
              · rw [q1 k]
                split
                · rename_i z; exact fr a _ ha z
                · exact old
      · rw [o1 (c + 1) (by omega), jy, upA_s] at hlt
        rw [o1 (c + 2) (by omega), jp, w 3 (by decide), g3 k]
        have fr : ∀ (z T U : Int), (-2147483648 ≤ z ∧ z < 2147483648) → T ≤ (k : Int) ∧ (k : Int) < T + 4 → ((k : Int) - U) % 4 = (k : Int) - T → oAnd (oShr z (24 - 8 * (((k : Int) - U) % 4))) 255 = fby z (24 - 8 * ((k : Int) - T)) % 256 := fun z T U hz hT hm => by
          obtain ⟨j, hj⟩ : ∃ j : Nat, (k : Int) - T = (j : Int) := ⟨((k : Int) - T).toNat, by omega⟩
          rw [hm, hj]
          exact (fby_rel hz.1 hz.2 (by omega)).1.symm
        by_cases cT : I (c + 1) 0 ≤ (k : Int)
        · rw [if_pos (by omega)]
          by_cases z5 : I (c + 1) 0 + 16 ≤ (k : Int)
          · rw [q5 k, if_pos (by omega)]
            unfold selF
            rw [if_neg (by omega), if_neg (by omega), if_neg (by omega), if_neg (by omega)]
            exact fr e _ _ he (by omega) (by omega)
          · rw [q5 k, if_neg (by omega)]
            by_cases z4 : I (c + 1) 0 + 12 ≤ (k : Int)
            · rw [q4 k, if_pos (by omega)]
              unfold selF
              rw [if_neg (by omega), if_neg (by omega), if_neg (by omega), if_pos (by omega)]
              exact fr d _ _ hd (by omega) (by omega)
            · rw [q4 k, if_neg (by omega)]
              by_cases z3 : I (c + 1) 0 + 8 ≤ (k : Int)
              · rw [q3 k, if_pos (by omega)]
                unfold selF
                rw [if_neg (by omega), if_neg (by omega), if_pos (by omega)]
                exact fr x _ _ hx (by omega) (by omega)
              · rw [q3 k, if_neg (by omega)]
                by_cases z2 : I (c + 1) 0 + 4 ≤ (k : Int)
                · rw [q2 k, if_pos (by omega)]
                  unfold selF
                  rw [if_neg (by omega), if_pos (by omega)]
                  exact fr b _ _ hb (by omega) (by omega)
                · rw [q2 k, if_neg (by omega), q1 k, if_pos (by omega)]
                  unfold selF
                  rw [if_pos (by omega)]
                  exact fr a _ _ ha (by omega) (by omega)
        · rw [if_neg (by omega), q5 k, if_neg (by omega), q4 k, if_neg (by omega), q3 k, if_neg (by omega), q2 k, if_neg (by omega), q1 k, if_neg (by omega)]
          exact (t2 k hk).2 (by omega)
      · rw [o1 (c + 1) (by omega), jy, w0, g2, upA_n (by decide), upA_n (by decide), upA_n (by decide)]
        exact t3
      · rw [o1 (c + 1) (by omega), jy, w0, g2, upA_n (by decide), upA_n (by decide), upA_n (by decide)]
        exact t4
    · exact ⟨by rw [wm_out (by omega), oj b (by omega) (by omega)], oj b (by omega) (by omega)⟩
  · refine Both.q (v := -5) hR ?_ ?_
    · unfold mX10_feed
      have g0 : ∀ f : Int → Option (Int × Mem), (gI (wi μ I) 9 (c + 1) 0).bind f = f (I (c + 1) 0) := fun f => bnd (e_gI hP.k) f
      simp (disch := omega) only [↓i_lt_t, ↓i_lt_f, ↓i_eq_t, ↓i_eq_f, ↓i_bi_t, ↓i_bi_f, ↓i_some, ↓bC_g0 hC, ↓bC_g1 hC, ↓bC_g2 hC, ↓bC_g3 hC, ↓bC_g4 hC, ↓bC_g5 hC, ↓bC_g6 hC, ↓bC_g7 hC, ↓bC_g8 hC, ↓bC_g9 hC, ↓bC_g10 hC, ↓bC_inv hC, ↓g0]
    · unfold mX11_feed
      simp (disch := omega) only [↓i_lt_t, ↓i_lt_f, ↓i_eq_t, ↓i_eq_f, ↓i_bi_t, ↓i_bi_f, ↓i_some, ↓bM_gI hM, ↓bM_pI hM, ↓bM_inv hM, ↓bM_g1 hM, ↓bM_g2 hM, ↓bM_g3 hM, ↓bM_g4 hM, ↓bM_g15 hM, ↓bM_g16 hM, ↓bM_g22 hM, ↓bM_g23 hM, ↓bM_g24 hM, ↓bM_g25 hM, ↓bM_g28 hM, ↓bM_g29 hM, ↓bM_g30 hM, ↓bM_g32 hM, ↓bM_g33 hM, ↓bM_g34 hM, ↓bM_g36 hM, ↓bM_g37 hM, ↓bM_g41 hM, ↓bM_g42 hM, ↓bM_g43 hM, ↓bM_ld1 hM, ↓bM_ld2 hM, ↓bM_ld3 hM, ↓bM_ld4 hM, ↓bM_ld5 hM, ↓bM_ld6 hM, ↓bM_ld7 hM, ↓bM_ld8 hM, ↓bM_ld9 hM, ↓bM_ld10 hM, ↓bM_ld11 hM, ↓bM_ld12 hM, ↓bM_ld13 hM, ↓bM_ld14 hM, ↓bM_ld15 hM, ↓bM_ld16 hM, ↓bM_ld17 hM, ↓bM_ld18 hM, ↓bM_ld19 hM, ↓bM_ld20 hM, ↓bM_ld21 hM, ↓bM_st1 hM, ↓bM_st2 hM, ↓bM_st3 hM, ↓bM_st4 hM, ↓bM_st5 hM, ↓bM_st6 hM, ↓bM_st7 hM, ↓bM_st8 hM, ↓bM_st9 hM, ↓bM_st10 hM, ↓bM_st11 hM, ↓bM_st12 hM, ↓bM_st13 hM, ↓bM_st14 hM, ↓bM_st15 hM, ↓bM_st16 hM, ↓bM_st17 hM, ↓bM_st18 hM, ↓bM_st19 hM, ↓bM_st20 hM, ↓bM_st21 hM, f5]
end FE
