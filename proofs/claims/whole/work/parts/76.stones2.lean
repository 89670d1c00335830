/-! stones of both -/
section SB
variable {μ : Mem} {I : Nat → Nat → Int} {c n : Nat}
theorem ld_up2 (I : Nat → Nat → Int) (a k i : Nat) (x : Int) : ld (up2 I (a + k) i x) a = up2 (ld I a) k i x := by
  funext b j
  show up2 I (a + k) i x (a + b) j = _
  unfold up2 ld
  by_cases e : b = k ∧ j = i
  · rw [if_pos (by omega), if_pos e]
  · rw [if_neg (by omega), if_neg e]
theorem both_stones (hC : isC μ c) (hM : isM μ (c + 193)) (hR : RelC c I) {b t x : Int} (hb : -2147483648 ≤ b ∧ b < 2147483648) (hx : -2147483648 ≤ x ∧ x < 2147483648) : Both μ c I (mX10_stones n c b t x) (mX11_stones n (c + 193) b t x) := by
  obtain ⟨hk, lr, lq, h0, h9⟩ := hR.1
  have hz := hk.1
  have hh := hasRope_eq (n := n) (I := I) (a := c + 3) (l := ld I (c + 3)) hC.here hk hb
  rw [wiwl] at hh
  have s1 : ∀ J : Nat → Nat → Int, J (c + 193 + 1) = I (c + 193 + 1) → up2 (ld J (c + 193)) 0 0 0 1 = I (c + 193 + 1) := fun J e => (up2_row (show (1 : Nat) ≠ 0 by decide)).trans e
  have mr : ∀ J : Nat → Nat → Int, J (c + 193 + 1) = I (c + 193 + 1) → mX11_isRope n (c + 193) b (wi μ (wm J (c + 193) (up2 (ld J (c + 193)) 0 0 0))) = some (bi (0 ≤ b ∧ b < ld I (c + 3) 0 1), wi μ (wm J (c + 193) (up2 (ld J (c + 193)) 0 0 0))) := fun J e => isRope_eq hM (by rw [s1 J e]; exact lr) hk (by omega)
  by_cases cR : 0 ≤ b ∧ b < ld I (c + 3) 0 1
  · by_cases cx : 0 ≤ x ∧ x ≤ 9
    · obtain ⟨r, rfl⟩ : ∃ r : Nat, b = (r : Int) := ⟨b.toNat, by omega⟩
      have hr : (r : Int) < ld I (c + 3) 0 1 := cR.2
      have main : ∀ w : Nat, w < 2 → (if eq32 t 0 then (2 * (r : Int)) else (2 * (r : Int)) + 1) = ((2 * r + w : Nat) : Int) → (if eq32 t 0 then (140 : Int) else 156) = ((140 + 16 * w : Nat) : Int) → (if eq32 t 0 then (0 : Int) else 1) = (w : Int) → Both μ c I (mX10_stones n c (r : Int) t x) (mX11_stones n (c + 193) (r : Int) t x) := by
        intro w hw e1 e2 e3
        have hl' : RLl (up2 (ld I (c + 3)) 11 (2 * r + w) x) (upA (I (c + 193 + 1)) (140 + 16 * w + r) x) := ⟨okL_st hk cx, LR_st lr hk hr hw x, LRq_st lq hk (by omega) x, by rw [up2_n (by omega)]; exact h0, by rw [up2_n (by omega)]; exact h9.1, h9.2.u (by decide)⟩
        have hJ : CFh c I (up2 I (c + 3 + 11) (2 * r + w) x) := fun b _ h2 => up2_row (by omega)
        have eL := ld_up2 I (c + 3) 11 (2 * r + w) x
        have wq := weight_eq (n := n) (I := up2 I (c + 3 + 11) (2 * r + w) x) (a := c + 3) (l := ld (up2 I (c + 3 + 11) (2 * r + w) x) (c + 3)) hC.here (by rw [eL]; exact hl'.1) (i := ((2 * r + w : Nat) : Int)) (by omega) (by rw [eL, up2_n (by omega)]; omega)
        rw [wiwl, eL, Int.toNat_natCast] at wq
        have j1 : (up2 I (c + 3 + 11) (2 * r + w) x) (c + 193 + 1) = I (c + 193 + 1) := hJ _ (by unfold tmp; omega) (by omega)
        have st : stI (wi μ I) 0 (c + 3 + 11) ((2 * r + w : Nat) : Int) x = some (wi μ (up2 I (c + 3 + 11) (2 * r + w) x)) := by rw [L_st11 hC.here (by omega) (by omega), Int.toNat_natCast]
        generalize up2 I (c + 3 + 11) (2 * r + w) x = J at hJ eL wq j1 st
        have t1 := s1 J j1
        have mrJ := mr J j1
        generalize hs0 : up2 (ld J (c + 193)) 0 0 0 = s0 at t1 mrJ
        have mw := mweight_eq (n := n) (I := J) (s := up1 s0 1 (upA (I (c + 193 + 1)) (140 + 16 * w + r) x)) (l := up2 (ld I (c + 3)) 11 (2 * r + w) x) hM (by rw [up1_s]; exact hl'.2.1) hl'.1 (r := r) (by rw [up2_n (by omega)]; exact hr) hw
        refine Both.mk (J := J) (s' := up1 s0 1 (upA (I (c + 193 + 1)) (140 + 16 * w + r) x)) (v := wtL (up2 (ld I (c + 3)) 11 (2 * r + w) x) (2 * r + w)) hR hJ ?_ ?_ ?_ ?_
        · unfold mX10_stones
          rw [C_g1 hC, Option.bind_some, L_inv hC.here, hh, Option.bind_some]
          try dsimp only
          rw [if_neg (fun z => (eq32_bi _).mp z cR), if_neg (fun z => absurd ((lt32_iff (by omega) (by omega) (by omega) (by omega)).mp z) (by omega)), if_neg (fun z => absurd ((lt32_iff (by omega) (by omega) (by omega) (by omega)).mp z) (by omega))]
          unfold jn
          try dsimp only
          by_cases ct : eq32 t 0
          · rw [if_pos ct] at e1 ⊢
            rw [e1, C_g1 hC, Option.bind_some, L_g16 hC.here, Option.bind_some, st, Option.bind_some, C_g1 hC, Option.bind_some, L_inv hC.here, wq, Option.bind_some]
          · rw [if_neg ct] at e1 ⊢
            rw [e1, C_g1 hC, Option.bind_some, L_g16 hC.here, Option.bind_some, st, Option.bind_some, C_g1 hC, Option.bind_some, L_inv hC.here, wq, Option.bind_some]
        · rw [← ldwm J (c + 193)]
          have sm : stI (wi μ (wm J (c + 193) s0)) 0 (c + 193 + 1) (((140 + 16 * w : Nat) : Int) + (r : Int)) x = some (wi μ (wm J (c + 193) (up1 s0 1 (upA (I (c + 193 + 1)) (140 + 16 * w + r) x)))) := by
            rw [M_st1 hM (by omega) (by omega), wm_up (by omega), show (((140 + 16 * w : Nat) : Int) + (r : Int)).toNat = 140 + 16 * w + r by omega, ← t1, ← up21, up1_id]
          unfold mX11_stones
          rw [M_pI hM, Option.bind_some, wm_up0, hs0, M_inv hM, oI2l_of (by omega) (by omega), mrJ, Option.bind_some]
          try dsimp only
          rw [if_neg (fun z => (eq32_bi _).mp z cR), oI2l_of (by omega) (by omega), within_eq (by omega) (by omega) (by omega), Option.bind_some]
          try dsimp only
          rw [if_neg (fun z => (eq32_bi _).mp z cx), M_g1 hM, Option.bind_some]
          unfold jn
          try dsimp only
          by_cases ct : eq32 t 0
          · rw [if_pos ct] at e2 e3
            rw [← e2] at sm
            rw [← e3] at mw
            rw [if_pos ct, sm, Option.bind_some, if_pos ct, M_inv hM, mw, Option.bind_some]
          · rw [if_neg ct] at e2 e3
            rw [← e2] at sm
            rw [← e3] at mw
            rw [if_neg ct, sm, Option.bind_some, if_neg ct, M_inv hM, mw, Option.bind_some]
        · rw [← hs0]
          refine ((Fr.f0 _ (Or.inl rfl)).tr (Fr.w1 _ (fun j hj => ?_))).w
          rw [upA_n (by omega), s1 J j1]
        · rw [up1_s, eL]
          exact hl'
      by_cases ct : eq32 t 0
      · exact main 0 (by omega) (by rw [if_pos ct]; omega) (by rw [if_pos ct]; rfl) (by rw [if_pos ct]; rfl)
      · exact main 1 (by omega) (by rw [if_neg ct]; omega) (by rw [if_neg ct]; rfl) (by rw [if_neg ct]; rfl)
    · refine Both.q (v := -3) hR ?_ ?_
      · unfold mX10_stones
        rw [C_g1 hC, Option.bind_some, L_inv hC.here, hh, Option.bind_some]
        try dsimp only
        rw [if_neg (fun z => (eq32_bi _).mp z cR)]
        by_cases c1 : x < 0
        · rw [if_pos ((lt32_iff (by omega) (by omega) (by omega) (by omega)).mpr c1)]
        · rw [if_neg (fun z => c1 ((lt32_iff (by omega) (by omega) (by omega) (by omega)).mp z)), if_pos ((lt32_iff (by omega) (by omega) (by omega) (by omega)).mpr (by omega))]
      · unfold mX11_stones
        rw [M_pI hM, Option.bind_some, wm_up0, M_inv hM, oI2l_of (by omega) (by omega), mr I rfl, Option.bind_some]
        try dsimp only
        rw [if_neg (fun z => (eq32_bi _).mp z cR), oI2l_of (by omega) (by omega), within_eq (by omega) (by omega) (by omega), Option.bind_some]
        try dsimp only
        rw [if_pos ((eq32_bi _).mpr cx)]
  · refine Both.q (v := -2) hR ?_ ?_
    · unfold mX10_stones
      rw [C_g1 hC, Option.bind_some, L_inv hC.here, hh, Option.bind_some]
      try dsimp only
      rw [if_pos ((eq32_bi _).mpr cR)]
    · unfold mX11_stones
      rw [M_pI hM, Option.bind_some, wm_up0, M_inv hM, oI2l_of (by omega) (by omega), mr I rfl, Option.bind_some]
      try dsimp only
      rw [if_pos ((eq32_bi _).mpr cR)]
end SB
