/-! cut and rope -/
section EC
variable {μ : Mem} {I : Nat → Nat → Int} {c n : Nat}
theorem LR_cut {l : Ld} {A : Nat → Int} (h : LR l A) (hk : okL l) {r : Nat} (hr : (r : Int) < l 0 1) (x : Int) : LR (up2 l 9 r x) (upA A (204 + r) x) := by
  have hz := hk.1
  obtain ⟨h0, h1, h2⟩ := h
  refine ⟨?_, fun p hp => ?_, fun p hp => ?_⟩
  · simp (disch := omega) only [upA_n, up2_n]; exact h0
  · simp (disch := omega) only [up2_n] at hp ⊢
    simp (disch := omega) only [upA_n]; exact h1 p hp
  · simp (disch := omega) only [up2_n] at hp ⊢
    have g := h2 p hp
    by_cases e : p = r
    · subst e
      rw [upA_s, up2_s]
      simp (disch := omega) only [upA_n]
      exact ⟨g.1, g.2.1, g.2.2.1, g.2.2.2.1, g.2.2.2.2.1, g.2.2.2.2.2.1, g.2.2.2.2.2.2.1, g.2.2.2.2.2.2.2.1, trivial⟩
    · rw [up2_n (show ¬ (9 = 9 ∧ p = r) by omega)]
      simp (disch := omega) only [upA_n]
      exact g
theorem LRq_cut {l : Ld} {A : Nat → Int} (h : LRq l A) (hk : okL l) {r : Nat} (x : Int) : LRq (up2 l 9 r x) (upA A (204 + r) x) := by
  have hz := hk.1
  refine ⟨?_, fun p hp => ?_⟩
  · rw [upA_n (by omega), up2_n (by omega)]; exact h.1
  · simp (disch := omega) only [up2_n] at hp ⊢
    simp (disch := omega) only [upA_n]
    exact h.2 p hp
theorem okL_cut {l : Ld} (hk : okL l) {r : Nat} {x : Int} (hx : x = 0 ∨ x = 1) : okL (up2 l 9 r x) := by
  obtain ⟨k0, k1, k2, k3⟩ := hk
  refine ⟨?_, fun p hp => ?_, fun p hp => ?_, fun p hp => ?_⟩
  · simp (disch := omega) only [up2_n]; exact k0
  · simp (disch := omega) only [up2_n] at hp ⊢; exact k1 p hp
  · simp (disch := omega) only [up2_n] at hp ⊢
    have g := k2 p hp
    by_cases e : p = r
    · subst e
      rw [up2_s]
      exact ⟨g.1, g.2.1, g.2.2.1, g.2.2.2.1, hx, g.2.2.2.2.2⟩
    · rw [up2_n (show ¬ (9 = 9 ∧ p = r) by omega)]
      exact g
  · simp (disch := omega) only [up2_n] at hp ⊢; exact k3 p hp
theorem both_cut (hC : isC μ c) (hM : isM μ (c + 193)) (hR : RelC c I) {b : Int} (hb : -2147483648 ≤ b ∧ b < 2147483648) : Both μ c I (mX10_cut n c b) (mX11_cut n (c + 193) b) := by
  obtain ⟨hk, lr, lq, h0, h9⟩ := hR.1
  have hz := hk.1
  have hh := hasRope_eq (n := n) (I := I) (a := c + 3) (l := ld I (c + 3)) hC.here hk hb
  rw [wiwl] at hh
  have s1 : ∀ J : Nat → Nat → Int, J (c + 193 + 1) = I (c + 193 + 1) → up2 (ld J (c + 193)) 0 0 0 1 = I (c + 193 + 1) := fun J e => (up2_row (show (1 : Nat) ≠ 0 by decide)).trans e
  have mr : ∀ J : Nat → Nat → Int, J (c + 193 + 1) = I (c + 193 + 1) → mX11_isRope n (c + 193) b (wi μ (wm J (c + 193) (up2 (ld J (c + 193)) 0 0 0))) = some (bi (0 ≤ b ∧ b < ld I (c + 3) 0 1), wi μ (wm J (c + 193) (up2 (ld J (c + 193)) 0 0 0))) := fun J e => isRope_eq hM (by rw [s1 J e]; exact lr) hk (by omega)
  by_cases cR : 0 ≤ b ∧ b < ld I (c + 3) 0 1
  · obtain ⟨r, rfl⟩ : ∃ r : Nat, b = (r : Int) := ⟨b.toNat, by omega⟩
    have hr : (r : Int) < ld I (c + 3) 0 1 := cR.2
    have g9 := hk.2.2.1 r hr
    have mg : ∀ J : Nat → Nat → Int, J (c + 193 + 1) = I (c + 193 + 1) → mX11_hangs n (c + 193) (r : Int) (wi μ (wm J (c + 193) (up2 (ld J (c + 193)) 0 0 0))) = some (bi (ld I (c + 3) 9 r = 0), wi μ (wm J (c + 193) (up2 (ld J (c + 193)) 0 0 0))) := fun J e => mhangs_eq hM (by rw [s1 J e]; exact lr) hk hr
    have l9 : ldI (wi μ I) 2 (c + 3 + 9) (r : Int) = some (ld I (c + 3) 9 r) := L_ld9 hC.here (by omega) (by omega)
    by_cases c9 : ld I (c + 3) 9 r = 0
    · have hJ : CFh c I (up2 I (c + 3 + 9) r 1) := fun b _ h2 => up2_row (by omega)
      have j1 : (up2 I (c + 3 + 9) r 1) (c + 193 + 1) = I (c + 193 + 1) := hJ _ (by unfold tmp; omega) (by omega)
      refine Both.mk (J := up2 I (c + 3 + 9) r 1) (s' := up1 (up2 (ld (up2 I (c + 3 + 9) r 1) (c + 193)) 0 0 0) 1 (upA (I (c + 193 + 1)) (204 + r) 1)) (v := 0) hR hJ ?_ ?_ ?_ ?_
      · unfold mX10_cut
        rw [C_g1 hC, Option.bind_some, L_inv hC.here, hh, Option.bind_some]
        try dsimp only
        rw [if_neg (fun z => (eq32_bi _).mp z cR), C_g1 hC, Option.bind_some, L_g14 hC.here, Option.bind_some, l9, Option.bind_some, if_pos ((eq32_iff (by omega) (by omega) (by omega) (by omega)).mpr c9), Option.bind_some, L_g14 hC.here, Option.bind_some, L_st9 hC.here (by omega) (by omega) (Or.inr rfl), Option.bind_some, Int.toNat_natCast]
      · rw [← ldwm (up2 I (c + 3 + 9) r 1) (c + 193)]
        have t1 := s1 _ j1
        unfold mX11_cut
        rw [M_pI hM, Option.bind_some, wm_up0, M_inv hM, oI2l_of (by omega) (by omega), mr _ j1, Option.bind_some]
        try dsimp only
        rw [if_neg (fun z => (eq32_bi _).mp z cR), M_inv hM, mg _ j1, Option.bind_some]
        try dsimp only
        rw [if_neg (fun z => (eq32_bi _).mp z c9), M_g1 hM, Option.bind_some, M_st1 hM (by omega) (by omega), Option.bind_some, wm_up (by omega), t204]
        generalize up2 (ld (up2 I (c + 3 + 9) r 1) (c + 193)) 0 0 0 = t at t1 ⊢
        rw [← t1, ← up21, up1_id]
      · refine ((Fr.f0 _ (Or.inl rfl)).tr (Fr.w1 _ (fun j hj => ?_))).w
        rw [upA_n (by omega), s1 _ j1]
      · rw [up1_s]
        have el : ∀ k : Nat, k ≤ 12 → ld (up2 I (c + 3 + 9) r 1) (c + 3) k = up2 (ld I (c + 3)) 9 r 1 k := fun k _ => funext fun i => by
          show up2 I (c + 3 + 9) r 1 (c + 3 + k) i = _
          unfold up2 ld
          by_cases e : k = 9 ∧ i = r
          · rw [if_pos (by omega), if_pos e]
          · rw [if_neg (by omega), if_neg e]
        have hl' : RLl (up2 (ld I (c + 3)) 9 r 1) (upA (I (c + 193 + 1)) (204 + r) 1) := ⟨okL_cut hk (Or.inr rfl), LR_cut lr hk hr 1, LRq_cut lq hk 1, by rw [up2_n (by omega)]; exact h0, by rw [up2_n (by omega)]; exact h9.1, h9.2.u (by decide)⟩
        exact hl'.cg el
    · refine Both.q (v := -5) hR ?_ ?_
      · unfold mX10_cut
        rw [C_g1 hC, Option.bind_some, L_inv hC.here, hh, Option.bind_some]
        try dsimp only
        rw [if_neg (fun z => (eq32_bi _).mp z cR), C_g1 hC, Option.bind_some, L_g14 hC.here, Option.bind_some, l9, Option.bind_some, if_neg (fun z => c9 ((eq32_iff (by omega) (by omega) (by omega) (by omega)).mp z))]
      · unfold mX11_cut
        rw [M_pI hM, Option.bind_some, wm_up0, M_inv hM, oI2l_of (by omega) (by omega), mr I rfl, Option.bind_some]
        try dsimp only
        rw [if_neg (fun z => (eq32_bi _).mp z cR), M_inv hM, mg I rfl, Option.bind_some]
        try dsimp only
        rw [if_pos ((eq32_bi _).mpr c9)]
  · refine Both.q (v := -2) hR ?_ ?_
    · unfold mX10_cut
      rw [C_g1 hC, Option.bind_some, L_inv hC.here, hh, Option.bind_some]
      try dsimp only
      rw [if_pos ((eq32_bi _).mpr cR)]
    · unfold mX11_cut
      rw [M_pI hM, Option.bind_some, wm_up0, M_inv hM, oI2l_of (by omega) (by omega), mr I rfl, Option.bind_some]
      try dsimp only
      rw [if_pos ((eq32_bi _).mpr cR)]
end EC
