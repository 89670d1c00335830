/-! rope -/
section ED
variable {μ : Mem} {I : Nat → Nat → Int} {c n : Nat}
/-- what rope answers -/
def rpV (l : Ld) (r : Nat) (x : Int) : Int := if eq32 x 0 then l 10 (2 * r) else if eq32 x 1 then l 10 (2 * r + 1) else if eq32 x 2 then l 7 r else if eq32 x 3 then dpL l (2 * r) else if eq32 x 4 then dpL l (2 * r + 1) else if eq32 x 5 then l 12 (2 * r) else if eq32 x 6 then l 12 (2 * r + 1) else if eq32 x 7 then wtL l (2 * r) else if eq32 x 8 then wtL l (2 * r + 1) else if eq32 x 9 then l 9 r else -2
theorem b01 {x : Int} {ν : Mem} (h : x = 0 ∨ x = 1) : (if eq32 x 0 then some ((0 : Int), ν) else some (1, ν)) = some (x, ν) := by
  rcases h with rfl | rfl
  · rw [if_pos rfl]
  · rw [if_neg (by decide)]
theorem ite_sm {p : Prop} [Decidable p] {x y : Int} {ν : Mem} {X : Option (Int × Mem)} (h : X = some (y, ν)) : (if p then some (x, ν) else X) = some (if p then x else y, ν) := by
  by_cases hp : p
  · rw [if_pos hp, if_pos hp]
  · rw [if_neg hp, if_neg hp, h]
theorem both_rope (hC : isC μ c) (hM : isM μ (c + 193)) (hR : RelC c I) {b x : Int} (hb : -2147483648 ≤ b ∧ b < 2147483648) : Both μ c I (mX10_rope n c b x) (mX11_rope n (c + 193) b x) := by
  obtain ⟨hk, lr, lq, h0, h9⟩ := hR.1
  have hz := hk.1
  have hh := hasRope_eq (n := n) (I := I) (a := c + 3) (l := ld I (c + 3)) hC.here hk hb
  rw [wiwl] at hh
  have s1 : up2 (ld I (c + 193)) 0 0 0 1 = I (c + 193 + 1) := up2_row (show (1 : Nat) ≠ 0 by decide)
  have lr' : LR (ld I (c + 3)) (up2 (ld I (c + 193)) 0 0 0 1) := by rw [s1]; exact lr
  have mr := isRope_eq (n := n) (I := I) (s := up2 (ld I (c + 193)) 0 0 0) (l := ld I (c + 3)) hM lr' hk (b := b) (by omega)
  by_cases cR : 0 ≤ b ∧ b < ld I (c + 3) 0 1
  · obtain ⟨r, rfl⟩ : ∃ r : Nat, b = (r : Int) := ⟨b.toNat, by omega⟩
    have hr : (r : Int) < ld I (c + 3) 0 1 := cR.2
    have g9 := hk.2.2.1 r hr
    have ga := hk.2.2.2 (2 * r) (by omega)
    have gb := hk.2.2.2 (2 * r + 1) (by omega)
    refine Both.q (v := rpV (ld I (c + 3)) r x) hR ?_ ?_
    · have d0 := depthOf_eq (n := n) (I := I) (a := c + 3) (l := ld I (c + 3)) hC.here hk (b := 2 * r) (by omega)
      have d1 := depthOf_eq (n := n) (I := I) (a := c + 3) (l := ld I (c + 3)) hC.here hk (b := 2 * r + 1) (by omega)
      have w0 := weight_eq (n := n) (I := I) (a := c + 3) (l := ld I (c + 3)) hC.here hk (i := 2 * (r : Int)) (by omega) (by omega)
      have w1 := weight_eq (n := n) (I := I) (a := c + 3) (l := ld I (c + 3)) hC.here hk (i := 2 * (r : Int) + 1) (by omega) (by omega)
      rw [wiwl] at d0 d1 w0 w1
      rw [show ((2 * r : Nat) : Int) = 2 * (r : Int) by omega] at d0
      rw [show ((2 * r + 1 : Nat) : Int) = 2 * (r : Int) + 1 by omega] at d1
      rw [tn2] at w0
      rw [tn3] at w1
      have a10 : ldI (wi μ I) 0 (c + 3 + 10) (2 * (r : Int)) = some (ld I (c + 3) 10 (2 * r)) := by rw [L_ld10 hC.here (by omega) (by omega), tn2]; rfl
      have b10 : ldI (wi μ I) 0 (c + 3 + 10) (2 * (r : Int) + 1) = some (ld I (c + 3) 10 (2 * r + 1)) := by rw [L_ld10 hC.here (by omega) (by omega), tn3]; rfl
      have a7 : ldI (wi μ I) 0 (c + 3 + 7) (r : Int) = some (ld I (c + 3) 7 r) := L_ld7 hC.here (by omega) (by omega)
      have a9 : ldI (wi μ I) 2 (c + 3 + 9) (r : Int) = some (ld I (c + 3) 9 r) := L_ld9 hC.here (by omega) (by omega)
      have a12 : ldI (wi μ I) 2 (c + 3 + 12) (2 * (r : Int)) = some (ld I (c + 3) 12 (2 * r)) := by rw [L_ld12 hC.here (by omega) (by omega), tn2]; rfl
      have b12 : ldI (wi μ I) 2 (c + 3 + 12) (2 * (r : Int) + 1) = some (ld I (c + 3) 12 (2 * r + 1)) := by rw [L_ld12 hC.here (by omega) (by omega), tn3]; rfl
      unfold mX10_rope rpV
      rw [C_g1 hC, Option.bind_some, L_inv hC.here, hh, Option.bind_some]
      try dsimp only
      rw [if_neg (fun z => (eq32_bi _).mp z cR)]
      simp only [C_g1 hC, Option.bind_some, L_g15 hC.here, L_g12 hC.here, L_g17 hC.here, L_g14 hC.here, L_inv hC.here, a10, b10, a7, a9, a12, b12, d0, d1, w0, w1, b01 ga.2.2.2.2, b01 gb.2.2.2.2, b01 g9.2.2.2.2.1]
      exact ite_sm (ite_sm (ite_sm (ite_sm (ite_sm (ite_sm (ite_sm (ite_sm (ite_sm (ite_sm rfl)))))))))
    · obtain ⟨k1, k2, k3, k4, k5, k6, k7, k8, k9⟩ := lr.2.2 r hr
      have d0 := mdepth_eq (n := n) (I := I) (s := up2 (ld I (c + 193)) 0 0 0) (l := ld I (c + 3)) hM lr' hk hr (w := 0) (by omega)
      have d1 := mdepth_eq (n := n) (I := I) (s := up2 (ld I (c + 193)) 0 0 0) (l := ld I (c + 3)) hM lr' hk hr (w := 1) (by omega)
      have w0 := mweight_eq (n := n) (I := I) (s := up2 (ld I (c + 193)) 0 0 0) (l := ld I (c + 3)) hM lr' hk hr (w := 0) (by omega)
      have w1 := mweight_eq (n := n) (I := I) (s := up2 (ld I (c + 193)) 0 0 0) (l := ld I (c + 3)) hM lr' hk hr (w := 1) (by omega)
      rw [show ((0 : Nat) : Int) = 0 from rfl] at d0 w0
      rw [show ((1 : Nat) : Int) = 1 from rfl] at d1 w1
      have al : ∀ (j : Nat), j < 220 → ldI (wi μ (wm I (c + 193) (up2 (ld I (c + 193)) 0 0 0))) 0 (c + 193 + 1) (j : Int) = some (I (c + 193 + 1) j) := fun j hj => by rw [M_ld1 hM (by omega) (by omega), wm_at (by omega), s1, Int.toNat_natCast]
      have e76 := (al (76 + r) (by omega)).trans (congrArg some k1)
      have e92 := (al (92 + r) (by omega)).trans (congrArg some k2)
      have e108 := (al (108 + r) (by omega)).trans (congrArg some k3)
      have e172 := (al (172 + r) (by omega)).trans (congrArg some k7)
      have e188 := (al (188 + r) (by omega)).trans (congrArg some k8)
      have e204 := (al (204 + r) (by omega)).trans (congrArg some k9)
      rw [show ((76 + r : Nat) : Int) = 76 + (r : Int) by omega] at e76
      rw [show ((92 + r : Nat) : Int) = 92 + (r : Int) by omega] at e92
      rw [show ((108 + r : Nat) : Int) = 108 + (r : Int) by omega] at e108
      rw [show ((172 + r : Nat) : Int) = 172 + (r : Int) by omega] at e172
      rw [show ((188 + r : Nat) : Int) = 188 + (r : Int) by omega] at e188
      rw [show ((204 + r : Nat) : Int) = 204 + (r : Int) by omega] at e204
      unfold mX11_rope rpV
      rw [M_pI hM, Option.bind_some, wm_up0, M_inv hM, oI2l_of (by omega) (by omega), mr, Option.bind_some]
      try dsimp only
      rw [if_neg (fun z => (eq32_bi _).mp z cR)]
      simp only [M_g1 hM, Option.bind_some, M_inv hM, d0, d1, w0, w1, e76, e92, e108, e172, e188, e204]
      exact ite_sm (ite_sm (ite_sm (ite_sm (ite_sm (ite_sm (ite_sm (ite_sm (ite_sm (ite_sm rfl)))))))))
  · refine Both.q (v := -2) hR ?_ ?_
    · unfold mX10_rope
      rw [C_g1 hC, Option.bind_some, L_inv hC.here, hh, Option.bind_some]
      try dsimp only
      rw [if_pos ((eq32_bi _).mpr cR)]
    · unfold mX11_rope
      rw [M_pI hM, Option.bind_some, wm_up0, M_inv hM, oI2l_of (by omega) (by omega), mr, Option.bind_some]
      try dsimp only
      rw [if_pos ((eq32_bi _).mpr cR)]
end ED
