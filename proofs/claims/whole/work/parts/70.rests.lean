/-! rests -/
theorem oOr_range (x y : Int) : -2147483648 ≤ oOr x y ∧ oOr x y < 2147483648 := by
  unfold oOr
  have h1 := Int32.minValue_le_toInt (Int32.ofInt x ||| Int32.ofInt y)
  have h2 := Int32.toInt_lt (Int32.ofInt x ||| Int32.ofInt y)
  have e1 : Int32.minValue.toInt = -2147483648 := by decide
  omega
theorem oOr_0 {x : Int} (h : -2147483648 ≤ x ∧ x < 2147483648) : oOr x 0 = x := by
  unfold oOr
  have e : Int32.ofInt x ||| Int32.ofInt 0 = Int32.ofInt x := by
    rw [show Int32.ofInt 0 = 0 from rfl, Int32.or_zero]
  rw [e]
  exact Int32.toInt_ofInt_of_le (by omega) (by omega)
section RS
variable {μ : Mem} {I : Nat → Nat → Int} {c m n : Nat} {s l : Ld}
theorem resting_eq (h : isM μ m) (hl : LR l (s 1)) (hk : okL l) (hn : 100 ≤ n) : ∃ p : Nat → Int, mX11_resting n m (wi μ (wm I m s)) = some (rsL l, wi μ (wm I m (up1 s 5 p))) := by
  have hz := hk.1
  obtain ⟨p0, hp0, e0⟩ := nobody_eq (n := n) (I := I) (s := s) h hn
  have u1 : (up1 s 5 p0) 1 = s 1 := up1_o (by decide)
  have u5 : (up1 s 5 p0) 5 = p0 := up1_s
  refine ⟨p0, ?_⟩
  have a1 : ldI (wi μ (wm I m (up1 s 5 p0))) 0 (m + 1) 1 = some (l 0 1) := by rw [M_ld1 h (by omega) (by omega), wm_at (by omega), u1]; exact congrArg some hl.1.2.1
  unfold mX11_resting rsL
  rw [M_inv h, e0, Option.bind_some]
  refine lp_run (fun k (x : Int) => (x, (k : Int))) (fun _ _ => wi μ (wm I m (up1 s 5 p0))) (rsS l) (l 0 1).toNat (fun x => some (x, wi μ (wm I m (up1 s 5 p0)))) (fun _ x => -2147483648 ≤ x ∧ x < 2147483648) (fun k x nx hlt hi => ⟨?_, ?_⟩) (fun x nx hi => ?_) (l 0 1).toNat 0 0 n (by omega) (by omega) ⟨by omega, by omega⟩
  · unfold rsS setB
    split
    · exact oOr_range _ _
    · exact hi
  · have hr : (k : Int) < l 0 1 := by omega
    have g := hk.2.2.1 k hr
    have g1 := hk.2.2.2 (2 * k) (by omega)
    have g2 := hk.2.2.2 (2 * k + 1) (by omega)
    have dt := depthThen_eq (n := n) (I := I) (s := up1 s 5 p0) (l := l) h (by rw [u1]; exact hl) hk (by rw [u5]; intro j hj; rw [hp0 j hj]; omega) hr
    have e8 : ldI (wi μ (wm I m (up1 s 5 p0))) 0 (m + 1) (124 + (k : Int)) = some (l 8 k) := by rw [M_ld1 h (by omega) (by omega), wm_at (by omega), t124, u1, (hl.2.2 k hr).2.2.2.1]
    have ev : mvS p0 k l 8 k = if l 9 k = 0 then dbL l k 0 0 else l 8 k := by
      unfold mvS
      by_cases c9 : l 9 k = 0
      · rw [if_pos c9, if_pos c9, up2_s, hp0 _ (by omega), hp0 _ (by omega), bi_f (by omega)]
      · rw [if_neg c9, if_neg c9]
    have gdb := db_range hk hr 0 0
    rw [u5, ev] at dt
    try dsimp only
    rw [M_g1 h, Option.bind_some, a1, Option.bind_some, if_pos (show lt32 (k : Int) (l 0 1) from (lt32_iff (by omega) (by omega) (by omega) (by omega)).mpr (by omega)), M_inv h, dt, Option.bind_some]
    try dsimp only
    rw [M_g1 h, Option.bind_some, e8, Option.bind_some]
    unfold jn rsS setB
    try dsimp only
    by_cases c9 : l 9 k = 0
    · rw [if_pos c9]
      by_cases c2 : dbL l k 0 0 = l 8 k
      · rw [if_pos ((eq32_iff (by omega) (by omega) (by omega) (by omega)).mpr c2), if_pos (Or.inr c2)]
        rfl
      · rw [if_neg (fun z => c2 ((eq32_iff (by omega) (by omega) (by omega) (by omega)).mp z)), if_neg (fun z => z.elim (fun w => w c9) c2), oOr_0 hi]
        rfl
    · rw [if_neg c9, if_pos rfl, if_pos (Or.inl c9)]
      rfl
  · try dsimp only
    rw [M_g1 h, Option.bind_some, a1, Option.bind_some, if_neg (show ¬ lt32 ((l 0 1).toNat : Int) (l 0 1) from fun z => absurd ((lt32_iff (by omega) (by omega) (by omega) (by omega)).mp z) (by omega))]
theorem both_rests (hC : isC μ c) (hM : isM μ (c + 193)) (hR : RelC c I) (hn : 100 ≤ n) : Both μ c I (mX10_rests n c) (mX11_rests n (c + 193)) := by
  obtain ⟨hk, lr, lq, h0, h9⟩ := hR.1
  have s1 : up2 (ld I (c + 193)) 0 0 0 1 = I (c + 193 + 1) := up2_row (show (1 : Nat) ≠ 0 by decide)
  have hh := restBits_eq (n := n) (I := I) (a := c + 3) (l := ld I (c + 3)) hC.here hk hn
  rw [wiwl] at hh
  obtain ⟨p, e⟩ := resting_eq (n := n) (I := I) (s := up2 (ld I (c + 193)) 0 0 0) (l := ld I (c + 3)) hM (by rw [s1]; exact lr) hk hn
  refine Both.mk (J := I) (s' := up1 (up2 (ld I (c + 193)) 0 0 0) 5 p) (v := rsL (ld I (c + 3))) hR (CF.rf c I).h ?_ ?_ ?_ ?_
  · unfold mX10_rests
    rw [C_g1 hC, Option.bind_some, L_inv hC.here, hh, Option.bind_some]
  · rw [← ldwm I (c + 193)]
    unfold mX11_rests
    rw [M_pI hM, Option.bind_some, wm_up0, M_inv hM, e, Option.bind_some]
  · exact ((Fr.f0 _ (Or.inl rfl)).tr (Fr.p5 _ _)).w
  · rw [up1_o (show (1 : Nat) ≠ 5 by decide), s1]
    exact hR.1
end RS
