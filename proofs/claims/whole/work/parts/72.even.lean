/-! even -/
section EV
variable {μ : Mem} {I : Nat → Nat → Int} {c n : Nat}
def evS (l : Ld) (r : Nat) (x : Int) : Int := if l 9 r = 0 then x + max (wtL l (2 * r) - wtL l (2 * r + 1)) (-(wtL l (2 * r) - wtL l (2 * r + 1))) else x
theorem both_even (hC : isC μ c) (hM : isM μ (c + 193)) (hR : RelC c I) (hn : 100 ≤ n) : Both μ c I (mX10_even n c) (mX11_even n (c + 193)) := by
  obtain ⟨hk, lr, lq, h0, h9⟩ := hR.1
  have hz := hk.1
  have s1 : up2 (ld I (c + 193)) 0 0 0 1 = I (c + 193 + 1) := up2_row (show (1 : Nat) ≠ 0 by decide)
  have lr' : LR (ld I (c + 3)) (up2 (ld I (c + 193)) 0 0 0 1) := by rw [s1]; exact lr
  refine Both.q (v := itr (evS (ld I (c + 3))) 0 (ld I (c + 3) 0 1).toNat 0) hR ?_ ?_
  · have a1 : gI (wi μ I) 2 (c + 3) 1 = some (ld I (c + 3) 0 1) := L_gI hC.here
    unfold mX10_even
    refine lp_run (fun k (x : Int) => (x, (k : Int))) (fun _ _ => wi μ I) (evS (ld I (c + 3))) (ld I (c + 3) 0 1).toNat (fun x => some (x, wi μ I)) (fun _ _ => True) (fun k x nx hlt hi => ⟨trivial, ?_⟩) (fun x nx hi => ?_) (ld I (c + 3) 0 1).toNat 0 0 n (by omega) (by omega) trivial
    · have hr : (k : Int) < ld I (c + 3) 0 1 := by omega
      have g := hk.2.2.1 k hr
      have g0 := wt_range hk (b := 2 * k) (by omega)
      have g1 := wt_range hk (b := 2 * k + 1) (by omega)
      have w0 := weight_eq (n := n) (I := I) (a := c + 3) (l := ld I (c + 3)) hC.here hk (i := 2 * (k : Int)) (by omega) (by omega)
      have w1 := weight_eq (n := n) (I := I) (a := c + 3) (l := ld I (c + 3)) hC.here hk (i := 2 * (k : Int) + 1) (by omega) (by omega)
      rw [wiwl] at w0 w1
      rw [tn2] at w0
      rw [tn3] at w1
      have a9 : ldI (wi μ I) 2 (c + 3 + 9) (k : Int) = some (ld I (c + 3) 9 k) := L_ld9 hC.here (by omega) (by omega)
      try dsimp only
      rw [C_g1 hC, Option.bind_some, a1, Option.bind_some, if_pos (show lt32 (k : Int) (ld I (c + 3) 0 1) from (lt32_iff (by omega) (by omega) (by omega) (by omega)).mpr (by omega)), Option.bind_some, L_g14 hC.here, Option.bind_some, a9, Option.bind_some]
      unfold evS
      by_cases c9 : ld I (c + 3) 9 k = 0
      · rw [if_pos ((eq32_iff (by omega) (by omega) (by omega) (by omega)).mpr c9), if_pos c9, Option.bind_some, L_inv hC.here, w0, Option.bind_some]
        try dsimp only
        rw [C_g1 hC, Option.bind_some, L_inv hC.here, w1, Option.bind_some]
        try dsimp only
        rw [mAbs_of (by omega) (by omega)]
        rfl
      · rw [if_neg (fun z => c9 ((eq32_iff (by omega) (by omega) (by omega) (by omega)).mp z)), if_neg c9]
        rfl
    · try dsimp only
      rw [C_g1 hC, Option.bind_some, a1, Option.bind_some, if_neg (show ¬ lt32 ((ld I (c + 3) 0 1).toNat : Int) (ld I (c + 3) 0 1) from fun z => absurd ((lt32_iff (by omega) (by omega) (by omega) (by omega)).mp z) (by omega))]
  · have a1 : ldI (wi μ (wm I (c + 193) (up2 (ld I (c + 193)) 0 0 0))) 0 (c + 193 + 1) 1 = some (ld I (c + 3) 0 1) := by rw [M_ld1 hM (by omega) (by omega), wm_at (by omega), s1]; exact congrArg some lr.1.2.1
    unfold mX11_even
    rw [M_pI hM, Option.bind_some, wm_up0]
    refine lp_run (fun k (x : Int) => (x, (k : Int))) (fun _ _ => wi μ (wm I (c + 193) (up2 (ld I (c + 193)) 0 0 0))) (evS (ld I (c + 3))) (ld I (c + 3) 0 1).toNat (fun x => some (x, wi μ (wm I (c + 193) (up2 (ld I (c + 193)) 0 0 0)))) (fun _ _ => True) (fun k x nx hlt hi => ⟨trivial, ?_⟩) (fun x nx hi => ?_) (ld I (c + 3) 0 1).toNat 0 0 n (by omega) (by omega) trivial
    · have hr : (k : Int) < ld I (c + 3) 0 1 := by omega
      have g0 := wt_range hk (b := 2 * k) (by omega)
      have g1 := wt_range hk (b := 2 * k + 1) (by omega)
      have w0 := mweight_eq (n := n) (I := I) (s := up2 (ld I (c + 193)) 0 0 0) (l := ld I (c + 3)) hM lr' hk hr (w := 0) (by omega)
      have w1 := mweight_eq (n := n) (I := I) (s := up2 (ld I (c + 193)) 0 0 0) (l := ld I (c + 3)) hM lr' hk hr (w := 1) (by omega)
      rw [show ((0 : Nat) : Int) = 0 from rfl, show 2 * k + 0 = 2 * k from rfl] at w0
      rw [show ((1 : Nat) : Int) = 1 from rfl] at w1
      have mg := mhangs_eq (n := n) (I := I) (s := up2 (ld I (c + 193)) 0 0 0) (l := ld I (c + 3)) hM lr' hk hr
      try dsimp only
      rw [M_g1 hM, Option.bind_some, a1, Option.bind_some, if_pos (show lt32 (k : Int) (ld I (c + 3) 0 1) from (lt32_iff (by omega) (by omega) (by omega) (by omega)).mpr (by omega)), M_inv hM, w0, Option.bind_some]
      try dsimp only
      rw [M_inv hM, w1, Option.bind_some]
      try dsimp only
      rw [M_inv hM, mg, Option.bind_some]
      try dsimp only
      unfold evS
      by_cases c9 : ld I (c + 3) 9 k = 0
      · rw [if_neg (fun z => (eq32_bi _).mp z c9), if_pos c9]
        by_cases cs : wtL (ld I (c + 3)) (2 * k) - wtL (ld I (c + 3)) (2 * k + 1) < 0
        · rw [if_pos ((lt32_iff (by omega) (by omega) (by omega) (by omega)).mpr cs), show max (wtL (ld I (c + 3)) (2 * k) - wtL (ld I (c + 3)) (2 * k + 1)) (-(wtL (ld I (c + 3)) (2 * k) - wtL (ld I (c + 3)) (2 * k + 1))) = -(wtL (ld I (c + 3)) (2 * k) - wtL (ld I (c + 3)) (2 * k + 1)) by omega]
          rfl
        · rw [if_neg (fun z => cs ((lt32_iff (by omega) (by omega) (by omega) (by omega)).mp z)), show max (wtL (ld I (c + 3)) (2 * k) - wtL (ld I (c + 3)) (2 * k + 1)) (-(wtL (ld I (c + 3)) (2 * k) - wtL (ld I (c + 3)) (2 * k + 1))) = wtL (ld I (c + 3)) (2 * k) - wtL (ld I (c + 3)) (2 * k + 1) by omega]
          rfl
      · rw [if_pos ((eq32_bi _).mpr c9), if_neg c9]
        rfl
    · try dsimp only
      rw [M_g1 hM, Option.bind_some, a1, Option.bind_some, if_neg (show ¬ lt32 ((ld I (c + 3) 0 1).toNat : Int) (ld I (c + 3) 0 1) from fun z => absurd ((lt32_iff (by omega) (by omega) (by omega) (by omega)).mp z) (by omega))]
end EV
