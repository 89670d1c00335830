/-! house -/
section HS
variable {μ : Mem} {I : Nat → Nat → Int} {c m n : Nat} {s l : Ld}
def hsV (l : Ld) (b : Nat) (x : Int) : Int := if eq32 x 0 then l 1 b else if eq32 x 1 then l 2 b else if eq32 x 2 then l 3 b else if eq32 x 3 then l 4 b else if eq32 x 4 then l 5 b + l 6 b else if eq32 x 5 then l 5 b else if eq32 x 6 then l 6 b else if eq32 x 7 then itr (rbS l b) 0 (l 0 1).toNat 0 else -2
theorem ropesOf_eq (h : isM μ m) (hl : LR l (s 1)) (hk : okL l) {b : Nat} (hb : (b : Int) < l 0 0) (hn : 100 ≤ n) : mX11_ropesOf n m (b : Int) (wi μ (wm I m s)) = some (itr (rbS l b) 0 (l 0 1).toNat 0, wi μ (wm I m s)) := by
  have hz := hk.1
  have a1 : ldI (wi μ (wm I m s)) 0 (m + 1) 1 = some (l 0 1) := by rw [M_ld1 h (by omega) (by omega), wm_at (by omega)]; exact congrArg some hl.1.2.1
  unfold mX11_ropesOf
  refine lp_run (fun k (x : Int) => (x, (k : Int))) (fun _ _ => wi μ (wm I m s)) (rbS l b) (l 0 1).toNat (fun x => some (x, wi μ (wm I m s))) (fun _ x => -2147483648 ≤ x ∧ x < 2147483648) (fun k x nx hlt hi => ⟨?_, ?_⟩) (fun x nx hi => ?_) (l 0 1).toNat 0 0 n (by omega) (by omega) ⟨by omega, by omega⟩
  · unfold rbS setB
    split
    · exact oOr_range _ _
    · exact hi
  · have hr : (k : Int) < l 0 1 := by omega
    have he := isEnd_eq (n := n) (I := I) (s := s) (l := l) h hl hk (b := (b : Int)) (by omega) hr
    try dsimp only
    rw [M_g1 h, Option.bind_some, a1, Option.bind_some, if_pos (show lt32 (k : Int) (l 0 1) from (lt32_iff (by omega) (by omega) (by omega) (by omega)).mpr (by omega)), M_inv h, he, Option.bind_some]
    unfold jn rbS setB
    try dsimp only
    by_cases ce : l 10 (2 * k) = b ∨ l 10 (2 * k + 1) = b
    · have cp : hgP l k b := ⟨⟨by omega, hb⟩, ⟨by omega, hr⟩, by rw [tn2, tn3]; exact ce⟩
      rw [if_neg (fun z => (eq32_bi _).mp z ce), if_pos cp]
      rfl
    · have cp : ¬ hgP l k b := fun z => ce (by have := z.2.2; rw [tn2, tn3] at this; exact this)
      rw [if_pos ((eq32_bi _).mpr ce), if_neg cp, oOr_0 hi]
      rfl
  · try dsimp only
    rw [M_g1 h, Option.bind_some, a1, Option.bind_some, if_neg (show ¬ lt32 ((l 0 1).toNat : Int) (l 0 1) from fun z => absurd ((lt32_iff (by omega) (by omega) (by omega) (by omega)).mp z) (by omega))]
theorem both_house (hC : isC μ c) (hM : isM μ (c + 193)) (hR : RelC c I) {b x : Int} (hb : -2147483648 ≤ b ∧ b < 2147483648) (hx : -2147483648 ≤ x ∧ x < 2147483648) (hn : 100 ≤ n) : Both μ c I (mX10_house n c b x) (mX11_house n (c + 193) b x) := by
  obtain ⟨hk, lr, lq, h0, h9⟩ := hR.1
  have hz := hk.1
  have hh := hasHouse_eq (n := n) (I := I) (a := c + 3) (l := ld I (c + 3)) hC.here hk hb
  rw [wiwl] at hh
  have s1 : up2 (ld I (c + 193)) 0 0 0 1 = I (c + 193 + 1) := up2_row (show (1 : Nat) ≠ 0 by decide)
  have lr' : LR (ld I (c + 3)) (up2 (ld I (c + 193)) 0 0 0 1) := by rw [s1]; exact lr
  have mh := isHouse_eq (n := n) (I := I) (s := up2 (ld I (c + 193)) 0 0 0) (l := ld I (c + 3)) hM lr' hk (b := b) (by omega)
  by_cases cH : 0 ≤ b ∧ b < ld I (c + 3) 0 0
  · obtain ⟨q, rfl⟩ : ∃ q : Nat, b = (q : Int) := ⟨b.toNat, by omega⟩
    have hq : (q : Int) < ld I (c + 3) 0 0 := cH.2
    refine Both.q (v := hsV (ld I (c + 3)) q x) hR ?_ ?_
    · have w4 := had_eq (n := n) (I := I) (a := c + 3) (l := ld I (c + 3)) hC.here (i := (q : Int)) (by omega) (by omega)
      have w7 := ropeBits_eq (n := n) (I := I) (a := c + 3) (l := ld I (c + 3)) hC.here hk hb hn
      rw [wiwl] at w4 w7
      rw [Int.toNat_natCast] at w4
      have a1 : ldI (wi μ I) 0 (c + 3 + 1) (q : Int) = some (ld I (c + 3) 1 q) := L_ld1 hC.here (by omega) (by omega)
      have a2 : ldI (wi μ I) 0 (c + 3 + 2) (q : Int) = some (ld I (c + 3) 2 q) := L_ld2 hC.here (by omega) (by omega)
      have a3 : ldI (wi μ I) 0 (c + 3 + 3) (q : Int) = some (ld I (c + 3) 3 q) := L_ld3 hC.here (by omega) (by omega)
      have a4 : ldI (wi μ I) 0 (c + 3 + 4) (q : Int) = some (ld I (c + 3) 4 q) := L_ld4 hC.here (by omega) (by omega)
      have a5 : ldI (wi μ I) 0 (c + 3 + 5) (q : Int) = some (ld I (c + 3) 5 q) := L_ld5 hC.here (by omega) (by omega)
      have a6 : ldI (wi μ I) 0 (c + 3 + 6) (q : Int) = some (ld I (c + 3) 6 q) := L_ld6 hC.here (by omega) (by omega)
      unfold mX10_house hsV
      rw [C_g1 hC, Option.bind_some, L_inv hC.here, hh, Option.bind_some]
      try dsimp only
      rw [if_neg (fun z => (eq32_bi _).mp z cH)]
      simp only [C_g1 hC, Option.bind_some, L_g6 hC.here, L_g7 hC.here, L_g8 hC.here, L_g9 hC.here, L_g10 hC.here, L_g11 hC.here, L_inv hC.here, a1, a2, a3, a4, a5, a6, w4, w7]
      exact ite_sm (ite_sm (ite_sm (ite_sm (ite_sm (ite_sm (ite_sm (ite_sm rfl)))))))
    · obtain ⟨k1, k2, k3, k4, k5⟩ := lr.2.1 q hq
      obtain ⟨k6, k7⟩ := lq.2 q hq
      have ro := ropesOf_eq (n := n) (I := I) (s := up2 (ld I (c + 193)) 0 0 0) (l := ld I (c + 3)) hM lr' hk hq hn
      have al : ∀ (z : Int) (j : Nat), z = (j : Int) → j < 220 → ldI (wi μ (wm I (c + 193) (up2 (ld I (c + 193)) 0 0 0))) 0 (c + 193 + 1) z = some (I (c + 193 + 1) j) := fun z j e hj => by rw [e, M_ld1 hM (by omega) (by omega), wm_at (by omega), s1, Int.toNat_natCast]
      unfold mX11_house
      rw [M_pI hM, Option.bind_some, wm_up0, M_inv hM, oI2l_of (by omega) (by omega), mh, Option.bind_some]
      try dsimp only
      rw [if_neg (fun z => (eq32_bi _).mp z cH), oI2l_of (by omega) (by omega), within_eq (by omega) (by omega) (by omega), Option.bind_some]
      try dsimp only
      by_cases cx : 0 ≤ x ∧ x ≤ 7
      · rw [if_neg (fun z => (eq32_bi _).mp z cx)]
        have c8 : x = 0 ∨ x = 1 ∨ x = 2 ∨ x = 3 ∨ x = 4 ∨ x = 5 ∨ x = 6 ∨ x = 7 := by omega
        rcases c8 with rfl | rfl | rfl | rfl | rfl | rfl | rfl | rfl
        · have ev : hsV (ld I (c + 3)) q 0 = I (c + 193 + 1) (6 + q) := by
            unfold hsV
            rw [if_pos rfl, k1]
          rw [if_neg (by decide), M_g1 hM, Option.bind_some, al _ (6 + q) (by omega) (by omega), Option.bind_some, ev]
        · have ev : hsV (ld I (c + 3)) q 1 = I (c + 193 + 1) (16 + q) := by
            unfold hsV
            rw [if_neg (by decide), if_pos rfl, k2]
          rw [if_neg (by decide), M_g1 hM, Option.bind_some, al _ (16 + q) (by omega) (by omega), Option.bind_some, ev]
        · have ev : hsV (ld I (c + 3)) q 2 = I (c + 193 + 1) (26 + q) := by
            unfold hsV
            rw [if_neg (by decide), if_neg (by decide), if_pos rfl, k3]
          rw [if_neg (by decide), M_g1 hM, Option.bind_some, al _ (26 + q) (by omega) (by omega), Option.bind_some, ev]
        · have ev : hsV (ld I (c + 3)) q 3 = I (c + 193 + 1) (36 + q) := by
            unfold hsV
            rw [if_neg (by decide), if_neg (by decide), if_neg (by decide), if_pos rfl, k4]
          rw [if_neg (by decide), M_g1 hM, Option.bind_some, al _ (36 + q) (by omega) (by omega), Option.bind_some, ev]
        · have ev : hsV (ld I (c + 3)) q 4 = I (c + 193 + 1) (46 + q) := by
            unfold hsV
            rw [if_neg (by decide), if_neg (by decide), if_neg (by decide), if_neg (by decide), if_pos rfl, k5]
          rw [if_neg (by decide), M_g1 hM, Option.bind_some, al _ (46 + q) (by omega) (by omega), Option.bind_some, ev]
        · have ev : hsV (ld I (c + 3)) q 5 = I (c + 193 + 1) (56 + q) := by
            unfold hsV
            rw [if_neg (by decide), if_neg (by decide), if_neg (by decide), if_neg (by decide), if_neg (by decide), if_pos rfl, k6]
          rw [if_neg (by decide), M_g1 hM, Option.bind_some, al _ (56 + q) (by omega) (by omega), Option.bind_some, ev]
        · have ev : hsV (ld I (c + 3)) q 6 = I (c + 193 + 1) (66 + q) := by
            unfold hsV
            rw [if_neg (by decide), if_neg (by decide), if_neg (by decide), if_neg (by decide), if_neg (by decide), if_neg (by decide), if_pos rfl, k7]
          rw [if_neg (by decide), M_g1 hM, Option.bind_some, al _ (66 + q) (by omega) (by omega), Option.bind_some, ev]
        · have ev : hsV (ld I (c + 3)) q 7 = itr (rbS (ld I (c + 3)) q) 0 (ld I (c + 3) 0 1).toNat 0 := by
            unfold hsV
            rw [if_neg (by decide), if_neg (by decide), if_neg (by decide), if_neg (by decide), if_neg (by decide), if_neg (by decide), if_neg (by decide), if_pos rfl]
          rw [if_pos rfl, M_inv hM, ro, Option.bind_some, ev]
      · rw [if_pos ((eq32_bi _).mpr cx)]
        have hne : ∀ k : Int, 0 ≤ k → k ≤ 7 → ¬ eq32 x k := fun k hk0 hk7 z => cx (by have := (eq32_iff (by omega) (by omega) (by omega) (by omega)).mp z; omega)
        unfold hsV
        rw [if_neg (hne 0 (by decide) (by decide)), if_neg (hne 1 (by decide) (by decide)), if_neg (hne 2 (by decide) (by decide)), if_neg (hne 3 (by decide) (by decide)), if_neg (hne 4 (by decide) (by decide)), if_neg (hne 5 (by decide) (by decide)), if_neg (hne 6 (by decide) (by decide)), if_neg (hne 7 (by decide) (by decide))]
  · refine Both.q (v := -2) hR ?_ ?_
    · unfold mX10_house
      rw [C_g1 hC, Option.bind_some, L_inv hC.here, hh, Option.bind_some]
      try dsimp only
      rw [if_pos ((eq32_bi _).mpr cH)]
    · unfold mX11_house
      rw [M_pI hM, Option.bind_some, wm_up0, M_inv hM, oI2l_of (by omega) (by omega), mh, Option.bind_some]
      try dsimp only
      rw [if_pos ((eq32_bi _).mpr cH)]
end HS
