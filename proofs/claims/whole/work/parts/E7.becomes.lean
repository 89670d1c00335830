/-! the reference: a land laid out of a code -/
theorem fx_u {l : Ld} {k i : Nat} {x : Int} (hk : k = 3 ∨ k = 5 ∨ k = 6 ∨ k = 8 ∨ k = 12) : fxL l (up2 l k i x) := ⟨fun j _ => up2_n (by omega), up2_row (by omega), up2_row (by omega), up2_row (by omega), up2_row (by omega), up2_row (by omega), up2_row (by omega), up2_row (by omega)⟩
theorem okL.u3 {l : Ld} (h : okL l) {i : Nat} {x : Int} (hx : 0 ≤ x ∧ x ≤ 99) : okL (up2 l 3 i x) := by
  obtain ⟨k0, k1, k2, k3⟩ := h
  unfold okL
  rw [up2_row (show 0 ≠ 3 by decide), up2_row (show 1 ≠ 3 by decide), up2_row (show 2 ≠ 3 by decide), up2_row (show 4 ≠ 3 by decide), up2_row (show 7 ≠ 3 by decide), up2_row (show 8 ≠ 3 by decide), up2_row (show 9 ≠ 3 by decide), up2_row (show 10 ≠ 3 by decide), up2_row (show 11 ≠ 3 by decide), up2_row (show 12 ≠ 3 by decide)]
  refine ⟨k0, fun h hh => ?_, k2, k3⟩
  have q := k1 h hh
  by_cases c : h = i
  · rw [c, up2_s]; rw [c] at q; omega
  · rw [up2_n (by omega)]; exact q
theorem okL.u8 {l : Ld} (h : okL l) {i : Nat} {x : Int} (hx : 0 ≤ x ∧ x ≤ l 7 i) : okL (up2 l 8 i x) := by
  obtain ⟨k0, k1, k2, k3⟩ := h
  unfold okL
  rw [up2_row (show 0 ≠ 8 by decide), up2_row (show 1 ≠ 8 by decide), up2_row (show 2 ≠ 8 by decide), up2_row (show 3 ≠ 8 by decide), up2_row (show 4 ≠ 8 by decide), up2_row (show 7 ≠ 8 by decide), up2_row (show 9 ≠ 8 by decide), up2_row (show 10 ≠ 8 by decide), up2_row (show 11 ≠ 8 by decide), up2_row (show 12 ≠ 8 by decide)]
  refine ⟨k0, k1, fun h hh => ?_, k3⟩
  have q := k2 h hh
  by_cases c : h = i
  · rw [c, up2_s]; rw [c] at q; exact ⟨q.1, q.2.1, hx.1, hx.2, q.2.2.2.2⟩
  · rw [up2_n (by omega)]; exact q
theorem okL.u12 {l : Ld} (h : okL l) {i : Nat} {x : Int} (hx : x = 0 ∨ x = 1) : okL (up2 l 12 i x) := by
  obtain ⟨k0, k1, k2, k3⟩ := h
  unfold okL
  rw [up2_row (show 0 ≠ 12 by decide), up2_row (show 1 ≠ 12 by decide), up2_row (show 2 ≠ 12 by decide), up2_row (show 3 ≠ 12 by decide), up2_row (show 4 ≠ 12 by decide), up2_row (show 7 ≠ 12 by decide), up2_row (show 8 ≠ 12 by decide), up2_row (show 9 ≠ 12 by decide), up2_row (show 10 ≠ 12 by decide), up2_row (show 11 ≠ 12 by decide)]
  refine ⟨k0, k1, k2, fun b hb => ?_⟩
  have q := k3 b hb
  by_cases c : b = i
  · rw [c, up2_s]; rw [c] at q; exact ⟨q.1, q.2.1, q.2.2.1, q.2.2.2.1, hx⟩
  · rw [up2_n (by omega)]; exact q
theorem okL.u5 {l : Ld} (h : okL l) {i : Nat} {x : Int} : okL (up2 l 5 i x) := by
  unfold okL
  rw [up2_row (show 0 ≠ 5 by decide), up2_row (show 1 ≠ 5 by decide), up2_row (show 2 ≠ 5 by decide), up2_row (show 3 ≠ 5 by decide), up2_row (show 4 ≠ 5 by decide), up2_row (show 7 ≠ 5 by decide), up2_row (show 8 ≠ 5 by decide), up2_row (show 9 ≠ 5 by decide), up2_row (show 10 ≠ 5 by decide), up2_row (show 11 ≠ 5 by decide), up2_row (show 12 ≠ 5 by decide)]
  exact h
theorem LR.qn {l : Ld} {A : Nat → Int} (h : LR l A) (hk : okL l) {q : Nat} (hq : (q : Int) < l 0 0) (x : Int) : LR (up2 l 5 q x) (upA A (46 + q) (x + l 6 q)) := by
  obtain ⟨q0, q1, q2⟩ := h
  have k0 := hk.1
  unfold LR
  rw [up2_row (show 0 ≠ 5 by decide), up2_row (show 1 ≠ 5 by decide), up2_row (show 2 ≠ 5 by decide), up2_row (show 3 ≠ 5 by decide), up2_row (show 4 ≠ 5 by decide), up2_row (show 6 ≠ 5 by decide), up2_row (show 7 ≠ 5 by decide), up2_row (show 8 ≠ 5 by decide), up2_row (show 9 ≠ 5 by decide), up2_row (show 10 ≠ 5 by decide), up2_row (show 11 ≠ 5 by decide), up2_row (show 12 ≠ 5 by decide)]
  refine ⟨⟨?_, ?_, ?_, ?_, ?_⟩, fun y hy => ?_, fun r hr => ?_⟩
  · rw [upA_n (by omega)]; exact q0.1
  · rw [upA_n (by omega)]; exact q0.2.1
  · rw [upA_n (by omega)]; exact q0.2.2.1
  · rw [upA_n (by omega)]; exact q0.2.2.2.1
  · rw [upA_n (by omega)]; exact q0.2.2.2.2
  · rw [upA_n (show 6 + y ≠ 46 + q by omega), upA_n (show 16 + y ≠ 46 + q by omega), upA_n (show 26 + y ≠ 46 + q by omega), upA_n (show 36 + y ≠ 46 + q by omega)]
    have z := q1 y hy
    refine ⟨z.1, z.2.1, z.2.2.1, z.2.2.2.1, ?_⟩
    by_cases c : y = q
    · rw [c, upA_s, up2_s]
    · rw [upA_n (by omega), up2_n (by omega)]; exact z.2.2.2.2
  · rw [upA_n (by omega), upA_n (by omega), upA_n (by omega), upA_n (by omega), upA_n (by omega), upA_n (by omega), upA_n (by omega), upA_n (by omega), upA_n (by omega)]
    exact q2 r hr
def ber (m : Nat) : (Int × Int → Mem → Option (Unit × Mem)) → Int × Int → Mem → Option (Unit × Mem) := fun nx79 v79 μ79 => if lt32 v79.2 0 then some ((), μ79) else (gA μ79 12 m 1).bind fun x85 => (gA μ79 12 m 25).bind fun x91 => (ldI μ79 0 x91 v79.2).bind fun x96 => (stI μ79 0 x85 (124 + x96) (oDiv (lRem v79.1 64) 4)).bind fun μ107 => (gA μ107 12 m 1).bind fun x109 => (gA μ107 12 m 25).bind fun x116 => (ldI μ107 0 x116 v79.2).bind fun x121 => (stI μ107 0 x109 (172 + x121) (oDiv (lRem v79.1 4) 2)).bind fun μ132 => (gA μ132 12 m 1).bind fun x134 => (gA μ132 12 m 25).bind fun x141 => (ldI μ132 0 x141 v79.2).bind fun x146 => (stI μ132 0 x134 (188 + x146) (lRem v79.1 2)).bind fun μ155 => nx79 ((lDiv v79.1 64), (v79.2 + (-1))) μ155
def beh (n m : Nat) : (Int × Int → Mem → Option (Unit × Mem)) → Int × Int → Mem → Option (Unit × Mem) := fun nx35 v35 μ35 => if lt32 v35.2 0 then (gI μ35 12 m 27).bind fun x72 => lp (ber m) n (v35.1, (x72 - 1)) μ35 else (gA μ35 12 m 1).bind fun x41 => (stI μ35 0 x41 (26 + v35.2) (lRem v35.1 128)).bind fun μ56 => nx35 ((lDiv v35.1 128), (v35.2 + (-1))) μ56
theorem becomes_s {n m : Nat} {b1 b2 b3 : Int} (μ : Mem) : mX11_becomes n m b1 b2 b3 μ = ((gA μ 12 m 1).bind fun x1 => (stI μ 0 x1 (46 + b2) (b3 + (lRem b1 4))).bind fun μ17 => (gA μ17 12 m 1).bind fun x26 => (ldI μ17 0 x26 0).bind fun x30 => lp (beh n m) n ((lDiv b1 4), (x30 - 1)) μ17) := rfl
section BE
variable {μ : Mem} {I : Nat → Nat → Int} {m n o H : Nat} {ro : Nat → Nat} {D F S : Nat → Int} {g : Int}
theorem rh_nn (h : rgF D F S g) {v : Int} (hv : 0 ≤ v ∧ v < 262144) : ∀ k : Nat, 0 ≤ rhF v S k ∧ rhF v S k < 262144 * 128 ^ k
  | 0 => by
    show 0 ≤ v ∧ v < 262144 * 128 ^ 0
    omega
  | k + 1 => by
    have i := rh_nn h hv k
    have d := h.2.2.1 k
    rw [Int.pow_succ]
    show 0 ≤ 128 * rhF v S k + S k ∧ 128 * rhF v S k + S k < 262144 * (128 ^ k * 128)
    omega
/-- rows of a land that the ropes' part of a code settles -/
theorem ber_l (hM : isM μ m) (hr : rgF D F S g) : ∀ (i k : Nat) (s L : Ld), i ≤ o → i < k → LR L (s 1) → okL L → hngM s o ro L → (∀ j : Nat, j < o → D j ≤ L 7 (ro j)) → ∃ u L1 : Ld, lp (ber m) k (rpF' D F i, (i : Int) - 1) (wi μ (wm I m s)) = some ((), wi μ (wm I m u)) ∧ (∀ k : Nat, k ≠ 1 → u k = s k) ∧ (∀ j : Nat, 220 ≤ j → u 1 j = s 1 j) ∧ LR L1 (u 1) ∧ okL L1 ∧ fxL L L1 ∧ L1 3 = L 3 ∧ L1 5 = L 5 ∧ L1 6 = L 6 ∧ (∀ j : Nat, j < i → L1 8 (ro j) = D j ∧ L1 12 (2 * ro j) = F (2 * j) ∧ L1 12 (2 * ro j + 1) = F (2 * j + 1)) ∧ (∀ r : Nat, (∀ j : Nat, j < i → r ≠ ro j) → L1 8 r = L 8 r ∧ L1 12 (2 * r) = L 12 (2 * r) ∧ L1 12 (2 * r + 1) = L 12 (2 * r + 1))
  | i, 0, s, L, h1, h2, hl, hk, ho, hd => absurd h2 (by omega)
  | 0, k + 1, s, L, h1, h2, hl, hk, ho, hd => by
    show ∃ u L1 : Ld, ber m (lp (ber m) k) (rpF' D F 0, ((0 : Nat) : Int) - 1) (wi μ (wm I m s)) = some ((), wi μ (wm I m u)) ∧ _
    unfold ber
    dsimp only
    rw [i_lt_t (by omega)]
    exact ⟨s, L, rfl, fun _ _ => rfl, fun _ _ => rfl, hl, hk, fxL.rf, rfl, rfl, rfl, fun j hj => absurd hj (by omega), fun _ _ => ⟨rfl, rfl, rfl⟩⟩
  | i + 1, k + 1, s, L, h1, h2, hl, hk, ho, hd => by
    have k0 := hk.1
    have o3 := ho.2.1
    obtain ⟨r1, r2⟩ := ho.2.2.1 i (by omega)
    have d := hr.1 i
    have f0 := hr.2.1 (2 * i)
    have f1 := hr.2.1 (2 * i + 1)
    have rn := rp_nn hr i
    have r64 : (64 : Int) ^ i ≤ 64 ^ 2 := by
      have : i = 0 ∨ i = 1 ∨ i = 2 := by omega
      rcases this with rfl | rfl | rfl <;> decide
    have dl := hd i (by omega)
    have ev : rpF' D F (i + 1) = 64 * rpF' D F i + 4 * D i + 2 * F (2 * i) + F (2 * i + 1) := rfl
    -- the three rows
    have l1 := hl.dep hk r2 (D i)
    have K1 := hk.u8 (i := ro i) (x := D i) ⟨d.1, dl⟩
    have n1 : up2 L 8 (ro i) (D i) 0 1 = L 0 1 := up2_n (by omega)
    have l2 := l1.ful K1 (b := 2 * ro i) (by rw [n1]; omega) (F (2 * i))
    have K2 := K1.u12 (i := 2 * ro i) (x := F (2 * i)) f0
    have n2 : up2 (up2 L 8 (ro i) (D i)) 12 (2 * ro i) (F (2 * i)) 0 1 = L 0 1 := (up2_n (by omega)).trans n1
    have l3 := l2.ful K2 (b := 2 * ro i + 1) (by rw [n2]; omega) (F (2 * i + 1))
    have K3 := K2.u12 (i := 2 * ro i + 1) (x := F (2 * i + 1)) f1
    rw [show 172 + 16 * (2 * ro i % 2) + 2 * ro i / 2 = 172 + ro i by omega] at l2 l3
    rw [show 172 + 16 * ((2 * ro i + 1) % 2) + (2 * ro i + 1) / 2 = 188 + ro i by omega] at l3
    generalize hL3 : up2 (up2 (up2 L 8 (ro i) (D i)) 12 (2 * ro i) (F (2 * i))) 12 (2 * ro i + 1) (F (2 * i + 1)) = L3 at l3 K3
    have fx3 : fxL L L3 := by rw [← hL3]; exact ((fx_u (by omega)).tr (fx_u (by omega))).tr (fx_u (by omega))
    generalize hs3 : up2 (up2 (up2 s 1 (124 + ro i) (D i)) 1 (172 + ro i) (F (2 * i))) 1 (188 + ro i) (F (2 * i + 1)) = s3
    have s31 : s3 1 = upA (upA (upA (s 1) (124 + ro i) (D i)) (172 + ro i) (F (2 * i))) (188 + ro i) (F (2 * i + 1)) := by rw [← hs3, up2_r, up2_r, up2_r]
    have s3o : ∀ k : Nat, k ≠ 1 → s3 k = s k := fun k hk => by rw [← hs3, up2_row hk, up2_row hk, up2_row hk]
    rw [← s31] at l3
    have ho3 : hngM s3 o ro L3 := ⟨by rw [s3o 0 (by decide)]; exact ho.1, o3, fun k hk => by rw [s3o 10 (by decide), fx3.1 1 (by decide)]; exact ho.2.2.1 k hk, ho.2.2.2⟩
    obtain ⟨u, L1, e, g1, g2, g3, g4, g5, g6, g7, g8, g9, g10⟩ := ber_l hM hr i k s3 L3 (by omega) (by omega) l3 K3 ho3 (fun j hj => by rw [fx3.2.2.2.2.1]; exact hd j hj)
    have x8 : ∀ r : Nat, r ≠ ro i → L3 8 r = L 8 r ∧ L3 12 (2 * r) = L 12 (2 * r) ∧ L3 12 (2 * r + 1) = L 12 (2 * r + 1) := fun r hne => by
      rw [← hL3]
      refine ⟨?_, ?_, ?_⟩
      · rw [up2_row (by decide), up2_row (by decide), up2_n (by omega)]
      · rw [up2_n (by omega), up2_n (by omega), up2_row (by decide)]
      · rw [up2_n (by omega), up2_n (by omega), up2_row (by decide)]
    have y8 : L3 8 (ro i) = D i ∧ L3 12 (2 * ro i) = F (2 * i) ∧ L3 12 (2 * ro i + 1) = F (2 * i + 1) := by
      rw [← hL3]
      refine ⟨?_, ?_, ?_⟩
      · rw [up2_row (by decide), up2_row (by decide), up2_s]
      · rw [up2_n (by omega), up2_s]
      · rw [up2_s]
    refine ⟨u, L1, ?_, fun k hk => (g1 k hk).trans (s3o k hk), fun j hj => ?_, g3, g4, fx3.tr g5, ?_, ?_, ?_, fun j hj => ?_, fun r hne => ?_⟩
    · have e' : lp (ber m) k (rpF' D F i, (i : Int) - 1) (wi μ (wm I m s3)) = some ((), wi μ (wm I m u)) := e
      generalize hB : lp (ber m) k = self at e'
      show ber m (lp (ber m) k) (rpF' D F (i + 1), (((i + 1 : Nat) : Int)) - 1) (wi μ (wm I m s)) = _
      rw [hB]
      unfold ber
      dsimp only
      have c1 : oDiv (lRem (rpF' D F (i + 1)) 64) 4 = D i := by
        rw [lRem_of (by omega) (by omega) (by omega) (by omega), oDiv_of (by omega) (by omega) (by omega) (by omega)]
        omega
      have c2 : oDiv (lRem (rpF' D F (i + 1)) 4) 2 = F (2 * i) := by
        rw [lRem_of (by omega) (by omega) (by omega) (by omega), oDiv_of (by omega) (by omega) (by omega) (by omega)]
        omega
      have c3 : lRem (rpF' D F (i + 1)) 2 = F (2 * i + 1) := by
        rw [lRem_of (by omega) (by omega) (by omega) (by omega)]
        omega
      have c4 : lDiv (rpF' D F (i + 1)) 64 = rpF' D F i := by
        rw [lDiv_of (by omega) (by omega) (by omega) (by omega)]
        omega
      rw [c1, c2, c3, c4, show ((i + 1 : Nat) : Int) - 1 = (i : Int) by omega, i_lt_f (by omega)]
      have t1 : up2 s 1 (124 + ro i) (D i) 10 i = ((ro i : Nat) : Int) := by rw [up2_row (by decide)]; exact r1
      have t2 : up2 (up2 s 1 (124 + ro i) (D i)) 1 (172 + ro i) (F (2 * i)) 10 i = ((ro i : Nat) : Int) := by rw [up2_row (by decide)]; exact t1
      rw [bM_g1 hM, bM_g25 hM, bM_ld10 hM (by omega) (by omega), Int.toNat_natCast, r1, bM_st1 hM (by omega) (by omega), show (124 + ((ro i : Nat) : Int)).toNat = 124 + ro i by omega]
      rw [bM_g1 hM, bM_g25 hM, bM_ld10 hM (by omega) (by omega), Int.toNat_natCast, t1, bM_st1 hM (by omega) (by omega), show (172 + ((ro i : Nat) : Int)).toNat = 172 + ro i by omega]
      rw [bM_g1 hM, bM_g25 hM, bM_ld10 hM (by omega) (by omega), Int.toNat_natCast, t2, bM_st1 hM (by omega) (by omega), show (188 + ((ro i : Nat) : Int)).toNat = 188 + ro i by omega, hs3]
      exact e'
    · rw [g2 j hj, s31, upA_n (by omega), upA_n (by omega), upA_n (by omega)]
    · rw [g6, ← hL3, up2_row (by decide), up2_row (by decide), up2_row (by decide)]
    · rw [g7, ← hL3, up2_row (by decide), up2_row (by decide), up2_row (by decide)]
    · rw [g8, ← hL3, up2_row (by decide), up2_row (by decide), up2_row (by decide)]
    · by_cases c : j = i
      · have q := g10 (ro i) (fun j' hj' w => by
          have := ho.2.2.2 j' i hj' (by omega)
          omega)
        rw [c, q.1, q.2.1, q.2.2]
        exact y8
      · exact g9 j (by omega)
    · have q := g10 r (fun j hj => hne j (by omega))
      rw [q.1, q.2.1, q.2.2]
      exact x8 r (hne i (by omega))
end BE
