/-! the reference: a land laid out of a code, whole -/
section BF
variable {μ : Mem} {I : Nat → Nat → Int} {m n o H : Nat} {ro : Nat → Nat} {D F S : Nat → Int} {g : Int}
theorem rh_lt {v : Int} (h : rgF D F S g) (hv : 0 ≤ v ∧ v < 262144) {k : Nat} (hk : k ≤ 4) : 0 ≤ rhF v S k ∧ rhF v S k < 70368744177664 := by
  have a := rh_nn h hv k
  have b : (128 : Int) ^ k ≤ 268435456 := by
    have : k = 0 ∨ k = 1 ∨ k = 2 ∨ k = 3 ∨ k = 4 := by omega
    rcases this with rfl | rfl | rfl | rfl | rfl <;> decide
  omega
theorem rp_lt (h : rgF D F S g) {k : Nat} (hk : k ≤ 3) : 0 ≤ rpF' D F k ∧ rpF' D F k < 262144 := by
  have a := rp_nn h k
  have b : (64 : Int) ^ k ≤ 262144 := by
    have : k = 0 ∨ k = 1 ∨ k = 2 ∨ k = 3 := by omega
    rcases this with rfl | rfl | rfl | rfl <;> decide
  omega
theorem cdM_rg (h : rgF D F S g) (ho : o ≤ 3) (hH : H ≤ 4) : 0 ≤ cdM o H D F S g ∧ cdM o H D F S g < 4611686018427387904 := by
  have a := rh_lt h (rp_lt h ho) hH
  have b := h.2.2.2
  unfold cdM
  omega
theorem beh_l (hM : isM μ m) (hr : rgF D F S g) (hH4 : H ≤ 4) {w : Int} (hw : 0 ≤ w ∧ w < 262144) : ∀ (i k : Nat) (s L : Ld), i ≤ H → i < k → LR L (s 1) → okL L → (H : Int) = L 0 0 → s 0 27 = (o : Int) → ∃ u L1 : Ld, lp (beh n m) k (rhF w S i, (i : Int) - 1) (wi μ (wm I m s)) = lp (ber m) n (w, (o : Int) - 1) (wi μ (wm I m u)) ∧ (∀ k : Nat, k ≠ 1 → u k = s k) ∧ (∀ j : Nat, 220 ≤ j → u 1 j = s 1 j) ∧ LR L1 (u 1) ∧ okL L1 ∧ fxL L L1 ∧ L1 8 = L 8 ∧ L1 12 = L 12 ∧ L1 5 = L 5 ∧ L1 6 = L 6 ∧ (∀ j : Nat, j < i → L1 3 j = S j) ∧ (∀ j : Nat, ¬ j < i → L1 3 j = L 3 j)
  | i, 0, s, L, h1, h2, hl, hk, hH, ho => absurd h2 (by omega)
  | 0, k + 1, s, L, h1, h2, hl, hk, hH, ho => by
    refine ⟨s, L, ?_, fun _ _ => rfl, fun _ _ => rfl, hl, hk, fxL.rf, rfl, rfl, rfl, rfl, fun j hj => absurd hj (by omega), fun _ _ => rfl⟩
    show beh n m (lp (beh n m) k) (w, ((0 : Nat) : Int) - 1) (wi μ (wm I m s)) = _
    unfold beh
    dsimp only
    rw [i_lt_t (by omega), bM_gI hM, ho]
  | i + 1, k + 1, s, L, h1, h2, hl, hk, hH, ho => by
    have k0 := hk.1
    have d := hr.2.2.1 i
    have rn := rh_lt hr hw (show i + 1 ≤ 4 by omega)
    have ri := rh_lt hr hw (show i ≤ 4 by omega)
    have ev : rhF w S (i + 1) = 128 * rhF w S i + S i := rfl
    have l1 := hl.stk hk (q := i) (by omega) (S i)
    have K1 := hk.u3 (i := i) d
    have fx : fxL L (up2 L 3 i (S i)) := fx_u (by omega)
    have s1 : up2 s 1 (26 + i) (S i) 1 = upA (s 1) (26 + i) (S i) := up2_r
    rw [← s1] at l1
    obtain ⟨u, L1, e, g1, g2, g3, g4, g5, g6, g7, g8, g9, g10, g11⟩ := beh_l hM hr hH4 hw i k (up2 s 1 (26 + i) (S i)) (up2 L 3 i (S i)) (by omega) (by omega) l1 K1 (by rw [up2_n (by omega)]; exact hH) (by rw [up2_row (by decide)]; exact ho)
    refine ⟨u, L1, ?_, fun k hk => (g1 k hk).trans (up2_row hk), fun j hj => (g2 j hj).trans (up2_n (by omega)), g3, g4, fx.tr g5, g6.trans (up2_row (by decide)), g7.trans (up2_row (by decide)), g8.trans (up2_row (by decide)), g9.trans (up2_row (by decide)), fun j hj => ?_, fun j hj => ?_⟩
    · generalize hB : lp (beh n m) k = self at e
      show beh n m (lp (beh n m) k) (rhF w S (i + 1), ((i + 1 : Nat) : Int) - 1) (wi μ (wm I m s)) = _
      rw [hB]
      unfold beh
      dsimp only
      have c1 : lRem (rhF w S (i + 1)) 128 = S i := by
        rw [lRem_of (by omega) (by omega) (by omega) (by omega)]
        omega
      have c2 : lDiv (rhF w S (i + 1)) 128 = rhF w S i := by
        rw [lDiv_of (by omega) (by omega) (by omega) (by omega)]
        omega
      rw [c1, c2, show ((i + 1 : Nat) : Int) - 1 = (i : Int) by omega, i_lt_f (by omega), bM_g1 hM, bM_st1 hM (by omega) (by omega), show (26 + (i : Int)).toNat = 26 + i by omega]
      exact e
    · by_cases c : j = i
      · rw [c, g11 i (by omega), up2_s]
      · exact g10 j (by omega)
    · rw [g11 j (by omega), up2_n (by omega)]
theorem becomes_eq (hM : isM μ m) (hr : rgF D F S g) (hH4 : H ≤ 4) {s L : Ld} (hl : LR L (s 1)) (hk : okL L) (hH : (H : Int) = L 0 0) (ho : hngM s o ro L) (hd : ∀ j : Nat, j < o → D j ≤ L 7 (ro j)) {h : Nat} (hh : h < H) {b : Int} (hn : 20000 ≤ n) : ∃ u L1 : Ld, mX11_becomes n m (cdM o H D F S g) (h : Int) b (wi μ (wm I m s)) = some ((), wi μ (wm I m u)) ∧ (∀ k : Nat, k ≠ 1 → u k = s k) ∧ (∀ j : Nat, 220 ≤ j → u 1 j = s 1 j) ∧ LR L1 (u 1) ∧ okL L1 ∧ fxL L L1 ∧ L1 5 h + L1 6 h = b + g ∧ (∀ j : Nat, j < o → L1 8 (ro j) = D j ∧ L1 12 (2 * ro j) = F (2 * j) ∧ L1 12 (2 * ro j + 1) = F (2 * j + 1)) ∧ ∀ j : Nat, j < H → L1 3 j = S j := by
  have k0 := hk.1
  have o3 := ho.2.1
  have hg := hr.2.2.2
  have hw := rp_lt hr o3
  have rn := rh_lt hr hw hH4
  have ev : cdM o H D F S g = 4 * rhF (rpF' D F o) S H + g := rfl
  have l1 := hl.qn hk (q := h) (by omega) (b + g - L 6 h)
  rw [show b + g - L 6 h + L 6 h = b + g by omega] at l1
  have K1 : okL (up2 L 5 h (b + g - L 6 h)) := hk.u5
  have s1 : up2 s 1 (46 + h) (b + g) 1 = upA (s 1) (46 + h) (b + g) := up2_r
  rw [← s1] at l1
  have fx : fxL L (up2 L 5 h (b + g - L 6 h)) := fx_u (by omega)
  obtain ⟨u, L1, e, g1, g2, g3, g4, g5, g6, g7, g8, g9, g10, -⟩ := beh_l (n := n) (o := o) (I := I) hM hr hH4 hw H n (up2 s 1 (46 + h) (b + g)) _ (Nat.le_refl _) (by omega) l1 K1 (by rw [up2_n (by omega)]; exact hH) (by rw [up2_row (by decide)]; exact ho.1)
  have fx1 := fx.tr g5
  have ho1 : hngM u o ro L1 := ⟨by rw [g1 0 (by decide), up2_row (by decide)]; exact ho.1, o3, fun k hk => by rw [g1 10 (by decide), up2_row (by decide), fx1.1 1 (by decide)]; exact ho.2.2.1 k hk, ho.2.2.2⟩
  obtain ⟨u', L2, e', p1, p2, p3, p4, p5, p6, p7, p8, p9, -⟩ := ber_l (I := I) hM hr o n u L1 (Nat.le_refl _) (by omega) g3 g4 ho1 (fun j hj => by rw [fx1.2.2.2.2.1]; exact hd j hj)
  refine ⟨u', L2, ?_, fun k hk => (p1 k hk).trans ((g1 k hk).trans (up2_row hk)), fun j hj => (p2 j hj).trans ((g2 j hj).trans (up2_n (by omega))), p3, p4, fx1.tr p5, ?_, p9, fun j hj => by rw [p6]; exact g10 j hj⟩
  · have c1 : lRem (cdM o H D F S g) 4 = g := by
      rw [lRem_of (by omega) (by omega) (by omega) (by omega)]
      omega
    have c2 : lDiv (cdM o H D F S g) 4 = rhF (rpF' D F o) S H := by
      rw [lDiv_of (by omega) (by omega) (by omega) (by omega)]
      omega
    have q0 : up2 s 1 (46 + h) (b + g) 1 0 = (H : Int) := by rw [up2_n (by omega), hH]; exact hl.1.1
    rw [becomes_s, c1, c2, bM_g1 hM, bM_st1 hM (by omega) (by omega), show (46 + (h : Int)).toNat = 46 + h by omega, bM_g1 hM, bM_ld1 hM (by decide) (by decide), show up2 s 1 (46 + h) (b + g) 1 (0 : Int).toNat = (H : Int) from q0, e]
    exact e'
  · rw [p7, p8, g8, g9, up2_s, up2_row (by decide)]
    omega
end BF
