/-! the reference's own hour -/
theorem LR.b {l : Ld} {A : Nat → Int} (h : LR l A) {b : Nat} (hb : (b : Int) < 2 * l 0 1) : A (76 + 16 * (b % 2) + b / 2) = l 10 b ∧ A (140 + 16 * (b % 2) + b / 2) = l 11 b ∧ A (172 + 16 * (b % 2) + b / 2) = l 12 b ∧ A (204 + b / 2) = l 9 (b / 2) ∧ A (124 + b / 2) = l 8 (b / 2) ∧ A (108 + b / 2) = l 7 (b / 2) := by
  obtain ⟨e1, e2, e3, e4, e5, e6, e7, e8, e9⟩ := h.2.2 (b / 2) (by omega)
  rcases Nat.mod_two_eq_zero_or_one b with c | c
  · have : 2 * (b / 2) = b := by omega
    rw [c]
    rw [this] at e1 e5 e7
    exact ⟨e1, e5, e7, e9, e4, e3⟩
  · have : 2 * (b / 2) + 1 = b := by omega
    rw [c]
    rw [this] at e2 e6 e8
    exact ⟨e2, e6, e8, e9, e4, e3⟩
section ML
variable {μ : Mem} {I : Nat → Nat → Int} {m n : Nat} {s l : Ld}
theorem tc (c : Nat) (r : Nat) : ((c : Int) + (r : Int)).toNat = c + r := by omega
theorem t204 (r : Nat) : (204 + (r : Int)).toNat = 204 + r := by omega
theorem t124 (r : Nat) : (124 + (r : Int)).toNat = 124 + r := by omega
theorem t108 (r : Nat) : (108 + (r : Int)).toNat = 108 + r := by omega
theorem t76 (r : Nat) : (76 + (r : Int)).toNat = 76 + r := by omega
theorem t92 (r : Nat) : (92 + (r : Int)).toNat = 92 + r := by omega
theorem tw140 (r w : Nat) : ((140 + (16 * (w : Int))) + (r : Int)).toNat = 140 + 16 * w + r := by omega
theorem tw172 (r w : Nat) : ((172 + (16 * (w : Int))) + (r : Int)).toNat = 172 + 16 * w + r := by omega
theorem tw76 (r w : Nat) : ((76 + (16 * (w : Int))) + (r : Int)).toNat = 76 + 16 * w + r := by omega
theorem isHouse_eq (h : isM μ m) (hl : LR l (s 1)) (hk : okL l) {b : Int} (hb : -9223372036854775808 ≤ b ∧ b < 9223372036854775808) : mX11_isHouse n m b (wi μ (wm I m s)) = some (bi (0 ≤ b ∧ b < l 0 0), wi μ (wm I m s)) := by
  have hz := hk.1
  have e0 := hl.1.1
  have e0' : s 1 (0 : Int).toNat = l 0 0 := e0
  unfold mX11_isHouse
  simp (disch := omega) only [M_g1 h, M_ld1 h, Option.bind_some, wm_at, e0', oI2l_of, within_eq]
  rw [retZ_bi]
  by_cases c : 0 ≤ b ∧ b < l 0 0
  · rw [bi_t c, bi_t (by omega)]
  · rw [bi_f c, bi_f (by omega)]
theorem isRope_eq (h : isM μ m) (hl : LR l (s 1)) (hk : okL l) {b : Int} (hb : -9223372036854775808 ≤ b ∧ b < 9223372036854775808) : mX11_isRope n m b (wi μ (wm I m s)) = some (bi (0 ≤ b ∧ b < l 0 1), wi μ (wm I m s)) := by
  have hz := hk.1
  have e0 : s 1 (1 : Int).toNat = l 0 1 := hl.1.2.1
  unfold mX11_isRope
  simp (disch := omega) only [M_g1 h, M_ld1 h, Option.bind_some, wm_at, e0, oI2l_of, within_eq]
  rw [retZ_bi]
  by_cases c : 0 ≤ b ∧ b < l 0 1
  · rw [bi_t c, bi_t (by omega)]
  · rw [bi_f c, bi_f (by omega)]
theorem isEnd_eq (h : isM μ m) (hl : LR l (s 1)) (hk : okL l) {b : Int} (hb : -2147483648 ≤ b ∧ b < 2147483648) {r : Nat} (hr : (r : Int) < l 0 1) : mX11_isEnd n m b (r : Int) (wi μ (wm I m s)) = some (bi (l 10 (2 * r) = b ∨ l 10 (2 * r + 1) = b), wi μ (wm I m s)) := by
  have hz := hk.1
  obtain ⟨e1, e2, -⟩ := hl.2.2 r hr
  have g1 := hk.2.2.2 (2 * r) (by omega)
  have g2 := hk.2.2.2 (2 * r + 1) (by omega)
  unfold mX11_isEnd
  simp (disch := omega) only [M_g1 h, M_ld1 h, Option.bind_some, wm_at, t76, t92, e1, e2, eq32_iff]
  by_cases c1 : l 10 (2 * r) = b
  · rw [if_pos c1, bi_t (Or.inl c1)]; rfl
  · rw [if_neg c1]
    by_cases c2 : l 10 (2 * r + 1) = b
    · rw [if_pos c2, bi_t (Or.inr c2)]; rfl
    · rw [if_neg c2, bi_f (fun z => z.elim c1 c2)]; rfl
theorem mhangs_eq (h : isM μ m) (hl : LR l (s 1)) (hk : okL l) {r : Nat} (hr : (r : Int) < l 0 1) : mX11_hangs n m (r : Int) (wi μ (wm I m s)) = some (bi (l 9 r = 0), wi μ (wm I m s)) := by
  have hz := hk.1
  obtain ⟨-, -, -, -, -, -, -, -, e9⟩ := hl.2.2 r hr
  have g1 := hk.2.2.1 r hr
  unfold mX11_hangs
  simp (disch := omega) only [M_g1 h, M_ld1 h, Option.bind_some, wm_at, t204, e9, eq32_iff]
  by_cases c1 : l 9 r = 0
  · rw [if_pos c1, bi_t c1]; rfl
  · rw [if_neg c1, bi_f c1]; rfl
theorem mweight_eq (h : isM μ m) (hl : LR l (s 1)) (hk : okL l) {r w : Nat} (hr : (r : Int) < l 0 1) (hw : w < 2) : mX11_weight n m (r : Int) (w : Int) (wi μ (wm I m s)) = some (wtL l (2 * r + w), wi μ (wm I m s)) := by
  have hz := hk.1
  obtain ⟨-, e2, e3, -⟩ := hl.b (b := 2 * r + w) (by omega)
  rw [show (2 * r + w) % 2 = w by omega, show (2 * r + w) / 2 = r by omega] at e2 e3
  have g1 := hk.2.2.2 (2 * r + w) (by omega)
  have e4 : s 1 (3 : Int).toNat = l 0 3 := hl.1.2.2.1
  unfold mX11_weight wtL
  simp (disch := omega) only [M_g1 h, M_ld1 h, Option.bind_some, wm_at, tw140, tw172, e2, e3, eq32_iff, e4]
  by_cases c : l 12 (2 * r + w) = 1
  · rw [if_pos c, if_neg (by omega)]
  · rw [if_neg c, if_pos (by omega)]
theorem mdepth_eq (h : isM μ m) (hl : LR l (s 1)) (hk : okL l) {r w : Nat} (hr : (r : Int) < l 0 1) (hw : w < 2) : mX11_depth n m (r : Int) (w : Int) (wi μ (wm I m s)) = some (dpL l (2 * r + w), wi μ (wm I m s)) := by
  have hz := hk.1
  obtain ⟨-, -, e3, e4, -⟩ := hl.2.2 r hr
  unfold mX11_depth dpL
  simp (disch := omega) only [M_g1 h, M_ld1 h, Option.bind_some, wm_at, t124, t108, e3, e4, eq32_iff]
  rw [show (2 * r + w) % 2 = w by omega, show (2 * r + w) / 2 = r by omega]
  by_cases c : w = 0
  · rw [if_pos (by omega), if_pos c]
  · rw [if_neg (by omega), if_neg c]
/-- the strength of a house that pulls -/
theorem strengthOn_eq (h : isM μ m) (hl : LR l (s 1)) (hk : okL l) (hp : ∀ k : Nat, k < 10 → -2147483648 ≤ s 5 k ∧ s 5 k < 2147483648) {r w : Nat} (hr : (r : Int) < l 0 1) (hw : w < 2) : mX11_strengthOn n m (r : Int) (w : Int) (wi μ (wm I m s)) = some (if s 5 (l 10 (2 * r + w)).toNat = r then l 1 (l 10 (2 * r + w)).toNat else 0, wi μ (wm I m s)) := by
  have hz := hk.1
  obtain ⟨e1, -⟩ := hl.b (b := 2 * r + w) (by omega)
  rw [show (2 * r + w) % 2 = w by omega, show (2 * r + w) / 2 = r by omega] at e1
  have g1 := hk.2.2.2 (2 * r + w) (by omega)
  obtain ⟨e2, -⟩ := hl.2.1 (l 10 (2 * r + w)).toNat (by omega)
  have g2 := hp (l 10 (2 * r + w)).toNat (by omega)
  have e3 : (6 + l 10 (2 * r + w)).toNat = 6 + (l 10 (2 * r + w)).toNat := by omega
  unfold mX11_strengthOn
  simp (disch := omega) only [M_g1 h, M_ld1 h, Option.bind_some, wm_at, tw76, e1, M_g15 h, M_ld5 h, eq32_iff, e3, e2]
  split <;> rfl
theorem depthThen_eq (h : isM μ m) (hl : LR l (s 1)) (hk : okL l) (hp : ∀ k : Nat, k < 10 → -2147483648 ≤ s 5 k ∧ s 5 k < 2147483648) {r : Nat} (hr : (r : Int) < l 0 1) : mX11_depthThen n m (r : Int) (wi μ (wm I m s)) = some (mvS (s 5) r l 8 r, wi μ (wm I m s)) := by
  have hz := hk.1
  obtain ⟨-, -, e3, e4, -⟩ := hl.2.2 r hr
  have e5 : s 1 (4 : Int).toNat = l 0 4 := hl.1.2.2.2.1
  have g := hk.2.2.1 r hr
  have w0 := wt_range hk (b := 2 * r + 0) (by omega)
  have w1 := wt_range hk (b := 2 * r + 1) (by omega)
  have p0 := mweight_eq (n := n) (I := I) h hl hk hr (w := 0) (by omega)
  have p1 := mweight_eq (n := n) (I := I) h hl hk hr (w := 1) (by omega)
  have q0 := strengthOn_eq (n := n) (I := I) h hl hk hp hr (w := 0) (by omega)
  have q1 := strengthOn_eq (n := n) (I := I) h hl hk hp hr (w := 1) (by omega)
  rw [show ((0 : Nat) : Int) = 0 from rfl] at p0 q0
  rw [show ((1 : Nat) : Int) = 1 from rfl] at p1 q1
  have epl : plL l r (bi (s 5 (l 10 (2 * r)).toNat = r)) (bi (s 5 (l 10 (2 * r + 1)).toNat = r)) = (if s 5 (l 10 (2 * r + 1)).toNat = r then l 1 (l 10 (2 * r + 1)).toNat else 0) - (if s 5 (l 10 (2 * r + 0)).toNat = r then l 1 (l 10 (2 * r + 0)).toNat else 0) := by
    unfold plL bi
    split <;> split <;> simp_all
  have hpr := pl_range hk hr (bi (s 5 (l 10 (2 * r)).toNat = r)) (bi (s 5 (l 10 (2 * r + 1)).toNat = r))
  have s0 : 0 ≤ (if s 5 (l 10 (2 * r + 0)).toNat = r then l 1 (l 10 (2 * r + 0)).toNat else 0) ∧ (if s 5 (l 10 (2 * r + 0)).toNat = r then l 1 (l 10 (2 * r + 0)).toNat else 0) ≤ 20 := by
    have k1 := hk.2.2.2 (2 * r + 0) (by omega)
    have k2 := hk.2.1 (l 10 (2 * r + 0)).toNat (by omega)
    split <;> omega
  have s1 : 0 ≤ (if s 5 (l 10 (2 * r + 1)).toNat = r then l 1 (l 10 (2 * r + 1)).toNat else 0) ∧ (if s 5 (l 10 (2 * r + 1)).toNat = r then l 1 (l 10 (2 * r + 1)).toNat else 0) ≤ 20 := by
    have k1 := hk.2.2.2 (2 * r + 1) (by omega)
    have k2 := hk.2.1 (l 10 (2 * r + 1)).toNat (by omega)
    split <;> omega
  unfold mX11_depthThen mvS dbL
  rw [epl]
  generalize (if s 5 (l 10 (2 * r + 0)).toNat = r then l 1 (l 10 (2 * r + 0)).toNat else 0) = S0 at *
  generalize (if s 5 (l 10 (2 * r + 1)).toNat = r then l 1 (l 10 (2 * r + 1)).toNat else 0) = S1 at *
  rw [show 2 * r + 0 = 2 * r from rfl] at p0 w0
  generalize wtL l (2 * r) = W0 at *
  generalize wtL l (2 * r + 1) = W1 at *
  simp only [M_inv h, p0, p1, q0, q1, mhangs_eq h hl hk hr, Option.bind_some, eq32_bi, jn, M_g1 h]
  have a4 : ldI (wi μ (wm I m s)) 0 (m + 1) 4 = some (l 0 4) := by rw [M_ld1 h (by omega) (by omega), wm_at (by omega), e5]
  have a8 : ldI (wi μ (wm I m s)) 0 (m + 1) (124 + (r : Int)) = some (l 8 r) := by rw [M_ld1 h (by omega) (by omega), wm_at (by omega), t124, e4]
  have a7 : ldI (wi μ (wm I m s)) 0 (m + 1) (108 + (r : Int)) = some (l 7 r) := by rw [M_ld1 h (by omega) (by omega), wm_at (by omega), t108, e3]
  simp only [a4, a7, a8, Option.bind_some]
  clear p0 p1 q0 q1 a4 a7 a8 epl
  simp (disch := omega) only [eq32_iff, lt32_iff]
  by_cases c1 : l 9 r = 0
  · rw [if_neg (not_not_intro c1), if_pos c1, up2_s]
    unfold dfL
    by_cases c2 : W0 + S1 - (W1 + S0) = 0
    · rw [if_pos c2, if_neg (by omega), if_neg (by omega)]
    · rw [if_neg c2]
      by_cases c3 : W0 + S1 - (W1 + S0) < l 0 4
      · rw [if_pos c3]
        by_cases c4 : -(W0 + S1 - (W1 + S0)) < l 0 4
        · rw [if_pos c4]
          rw [if_pos (show max (W0 - W1 + (S1 - S0)) (-(W0 - W1 + (S1 - S0))) < l 0 4 by omega)]
          by_cases c5 : 0 < W0 + S1 - (W1 + S0)
          · rw [if_pos c5, if_pos (show 0 < W0 - W1 + (S1 - S0) by omega), if_neg (by omega)]
            by_cases c6 : l 7 r < l 8 r + 1
            · rw [if_pos c6]
              congr 2
              omega
            · rw [if_neg c6]
              congr 2
              omega
          · rw [if_neg c5, if_neg (show ¬ 0 < W0 - W1 + (S1 - S0) by omega), if_pos (show W0 - W1 + (S1 - S0) < 0 by omega)]
            by_cases c6 : l 8 r + -1 < 0
            · rw [if_pos c6]
              congr 2
              omega
            · rw [if_neg c6, if_neg (by omega)]
              congr 2
              omega
        · rw [if_neg c4, if_neg (show ¬ 0 < W0 - W1 + (S1 - S0) by omega), if_pos (show W0 - W1 + (S1 - S0) < 0 by omega), if_neg (show ¬ max (W0 - W1 + (S1 - S0)) (-(W0 - W1 + (S1 - S0))) < l 0 4 by omega)]
          congr 2
          omega
      · rw [if_neg c3, if_pos (show 0 < W0 - W1 + (S1 - S0) by omega), if_neg (show ¬ max (W0 - W1 + (S1 - S0)) (-(W0 - W1 + (S1 - S0))) < l 0 4 by omega)]
        congr 2
        omega
  · rw [if_pos c1, if_neg c1]
end ML
