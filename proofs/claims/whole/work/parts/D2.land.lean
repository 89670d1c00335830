/-! land, of both -/
theorem TL.rl {l : Ld} {A : Nat → Int} (h : TL l A) : RLl l A := by
  obtain ⟨hk, hl, ⟨z2, y2⟩, zq, zA, zB⟩ := h
  refine ⟨hk, hl, ⟨by rw [y2, z2], fun x hx => ?_⟩, by rw [z2]; decide, by rw [z2]; decide, fun x hx => by rw [(zq x hx).1, (zq x hx).2, z2]; decide⟩
  have := hk.1
  rw [(zq x hx).1, (zq x hx).2]
  exact ⟨zA _ (by omega) (by omega), zA _ (by omega) (by omega)⟩
theorem wi_inj {μ : Mem} {J K : Nat → Nat → Int} (h : wi μ J = wi μ K) : J = K := congrArg (fun x : Mem => x.2.1) h
section LD
variable {μ : Mem} {I J : Nat → Nat → Int} {c t a m n z q p : Nat} {P : Nat → Int} {F G : Fp} {s : Ld}
theorem begin_w (hL : isL μ a) : ∃ K : Nat → Nat → Int, mX1_begin n a (wi μ J) = some ((), wi μ K) ∧ (∀ b : Nat, b ≠ a → K b = J b) ∧ K a 0 = 0 ∧ K a 1 = 0 ∧ K a 2 = 0 ∧ K a 3 = 5 ∧ K a 4 = 8 ∧ K a 5 = 0 := by
  unfold mX1_begin
  rw [bL_pI hL, bL_pI hL, bL_pI hL, bL_pI hL, bL_pI hL, bL_pI hL]
  refine ⟨_, rfl, fun b hb => ?_, ?_, ?_, ?_, ?_, ?_, ?_⟩
  · rw [up2_row hb, up2_row hb, up2_row hb, up2_row hb, up2_row hb, up2_row hb]
  · rw [up2_n (by omega), up2_n (by omega), up2_n (by omega), up2_n (by omega), up2_n (by omega), up2_s]
  · rw [up2_n (by omega), up2_n (by omega), up2_n (by omega), up2_n (by omega), up2_s]
  · rw [up2_n (by omega), up2_n (by omega), up2_n (by omega), up2_s]
  · rw [up2_n (by omega), up2_n (by omega), up2_s]
  · rw [up2_n (by omega), up2_s]
  · rw [up2_s]
def plB (b1 : Nat) : (Int → Mem → Option (Unit × Mem)) → Int → Mem → Option (Unit × Mem) := fun nx2 (v2 : Int) (μ2 : Mem) => if lt32 v2 220 then (stI μ2 0 b1 v2 0).bind fun μ12 => nx2 (v2 + 1) μ12 else (stI μ2 0 b1 3 5).bind fun μ22 => (stI μ22 0 b1 4 8).bind fun μ27 => some ((), μ27)
theorem plain_l (hM : isM μ m) : ∀ (d k i : Nat) (s : Ld), i + d = 220 → d < k → (∀ j : Nat, j < i → s 4 j = 0) → ∃ u : Ld, lp (plB (m + 4)) k (i : Int) (wi μ (wm I m s)) = some ((), wi μ (wm I m u)) ∧ (∀ k : Nat, k ≠ 4 → u k = s k) ∧ u 4 3 = 5 ∧ u 4 4 = 8 ∧ ∀ j : Nat, j < 220 → j ≠ 3 → j ≠ 4 → u 4 j = 0
  | d, 0, i, s, h1, h2, h3 => absurd h2 (by omega)
  | 0, k + 1, i, s, h1, h2, h3 => by
    show ∃ u : Ld, plB (m + 4) (lp (plB (m + 4)) k) (i : Int) (wi μ (wm I m s)) = some ((), wi μ (wm I m u)) ∧ _
    unfold plB
    rw [i_lt_f (by omega), bM_st4 hM (by decide) (by decide), bM_st4 hM (by decide) (by decide), show (3 : Int).toNat = 3 from rfl, show (4 : Int).toNat = 4 from rfl]
    refine ⟨_, rfl, fun k hk => ?_, ?_, ?_, fun j j1 j2 j3 => ?_⟩
    · rw [up2_row hk, up2_row hk]
    · rw [up2_n (by omega), up2_s]
    · rw [up2_s]
    · rw [up2_n (by omega), up2_n (by omega)]; exact h3 j (by omega)
  | d + 1, k + 1, i, s, h1, h2, h3 => by
    obtain ⟨u, e, f1, f2, f3, f4⟩ := plain_l hM d k (i + 1) (up2 s 4 i 0) (by omega) (by omega) (fun j hj => by
      by_cases c : j = i
      · rw [c, up2_s]
      · rw [up2_n (by omega)]; exact h3 j (by omega))
    refine ⟨u, ?_, fun k hk => by rw [f1 k hk, up2_row hk], f2, f3, f4⟩
    have e' : lp (plB (m + 4)) k ((i : Int) + 1) (wi μ (wm I m (up2 s 4 i 0))) = some ((), wi μ (wm I m u)) := e
    generalize hB : lp (plB (m + 4)) k = self at e'
    show plB (m + 4) (lp (plB (m + 4)) k) (i : Int) (wi μ (wm I m s)) = _
    rw [hB]
    unfold plB
    rw [i_lt_t (by omega), bM_st4 hM (by omega) (by omega), Int.toNat_natCast]
    exact e'
def cpB (m : Nat) : (Int → Mem → Option (Int × Mem)) → Int → Mem → Option (Int × Mem) := fun nx225 (v225 : Int) (μ225 : Mem) => if lt32 v225 220 then (gA μ225 12 m 1).bind fun x233 => (gA μ225 12 m 4).bind fun x238 => (ldI μ225 0 x238 v225).bind fun x242 => (stI μ225 0 x233 v225 x242).bind fun μ243 => nx225 (v225 + 1) μ243 else (gA μ225 12 m 1).bind fun x251 => (ldI μ225 0 x251 5).bind fun x255 => some (x255, μ225)
theorem copy_l (hM : isM μ m) : ∀ (d k i : Nat) (s : Ld), i + d = 220 → d < k → (∀ j : Nat, j < i → s 1 j = s 4 j) → ∃ u : Ld, lp (cpB m) k (i : Int) (wi μ (wm I m s)) = some (s 4 5, wi μ (wm I m u)) ∧ (∀ k : Nat, k ≠ 1 → u k = s k) ∧ (∀ j : Nat, j < 220 → u 1 j = s 4 j) ∧ ∀ j : Nat, 220 ≤ j → u 1 j = s 1 j
  | d, 0, i, s, h1, h2, h3 => absurd h2 (by omega)
  | 0, k + 1, i, s, h1, h2, h3 => by
    show ∃ u : Ld, cpB m (lp (cpB m) k) (i : Int) (wi μ (wm I m s)) = some (s 4 5, wi μ (wm I m u)) ∧ _
    unfold cpB
    rw [i_lt_f (by omega), bM_g1 hM, bM_ld1 hM (by decide) (by decide), show s 1 (5 : Int).toNat = s 4 5 from h3 5 (by omega)]
    exact ⟨s, rfl, fun _ _ => rfl, fun j hj => h3 j (by omega), fun _ _ => rfl⟩
  | d + 1, k + 1, i, s, h1, h2, h3 => by
    obtain ⟨u, e, f1, f2, f3⟩ := copy_l hM d k (i + 1) (up2 s 1 i (s 4 i)) (by omega) (by omega) (fun j hj => by
      rw [up2_row (k := i) (b := 4) (by decide)]
      by_cases c : j = i
      · rw [c, up2_s]
      · rw [up2_n (by omega)]; exact h3 j (by omega))
    rw [up2_row (show (4 : Nat) ≠ 1 by decide)] at e f2
    refine ⟨u, ?_, fun k hk => by rw [f1 k hk, up2_row hk], f2, fun j hj => by rw [f3 j hj, up2_n (by omega)]⟩
    have e' : lp (cpB m) k ((i : Int) + 1) (wi μ (wm I m (up2 s 1 i (s 4 i)))) = some (s 4 5, wi μ (wm I m u)) := e
    generalize hB : lp (cpB m) k = self at e'
    show cpB m (lp (cpB m) k) (i : Int) (wi μ (wm I m s)) = _
    rw [hB]
    unfold cpB
    rw [i_lt_t (by omega), bM_g1 hM, bM_g4 hM, bM_ld4 hM (by omega) (by omega), bM_st1 hM (by omega) (by omega), Int.toNat_natCast]
    exact e'
theorem end_w (hM : isM μ m) (hR : RS s z P q G) (hn : 20000 ≤ n) : ∃ u : Ld, endM n m (wi μ (wm I m s)) = some (if G.1 = 0 then s 4 5 else -30 - G.1, wi μ (wm I m u)) ∧ (∀ k : Nat, k ≠ 0 → k ≠ 1 → u k = s k) ∧ (∀ j : Nat, j ≠ 13 → j ≠ 14 → u 0 j = s 0 j) ∧ u 0 13 = G.1 ∧ u 0 14 = (if G.1 = 0 then -1 else G.2) ∧ (∀ j : Nat, 220 ≤ j → u 1 j = s 1 j) ∧ ∀ j : Nat, j < 220 → u 1 j = if G.1 = 0 then s 4 j else s 1 j := by
  obtain ⟨-, -, -, h1, h2, h3, h4⟩ := hR
  unfold endM
  have g11 : up2 s 0 13 G.1 0 11 = G.1 := by rw [up2_n (by omega)]; exact h1
  rw [bM_gI hM, h1, bM_pI hM, bM_gI hM, g11]
  by_cases c : G.1 = 0
  · rw [i_eq_t c]
    unfold endM2
    have g11' : up2 (up2 s 0 13 G.1) 0 14 (-1) 0 11 = 0 := by rw [up2_n (by omega)]; exact g11.trans c
    rw [bM_pI hM, bM_gI hM, g11', i_eq_t rfl]
    obtain ⟨u, e, f1, f2, f3⟩ := copy_l (I := I) hM 220 n 0 (up2 (up2 s 0 13 G.1) 0 14 (-1)) (by omega) (by omega) (fun j hj => absurd hj (by omega))
    have r4 : up2 (up2 s 0 13 G.1) 0 14 (-1) 4 = s 4 := by rw [up2_row (by decide), up2_row (by decide)]
    rw [r4] at e f2
    refine ⟨u, ?_, fun k k0 k1 => ?_, fun j j1 j2 => ?_, ?_, ?_, fun j hj => ?_, fun j hj => ?_⟩
    · rw [if_pos c]
      exact e
    · rw [f1 k k1, up2_row k0, up2_row k0]
    · rw [f1 0 (by decide), up2_n (by omega), up2_n (by omega)]
    · rw [f1 0 (by decide), up2_n (by omega), up2_s]
    · rw [f1 0 (by decide), up2_s, if_pos c]
    · rw [f3 j hj, up2_row (by decide), up2_row (by decide)]
    · rw [f2 j hj, if_pos c]
  · have g12 : up2 s 0 13 G.1 0 12 = G.2 := by rw [up2_n (by omega)]; exact h2 c
    rw [i_eq_f (by omega), bM_gI hM, g12]
    unfold endM2
    have g11' : up2 (up2 s 0 13 G.1) 0 14 G.2 0 11 = G.1 := by rw [up2_n (by omega)]; exact g11
    rw [bM_pI hM, bM_gI hM, g11', i_eq_f (by omega), bM_gI hM, g11', if_neg c, if_neg c]
    refine ⟨_, rfl, fun k k0 k1 => ?_, fun j j1 j2 => ?_, ?_, ?_, fun j hj => ?_, fun j hj => ?_⟩
    · rw [up2_row k0, up2_row k0]
    · rw [up2_n (by omega), up2_n (by omega)]
    · rw [up2_n (by omega), up2_s]
    · rw [up2_s]
    · rw [up2_row (by decide), up2_row (by decide)]
    · rw [up2_row (by decide), up2_row (by decide), if_neg c]
theorem text_j (hT : isTp μ t) (hL : isL μ a) (sep : t + 1 < a) (hca : c ≤ t) (hX : isX μ c J) (hM : isM μ m) (hXI : isX μ c I) (hcm : c ≤ m) {b : Int} (hb : b = (z : Int)) (h900 : z ≤ 900) (hP : ∀ i : Nat, i < 900 → -128 ≤ J (t + 1) i ∧ J (t + 1) i < 128) (h5 : b ≤ s 0 5 ∧ s 0 5 ≤ 900) (h3 : ∀ i : Nat, i < z → s 3 i = J (t + 1) i % 256) (hn : 20000 ≤ n) : ∃ (K : Nat → Nat → Int) (u : Ld) (q p : Nat) (F G : Fp), mX8_readText n t b a (wi μ J) = some ((), wi μ K) ∧ mX11_land n m b (wi μ (wm I m s)) = endM n m (wi μ (wm I m u)) ∧ (∀ b : Nat, b ≠ t → ¬ (a ≤ b ∧ b ≤ a + 12) → K b = J b) ∧ K t 0 = 0 ∧ (∀ k : Nat, k ≠ 0 → k ≠ 4 → u k = s k) ∧ u 0 5 = 0 ∧ JS K u t a z (J (t + 1)) q p F G := by
  -- the class begins
  generalize hJ5 : up2 (up2 (up2 (up2 (up2 J t 1 0) t 2 (-1)) t 4 b) t 0 0) t 7 0 = J5
  have j5o : ∀ b : Nat, b ≠ t → J5 b = J b := fun b hb => by rw [← hJ5, up2_row hb, up2_row hb, up2_row hb, up2_row hb, up2_row hb]
  obtain ⟨K0, e0, f0, a0, a1, a2, a3, a4, a5⟩ := begin_w (n := n) (J := J5) hL
  have k0t : K0 t = J5 t := f0 t (by omega)
  have k0p : K0 (t + 1) = J (t + 1) := (f0 _ (by omega)).trans (j5o _ (by omega))
  have t4 : K0 t 4 = (z : Int) := by rw [k0t, ← hJ5, up2_n (by omega), up2_n (by omega), up2_s, hb]
  have hO : tpO K0 t z (J (t + 1)) := ⟨t4, h900, k0p, hP⟩
  have t7 : K0 t 7 = ((0 : Nat) : Int) := by rw [k0t, ← hJ5, up2_s]; rfl
  obtain ⟨K1, e1, f1, k1⟩ := advance_eq (n := n) hT hO t7 (by omega) hn
  have cs : CS K1 t z (J (t + 1)) 0 (0, -1) := ⟨f1.o hO, k1, by omega, by rw [f1.2 1 (by decide) (by decide) (by decide) (by decide), k0t, ← hJ5, up2_n (by omega), up2_n (by omega), up2_n (by omega), up2_n (by omega), up2_s], by rw [f1.2 2 (by decide) (by decide) (by decide) (by decide), k0t, ← hJ5, up2_n (by omega), up2_n (by omega), up2_n (by omega), up2_s], by decide, by decide, fun _ => rfl⟩
  have kx : ∀ b : Nat, b ≠ t → b ≠ a → K1 b = J b := fun b h1 h2 => by rw [f1.1 b h1, f0 b h2, j5o b h1]
  have ka : K1 a = K0 a := f1.1 a (by omega)
  have x1 : isX μ c K1 := hX.cg (fun b hb => kx b (by omega) (by omega))
  -- the reference begins
  generalize hs5 : up2 (up2 (up2 (up2 (up2 s 0 0 0) 0 8 b) 0 5 0) 0 7 0) 0 11 0 = s5
  have s5o : ∀ k : Nat, k ≠ 0 → s5 k = s k := fun k hk => by rw [← hs5, up2_row hk, up2_row hk, up2_row hk, up2_row hk, up2_row hk]
  obtain ⟨u1, e2, g1, p3, p4, pz⟩ := plain_l (I := I) hM 220 n 0 s5 (by omega) (by omega) (fun j hj => absurd hj (by omega))
  have u10 : u1 0 = s5 0 := g1 0 (by decide)
  have rO : rpO u1 z (J (t + 1)) := ⟨by rw [u10, ← hs5, up2_n (by omega), up2_n (by omega), up2_n (by omega), up2_s, hb], h900, fun i hi => by rw [g1 3 (by decide), s5o 3 (by decide)]; exact h3 i hi⟩
  have r7 : u1 0 7 = ((0 : Nat) : Int) := by rw [u10, ← hs5, up2_n (by omega), up2_s]; rfl
  obtain ⟨u2, e3, g2, m2⟩ := next_eq (n := n) hM rO hXI hcm r7 (by omega) hn
  have rs : RS u2 z (J (t + 1)) 0 (0, -1) := ⟨g2.o rO, m2, by omega, by rw [g2.2 11 (by decide) (by decide) (by decide) (by decide), u10, ← hs5, up2_s], fun z => absurd rfl z, by decide, by decide⟩
  have u24 : u2 4 = u1 4 := g2.1 4 (by decide)
  have tl : TL (ld K1 a) (u2 4) := by
    rw [u24]
    have l0 : ∀ j : Nat, ld K1 a 0 j = K0 a j := fun j => congrFun ka j
    refine ⟨⟨by rw [l0, l0, l0, l0, a0, a1, a3, a4]; omega, fun x hx => ?_, fun x hx => ?_, fun x hx => ?_⟩, ⟨⟨?_, ?_, ?_, ?_, ?_⟩, fun x hx => ?_, fun x hx => ?_⟩, ⟨?_, ?_⟩, fun x hx => ?_, fun j j1 j2 => pz j (by omega) (by omega) (by omega), fun j j1 j2 => pz j (by omega) (by omega) (by omega)⟩
    · rw [l0, a0] at hx; omega
    · rw [l0, a1] at hx; omega
    · rw [l0, a1] at hx; omega
    · rw [l0, a0]; exact pz 0 (by omega) (by omega) (by omega)
    · rw [l0, a1]; exact pz 1 (by omega) (by omega) (by omega)
    · rw [l0, a3]; exact p3
    · rw [l0, a4]; exact p4
    · rw [l0, a5]; exact pz 5 (by omega) (by omega) (by omega)
    · rw [l0, a0] at hx; omega
    · rw [l0, a1] at hx; omega
    · rw [l0, a2]
    · exact pz 2 (by omega) (by omega) (by omega)
    · rw [l0, a0] at hx; omega
  have js : JS K1 u2 t a z (J (t + 1)) 0 0 (0, -1) (0, -1) := ⟨cs, rs, ⟨rfl, fun _ => rfl, fun _ => rfl⟩, fun _ => tl, by rw [ka, a0, a1]; decide⟩
  obtain ⟨K, u, q, p, F, G, l1, l2, l3, l4, l5⟩ := loop_j (n := n) hT hL sep hca hM hXI hcm hn 1000 n n K1 u2 0 0 (0, -1) (0, -1) 0 x1 js ⟨by omega, by omega, fun _ => by omega⟩ ⟨by omega, fun _ => by omega⟩ (by omega) (by omega)
  refine ⟨K, u, q, p, F, G, ?_, ?_, fun b b1 b2 => ?_, ?_, fun k k0 k4 => ?_, ?_, l5⟩
  · have em : mMin b 900 = b := i_lt_f (by omega)
    rw [readText_s, bP_pI hT, bP_pI hT, em, bP_pI hT, bP_pI hT, bP_pI hT, hJ5, bL_inv hL, bnd e0]
    dsimp only
    rw [bT_inv hT, bnd e1]
    exact l1
  · have e2' : mX11_plain n (m + 4) (wi μ (wm I m s5)) = some ((), wi μ (wm I m u1)) := e2
    have g5 : up2 s 0 0 0 0 5 = s 0 5 := up2_n (by omega)
    rw [land_s, bM_pI hM, bM_gI hM, g5, oI2l_of (x := s 0 5) (by omega) (by omega), within_w (by omega) (by omega) (by omega)]
    dsimp only
    rw [i_bi_t ⟨by omega, by omega⟩, bM_pI hM, bM_pI hM, bM_pI hM, bM_pI hM, hs5, bM_g4 hM, bnd e2']
    dsimp only
    rw [bM_inv hM, bnd e3]
    exact l2
  · rw [l3.1 b b1 b2, kx b b1 (by omega)]
  · rw [l3.2, f1.2 0 (by decide) (by decide) (by decide) (by decide), k0t, ← hJ5, up2_n (by omega), up2_s]
  · rw [l4.1 k k0 k4, g2.1 k k0, g1 k k4, s5o k k0]
  · rw [l4.2 5 (by decide) (by decide) (by decide) (by decide) (by decide) (by decide), g2.2 5 (by decide) (by decide) (by decide) (by decide), u10, ← hs5, up2_n (by omega), up2_n (by omega), up2_s]
end LD
