/-! a rope's line: class, reference -/
def chR (B : Nat → Int) (z q : Nat) (H : Int) (F : Fp) (q' : Nat) (F' : Fp) (v0 v1 v2 v3 v4 v5 : Int) : Prop := ∃ (F1 F2 F3 F4 F5 : Fp) (q1 q3 q4 q5 : Nat), outP F F1 q1 v0 (nB B z 0 (H - 1) q) ∧ outP F1 F2 q1 0 (rB B z v0 q1) ∧ outP F2 F3 q3 v1 (nB B z 0 (H - 1) q1) ∧ outP F3 F4 q4 0 (wB B z 5 q3) ∧ outP F4 F5 q5 v2 (nB B z 2 9 q4) ∧ (F5.1 ≠ 0 → F' = F5) ∧ (F5.1 = 0 → ∃ (F6 : Fp) (q6 : Nat), outP F5 F6 q6 v3 (oB B z 6 0 v2 0 q5) ∧ chS B z q6 F6 q' F' v4 v5)
theorem outP.v {B : Nat → Int} {z q q' : Nat} {lo hi v : Int} {F F' : Fp} (h : outP F F' q' v (nB B z lo hi q)) (hz : F'.1 = 0) : tK B z q = 11 ∧ v = tV B z q := by
  have c := h.nz hz
  have h2 := h.2 c
  by_cases r : (nB B z lo hi q).1.1 = 0
  · obtain ⟨e, ok⟩ := nB_nz r
    obtain ⟨-, e1, e2⟩ := h2.1 r
    rw [e] at e2
    exact ⟨ok.1, e2⟩
  · rw [h2.2 r] at hz
    exact absurd hz r
theorem outP.rb {B : Nat → Int} {z q q' : Nat} {v w : Int} {F F' : Fp} (h : outP F F' q' w (rB B z v q)) (hz : F'.1 = 0) : ¬ (tK B z q = 11 ∧ tV B z q = v) := fun y => by
  have c := h.nz hz
  have e : rB B z v q = ((3, ((tS B z q : Nat) : Int)), q, 0) := if_pos y
  have h2 := h.2 c
  rw [e] at h2
  have h3 := h2.2 (show (3 : Int) ≠ 0 by decide)
  rw [h3] at hz
  exact absurd hz (show (3 : Int) ≠ 0 by decide)
theorem outP.wb {B : Nat → Int} {z q q' k : Nat} {v : Int} {F F' : Fp} (h : outP F F' q' v (wB B z k q)) (hq : q ≤ z) (hz : F'.1 = 0) : q ≤ q' ∧ q' ≤ z := by
  have c := h.nz hz
  have h2 := h.2 c
  unfold wB at h2
  by_cases ck : tK B z q = k
  · rw [if_pos ck] at h2
    have h3 : q' = tE B z q := (h2.1 rfl).2.1
    have := tE_ge (B := B) hq
    omega
  · rw [if_neg ck] at h2
    have h3 := h2.2 (wgF_nz B z q)
    rw [h3] at hz
    exact absurd hz (wgF_nz B z q)
theorem chR.al {B : Nat → Int} {z q p q' p' : Nat} {H : Int} {F G F' G' : Fp} {v0 v1 v2 v3 v4 v5 w0 w1 w2 w3 w4 w5 : Int} (hA : alk F G q p) (h1 : chR B z q H F q' F' v0 v1 v2 v3 v4 v5) (h2 : chR B z p H G p' G' w0 w1 w2 w3 w4 w5) (hq : q ≤ z) : alk F' G' q' p' ∧ (F'.1 = 0 → (v0 = w0 ∧ v1 = w1 ∧ v2 = w2 ∧ v3 = w3 ∧ v4 = w4 ∧ v5 = w5) ∧ (0 ≤ v0 ∧ v0 < H ∧ 0 ≤ v1 ∧ v1 < H ∧ v0 ≠ v1 ∧ 2 ≤ v2 ∧ v2 ≤ 9 ∧ 0 ≤ v3 ∧ v3 ≤ v2 ∧ 0 ≤ v4 ∧ v4 ≤ 9 ∧ 0 ≤ v5 ∧ v5 ≤ 9) ∧ q ≤ q') := by
  obtain ⟨F1, F2, F3, F4, F5, q1, q3, q4, q5, a1, a2, a3, a4, a5, a6, a7⟩ := h1
  obtain ⟨G1, G2, G3, G4, G5, p1, p3, p4, p5, b1, b2, b3, b4, b5, b6, b7⟩ := h2
  have x1 := hA.out (fun z0 => by rw [hA.2.2 z0]) a1 b1
  have x2 := x1.1.out (fun z0 => by rw [x1.1.2.2 z0, x1.2 z0]) a2 b2
  have x3 := x2.1.out (fun z0 => by rw [x2.1.2.2 z0]) a3 b3
  have x4 := x3.1.out (fun z0 => by rw [x3.1.2.2 z0]) a4 b4
  have x5 := x4.1.out (fun z0 => by rw [x4.1.2.2 z0]) a5 b5
  by_cases c : F5.1 = 0
  · have cG : G5.1 = 0 := by rw [← x5.1.1]; exact c
    obtain ⟨F6, q6, a8, a9⟩ := a7 c
    obtain ⟨G6, p6, b8, b9⟩ := b7 cG
    have x6 := x5.1.out (fun z0 => by rw [x5.1.2.2 z0, x5.2 z0]) a8 b8
    have z4 := a5.nz c
    have z3 := a4.nz z4
    have z2 := a3.nz z3
    have z1 := a2.nz z2
    have y1 := a1.z hq z1
    have y3 := a3.z y1.2.2.1 z3
    have y4 := a4.wb y3.2.2.1 z4
    have y5 := a5.z y4.2 c
    have ne : v0 ≠ v1 := fun w => by
      have := a3.v z3
      exact a2.rb z2 ⟨this.1, by omega⟩
    by_cases c6 : F6.1 = 0
    · have y6 := a8.zo y5.2.2.1 (by omega) c6
      have x7 := a9.al x6.1 b9 y6.2.2.1
      refine ⟨x7.1, fun zz => ?_⟩
      obtain ⟨k1, k2, -, k4⟩ := x7.2 zz
      exact ⟨⟨x1.2 z1, x3.2 z3, x5.2 c, x6.2 c6, k1.1, k1.2⟩, ⟨y1.2.2.2.1, by omega, y3.2.2.2.1, by omega, ne, y5.2.2.2.1, y5.2.2.2.2, y6.2.2.2.1, y6.2.2.2.2, k2⟩, by omega⟩
    · have cG6 : G6.1 ≠ 0 := by rw [← x6.1.1]; exact c6
      rw [a9.1 c6, b9.1 cG6]
      exact ⟨⟨x6.1.1, x6.1.2.1, fun z => absurd z c6⟩, fun z => absurd z c6⟩
  · have cG : G5.1 ≠ 0 := by rw [← x5.1.1]; exact c
    rw [a6 c, b6 cG]
    exact ⟨⟨x5.1.1, x5.1.2.1, fun z => absurd z c⟩, fun z => absurd z c⟩
section RC
variable {μ : Mem} {I J : Nat → Nat → Int} {c t a m n z q r : Nat} {P : Nat → Int} {F : Fp} {s : Ld}
theorem setBucket_w (hL : isL μ a) {b : Nat} (hb : b < 32) {i x : Int} (hi : i = (b : Int)) : mX1_setBucket n a i x (wi μ J) = some ((), wi μ (up2 (up2 (up2 J (a + 10) b x) (a + 11) b 0) (a + 12) b 0)) := by
  have e : i.toNat = b := by omega
  unfold mX1_setBucket
  rw [bL_g15 hL, bL_st10 hL (by omega) (by omega), e, bL_g16 hL, bL_st11 hL (by omega) (by omega), e, bL_g17 hL, bL_st12 hL (by omega) (by omega) (Or.inl rfl), e]
theorem addRope_w (hL : isL μ a) (h0 : J a 1 = (r : Int)) (hr : r < 16) {v0 v1 v2 : Int} : ∃ K : Nat → Nat → Int, mX1_addRope n a v0 v1 v2 (wi μ J) = some ((), wi μ K) ∧ (∀ b : Nat, b ≠ a → ¬ (a + 7 ≤ b ∧ b ≤ a + 12) → K b = J b) ∧ K a = upA (J a) 1 (r + 1) ∧ K (a + 7) = upA (J (a + 7)) r v2 ∧ K (a + 8) = upA (J (a + 8)) r 0 ∧ K (a + 9) = upA (J (a + 9)) r 0 ∧ K (a + 10) = upA (upA (J (a + 10)) (2 * r) v0) (2 * r + 1) v1 ∧ K (a + 11) = upA (upA (J (a + 11)) (2 * r) 0) (2 * r + 1) 0 ∧ K (a + 12) = upA (upA (J (a + 12)) (2 * r) 0) (2 * r + 1) 0 := by
  have e0 : ld J a 0 1 = (r : Int) := h0
  have e1 := ldu (k := 7) (j := r) (v := v2) (by decide) e0
  have e2 := ldu (k := 8) (j := r) (v := 0) (by decide) e1
  have e3 := ldu (k := 9) (j := r) (v := 0) (by decide) e2
  have e4 := ldu (k := 12) (j := 2 * r) (v := 0) (by decide) (ldu (k := 11) (j := 2 * r) (v := 0) (by decide) (ldu (k := 10) (j := 2 * r) (v := v0) (by decide) e3))
  have e5 := ldu (k := 12) (j := 2 * r + 1) (v := 0) (by decide) (ldu (k := 11) (j := 2 * r + 1) (v := 0) (by decide) (ldu (k := 10) (j := 2 * r + 1) (v := v1) (by decide) e4))
  unfold mX1_addRope
  rw [bL_gI hL, e0, i_lt_t (by omega), bL_g12 hL, bL_gI hL, e0, bL_st7 hL (by omega) (by omega), Int.toNat_natCast]
  rw [bL_g13 hL, bL_gI hL, e1, bL_st8 hL (by omega) (by omega), Int.toNat_natCast, bL_g14 hL, bL_gI hL, e2, bL_st9 hL (by omega) (by omega) (Or.inl rfl), Int.toNat_natCast, bL_gI hL, e3, bL_inv hL, bnd (setBucket_w (b := 2 * r) hL (by omega) (by omega))]
  dsimp only
  rw [bL_gI hL, e4, bL_inv hL, bnd (setBucket_w (b := 2 * r + 1) hL (by omega) (by omega))]
  dsimp only
  rw [bL_gI hL, e5, bL_pI hL]
  refine ⟨_, rfl, fun b b1 b2 => ?_, ?_, ?_, ?_, ?_, ?_, ?_, ?_⟩
  · rw [up2_row b1, up2_row (by omega), up2_row (by omega), up2_row (by omega), up2_row (by omega), up2_row (by omega), up2_row (by omega), up2_row (by omega), up2_row (by omega), up2_row (by omega)]
  · rw [up2_r, up2_row (by omega), up2_row (by omega), up2_row (by omega), up2_row (by omega), up2_row (by omega), up2_row (by omega), up2_row (by omega), up2_row (by omega), up2_row (by omega)]
  · rw [up2_row (by omega), up2_row (by omega), up2_row (by omega), up2_row (by omega), up2_row (by omega), up2_row (by omega), up2_row (by omega), up2_row (by omega), up2_row (by omega), up2_r]
  · rw [up2_row (by omega), up2_row (by omega), up2_row (by omega), up2_row (by omega), up2_row (by omega), up2_row (by omega), up2_row (by omega), up2_row (by omega), up2_r, up2_row (by omega)]
  · rw [up2_row (by omega), up2_row (by omega), up2_row (by omega), up2_row (by omega), up2_row (by omega), up2_row (by omega), up2_row (by omega), up2_r, up2_row (by omega), up2_row (by omega)]
  · rw [up2_row (by omega), up2_row (by omega), up2_row (by omega), up2_r, up2_row (by omega), up2_row (by omega), up2_r, up2_row (by omega), up2_row (by omega), up2_row (by omega)]
  · rw [up2_row (by omega), up2_row (by omega), up2_r, up2_row (by omega), up2_row (by omega), up2_r, up2_row (by omega), up2_row (by omega), up2_row (by omega), up2_row (by omega)]
  · rw [up2_row (by omega), up2_r, up2_row (by omega), up2_row (by omega), up2_r, up2_row (by omega), up2_row (by omega), up2_row (by omega), up2_row (by omega), up2_row (by omega)]
theorem rope_c (hT : isTp μ t) (hL : isL μ a) (sep : t + 1 < a) (hca : c ≤ t) (hX : isX μ c J) (hS : CS J t z P q F) (h0 : J a 1 = (r : Int)) (hr : r < 16) (hH : 0 ≤ J a 0 ∧ J a 0 ≤ 10) (hn : 20000 ≤ n) : ∃ (K : Nat → Nat → Int) (q' : Nat) (F' : Fp) (v0 v1 v2 v3 v4 v5 : Int), mX8_readRope n t a (wi μ J) = some ((), wi μ K) ∧ jF J K t a ∧ CS K t z P q' F' ∧ chR (bts P) z (tE (bts P) z q) (J a 0) F q' F' v0 v1 v2 v3 v4 v5 ∧ K a 0 = J a 0 ∧ (K a 1 = J a 1 ∨ K a 1 = r + 1) ∧ (F'.1 = 0 → K a = upA (J a) 1 (r + 1) ∧ (∀ k : Nat, 1 ≤ k → k ≤ 6 → K (a + k) = J (a + k)) ∧ K (a + 7) = upA (J (a + 7)) r v2 ∧ K (a + 8) = upA (J (a + 8)) r v3 ∧ K (a + 9) = upA (J (a + 9)) r 0 ∧ K (a + 10) = upA (upA (J (a + 10)) (2 * r) v0) (2 * r + 1) v1 ∧ K (a + 11) = upA (upA (J (a + 11)) (2 * r) v4) (2 * r + 1) v5 ∧ K (a + 12) = upA (upA (J (a + 12)) (2 * r) 0) (2 * r + 1) 0) := by
  obtain ⟨K1, e1, g1, s1⟩ := adv_w (n := n) hT hS hn
  obtain ⟨K2, q1, F1, v0, e2, g2, s2, o2⟩ := takeNumber_eq (n := n) hT s1 (lo := 0) (hi := J a 0 - 1) (by omega) (by omega) hn
  have te := tE_ge (B := bts P) hS.2.2.1
  obtain ⟨K3, F2, e3, g3, s3, o3⟩ := neqC (n := n) hT s2 (v := v0) (fun zz => by have := o2.z te.2 zz; omega)
  have g13 := (g1.tr g2).tr g3
  obtain ⟨K4, q3, F3, v1, e4, g4, s4, o4⟩ := takeNumber_eq (n := n) hT s3 (lo := 0) (hi := J a 0 - 1) (by omega) (by omega) hn
  have g14 := g13.tr g4
  have x4 : isX μ c K4 := hX.cg (fun b hb => g14.1 b (by omega))
  obtain ⟨K5, q4, F4, e5, g5, s5, o5⟩ := wordC (n := n) hT x4 s4 hn
  obtain ⟨K6, q5, F5, v2, e6, g6, s6, o6⟩ := takeNumber_eq (n := n) hT s5 (lo := 2) (hi := 9) (by omega) (by omega) hn
  have g16 := (g14.tr g5).tr g6
  have f16 : ∀ k : Nat, K6 (a + k) = J (a + k) := fun k => g16.1 _ (by omega)
  have ka : K6 a = J a := f16 0
  have k1a : ld K1 a 0 0 = J a 0 := by show K1 (a + 0) 0 = _; rw [g1.1 _ (by omega)]; rfl
  have k3a : ld K3 a 0 0 = J a 0 := by show K3 (a + 0) 0 = _; rw [g13.1 _ (by omega)]; rfl
  have h0' : ld J a 0 1 = (r : Int) := h0
  have s61 := s6.2.2.2.1
  have s62 := s6.2.2.2.2.2
  have pre : mX8_readRope n t a (wi μ J) = (if eq32 F5.1 0 then (inv (wi μ K6) 2 a (mX1_addRope n a v0 v1 v2 (wi μ K6))).bind fun p103 => oC n t a 6 8 0 v2 (r : Int) (sC n t a (r : Int)) p103.2 else some ((), wi μ K6)) := by
    show ((gI (wi μ J) 2 a 1).bind fun x1 => if lt32 x1 16 then (inv (wi μ J) 9 t (mX8_advance n t (wi μ J))).bind fun p18 => (gI p18.2 2 a 0).bind fun x24 => (inv p18.2 9 t (mX8_takeNumber n t 0 (x24 - 1) p18.2)).bind fun p29 => nC n t p29.1 (fun μ54 => (gI μ54 2 a 0).bind fun x57 => (inv μ54 9 t (mX8_takeNumber n t 0 (x57 - 1) μ54)).bind fun p62 => wC n t (fun μ80 => (inv μ80 9 t (mX8_takeNumber n t 2 9 μ80)).bind fun p84 => (gI p84.2 9 t 1).bind fun x90 => if eq32 x90 0 then (inv p84.2 2 a (mX1_addRope n a p29.1 p62.1 p84.1 p84.2)).bind fun p103 => oC n t a 6 8 0 p84.1 x1 (sC n t a x1) p103.2 else some ((), p84.2)) p62.2) p29.2 else (inv (wi μ J) 9 t (mX8_tellFault n t 4 (wi μ J))).bind fun p13 => some ((), p13.2)) = _
    rw [bL_gI hL, h0', i_lt_t (by omega), bT_inv hT, bnd e1]
    dsimp only
    rw [bL_gI hL, k1a, bT_inv hT, bnd e2]
    dsimp only
    rw [e3, bL_gI hL, k3a, bT_inv hT, bnd e4]
    dsimp only
    rw [e5, bT_inv hT, bnd e6]
    dsimp only
    rw [bP_gI hT, s61]
  by_cases c0 : F5.1 = 0
  · obtain ⟨K7, e7, f7, r0, r7, r8, r9, r10, r11, r12⟩ := addRope_w (n := n) (J := K6) (v0 := v0) (v1 := v1) (v2 := v2) hL (by rw [ka]; exact h0) hr
    have s7 : CS K7 t z P q5 F5 := s6.cg (f7 _ (by omega) (by omega)) (f7 _ (by omega) (by omega))
    have x7 : isX μ c K7 := hX.cg (fun b hb => (f7 b (by omega) (by omega)).trans (g16.1 b (by omega)))
    have z4 := o6.nz c0
    have z3 := o5.nz z4
    have z2 := o4.nz z3
    have z1 := o3.nz z2
    have y1 := o2.z te.2 z1
    have y3 := o4.z y1.2.2.1 z3
    have y4 := o5.wb y3.2.2.1 z4
    have y5 := o6.z y4.2 c0
    obtain ⟨K8, q6, F6, v3, e8, f8, t8, w8, s8, o8⟩ := optC (n := n) (k := 6) (r := 8) (h := r) (lo := 0) (hi := v2) hT hL sep hca x7 s7 (by decide) (by omega) (Or.inr ⟨rfl, hr⟩) (by omega) (by omega) hn
    have x8 : isX μ c K8 := x7.cg (fun b hb => f8 b (by omega) (by omega))
    rw [r8, upA_s] at o8
    have m11 : K8 (a + 11) = upA (upA (J (a + 11)) (2 * r) 0) (2 * r + 1) 0 := by rw [f8 _ (by omega) (by omega), r11, f16]
    obtain ⟨K9, q7, F7, v4, v5, e9, f9, t9, w9, s9, o9⟩ := stonC (n := n) (r := r) hT hL sep x8 s8 hr (by rw [m11, upA_n (by omega), upA_s]) (by rw [m11, upA_s]) hn
    have e8' : ∀ R : Mem → Option (Unit × Mem), oC n t a 6 8 0 v2 (r : Int) R (wi μ K7) = R (wi μ K8) := e8
    have fa : K9 a = upA (J a) 1 (r + 1) := by rw [f9 a (by omega) (by omega), f8 a (by omega) (by omega), r0, ka]
    refine ⟨K9, q7, F7, v0, v1, v2, v3, v4, v5, ?_, ⟨fun b b1 b2 => ?_, ?_⟩, s9, ⟨F1, F2, F3, F4, F5, q1, q3, q4, q5, o2, o3, o4, o5, o6, fun z => absurd c0 z, fun _ => ⟨F6, q6, o8, o9⟩⟩, ?_, ?_, fun _ => ⟨fa, fun k k1 k2 => ?_, ?_, ?_, ?_, ?_, ?_, ?_⟩⟩
    · rw [pre, i_eq_t c0, bL_inv hL, bnd e7]
      dsimp only
      rw [e8']
      exact e9
    · rw [f9 b b1 (by omega), f8 b b1 (by omega), f7 b (by omega) (by omega), g16.1 b b1]
    · rw [t9, t8, f7 t (by omega) (by omega), g16.2]
    · rw [fa, upA_n (by decide)]
    · exact Or.inr (by rw [fa, upA_s])
    · rw [f9 _ (by omega) (by omega), f8 _ (by omega) (by omega), f7 _ (by omega) (by omega), f16]
    · rw [f9 _ (by omega) (by omega), f8 _ (by omega) (by omega), r7, f16]
    · rw [f9 _ (by omega) (by omega), w8, r8, f16, upA_up]
    · rw [f9 _ (by omega) (by omega), f8 _ (by omega) (by omega), r9, f16]
    · rw [f9 _ (by omega) (by omega), f8 _ (by omega) (by omega), r10, f16]
    · rw [w9, m11]
      funext j
      by_cases j1 : j = 2 * r + 1
      · rw [j1, upA_s, upA_s]
      · rw [upA_n j1, upA_n j1]
        by_cases j0 : j = 2 * r
        · rw [j0, upA_s, upA_s]
        · rw [upA_n j0, upA_n j1, upA_n j0, upA_n j0]
    · rw [f9 _ (by omega) (by omega), f8 _ (by omega) (by omega), r12, f16]
  · refine ⟨K6, q5, F5, v0, v1, v2, 0, 0, 0, ?_, g16.j, s6, ⟨F1, F2, F3, F4, F5, q1, q3, q4, q5, o2, o3, o4, o5, o6, fun _ => rfl, fun z => absurd z c0⟩, by rw [ka], Or.inl (by rw [ka]), fun z => absurd z c0⟩
    rw [pre, i_eq_f (by omega)]
def rA (A : Nat → Int) (r : Nat) (v0 v1 v2 v3 v4 v5 : Int) : Nat → Int := upA (upA (upA (upA (upA (upA (upA A (76 + r) v0) (92 + r) v1) (108 + r) v2) (124 + r) v3) (140 + r) v4) (156 + r) v5) 1 (r + 1)
def rR (m : Nat) (x5 v0 v1 v2 v3 v4 v5 : Int) (ν : Mem) : Option (Unit × Mem) := (gI ν 12 m 11).bind fun x169 => if eq32 x169 0 then (gA ν 12 m 4).bind fun x177 => (stI ν 0 x177 (76 + x5) v0).bind fun μ185 => (gA μ185 12 m 4).bind fun x187 => (stI μ185 0 x187 (92 + x5) v1).bind fun μ195 => (gA μ195 12 m 4).bind fun x197 => (stI μ195 0 x197 (108 + x5) v2).bind fun μ206 => (gA μ206 12 m 4).bind fun x208 => (stI μ206 0 x208 (124 + x5) v3).bind fun μ217 => (gA μ217 12 m 4).bind fun x219 => (stI μ217 0 x219 (140 + x5) v4).bind fun μ229 => (gA μ229 12 m 4).bind fun x231 => (stI μ229 0 x231 (156 + x5) v5).bind fun μ241 => (gA μ241 12 m 4).bind fun x243 => (ldI μ241 0 x243 1).bind fun x248 => (stI μ241 0 x243 1 (x248 + 1)).bind fun μ251 => some ((), μ251) else some ((), ν)
def rT (n m : Nat) (x5 : Int) (ν : Mem) : Option (Unit × Mem) := (gI ν 12 m 11).bind fun x19 => if eq32 x19 0 then (inv ν 12 m (mX11_next n m ν)).bind fun p27 => (gA p27.2 12 m 4).bind fun x33 => (ldI p27.2 0 x33 0).bind fun x37 => (inv p27.2 12 m (mX11_takes n m 0 (x37 - 1) p27.2)).bind fun p40 => nM n m p40.1 (fun μ66 => (gA μ66 12 m 4).bind fun x69 => (ldI μ66 0 x69 0).bind fun x73 => (inv μ66 12 m (mX11_takes n m 0 (x73 - 1) μ66)).bind fun p76 => wM n m (fun μ93 => (inv μ93 12 m (mX11_takes n m 2 9 μ93)).bind fun p97 => oM n m 6 0 p97.1 0 (fun v122 => sM n m (fun v148 v166 => rR m x5 p40.1 p76.1 p97.1 v122 v148 v166)) p97.2) p76.2) p40.2 else some ((), ν)
theorem readRope_s (ν : Mem) : mX11_readRope n m ν = ((gA ν 12 m 4).bind fun x1 => (ldI ν 0 x1 1).bind fun x5 => if eq32 x5 16 then (inv ν 12 m (mX11_fails n m 4 ν)).bind fun p15 => rT n m x5 p15.2 else rT n m x5 ν) := rfl
theorem rope_m (hM : isM μ m) (hX : isX μ c I) (hc : c ≤ m) (hS : RS s z P q F) (hF : F.1 = 0) (h0 : s 4 1 = (r : Int)) (hr : r < 16) (hH : 0 ≤ s 4 0 ∧ s 4 0 ≤ 10) (hn : 20000 ≤ n) : ∃ (u : Ld) (q' : Nat) (F' : Fp) (v0 v1 v2 v3 v4 v5 : Int), mX11_readRope n m (wi μ (wm I m s)) = some ((), wi μ (wm I m u)) ∧ rF s u ∧ RS u z P q' F' ∧ chR (bts P) z (tE (bts P) z q) (s 4 0) F q' F' v0 v1 v2 v3 v4 v5 ∧ (F'.1 = 0 → u 4 = rA (s 4) r v0 v1 v2 v3 v4 v5) := by
  have te := tE_ge (B := bts P) hS.2.2.1
  obtain ⟨u1, e1, g1, r1⟩ := nxt_w (n := n) hM hX hc hS hn
  obtain ⟨u2, q1, F1, v0, e2, g2, r2, o2⟩ := takes_eq (n := n) hM hX hc r1 (lo := 0) (hi := s 4 0 - 1) (by omega) (by omega) hn
  obtain ⟨u3, F2, e3, g3, r3, o3⟩ := neqM (n := n) (I := I) hM r2 (v := v0) (fun zz => by have := o2.z te.2 zz; omega)
  obtain ⟨u4, q3, F3, v1, e4, g4, r4, o4⟩ := takes_eq (n := n) hM hX hc r3 (lo := 0) (hi := s 4 0 - 1) (by omega) (by omega) hn
  obtain ⟨u5, q4, F4, e5, g5, r5, o5⟩ := wordM (n := n) hM hX hc r4 hn
  obtain ⟨u6, q5, F5, v2, e6, g6, r6, o6⟩ := takes_eq (n := n) hM hX hc r5 (lo := 2) (hi := 9) (by omega) (by omega) hn
  have rg : F5.1 = 0 → 2 ≤ v2 ∧ v2 ≤ 9 := fun c0 => by
    have z4 := o6.nz c0
    have z3 := o5.nz z4
    have z2 := o4.nz z3
    have z1 := o3.nz z2
    have y1 := o2.z te.2 z1
    have y3 := o4.z y1.2.2.1 z3
    have y4 := o5.wb y3.2.2.1 z4
    have y5 := o6.z y4.2 c0
    omega
  obtain ⟨u7, q6, F6, v3, e7, g7, r7, o7⟩ := optM (n := n) (k := 6) (lo := 0) (hi := v2) (d := 0) hM hX hc r6 (by decide) (by omega) (fun zz => by have := rg zz; omega) hn
  obtain ⟨u8, q7, F7, v4, v5, e8, g8, r8, o8⟩ := stonM (n := n) hM hX hc r7 hn
  have e7' : ∀ R : Int → Mem → Option (Unit × Mem), oM n m 6 0 v2 0 R (wi μ (wm I m u6)) = R v3 (wi μ (wm I m u7)) := e7
  have g13 := (g1.tr g2).tr g3
  have g := ((((g13.tr g4).tr g5).tr g6).tr g7).tr g8
  have h8 : u8 4 = s 4 := g.1 4 (by decide)
  have ch : chR (bts P) z (tE (bts P) z q) (s 4 0) F q7 F7 v0 v1 v2 v3 v4 v5 := ⟨F1, F2, F3, F4, F5, q1, q3, q4, q5, o2, o3, o4, o5, o6, fun zz => by
    have := o7.1 zz
    rw [o8.1 (by rw [this]; exact zz), this], fun _ => ⟨F6, q6, o7, o8⟩⟩
  have pre : mX11_readRope n m (wi μ (wm I m s)) = rR m (r : Int) v0 v1 v2 v3 v4 v5 (wi μ (wm I m u8)) := by
    rw [readRope_s, bM_g4 hM, bM_ld4 hM (by decide) (by decide), show s 4 (1 : Int).toNat = (r : Int) from h0, i_eq_f (by omega)]
    unfold rT
    rw [bM_gI hM, hS.2.2.2.1, i_eq_t hF, bM_inv hM, bnd e1]
    dsimp only
    rw [bM_g4 hM, bM_ld4 hM (by decide) (by decide), show u1 4 (0 : Int).toNat = s 4 0 by rw [g1.1 4 (by decide)]; rfl, bM_inv hM, bnd e2]
    dsimp only
    rw [e3, bM_g4 hM, bM_ld4 hM (by decide) (by decide), show u3 4 (0 : Int).toNat = s 4 0 by rw [g13.1 4 (by decide)]; rfl, bM_inv hM, bnd e4]
    dsimp only
    rw [e5, bM_inv hM, bnd e6]
    dsimp only
    rw [e7', e8]
  have rz := r8.2.2.2.2.2
  rw [pre]
  unfold rR
  rw [bM_gI hM, r8.2.2.2.1]
  by_cases c0 : F7.1 = 0
  · have w0 : up2 (up2 (up2 (up2 (up2 (up2 u8 4 (76 + r) v0) 4 (92 + r) v1) 4 (108 + r) v2) 4 (124 + r) v3) 4 (140 + r) v4) 4 (156 + r) v5 4 1 = (r : Int) := by
      rw [up2_n (by omega), up2_n (by omega), up2_n (by omega), up2_n (by omega), up2_n (by omega), up2_n (by omega), h8]; exact h0
    rw [i_eq_t c0, bM_g4 hM, bM_st4 hM (by omega) (by omega), show (76 + (r : Int)).toNat = 76 + r by omega, bM_g4 hM, bM_st4 hM (by omega) (by omega), show (92 + (r : Int)).toNat = 92 + r by omega, bM_g4 hM, bM_st4 hM (by omega) (by omega), show (108 + (r : Int)).toNat = 108 + r by omega, bM_g4 hM, bM_st4 hM (by omega) (by omega), show (124 + (r : Int)).toNat = 124 + r by omega, bM_g4 hM, bM_st4 hM (by omega) (by omega), show (140 + (r : Int)).toNat = 140 + r by omega, bM_g4 hM, bM_st4 hM (by omega) (by omega), show (156 + (r : Int)).toNat = 156 + r by omega, bM_g4 hM, bM_ld4 hM (by decide) (by decide), show (1 : Int).toNat = 1 from rfl, w0, bM_st4 hM (by decide) (by decide), show (1 : Int).toNat = 1 from rfl]
    refine ⟨_, q7, F7, v0, v1, v2, v3, v4, v5, rfl, ⟨fun k k0 k4 => ?_, fun j a b c d e f => ?_⟩, r8.cg ?_ ?_, ch, fun _ => ?_⟩
    · rw [up2_row k4, up2_row k4, up2_row k4, up2_row k4, up2_row k4, up2_row k4, up2_row k4, g.1 k k0]
    · rw [up2_row (by decide), up2_row (by decide), up2_row (by decide), up2_row (by decide), up2_row (by decide), up2_row (by decide), up2_row (by decide), g.2 j a b c d e f]
    · rw [up2_row (by decide), up2_row (by decide), up2_row (by decide), up2_row (by decide), up2_row (by decide), up2_row (by decide), up2_row (by decide)]
    · rw [up2_row (by decide), up2_row (by decide), up2_row (by decide), up2_row (by decide), up2_row (by decide), up2_row (by decide), up2_row (by decide)]
    · rw [up2_r, up2_r, up2_r, up2_r, up2_r, up2_r, up2_r, h8]
      rfl
  · rw [i_eq_f (by omega)]
    exact ⟨u8, q7, F7, v0, v1, v2, v3, v4, v5, rfl, g.f, r8, ch, fun z => absurd z c0⟩
end RC
