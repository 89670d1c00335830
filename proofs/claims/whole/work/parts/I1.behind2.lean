/-! the class's search: behind an hour, whole -/
section BI
variable {μ : Mem} {J : Nat → Nat → Int} {a c n o H R sk X : Nat} {ro : Nat → Nat} {l L : Ld} {gB G : Int} {p : Nat → Int}
/-- what stands of the search while an hour is looked at -/
def bhV (J : Nat → Nat → Int) (a c : Nat) (l L : Ld) (o : Nat) (ro : Nat → Nat) (sk : Nat) (G : Int) : Prop := envS J a c l o ro ∧ J a 11 = (sk : Int) ∧ J a 12 = G ∧ laI L ro J a o 0
theorem bhV.cg {K : Nat → Nat → Int} (h : bhV J a c l L o ro sk G) (ha : c + 15 < a) (e : ∀ b : Nat, b ≠ a + 14 → K b = J b) : bhV K a c l L o ro sk G := by
  obtain ⟨⟨h1, h2, h3⟩, h4, h5, h6⟩ := h
  refine ⟨⟨fun k hk k9 => (show K (c + 3 + k) = J (c + 3 + k) from e _ (by omega)).trans (h1 k hk k9), by rw [e a (by omega)]; exact h2, fun k hk => by rw [e (a + 9) (by omega)]; exact h3 k hk⟩, by rw [e a (by omega)]; exact h4, by rw [e a (by omega)]; exact h5, fun j u hu hc => ?_⟩
  rw [e (a + 12) (by omega), e (a + 13) (by omega)]
  exact h6 j u hu hc
theorem bhS_l (hE : isSe μ a c) (hL : isL μ (c + 3)) (ha : c + 15 < a) (vl : vL l L) (hH : (H : Int) = l 0 0) (hH4 : H ≤ 4) (op : opn l o ro R) (ho : o ≤ 3) (hG : 1 ≤ G ∧ G ≤ 3) (hg : 0 ≤ hd L sk - gB) (hsk : sk < H) {k : Nat} (hk : k < o) (nx65 : Int × Int × Int × Int → Mem → Option (Int × Mem)) (x y z : Int) : ∀ (d kk s fw : Nat) (gn : Int) (J : Nat → Nat → Int), s + d = 2 → d < kk → bhV J a c l L o ro sk G → bhI L p o H ro sk gB G J a fw gn (2 * k + s) (2 * ro k + s) → ∃ (K : Nat → Nat → Int) (fw' : Nat) (gn' : Int), lp (bhS a (mvL p L 8 (ro k)) nx65 (x, y, z, (k : Int))) kk ((fw : Int), gn, (s : Int)) (wi μ J) = nx65 ((fw' : Int), gn', (lOr z (lShl (oI2l (mvL p L 8 (ro k))) (4 * (k : Int)))), ((k : Int) + 1)) (wi μ K) ∧ (∀ b : Nat, b ≠ a + 14 → K b = J b) ∧ bhI L p o H ro sk gB G K a fw' gn' (2 * (k + 1)) (bd ro (k + 1))
  | d, 0, s, fw, gn, J, h1, h2, hV, hI => absurd h2 (by omega)
  | 0, kk + 1, s, fw, gn, J, h1, h2, hV, hI => by
    have es : s = 2 := by omega
    subst es
    refine ⟨J, fw, gn, ?_, fun _ _ => rfl, hI⟩
    generalize hB : lp (bhS a (mvL p L 8 (ro k)) nx65 (x, y, z, (k : Int))) kk = slf
    show bhS a (mvL p L 8 (ro k)) nx65 (x, y, z, (k : Int)) (lp (bhS a (mvL p L 8 (ro k)) nx65 (x, y, z, (k : Int))) kk) ((fw : Int), gn, ((2 : Nat) : Int)) (wi μ J) = _
    rw [hB]
    unfold bhS
    dsimp only
    rw [i_lt_f (by omega)]
  | d + 1, kk + 1, s, fw, gn, J, h1, h2, hV, hI => by
    have ih := bhS_l hE hL ha vl hH hH4 op ho hG hg hsk hk nx65 x y z d kk (s + 1)
    generalize hB : lp (bhS a (mvL p L 8 (ro k)) nx65 (x, y, z, (k : Int))) kk = slf at ih
    obtain ⟨K, fw1, gn1, e1, g1, g2⟩ := bhS_w hE hL vl hH hH4 op ho hG hg hsk hV.1 hV.2.1 hV.2.2.1 hk (by omega) hI slf nx65 x y z
    obtain ⟨K2, fw2, gn2, e2, f1, f2⟩ := ih fw1 gn1 K (by omega) (by omega) (hV.cg ha g1) g2
    refine ⟨K2, fw2, gn2, ?_, fun b hb => (f1 b hb).trans (g1 b hb), f2⟩
    show bhS a (mvL p L 8 (ro k)) nx65 (x, y, z, (k : Int)) (lp (bhS a (mvL p L 8 (ro k)) nx65 (x, y, z, (k : Int))) kk) ((fw : Int), gn, (s : Int)) (wi μ J) = _
    rw [hB, e1]
    exact e2
theorem pF_bits {f : Nat → Nat} {y : Nat} (hf : ∀ k : Nat, f k < 2) (hy : y < 64) (h : ∀ s : Nat, s < 6 → y / 2 ^ s % 2 = f s) : y = pF f 3 := by
  have h0 : y / 1 % 2 = f 0 := h 0 (by decide)
  have h1 : y / 2 % 2 = f 1 := h 1 (by decide)
  have h2 : y / 4 % 2 = f 2 := h 2 (by decide)
  have h3 : y / 8 % 2 = f 3 := h 3 (by decide)
  have h4 : y / 16 % 2 = f 4 := h 4 (by decide)
  have h5 : y / 32 % 2 = f 5 := h 5 (by decide)
  rw [pF_3]
  omega
theorem pF_bit {f : Nat → Nat} (hf : ∀ k : Nat, f k < 2) {s : Nat} (hs : s < 6) : pF f 3 / 2 ^ s % 2 = f s ∧ pF f 3 < 64 := by
  have a0 := hf 0
  have a1 := hf 1
  have a2 := hf 2
  have a3 := hf 3
  have a4 := hf 4
  have a5 := hf 5
  rw [pF_3]
  have : s = 0 ∨ s = 1 ∨ s = 2 ∨ s = 3 ∨ s = 4 ∨ s = 5 := by omega
  rcases this with rfl | rfl | rfl | rfl | rfl | rfl <;> omega
theorem dep_or {k A d : Nat} (hk : k < 3) (hA : A < 16 ^ k) (hd : d < 16) : lOr (A : Int) (lShl (d : Int) (4 * (k : Int))) = ((A + d * 16 ^ k : Nat) : Int) := by
  have : k = 0 ∨ k = 1 ∨ k = 2 := by omega
  rcases this with rfl | rfl | rfl
  · have e1 := lorS (x := A) (v := d) (p := 0) (w := 4) (by omega) (by omega) (by omega) (by omega)
    exact e1
  · have e1 := lorS (x := A) (v := d) (p := 4) (w := 4) (by omega) (by omega) (by omega) (by omega)
    exact e1
  · have e1 := lorS (x := A) (v := d) (p := 8) (w := 4) (by omega) (by omega) (by omega) (by omega)
    exact e1
theorem end_or {A C f g : Nat} (hA : A < 4096) (hC : C < 268435456) (hf : f < 64) (hg : g < 4) : lOr (lOr ((A + 262144 * C : Nat) : Int) (lShl (f : Int) 12)) (lShl (g : Int) 46) = ((A + 4096 * f + 262144 * C + 70368744177664 * g : Nat) : Int) := by
  have e1 := lorS (x := A + 262144 * C) (v := f) (p := 12) (w := 6) (by omega) (by omega) (by omega) (by omega)
  have e2 := lorS (x := A + 262144 * C + f * 2 ^ 12) (v := g) (p := 46) (w := 2) (by omega) (by omega) (by omega) (by omega)
  have e1' : lOr ((A + 262144 * C : Nat) : Int) (lShl (f : Int) 12) = ((A + 262144 * C + f * 2 ^ 12 : Nat) : Int) := e1
  have e2' : lOr ((A + 262144 * C + f * 2 ^ 12 : Nat) : Int) (lShl (g : Int) 46) = ((A + 262144 * C + f * 2 ^ 12 + g * 2 ^ 46 : Nat) : Int) := e2
  rw [e1', e2']
  congr 1
  omega
/-- the stocks, and the end -/
theorem bhE_l (hE : isSe μ a c) (hL : isL μ (c + 3)) (hJ : envS J a c l o ro) (hH : (H : Int) = l 0 0) (hH4 : H ≤ 4) {A f g : Nat} (hA : A < 4096) (hf : f < 64) (hg : g < 4) {x y : Int} {s : Nat → Nat} (hs : ∀ h : Nat, s h < 128) (hS : ∀ h : Nat, h < H → J (a + 14) h = ((s h : Nat) : Int)) : ∀ (d kk i : Nat), i + d = H → d < kk → lp (bhE a ((f : Int), (g : Int), x, y)) kk (((A + 262144 * pS s i : Nat) : Int), (i : Int)) (wi μ J) = some (((A + 4096 * f + 262144 * pS s H + 70368744177664 * g : Nat) : Int), wi μ J)
  | d, 0, i, h1, h2 => absurd h2 (by omega)
  | 0, kk + 1, i, h1, h2 => by
    have ei : i = H := by omega
    subst ei
    have lt := pS_lt hs i
    have p4 : (128 : Nat) ^ i ≤ 128 ^ 4 := Nat.pow_le_pow_right (by decide) hH4
    generalize hB : lp (bhE a ((f : Int), (g : Int), x, y)) kk = slf
    show bhE a ((f : Int), (g : Int), x, y) (lp (bhE a ((f : Int), (g : Int), x, y)) kk) _ (wi μ J) = _
    rw [hB]
    unfold bhE
    dsimp only
    rw [bE_g10 hE, bL_gI hL, hJ.1 0 (by decide) (by decide), i_lt_f (by omega), oI2l_of (by omega) (by omega), oI2l_of (by omega) (by omega), end_or hA (by omega) hf hg]
  | d + 1, kk + 1, i, h1, h2 => by
    have e := bhE_l hE hL hJ hH hH4 hA hf hg (x := x) (y := y) hs hS d kk (i + 1) (by omega) (by omega)
    have so := stk_or (k := i) (X := A) (s := s i) (by omega) (by omega) (pS_lt hs i) (hs i)
    have si := hs i
    have se : pS s (i + 1) = pS s i + s i * 128 ^ i := rfl
    rw [se, ← so] at e
    generalize hB : lp (bhE a ((f : Int), (g : Int), x, y)) kk = slf at e
    show bhE a ((f : Int), (g : Int), x, y) (lp (bhE a ((f : Int), (g : Int), x, y)) kk) _ (wi μ J) = _
    rw [hB]
    unfold bhE
    dsimp only
    rw [bE_g10 hE, bL_gI hL, hJ.1 0 (by decide) (by decide), i_lt_t (by omega), bE_g9 hE, bE_ld14 hE (by omega) (by omega), Int.toNat_natCast, hS i (by omega), oI2l_of (by omega) (by omega)]
    exact e
/-- what comes of an hour -/
def bhO (l L : Ld) (p : Nat → Int) (o H : Nat) (ro : Nat → Nat) (sk : Nat) (gB G : Int) (Y : Nat) : Prop := Y < 281474976710656 ∧ ((Y / 2 ^ 46 : Nat) : Int) = min (hd (goL p L).1 sk - gB) G ∧ (hd (goL p L).1 sk - gB < G → (Y : Int) = kC o H sk ro gB (goL p L).1)
theorem bhR_l (hE : isSe μ a c) (hL : isL μ (c + 3)) (ha : c + 15 < a) (vl : vL l L) (hH : (H : Int) = l 0 0) (hH4 : H ≤ 4) (op : opn l o ro R) (ho : o ≤ 3) (hG : 1 ≤ G ∧ G ≤ 3) (hg : 0 ≤ hd L sk - gB) (hsk : sk < H) (hn : 20000 ≤ n) {w w' : Nat} (hw' : w' < 64) (hb : whoB l o ro p w) (hlk : ∀ j : Nat, j < o → dbx L (ro j) (w' / 4 ^ j % 4) = dbx L (ro j) (w / 4 ^ j % 4)) : ∀ (d kk k fw : Nat) (gn : Int) (J : Nat → Nat → Int), k + d = o → d < kk → bhV J a c l L o ro sk G → bhI L p o H ro sk gB G J a fw gn (2 * k) (bd ro k) → ∃ (K : Nat → Nat → Int) (Y : Nat), lp (bhR n a (w' : Int)) kk ((fw : Int), gn, ((pD (fun j => (fD o ro (goL p L).1 j).toNat) k : Nat) : Int), (k : Int)) (wi μ J) = some ((Y : Int), wi μ K) ∧ (∀ b : Nat, b ≠ a + 14 → K b = J b) ∧ bhO l L p o H ro sk gB G Y
  | d, 0, k, fw, gn, J, h1, h2, hV, hI => absurd h2 (by omega)
  | 0, kk + 1, k, fw, gn, J, h1, h2, hV, hI => by
    have ek : k = o := by omega
    subst ek
    have rL : (R : Int) = L 0 1 := by rw [vl.2.1 1 (by decide)]; exact op.1
    have gc := go_c (p := p) (R := R) vl.1 rL
    have vg : vL l (goL p L).1 := ⟨(goL_ok _ vl.1).1, vl.2.tr (goL_ok _ vl.1).2⟩
    have m9 : mvL p L 9 = l 9 := by rw [gc.1 9 (by decide)]; exact vl.2.2.2.2.2.2.1
    obtain ⟨s1, s2⟩ := bd_o (m := mvL p L) op m9
    obtain ⟨i1, i2, i3, i4⟩ := hI
    have hHg : (H : Int) = (goL p L).1 0 0 := by rw [vg.2.1 0 (by decide)]; exact hH
    have roR : ∀ j : Nat, j < k → ((ro j : Nat) : Int) < (goL p L).1 0 1 := fun j hj => by rw [vg.2.1 1 (by decide)]; have := (op.2.1 j hj).1; have := op.1; omega
    have cn0 := cnt_nn (mvL p L) sk (bd ro k)
    have gr := gr_a i4 hg cn0 hG
    have rg := rg_of (ro := ro) (o := k) (g := gn) vg.1 hHg roR gr
    have fl : fw = pF (fun j => (fF k ro (goL p L).1 j).toNat) 3 := pF_bits (fun j => by have := rg.2.1 j; omega) i2 (fun s hs => by
      have q := i3 s hs
      by_cases c : s < 2 * k
      · rw [if_pos c] at q
        rw [← q]; omega
      · rw [if_neg c] at q
        have z1 : fF k ro L s = 0 := if_neg c
        have z2 : fF k ro (goL p L).1 s = 0 := if_neg c
        rw [z1] at q
        rw [z2]
        show fw / 2 ^ s % 2 = 0
        omega)
    have dl := pD_lt (f := fun j => (fD k ro (goL p L).1 j).toNat) (fun j => by have := rg.1 j; omega) k
    have p3 : (16 : Nat) ^ k ≤ 16 ^ 3 := Nat.pow_le_pow_right (by decide) ho
    have sS : ∀ h : Nat, h < H → J (a + 14) h = (((fS H (goL p L).1 h).toNat : Nat) : Int) := fun h hh => by
      have r := rg.2.2.1 h
      rw [i1 h hh, ← s1, ← gc.2.2.2.1, i2n r.1]
      exact (if_pos hh).symm
    have e := bhE_l (x := ((pD (fun j => (fD k ro (goL p L).1 j).toNat) k : Nat) : Int)) (y := (k : Int)) (A := pD (fun j => (fD k ro (goL p L).1 j).toNat) k) (f := fw) (g := gn.toNat) (s := fun h => (fS H (goL p L).1 h).toNat) hE hL hV.1 hH hH4 (by omega) i2 (by omega) (fun h => by have := rg.2.2.1 h; omega) sS H n 0 (by omega) (by omega)
    rw [i2n gr.1] at e
    have code := cdF_n rg
    rw [← pD_o ho (fun j hj => by unfold fD; rw [if_neg hj]; rfl), ← pS_o hH4 (fun j hj => by unfold fS; rw [if_neg hj]; rfl), ← fl] at code
    have gn' : gn = min (hd (goL p L).1 sk - gB) G := by
      rw [i4, gc.2.2.2.2.1 sk, s2 sk]
      congr 1
      omega
    refine ⟨J, pD (fun j => (fD k ro (goL p L).1 j).toNat) k + 4096 * fw + 262144 * pS (fun h => (fS H (goL p L).1 h).toNat) H + 70368744177664 * gn.toNat, ?_, fun _ _ => rfl, ?_⟩
    · generalize hB : lp (bhR n a (w' : Int)) kk = slf
      show bhR n a (w' : Int) (lp (bhR n a (w' : Int)) kk) _ (wi μ J) = _
      rw [hB]
      unfold bhR
      dsimp only
      rw [bE_gI hE, hV.1.2.1, i_lt_f (by omega)]
      exact e
    · obtain ⟨X', x1, x2⟩ := cd_x rg
      have eX : X' = pD (fun j => (fD k ro (goL p L).1 j).toNat) k + 4096 * fw + 262144 * pS (fun h => (fS H (goL p L).1 h).toNat) H + 70368744177664 * gn.toNat := by
        rw [code] at x1
        exact (Int.ofNat.inj x1).symm
      rw [← eX]
      refine ⟨x2.1, by rw [x2.2.2.2.2.2]; exact gn', fun hlt => ?_⟩
      unfold kC
      rw [← x1, show hd (goL p L).1 sk - gB = gn by omega]
  | d + 1, kk + 1, k, fw, gn, J, h1, h2, hV, hI => by
    have rL : (R : Int) = L 0 1 := by rw [vl.2.1 1 (by decide)]; exact op.1
    have gc := go_c (p := p) (R := R) vl.1 rL
    have vg : vL l (goL p L).1 := ⟨(goL_ok _ vl.1).1, vl.2.tr (goL_ok _ vl.1).2⟩
    have m9 : mvL p L 9 = l 9 := by rw [gc.1 9 (by decide)]; exact vl.2.2.2.2.2.2.1
    obtain ⟨s1, s2⟩ := bd_k (m := mvL p L) op m9 (k := k) (by omega)
    have hHg : (H : Int) = (goL p L).1 0 0 := by rw [vg.2.1 0 (by decide)]; exact hH
    have roR : ∀ j : Nat, j < o → ((ro j : Nat) : Int) < (goL p L).1 0 1 := fun j hj => by rw [vg.2.1 1 (by decide)]; have := (op.2.1 j hj).1; have := op.1; omega
    have rg := rg_of (ro := ro) (o := o) (g := 0) vg.1 hHg roR (by omega)
    have dx := (dbx_mv (p := p) vl hH op ho hb (k := k) (by omega))
    rw [← hlk k (by omega)] at dx
    have la := (hV.2.2.2 k (w' / 4 ^ k % 4) (by omega) (Or.inl (by omega))).1
    rw [dx] at la
    have ih := bhR_l hE hL ha vl hH hH4 op ho hG hg hsk hn hw' hb hlk d kk (k + 1)
    generalize hB : lp (bhR n a (w' : Int)) kk = slf at ih
    have hI0 : bhI L p o H ro sk gB G J a fw gn (2 * k + 0) (2 * ro k + 0) := by
      obtain ⟨i1, i2, i3, i4⟩ := hI
      exact ⟨fun h hh => by show J (a + 14) h = stk (mvL p L) (2 * ro k) h; rw [s1]; exact i1 h hh, i2, i3, by show gn = min (hd L sk - gB + cnt (mvL p L) sk (2 * ro k)) G; rw [s2 sk]; exact i4⟩
    obtain ⟨K, fw1, gn1, e1, g1, g2⟩ := bhS_l (a := a) hE hL ha vl hH hH4 op ho hG hg hsk (k := k) (by omega) slf (fw : Int) gn ((pD (fun j => (fD o ro (goL p L).1 j).toNat) k : Nat) : Int) 2 n 0 fw gn J (by omega) (by omega) hV hI0
    obtain ⟨K2, Y, e2, f1, f2⟩ := ih fw1 gn1 K (by omega) (by omega) (hV.cg ha g1) g2
    refine ⟨K2, Y, ?_, fun b hb => (f1 b hb).trans (g1 b hb), f2⟩
    have d8 : (((fD o ro (goL p L).1 k).toNat : Nat) : Int) = mvL p L 8 (ro k) := by
      rw [i2n (rg.1 k).1, ← gc.2.2.1]
      exact if_pos (by omega)
    have r8 := rg.1 k
    have eo := dep_or (k := k) (A := pD (fun j => (fD o ro (goL p L).1 j).toNat) k) (d := (fD o ro (goL p L).1 k).toNat) (by omega) (pD_lt (fun j => by have := rg.1 j; omega) k) (by omega)
    rw [d8] at eo
    have e1' : lp (bhS a (mvL p L 8 (ro k)) slf ((fw : Int), gn, ((pD (fun j => (fD o ro (goL p L).1 j).toNat) k : Nat) : Int), (k : Int))) n ((fw : Int), gn, 0) (wi μ J) = _ := e1
    show bhR n a (w' : Int) (lp (bhR n a (w' : Int)) kk) _ (wi μ J) = _
    rw [hB]
    unfold bhR
    dsimp only
    rw [bE_gI hE, hV.1.2.1, i_lt_t (by omega), bE_g7 hE, lk_and w' hw' k (by omega), bE_ld12 hE (by omega) (by omega), show (4 * (k : Int) + ((w' / 4 ^ k % 4 : Nat) : Int)).toNat = 4 * k + w' / 4 ^ k % 4 by omega, la, e1', oI2l_of (by omega) (by omega), eo]
    exact e2
theorem bhA_l (hE : isSe μ a c) (hL : isL μ (c + 3)) (ha : c + 15 < a) (vl : vL l L) (hH : (H : Int) = l 0 0) (hH4 : H ≤ 4) {g b2 : Int} (hX : cdX X (fD o ro L) (fF o ro L) (fS H L) g) : ∀ (d kk i : Nat) (J : Nat → Nat → Int), i + d = H → d < kk → bhV J a c l L o ro sk G → (∀ h : Nat, h < i → J (a + 14) h = L 3 h) → ∃ K : Nat → Nat → Int, lp (bhA n a (X : Int) b2) kk (i : Int) (wi μ J) = lp (bhR n a b2) n ((oAnd (lUshr (X : Int) 12) 63), (lUshr (X : Int) 46), 0, 0) (wi μ K) ∧ (∀ b : Nat, b ≠ a + 14 → K b = J b) ∧ ∀ h : Nat, h < H → K (a + 14) h = L 3 h
  | d, 0, i, J, h1, h2, hV, hS => absurd h2 (by omega)
  | 0, kk + 1, i, J, h1, h2, hV, hS => by
    refine ⟨J, ?_, fun _ _ => rfl, fun h hh => hS h (by omega)⟩
    generalize hB : lp (bhA n a (X : Int) b2) kk = slf
    show bhA n a (X : Int) b2 (lp (bhA n a (X : Int) b2) kk) (i : Int) (wi μ J) = _
    rw [hB]
    unfold bhA
    rw [bE_g10 hE, bL_gI hL, hV.1.1 0 (by decide) (by decide), i_lt_f (by omega)]
  | d + 1, kk + 1, i, J, h1, h2, hV, hS => by
    have xs := hX.2.2.2.2.1 i (by omega)
    have x1 := hX.1
    rw [show fS H L i = L 3 i from if_pos (by omega)] at xs
    have dl : X / 2 ^ (18 + 7 * i) ≤ X := Nat.div_le_self _ _
    have es : oAnd (lUshr (X : Int) (18 + 7 * (i : Int))) 127 = L 3 i := by
      rw [show 18 + 7 * (i : Int) = ((18 + 7 * i : Nat) : Int) by omega, lUshr_n (by omega) (by omega), show (127 : Int) = ((2 ^ 7 - 1 : Nat) : Int) from rfl, oAnd_m (by decide)]
      exact xs
    obtain ⟨K, e, g1, g2⟩ := bhA_l hE hL ha vl hH hH4 hX d kk (i + 1) (up2 J (a + 14) i (L 3 i)) (by omega) (by omega) (hV.cg ha (fun b hb => up2_row hb)) (fun h hh => by
      by_cases c : h = i
      · rw [c, up2_s]
      · rw [up2_n (by omega)]; exact hS h (by omega))
    refine ⟨K, ?_, fun b hb => (g1 b hb).trans (up2_row hb), g2⟩
    generalize hB : lp (bhA n a (X : Int) b2) kk = slf at e
    show bhA n a (X : Int) b2 (lp (bhA n a (X : Int) b2) kk) (i : Int) (wi μ J) = _
    rw [hB]
    unfold bhA
    rw [bE_g10 hE, bL_gI hL, hV.1.1 0 (by decide) (by decide), i_lt_t (by omega), bE_g9 hE, es, bE_st14 hE (by omega) (by omega), Int.toNat_natCast]
    exact e
theorem behindHour_eq (hE : isSe μ a c) (hL : isL μ (c + 3)) (ha : c + 15 < a) (vl : vL l L) (hH : (H : Int) = l 0 0) (hH4 : H ≤ 4) (op : opn l o ro R) (ho : o ≤ 3) (hG : 1 ≤ G ∧ G ≤ 3) (hg : 0 ≤ hd L sk - gB ∧ hd L sk - gB < G) (hsk : sk < H) (hn : 20000 ≤ n) {w w' : Nat} (hw' : w' < 64) (hb : whoB l o ro p w) (hlk : ∀ j : Nat, j < o → dbx L (ro j) (w' / 4 ^ j % 4) = dbx L (ro j) (w / 4 ^ j % 4)) (hX : cdX X (fD o ro L) (fF o ro L) (fS H L) (hd L sk - gB)) (hV : bhV J a c l L o ro sk G) : ∃ (K : Nat → Nat → Int) (Y : Nat), mX4_behindHour n a (X : Int) (w' : Int) (wi μ J) = some ((Y : Int), wi μ K) ∧ (∀ b : Nat, b ≠ a + 14 → K b = J b) ∧ bhO l L p o H ro sk gB G Y := by
  obtain ⟨K, e, g1, g2⟩ := bhA_l (n := n) (b2 := (w' : Int)) hE hL ha vl hH hH4 hX H n 0 J (by omega) (by omega) hV (fun h hh => absurd hh (by omega))
  have x1 := hX.1
  have x4 := hX.2.2.2.1
  have x6 := hX.2.2.2.2.2
  have hHL : (H : Int) = L 0 0 := by rw [vl.2.1 0 (by decide)]; exact hH
  have rg := rg_of (ro := ro) (o := o) (g := hd L sk - gB) vl.1 hHL (fun j hj => by rw [vl.2.1 1 (by decide)]; have := (op.2.1 j hj).1; have := op.1; omega) (by omega)
  have ff : ∀ k : Nat, (fun k => (fF o ro L k).toNat) k < 2 := fun k => by have := rg.2.1 k; dsimp only; omega
  have d12 : X / 2 ^ 12 ≤ X := Nat.div_le_self _ _
  have e12 : oAnd (lUshr (X : Int) 12) 63 = ((pF (fun k => (fF o ro L k).toNat) 3 : Nat) : Int) := by
    rw [show (12 : Int) = ((12 : Nat) : Int) from rfl, lUshr_n (by omega) (by decide), show (63 : Int) = ((2 ^ 6 - 1 : Nat) : Int) from rfl, oAnd_m (by decide), x4]
  have e46 : lUshr (X : Int) 46 = hd L sk - gB := by
    rw [show (46 : Int) = ((46 : Nat) : Int) from rfl, lUshr_n (by omega) (by decide)]
    exact x6
  have rL : (R : Int) = L 0 1 := by rw [vl.2.1 1 (by decide)]; exact op.1
  have gc := go_c (p := p) (R := R) vl.1 rL
  obtain ⟨K2, Y, e2, f1, f2⟩ := bhR_l (n := n) hE hL ha vl hH hH4 op ho hG hg.1 hsk hn hw' hb hlk o n 0 (pF (fun k => (fF o ro L k).toNat) 3) (hd L sk - gB) K (by omega) (by omega) (hV.cg ha g1) ⟨fun h hh => by
      rw [g2 h hh]
      show L 3 h = mvL p L 3 h
      rw [gc.1 3 (by decide)], (pF_bit ff (s := 0) (by decide)).2, fun s hs => by
      rw [if_neg (by omega), (pF_bit ff hs).1]
      have := rg.2.1 s
      exact i2n (by omega), by
      show hd L sk - gB = min (hd L sk - gB + 0) G
      omega⟩
  refine ⟨K2, Y, ?_, fun b hb => (f1 b hb).trans (g1 b hb), f2⟩
  have e' : lp (bhA n a (X : Int) (w' : Int)) n 0 (wi μ J) = _ := e
  rw [behindHour_s, e', e12, e46]
  exact e2
end BI
