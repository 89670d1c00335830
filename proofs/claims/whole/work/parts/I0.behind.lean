/-! the class's search: behind an hour -/
theorem fb_and : ∀ f : Nat, f < 64 → ∀ t : Nat, t < 6 → oAnd (f : Int) (oShl 1 (t : Int)) = ((f / 2 ^ t % 2 * 2 ^ t : Nat) : Int) := by decide +kernel
theorem fb_or : ∀ f : Nat, f < 64 → ∀ t : Nat, t < 6 → f / 2 ^ t % 2 = 0 → oOr (f : Int) (oShl 1 (t : Int)) = ((f + 2 ^ t : Nat) : Int) ∧ f + 2 ^ t < 64 := by decide +kernel
theorem fb_cl : ∀ f : Nat, f < 64 → ∀ t : Nat, t < 6 → f / 2 ^ t % 2 = 1 → oAnd (f : Int) (oXor (oShl 1 (t : Int)) (-1)) = ((f - 2 ^ t : Nat) : Int) := by decide +kernel
theorem fb_or2 : ∀ f : Nat, f < 64 → ∀ t : Nat, t < 6 → ∀ s : Nat, s < 6 → f / 2 ^ t % 2 = 0 → (f + 2 ^ t) / 2 ^ s % 2 = if s = t then 1 else f / 2 ^ s % 2 := by decide +kernel
theorem fb_cl2 : ∀ f : Nat, f < 64 → ∀ t : Nat, t < 6 → ∀ s : Nat, s < 6 → f / 2 ^ t % 2 = 1 → (f - 2 ^ t) / 2 ^ s % 2 = if s = t then 0 else f / 2 ^ s % 2 := by decide +kernel
def bhD (a : Nat) (k its x135 : Int) (v110 : Int × Int × Int) (nx110 : Int × Int × Int → Mem → Option (Int × Mem)) (v233 : Int × Int) (μ233 : Mem) : Option (Int × Mem) := if eq32 (oAnd v233.1 (oShl 1 ((2 * k) + v110.2.2))) 0 then nx110 (v233.1, v110.2.1, (v233.2 + 1)) μ233 else if eq32 its 0 then (gI μ233 5 a 11).bind fun x258 => if eq32 x135 x258 then (gI μ233 5 a 12).bind fun x269 => nx110 ((oAnd v233.1 (oXor (oShl 1 ((2 * k) + v110.2.2)) (-1))), (mMin (v110.2.1 + 1) x269), (v233.2 + 1)) μ233 else nx110 ((oAnd v233.1 (oXor (oShl 1 ((2 * k) + v110.2.2)) (-1))), v110.2.1, (v233.2 + 1)) μ233 else nx110 (v233.1, v110.2.1, (v233.2 + 1)) μ233
def bhK (a : Nat) (k x135 : Int) (v110 : Int × Int × Int) (nx110 : Int × Int × Int → Mem → Option (Int × Mem)) (its : Int) (μ177 : Mem) : Option (Int × Mem) := if eq32 (oAnd v110.1 (oShl 1 ((2 * k) + v110.2.2))) 0 then (gA μ177 5 a 10).bind fun x190 => (gA μ177 2 x190 7).bind fun x193 => (ldI μ177 0 x193 x135).bind fun x198 => if lt32 its x198 then bhD a k its x135 v110 nx110 (v110.1, v110.2.2) μ177 else (gA μ177 5 a 9).bind fun x203 => (ldI μ177 0 x203 x135).bind fun x208 => if lt32 0 x208 then (gA μ177 5 a 9).bind fun x220 => (ldI μ177 0 x220 x135).bind fun x226 => (stI μ177 0 x220 x135 (x226 - 1)).bind fun μ229 => nx110 ((oOr v110.1 (oShl 1 ((2 * k) + v110.2.2))), v110.2.1, (v110.2.2 + 1)) μ229 else bhD a k its x135 v110 nx110 (v110.1, v110.2.2) μ177 else bhD a k its x135 v110 nx110 (v110.1, v110.2.2) μ177
def bhS (a : Nat) (x91 : Int) (nx65 : Int × Int × Int × Int → Mem → Option (Int × Mem)) (v65 : Int × Int × Int × Int) : (Int × Int × Int → Mem → Option (Int × Mem)) → Int × Int × Int → Mem → Option (Int × Mem) := fun nx110 v110 μ110 => if lt32 v110.2.2 2 then (gA μ110 5 a 10).bind fun x117 => (gA μ110 2 x117 15).bind fun x120 => (gA μ110 5 a 2).bind fun x125 => (ldI μ110 0 x125 v65.2.2.2).bind fun x130 => (ldI μ110 0 x120 ((2 * x130) + v110.2.2)).bind fun x135 => if eq32 v110.2.2 0 then bhK a v65.2.2.2 x135 v110 nx110 x91 μ110 else (gA μ110 5 a 10).bind fun x160 => (gA μ110 2 x160 12).bind fun x163 => (gA μ110 5 a 2).bind fun x167 => (ldI μ110 0 x167 v65.2.2.2).bind fun x172 => (ldI μ110 0 x163 x172).bind fun x173 => bhK a v65.2.2.2 x135 v110 nx110 (x173 - x91) μ110 else nx65 (v110.1, v110.2.1, (lOr v65.2.2.1 (lShl (oI2l x91) (4 * v65.2.2.2))), (v65.2.2.2 + 1)) μ110
def bhE (a : Nat) (v65 : Int × Int × Int × Int) : (Int × Int → Mem → Option (Int × Mem)) → Int × Int → Mem → Option (Int × Mem) := fun nx297 v297 μ297 => (gA μ297 5 a 10).bind fun x300 => (gI μ297 2 x300 0).bind fun x303 => if lt32 v297.2 x303 then (gA μ297 5 a 9).bind fun x312 => (ldI μ297 0 x312 v297.2).bind fun x317 => nx297 ((lOr v297.1 (lShl (oI2l x317) (18 + (7 * v297.2)))), (v297.2 + 1)) μ297 else some ((lOr (lOr v297.1 (lShl (oI2l v65.1) 12)) (lShl (oI2l v65.2.1) 46)), μ297)
def bhR (n a : Nat) (b2 : Int) : (Int × Int × Int × Int → Mem → Option (Int × Mem)) → Int × Int × Int × Int → Mem → Option (Int × Mem) := fun nx65 v65 μ65 => (gI μ65 5 a 3).bind fun x68 => if lt32 v65.2.2.2 x68 then (gA μ65 5 a 7).bind fun x75 => (ldI μ65 0 x75 ((4 * v65.2.2.2) + (oAnd (oShr b2 (2 * v65.2.2.2)) 3))).bind fun x91 => lp (bhS a x91 nx65 v65) n (v65.1, v65.2.1, 0) μ65 else lp (bhE a v65) n (v65.2.2.1, 0) μ65
def bhA (n a : Nat) (b1 b2 : Int) : (Int → Mem → Option (Int × Mem)) → Int → Mem → Option (Int × Mem) := fun nx3 v3 μ3 => (gA μ3 5 a 10).bind fun x6 => (gI μ3 2 x6 0).bind fun x9 => if lt32 v3 x9 then (gA μ3 5 a 9).bind fun x16 => (stI μ3 0 x16 v3 (oAnd (lUshr b1 (18 + (7 * v3))) 127)).bind fun μ35 => nx3 (v3 + 1) μ35 else lp (bhR n a b2) n ((oAnd (lUshr b1 12) 63), (lUshr b1 46), 0, 0) μ3
theorem behindHour_s {n a : Nat} {b1 b2 : Int} (μ : Mem) : mX4_behindHour n a b1 b2 μ = lp (bhA n a b1 b2) n 0 μ := rfl
section BH
variable {μ : Mem} {J : Nat → Nat → Int} {a c n o H R sk : Nat} {ro : Nat → Nat} {l L : Ld} {gB G : Int} {p : Nat → Int}
theorem stk_rg (m : Ld) {h : Nat} (h0 : 0 ≤ m 3 h) : ∀ b : Nat, 0 ≤ stk m b h ∧ stk m b h ≤ m 3 h
  | 0 => ⟨h0, Int.le_refl _⟩
  | b + 1 => by
    have i := stk_rg m h0 b
    show 0 ≤ (if fiP m (stk m b) b then upA (stk m b) (m 10 b).toNat (stk m b (m 10 b).toNat - 1) else stk m b) h ∧ (if fiP m (stk m b) b then upA (stk m b) (m 10 b).toNat (stk m b (m 10 b).toNat - 1) else stk m b) h ≤ m 3 h
    by_cases c : fiP m (stk m b) b
    · rw [if_pos c]
      by_cases e : h = (m 10 b).toNat
      · have := c.2.2.1
        rw [e] at i ⊢
        rw [upA_s]
        omega
      · rw [upA_n e]; exact i
    · rw [if_neg c]; exact i
theorem cnt_nn (m : Ld) (h : Nat) : ∀ b : Nat, 0 ≤ cnt m h b
  | 0 => Int.le_refl _
  | b + 1 => by
    have := cnt_nn m h b
    show 0 ≤ cnt m h b + (if drn m b ∧ (m 10 b).toNat = h then 1 else 0)
    split <;> omega
theorem gr_a {x c G gn : Int} (e : gn = min (x + c) G) (hx : 0 ≤ x) (hc : 0 ≤ c) (hG : 1 ≤ G ∧ G ≤ 3) : 0 ≤ gn ∧ gn ≤ 3 := by omega
theorem gr_b {x c G gn : Int} (e : gn = min (x + c) G) : min (gn + 1) G = min (x + (c + 1)) G := by omega
theorem gr_c {x y : Int} (hx : 0 ≤ x ∧ x ≤ 3) (hy : 1 ≤ y ∧ y ≤ 3) : mMin (x + 1) y = min (x + 1) y := mMin_of (by omega) (by omega) (by omega) (by omega)
/-- how far the buckets are seen to -/
def bhI (L : Ld) (p : Nat → Int) (o H : Nat) (ro : Nat → Nat) (sk : Nat) (gB G : Int) (J : Nat → Nat → Int) (a fw : Nat) (gn : Int) (t b : Nat) : Prop := (∀ h : Nat, h < H → J (a + 14) h = stk (mvL p L) b h) ∧ fw < 64 ∧ (∀ s : Nat, s < 6 → ((fw / 2 ^ s % 2 : Nat) : Int) = if s < t then fF o ro (goL p L).1 s else fF o ro L s) ∧ gn = min (hd L sk - gB + cnt (mvL p L) sk b) G
theorem bhS_w (hE : isSe μ a c) (hL : isL μ (c + 3)) (vl : vL l L) (hH : (H : Int) = l 0 0) (hH4 : H ≤ 4) (op : opn l o ro R) (ho : o ≤ 3) (hG : 1 ≤ G ∧ G ≤ 3) (hg : 0 ≤ hd L sk - gB) (hsk : sk < H) (hJ : envS J a c l o ro) (h11 : J a 11 = (sk : Int)) (h12 : J a 12 = G) {k s fw : Nat} {gn : Int} (hk : k < o) (hs : s < 2) (hI : bhI L p o H ro sk gB G J a fw gn (2 * k + s) (2 * ro k + s)) (nx : Int × Int × Int → Mem → Option (Int × Mem)) (nx65 : Int × Int × Int × Int → Mem → Option (Int × Mem)) (x y z : Int) : ∃ (K : Nat → Nat → Int) (fw' : Nat) (gn' : Int), bhS a (mvL p L 8 (ro k)) nx65 (x, y, z, (k : Int)) nx ((fw : Int), gn, (s : Int)) (wi μ J) = nx ((fw' : Int), gn', ((s + 1 : Nat) : Int)) (wi μ K) ∧ (∀ b : Nat, b ≠ a + 14 → K b = J b) ∧ bhI L p o H ro sk gB G K a fw' gn' (2 * k + (s + 1)) (2 * ro k + (s + 1)) := by
  obtain ⟨i1, i2, i3, i4⟩ := hI
  obtain ⟨m0, m1, m2, m7, m10, m11⟩ := lm_fx hJ vl
  have rr := op.2.1 k hk
  have r1 := op.1
  have rL : (R : Int) = L 0 1 := by rw [vl.2.1 1 (by decide)]; exact r1
  have k0 := vl.1.1
  have hHL : (H : Int) = L 0 0 := by rw [vl.2.1 0 (by decide)]; exact hH
  have gc := go_c (p := p) (R := R) vl.1 rL
  have mk := (mvL_ok p vl.1).1
  have b0 := vl.1.2.2.2 (2 * ro k + s) (by omega)
  have q7 := vl.1.2.2.1 (ro k) (by omega)
  have l9 : L 9 = l 9 := vl.2.2.2.2.2.2.1
  have mv8 := mk.2.2.1 (ro k) (by rw [gc.1 0 (by decide)]; omega)
  rw [gc.1 7 (by decide)] at mv8
  obtain ⟨e, he⟩ : ∃ e : Nat, L 10 (2 * ro k + s) = (e : Int) := ⟨(L 10 (2 * ro k + s)).toNat, by omega⟩
  have eH : e < H := by omega
  have lv := vl.1.2.1 e (by omega)
  have dp := dp_range mk (b := 2 * ro k + s) (by rw [gc.1 0 (by decide)]; omega)
  have sr := stk_rg (mvL p L) (h := e) (by rw [gc.1 3 (by decide)]; omega) (2 * ro k + s)
  rw [gc.1 3 (by decide)] at sr
  have cg := cnt_nn (mvL p L) sk (2 * ro k + s)
  have dpe : dpL (mvL p L) (2 * ro k + s) = if s = 0 then mvL p L 8 (ro k) else L 7 (ro k) - mvL p L 8 (ro k) := by
    unfold dpL
    rw [gc.1 7 (by decide), show (2 * ro k + s) / 2 = ro k by omega, show (2 * ro k + s) % 2 = s by omega]
  have fL : fF o ro L (2 * k + s) = L 12 (2 * ro k + s) := by
    unfold fF
    rw [if_pos (by omega), show (2 * k + s) / 2 = k by omega, show (2 * k + s) % 2 = s by omega]
  have fA : fF o ro (goL p L).1 (2 * k + s) = (goL p L).1 12 (2 * ro k + s) := by
    unfold fF
    rw [if_pos (by omega), show (2 * k + s) / 2 = k by omega, show (2 * k + s) % 2 = s by omega]
  have A12 := gc.2.2.2.2.2 (2 * ro k + s) (by omega)
  have it := i3 (2 * k + s) (by omega)
  rw [if_neg (by omega), fL] at it
  have fic : fiP (mvL p L) (stk (mvL p L) (2 * ro k + s)) (2 * ro k + s) ↔ L 12 (2 * ro k + s) = 0 ∧ 0 < stk (mvL p L) (2 * ro k + s) e ∧ L 2 e ≤ dpL (mvL p L) (2 * ro k + s) := by
    unfold fiP
    rw [gc.1 9 (by decide), gc.1 12 (by decide), gc.1 10 (by decide), gc.1 2 (by decide), he, Int.toNat_natCast, show (2 * ro k + s) / 2 = ro k by omega, l9]
    exact ⟨fun z => z.2, fun z => ⟨rr.2, z⟩⟩
  have drc : drn (mvL p L) (2 * ro k + s) ↔ L 12 (2 * ro k + s) ≠ 0 ∧ dpL (mvL p L) (2 * ro k + s) = 0 := by
    unfold drn
    rw [gc.1 9 (by decide), gc.1 12 (by decide), show (2 * ro k + s) / 2 = ro k by omega, l9]
    exact ⟨fun z => z.2, fun z => ⟨rr.2, z⟩⟩
  have stS : stk (mvL p L) (2 * ro k + (s + 1)) = if fiP (mvL p L) (stk (mvL p L) (2 * ro k + s)) (2 * ro k + s) then upA (stk (mvL p L) (2 * ro k + s)) (mvL p L 10 (2 * ro k + s)).toNat (stk (mvL p L) (2 * ro k + s) (mvL p L 10 (2 * ro k + s)).toNat - 1) else stk (mvL p L) (2 * ro k + s) := rfl
  have ctS : cnt (mvL p L) sk (2 * ro k + (s + 1)) = cnt (mvL p L) sk (2 * ro k + s) + (if drn (mvL p L) (2 * ro k + s) ∧ (mvL p L 10 (2 * ro k + s)).toNat = sk then 1 else 0) := rfl
  have tk : (2 * (k : Int)) + (s : Int) = ((2 * k + s : Nat) : Int) := by omega
  have an := fb_and fw i2 (2 * k + s) (by omega)
  generalize hD : dpL (mvL p L) (2 * ro k + s) = dq at dp dpe fic drc
  have pw : 0 < 2 ^ (2 * k + s) := Nat.two_pow_pos _
  have pw6 : 2 ^ (2 * k + s) ≤ 2 ^ 5 := Nat.pow_le_pow_right (by decide) (by omega)
  have e15 : ld J (c + 3) 10 (2 * ((ro k : Nat) : Int) + (s : Int)).toNat = (e : Int) := by rw [m10, show (2 * ((ro k : Nat) : Int) + (s : Int)).toNat = 2 * ro k + s by omega]; exact he
  have pre : bhS a (mvL p L 8 (ro k)) nx65 (x, y, z, (k : Int)) nx ((fw : Int), gn, (s : Int)) (wi μ J) = bhK a (k : Int) (e : Int) ((fw : Int), gn, (s : Int)) nx dq (wi μ J) := by
    unfold bhS
    dsimp only
    rw [i_lt_t (by omega), bE_g10 hE, bL_g15 hL, bE_g2 hE, bE_ld9 hE (by omega) (by omega), Int.toNat_natCast, hJ.2.2 k hk, bL_ld10 hL (by omega) (by omega), e15]
    by_cases s0 : s = 0
    · rw [if_pos s0] at dpe
      rw [i_eq_t (by omega), dpe]
    · rw [if_neg s0] at dpe
      rw [i_eq_f (by omega), bE_g10 hE, bL_g12 hL, bE_g2 hE, bE_ld9 hE (by omega) (by omega), Int.toNat_natCast, hJ.2.2 k hk, bL_ld7 hL (by omega) (by omega), Int.toNat_natCast, m7, dpe]
  -- nothing happens
  have quiet : ¬ fiP (mvL p L) (stk (mvL p L) (2 * ro k + s)) (2 * ro k + s) → ¬ drn (mvL p L) (2 * ro k + s) → bhI L p o H ro sk gB G J a fw gn (2 * k + (s + 1)) (2 * ro k + (s + 1)) := fun nf nd => by
    rw [if_neg nf, if_neg nd] at A12
    refine ⟨fun h hh => by rw [stS, if_neg nf]; exact i1 h hh, i2, fun u hu => ?_, by rw [ctS, if_neg (fun w => nd w.1), Int.add_zero]; exact i4⟩
    by_cases cu : u = 2 * k + s
    · rw [if_pos (by omega), cu, fA, A12]; exact it
    · rw [i3 u hu]
      by_cases cl : u < 2 * k + s
      · rw [if_pos cl, if_pos (by omega)]
      · rw [if_neg cl, if_neg (by omega)]
  rw [pre]
  unfold bhK
  dsimp only
  rw [tk, an]
  rcases b0.2.2.2.2 with z0 | z1
  · -- empty
    have f0 : fw / 2 ^ (2 * k + s) % 2 = 0 := by omega
    have nd : ¬ drn (mvL p L) (2 * ro k + s) := fun w => (drc.mp w).1 z0
    have bd0 : bhD a (k : Int) dq (e : Int) ((fw : Int), gn, (s : Int)) nx ((fw : Int), (s : Int)) (wi μ J) = nx ((fw : Int), gn, ((s + 1 : Nat) : Int)) (wi μ J) := by
      unfold bhD
      dsimp only
      rw [tk, an, f0, Nat.zero_mul, i_eq_t (x := ((0 : Nat) : Int)) (y := 0) rfl]
      rfl
    rw [f0, Nat.zero_mul, i_eq_t (x := ((0 : Nat) : Int)) (y := 0) rfl, bE_g10 hE, bL_g7 hL, bL_ld2 hL (by omega) (by omega), Int.toNat_natCast, m2]
    by_cases cl : dq < L 2 e
    · rw [i_lt_t (by omega), bd0]
      exact ⟨J, fw, gn, rfl, fun _ _ => rfl, quiet (fun w => by have := (fic.mp w).2.2; omega) nd⟩
    · rw [i_lt_f (by omega), bE_g9 hE, bE_ld14 hE (by omega) (by omega), Int.toNat_natCast, i1 e eH]
      by_cases cs : 0 < stk (mvL p L) (2 * ro k + s) e
      · have yf := fic.mpr ⟨z0, cs, by omega⟩
        obtain ⟨o1, o2⟩ := fb_or fw i2 (2 * k + s) (by omega) f0
        rw [i_lt_t (by omega), bE_g9 hE, bE_ld14 hE (by omega) (by omega), Int.toNat_natCast, i1 e eH, bE_st14 hE (by omega) (by omega), Int.toNat_natCast, o1]
        rw [if_pos yf] at A12
        refine ⟨_, fw + 2 ^ (2 * k + s), gn, rfl, fun b hb => up2_row hb, fun h hh => ?_, o2, fun u hu => ?_, by rw [ctS, if_neg (fun w => nd w.1), Int.add_zero]; exact i4⟩
        · rw [stS, if_pos yf, gc.1 10 (by decide), he, Int.toNat_natCast, up2_r]
          by_cases ch : h = e
          · rw [ch, upA_s, upA_s]
          · rw [upA_n ch, upA_n ch]; exact i1 h hh
        · rw [fb_or2 fw i2 (2 * k + s) (by omega) u hu f0]
          by_cases cu : u = 2 * k + s
          · rw [if_pos cu, if_pos (by omega), cu, fA, A12]; rfl
          · rw [if_neg cu, i3 u hu]
            by_cases cl : u < 2 * k + s
            · rw [if_pos cl, if_pos (by omega)]
            · rw [if_neg cl, if_neg (by omega)]
      · rw [i_lt_f (by omega), bd0]
        exact ⟨J, fw, gn, rfl, fun _ _ => rfl, quiet (fun w => by have := (fic.mp w).2.1; omega) nd⟩
  · -- full
    have f1 : fw / 2 ^ (2 * k + s) % 2 = 1 := by omega
    have nf : ¬ fiP (mvL p L) (stk (mvL p L) (2 * ro k + s)) (2 * ro k + s) := fun w => by have := (fic.mp w).1; omega
    have ne : ¬ ((2 ^ (2 * k + s) : Nat) : Int) = 0 := by omega
    rw [f1, Nat.one_mul, i_eq_f (x := ((2 ^ (2 * k + s) : Nat) : Int)) (y := 0) (by omega)]
    unfold bhD
    dsimp only
    rw [tk, an, f1, Nat.one_mul, i_eq_f (x := ((2 ^ (2 * k + s) : Nat) : Int)) (y := 0) (by omega)]
    by_cases cd : dq = 0
    · have yd := drc.mpr ⟨by omega, cd⟩
      have o1 := fb_cl fw i2 (2 * k + s) (by omega) f1
      rw [if_neg nf, if_pos yd] at A12
      have rest : ∀ gn' : Int, gn' = min (hd L sk - gB + cnt (mvL p L) sk (2 * ro k + (s + 1))) G → bhI L p o H ro sk gB G J a (fw - 2 ^ (2 * k + s)) gn' (2 * k + (s + 1)) (2 * ro k + (s + 1)) := fun gn' eg => by
        refine ⟨fun h hh => by rw [stS, if_neg nf]; exact i1 h hh, by omega, fun u hu => ?_, eg⟩
        rw [fb_cl2 fw i2 (2 * k + s) (by omega) u hu f1]
        by_cases cu : u = 2 * k + s
        · rw [if_pos cu, if_pos (by omega), cu, fA, A12]; rfl
        · rw [if_neg cu, i3 u hu]
          by_cases cl : u < 2 * k + s
          · rw [if_pos cl, if_pos (by omega)]
          · rw [if_neg cl, if_neg (by omega)]
      have e10 : (mvL p L 10 (2 * ro k + s)).toNat = e := by rw [gc.1 10 (by decide), he, Int.toNat_natCast]
      rw [i_eq_t cd, bE_gI hE, h11, o1]
      by_cases ce : e = sk
      · rw [i_eq_t (by rw [ce]), bE_gI hE, h12, gr_c (gr_a i4 hg cg hG) hG]
        refine ⟨J, _, _, rfl, fun _ _ => rfl, rest _ ?_⟩
        rw [ctS, if_pos ⟨yd, by rw [e10]; exact ce⟩]
        exact gr_b i4
      · rw [i_eq_f (by omega)]
        refine ⟨J, _, _, rfl, fun _ _ => rfl, rest _ ?_⟩
        rw [ctS, if_neg (fun w => ce (by rw [← e10]; exact w.2)), Int.add_zero]
        exact i4
    · rw [i_eq_f (by omega)]
      exact ⟨J, fw, gn, rfl, fun _ _ => rfl, quiet nf (fun w => cd (drc.mp w).2)⟩
end BH
