/-! a whole text of both -/
def endM2 (n m : Nat) (v205 : Int) (μ205 : Mem) : Option (Int × Mem) := (pI μ205 12 m 14 v205).bind fun μ205 => (gI μ205 12 m 11).bind fun x209 => if eq32 x209 0 then lp (fun nx225 (v225 : Int) (μ225 : Mem) => if lt32 v225 220 then (gA μ225 12 m 1).bind fun x233 => (gA μ225 12 m 4).bind fun x238 => (ldI μ225 0 x238 v225).bind fun x242 => (stI μ225 0 x233 v225 x242).bind fun μ243 => nx225 (v225 + 1) μ243 else (gA μ225 12 m 1).bind fun x251 => (ldI μ225 0 x251 5).bind fun x255 => some (x255, μ225)) n 0 μ205 else (gI μ205 12 m 11).bind fun x218 => some (((-30) - x218), μ205)
def endM (n m : Nat) (ν : Mem) : Option (Int × Mem) := (gI ν 12 m 11).bind fun x183 => (pI ν 12 m 13 x183).bind fun μ186 => (gI μ186 12 m 11).bind fun x191 => if eq32 x191 0 then endM2 n m (-1) μ186 else (gI μ186 12 m 12).bind fun x202 => endM2 n m x202 μ186
def lpM (n m : Nat) : Nat → Unit → Mem → Option (Int × Mem) := lp (fun nx53 (_ : Unit) (μ53 : Mem) => (gI μ53 12 m 11).bind fun x54 => if eq32 x54 0 then (gI μ53 12 m 9).bind fun x61 => if eq32 x61 13 then endM n m μ53 else lM1 n m (fun ν => nx53 () ν) μ53 else endM n m μ53)
def lpC (n t a : Nat) : Nat → Int → Mem → Option (Unit × Mem) := lp (fun nx41 (v41 : Int) (μ41 : Mem) => (gI μ41 9 t 4).bind fun x43 => if lt32 x43 v41 then some ((), μ41) else (gI μ41 9 t 5).bind fun x50 => if eq32 x50 0 then some ((), μ41) else (gI μ41 9 t 1).bind fun x57 => if eq32 x57 0 then (inv μ41 9 t (mX8_readLine n t a μ41)).bind fun p65 => nx41 (v41 + 1) p65.2 else some ((), μ41))
theorem readText_s {n t a : Nat} {b : Int} (μ : Mem) : mX8_readText n t b a μ = ((pI μ 9 t 1 0).bind fun μ2 => (pI μ2 9 t 2 (-1)).bind fun μ7 => (pI μ7 9 t 4 (mMin b 900)).bind fun μ18 => (pI μ18 9 t 0 0).bind fun μ23 => (pI μ23 9 t 7 0).bind fun μ28 => (inv μ28 2 a (mX1_begin n a μ28)).bind fun p32 => (inv p32.2 9 t (mX8_advance n t p32.2)).bind fun p36 => lpC n t a n 0 p36.2) := rfl
theorem land_s {n m : Nat} {b : Int} (μ : Mem) : mX11_land n m b μ = ((pI μ 12 m 0 0).bind fun μ2 => (gI μ2 12 m 5).bind fun x9 => (mX11_within n (oI2l b) 0 (oI2l x9) μ2).bind fun p13 => if eq32 p13.1 0 then some ((-3), p13.2) else (pI p13.2 12 m 8 b).bind fun μ24 => (pI μ24 12 m 5 0).bind fun μ29 => (pI μ29 12 m 7 0).bind fun μ34 => (pI μ34 12 m 11 0).bind fun μ39 => (gA μ39 12 m 4).bind fun x43 => (mX11_plain n x43 μ39).bind fun p46 => (inv p46.2 12 m (mX11_next n m p46.2)).bind fun p50 => lpM n m n () p50.2) := rfl
section TJ
variable {μ : Mem} {I J : Nat → Nat → Int} {c t a m n z q p : Nat} {P : Nat → Int} {F G : Fp} {s : Ld}
theorem fld_j (hT : isTp μ t) (hL : isL μ a) (sep : t + 1 < a) (hM : isM μ m) (hXI : isX μ c I) (hcm : c ≤ m) (hJ : JS J s t a z P q p F G) (hF : F.1 = 0) {k f : Nat} {hi : Int} (hf : (f = 3 ∧ hi = 9) ∨ (f = 4 ∧ hi = 40)) (hk : tK (bts P) z q = k) (k14 : k ≤ 14) (hn : 20000 ≤ n) : ∃ (K1 K : Nat → Nat → Int) (u1 u : Ld) (v w : Int) (q' p' : Nat) (F' G' : Fp), mX8_advance n t (wi μ J) = some ((), wi μ K1) ∧ mX8_takeNumber n t 1 hi (wi μ K1) = some (v, wi μ K) ∧ mX11_eats n m (k : Int) (wi μ (wm I m s)) = some (bi (G.1 = 0 ∧ tK (bts P) z p = k), wi μ (wm I m u1)) ∧ mX11_takes n m 1 hi (wi μ (wm I m u1)) = some (w, wi μ (wm I m u)) ∧ jF J (up2 K a f v) t a ∧ rF s (up2 u 4 f w) ∧ JS (up2 K a f v) (up2 u 4 f w) t a z P q' p' F' G' ∧ (F'.1 = 0 → q ≤ q') := by
  obtain ⟨hS, hR, hA, hTL, b0, b1, b2, b3⟩ := hJ
  have hG : G.1 = 0 := by rw [← hA.1]; exact hF
  have hqp := hA.2.2 hF
  have tl := hTL hF
  have te := tE_ge (B := bts P) hS.2.2.1
  obtain ⟨K1, e1, g1, s1⟩ := adv_w (n := n) hT hS hn
  obtain ⟨K, q', F', v, e2, g2, s2, o2⟩ := takeNumber_eq (n := n) hT s1 (lo := 1) (hi := hi) (by omega) (by omega) hn
  obtain ⟨u1, e3, g3, r3⟩ := eats_eq (n := n) (k := k) hM hXI hcm hR k14 hn
  rw [if_pos ⟨hG, by rw [← hqp]; exact hk⟩] at r3
  obtain ⟨u, p', G', w, e4, g4, r4, o4⟩ := takes_eq (n := n) hM hXI hcm r3 (lo := 1) (hi := hi) (by omega) (by omega) hn
  have g := g1.tr g2
  have gu := g3.tr g4
  have al := hA.out (fun z0 => by rw [hA.2.2 z0]) o2 o4
  have ka : up2 K a f v a = upA (J a) f v := by rw [up2_r, g.1 a (by omega)]
  refine ⟨K1, K, u1, u, v, w, q', p', F', G', e1, e2, e3, e4, ⟨fun b x y => ?_, ?_⟩, ⟨fun k k0 k4 => ?_, fun j a b c d e f => ?_⟩, ⟨s2.cg (up2_row (by omega)) (up2_row (by omega)), r4.cg (up2_row (by decide)) (up2_row (by decide)), al.1, fun zz => ?_, ?_⟩, fun zz => ?_⟩
  · rw [up2_row (by omega), g.1 b x]
  · rw [up2_row (by omega), g.2]
  · rw [up2_row k4, gu.1 k k0]
  · rw [up2_row (by decide), gu.2 j a b c d e f]
  · have vr := o2.z te.2 zz
    rw [up2_r, gu.1 4 (by decide), ← al.2 zz]
    exact tl.fld (by omega) ka (fun k k1 k2 => (up2_row (by omega)).trans (g.1 _ (by omega)))
  · rw [ka, upA_n (by omega), upA_n (by omega)]
    exact ⟨b0, b1, b2, b3⟩
  · have vr := o2.z te.2 zz
    omega
theorem line_j (hT : isTp μ t) (hL : isL μ a) (sep : t + 1 < a) (hca : c ≤ t) (hX : isX μ c J) (hM : isM μ m) (hXI : isX μ c I) (hcm : c ≤ m) (hJ : JS J s t a z P q p F G) (hF : F.1 = 0) (hn : 20000 ≤ n) : ∃ (K : Nat → Nat → Int) (u : Ld) (q' p' : Nat) (F' G' : Fp), mX8_readLine n t a (wi μ J) = some ((), wi μ K) ∧ (∀ R : Mem → Option (Int × Mem), lM1 n m R (wi μ (wm I m s)) = R (wi μ (wm I m u))) ∧ jF J K t a ∧ rF s u ∧ JS K u t a z P q' p' F' G' ∧ (F'.1 = 0 → q < q') := by
  obtain ⟨hS, hR, hA, -⟩ := id hJ
  have hG : G.1 = 0 := by rw [← hA.1]; exact hF
  have hqp := hA.2.2 hF
  have W : ∀ k : Nat, k < 10 → mX8_isWord n t (mA μ 0 k) (wi μ J) = some (bi (tK (bts P) z q = k), wi μ J) := fun k hk => isWord_eq (n := n) hT hS.1 hX hS.2.2.1 hS.2.1 hk hn
  have i0 : ∀ f : Int × Mem → Option (Int × Mem), (mX11_is n m 0 (wi μ (wm I m s))).bind f = f (bi (G.1 = 0 ∧ tK (bts P) z p = 0), wi μ (wm I m s)) := fun f => is_w (k := 0) hM hR (by decide)
  have i4 : ∀ f : Int × Mem → Option (Int × Mem), (mX11_is n m 4 (wi μ (wm I m s))).bind f = f (bi (G.1 = 0 ∧ tK (bts P) z p = 4), wi μ (wm I m s)) := fun f => is_w (k := 4) hM hR (by decide)
  have cut : ∀ (J1 : Nat → Nat → Int) (s1 : Ld) (q1 p1 : Nat) (F1 G1 : Fp), jF J J1 t a → rF s s1 → JS J1 s1 t a z P q1 p1 F1 G1 → (F1.1 = 0 → q ≤ q1) → mX8_readLine n t a (wi μ J) = lC n t a (wi μ J1) → (∀ R : Mem → Option (Int × Mem), lM1 n m R (wi μ (wm I m s)) = lM2 n m R (wi μ (wm I m s1))) → ∃ (K : Nat → Nat → Int) (u : Ld) (q' p' : Nat) (F' G' : Fp), mX8_readLine n t a (wi μ J) = some ((), wi μ K) ∧ (∀ R : Mem → Option (Int × Mem), lM1 n m R (wi μ (wm I m s)) = R (wi μ (wm I m u))) ∧ jF J K t a ∧ rF s u ∧ JS K u t a z P q' p' F' G' ∧ (F'.1 = 0 → q < q') := by
    intro J1 s1 q1 p1 F1 G1 f1 f2 js lq ec em
    obtain ⟨K, u, q', p', F', G', x1, x2, x3, x4, x5, x6⟩ := semi_j (n := n) hT hL sep hM hXI hcm js hn
    refine ⟨K, u, q', p', F', G', ec.trans x1, fun R => (em R).trans (x2 R), f1.tr x3, f2.tr x4, x5, fun zz => ?_⟩
    have y := x6 zz
    have := lq y.1
    omega
  by_cases c0 : tK (bts P) z q = 0
  · obtain ⟨K, u, q', p', F', G', e1, e2, f1, f2, js, lq⟩ := house_j (n := n) hT hL sep hca hX hM hXI hcm hJ hF c0 hn
    refine cut K u q' p' F' G' f1 f2 js lq ?_ (fun R => ?_)
    · rw [readLine_s, txt_w hX (by decide), bT_inv hT, bnd (W 0 (by decide))]
      dsimp only
      rw [i_bi_t c0, bT_inv hT, bnd e1]
    · unfold lM1
      rw [bM_inv hM, i0]
      dsimp only
      rw [i_bi_t ⟨hG, by rw [← hqp]; exact c0⟩, bM_inv hM, bnd e2]
  · have n0 : ¬ (G.1 = 0 ∧ tK (bts P) z p = 0) := fun w => c0 (by rw [hqp]; exact w.2)
    have pC : mX8_readLine n t a (wi μ J) = ((inv (wi μ J) 9 t (mX8_isWord n t (mA μ 0 4) (wi μ J))).bind fun p20 => if eq32 p20.1 0 then (txt p20.2 8).bind fun x35 => (inv p20.2 9 t (mX8_isWord n t x35 p20.2)).bind fun p37 => if eq32 p37.1 0 then (txt p37.2 9).bind fun x62 => (inv p37.2 9 t (mX8_isWord n t x62 p37.2)).bind fun p64 => if eq32 p64.1 0 then (inv p64.2 9 t (mX8_tellWrongToken n t p64.2)).bind fun p89 => lC n t a p89.2 else (inv p64.2 9 t (mX8_advance n t p64.2)).bind fun p71 => (inv p71.2 9 t (mX8_takeNumber n t 1 40 p71.2)).bind fun p79 => (pI p79.2 2 a 4 p79.1).bind fun μ82 => lC n t a μ82 else (inv p37.2 9 t (mX8_advance n t p37.2)).bind fun p44 => (inv p44.2 9 t (mX8_takeNumber n t 1 9 p44.2)).bind fun p52 => (pI p52.2 2 a 3 p52.1).bind fun μ55 => lC n t a μ55 else (inv p20.2 9 t (mX8_readRope n t a p20.2)).bind fun p28 => lC n t a p28.2) := by
      rw [readLine_s, txt_w hX (by decide), bT_inv hT, bnd (W 0 (by decide))]
      dsimp only
      rw [i_bi_f c0, txt_w hX (by decide)]
    by_cases c4 : tK (bts P) z q = 4
    · obtain ⟨K, u, q', p', F', G', e1, e2, f1, f2, js, lq⟩ := rope_j (n := n) hT hL sep hca hX hM hXI hcm hJ hF c4 hn
      refine cut K u q' p' F' G' f1 f2 js lq ?_ (fun R => ?_)
      · rw [pC, bT_inv hT, bnd (W 4 (by decide))]
        dsimp only
        rw [i_bi_t c4, bT_inv hT, bnd e1]
      · unfold lM1
        rw [bM_inv hM, i0]
        dsimp only
        rw [i_bi_f n0, bM_inv hM, i4]
        dsimp only
        rw [i_bi_t ⟨hG, by rw [← hqp]; exact c4⟩, bM_inv hM, bnd e2]
    · have n4 : ¬ (G.1 = 0 ∧ tK (bts P) z p = 4) := fun w => c4 (by rw [hqp]; exact w.2)
      by_cases c8 : tK (bts P) z q = 8
      · obtain ⟨K1, K, u1, u, v, w, q', p', F', G', e1, e2, e3, e4, f1, f2, js, lq⟩ := fld_j (n := n) (k := 8) (f := 3) (hi := 9) hT hL sep hM hXI hcm hJ hF (Or.inl ⟨rfl, rfl⟩) c8 (by decide) hn
        have e3' : mX11_eats n m 8 (wi μ (wm I m s)) = _ := e3
        refine cut _ _ q' p' F' G' f1 f2 js lq ?_ (fun R => ?_)
        · rw [pC, bT_inv hT, bnd (W 4 (by decide))]
          dsimp only
          rw [i_bi_f c4, txt_w hX (by decide), bT_inv hT, bnd (W 8 (by decide))]
          dsimp only
          rw [i_bi_t c8, bT_inv hT, bnd e1]
          dsimp only
          rw [bT_inv hT, bnd e2]
          dsimp only
          rw [bL_pI hL]
        · unfold lM1
          rw [bM_inv hM, i0]
          dsimp only
          rw [i_bi_f n0, bM_inv hM, i4]
          dsimp only
          rw [i_bi_f n4, bM_inv hM, bnd e3']
          dsimp only
          rw [i_bi_t ⟨hG, by rw [← hqp]; exact c8⟩, bM_g4 hM, bM_inv hM, bnd e4]
          dsimp only
          rw [bM_st4 hM (by decide) (by decide), show (3 : Int).toNat = 3 from rfl]
      · have n8 : ¬ (G.1 = 0 ∧ tK (bts P) z p = 8) := fun w => c8 (by rw [hqp]; exact w.2)
        obtain ⟨u8, e8, g8, r8⟩ := eats_eq (n := n) (k := 8) hM hXI hcm hR (by decide) hn
        have e8' : mX11_eats n m 8 (wi μ (wm I m s)) = _ := e8
        rw [if_neg n8] at r8
        have js8 : JS J u8 t a z P q p F G := ⟨hJ.1, r8, hA, fun zz => by rw [g8.1 4 (by decide)]; exact hJ.2.2.2.1 zz, hJ.2.2.2.2⟩
        by_cases c9 : tK (bts P) z q = 9
        · obtain ⟨K1, K, u1, u, v, w, q', p', F', G', e1, e2, e3, e4, f1, f2, js, lq⟩ := fld_j (n := n) (k := 9) (f := 4) (hi := 40) hT hL sep hM hXI hcm js8 hF (Or.inr ⟨rfl, rfl⟩) c9 (by decide) hn
          have e3' : mX11_eats n m 9 (wi μ (wm I m u8)) = _ := e3
          refine cut _ _ q' p' F' G' f1 (g8.f.tr f2) js lq ?_ (fun R => ?_)
          · rw [pC, bT_inv hT, bnd (W 4 (by decide))]
            dsimp only
            rw [i_bi_f c4, txt_w hX (by decide), bT_inv hT, bnd (W 8 (by decide))]
            dsimp only
            rw [i_bi_f c8, txt_w hX (by decide), bT_inv hT, bnd (W 9 (by decide))]
            dsimp only
            rw [i_bi_t c9, bT_inv hT, bnd e1]
            dsimp only
            rw [bT_inv hT, bnd e2]
            dsimp only
            rw [bL_pI hL]
          · unfold lM1
            rw [bM_inv hM, i0]
            dsimp only
            rw [i_bi_f n0, bM_inv hM, i4]
            dsimp only
            rw [i_bi_f n4, bM_inv hM, bnd e8']
            dsimp only
            rw [i_bi_f n8, bM_inv hM, bnd e3']
            dsimp only
            rw [i_bi_t ⟨hG, by rw [← hqp]; exact c9⟩, bM_g4 hM, bM_inv hM, bnd e4]
            dsimp only
            rw [bM_st4 hM (by decide) (by decide), show (4 : Int).toNat = 4 from rfl]
        · have n9 : ¬ (G.1 = 0 ∧ tK (bts P) z p = 9) := fun w => c9 (by rw [hqp]; exact w.2)
          obtain ⟨u9, e9, g9, r9⟩ := eats_eq (n := n) (k := 9) hM hXI hcm r8 (by decide) hn
          have e9' : mX11_eats n m 9 (wi μ (wm I m u8)) = _ := e9
          rw [if_neg n9] at r9
          obtain ⟨K, F', e1, g1, s1, -, x1⟩ := tellWrong_eq (n := n) hT hS
          obtain ⟨u, G', e2, g2, s2, -, x2⟩ := fails_eq (n := n) (I := I) hM r9 (k := 2) (by omega)
          have y1 := x1 hF
          have y2 : G' = wgF (bts P) z p := x2 hG
          rw [← hqp] at y2
          have nz : F'.1 ≠ 0 := by rw [y1]; exact wgF_nz _ _ _
          have ea : K a = J a := g1.1 a (by omega)
          refine cut K u q p F' G' g1.j ((g8.tr g9).tr g2).f ⟨s1, s2, ⟨by rw [y1, y2], fun _ => by rw [y1, y2], fun z => absurd z nz⟩, fun z => absurd z nz, by rw [ea]; exact hJ.2.2.2.2⟩ (fun _ => Nat.le_refl _) ?_ (fun R => ?_)
          · rw [pC, bT_inv hT, bnd (W 4 (by decide))]
            dsimp only
            rw [i_bi_f c4, txt_w hX (by decide), bT_inv hT, bnd (W 8 (by decide))]
            dsimp only
            rw [i_bi_f c8, txt_w hX (by decide), bT_inv hT, bnd (W 9 (by decide))]
            dsimp only
            rw [i_bi_f c9, bT_inv hT, bnd e1]
          · unfold lM1
            rw [bM_inv hM, i0]
            dsimp only
            rw [i_bi_f n0, bM_inv hM, i4]
            dsimp only
            rw [i_bi_f n4, bM_inv hM, bnd e8']
            dsimp only
            rw [i_bi_f n8, bM_inv hM, bnd e9']
            dsimp only
            rw [i_bi_f n9, bM_inv hM, bnd e2]
theorem loop_j (hT : isTp μ t) (hL : isL μ a) (sep : t + 1 < a) (hca : c ≤ t) (hM : isM μ m) (hXI : isX μ c I) (hcm : c ≤ m) (hn : 20000 ≤ n) : ∀ (d k1 k2 : Nat) (J : Nat → Nat → Int) (s : Ld) (q p : Nat) (F G : Fp) (v : Int), isX μ c J → JS J s t a z P q p F G → 0 ≤ v ∧ v ≤ 901 ∧ (F.1 = 0 → v ≤ q) → 1 ≤ d ∧ (F.1 = 0 → z - q + 1 < d) → d ≤ k1 → d ≤ k2 → ∃ (K : Nat → Nat → Int) (u : Ld) (q' p' : Nat) (F' G' : Fp), lpC n t a k1 v (wi μ J) = some ((), wi μ K) ∧ lpM n m k2 () (wi μ (wm I m s)) = endM n m (wi μ (wm I m u)) ∧ jF J K t a ∧ rF s u ∧ JS K u t a z P q' p' F' G'
  | 0, k1, k2, J, s, q, p, F, G, v, hX, hJ, hv, hd, h1, h2 => absurd hd.1 (by omega)
  | d + 1, 0, k2, J, s, q, p, F, G, v, hX, hJ, hv, hd, h1, h2 => absurd h1 (by omega)
  | d + 1, k1 + 1, 0, J, s, q, p, F, G, v, hX, hJ, hv, hd, h1, h2 => absurd h2 (by omega)
  | d + 1, k1 + 1, k2 + 1, J, s, q, p, F, G, v, hX, hJ, hv, hd, h1, h2 => by
    obtain ⟨hS, hR, hA, -⟩ := id hJ
    have z4 := hS.1.1
    have z9 := hS.1.2.1
    have t5 := hS.2.1.1
    have t1 := hS.2.2.2.1
    have rF1 := hS.2.2.2.2.2
    have s9 := hR.2.1.1
    have s11 := hR.2.2.2.1
    have kr := ck_rg (tK (bts P) z q)
    have k0 := ck_0 (tK_le (bts P) z q)
    have kp := tK_le (bts P) z p
    have kq := tK_le (bts P) z q
    have hG1 := hA.1
    show ∃ (K : Nat → Nat → Int) (u : Ld) (q' p' : Nat) (F' G' : Fp), ((gI (wi μ J) 9 t 4).bind fun x43 => if lt32 x43 v then some ((), wi μ J) else (gI (wi μ J) 9 t 5).bind fun x50 => if eq32 x50 0 then some ((), wi μ J) else (gI (wi μ J) 9 t 1).bind fun x57 => if eq32 x57 0 then (inv (wi μ J) 9 t (mX8_readLine n t a (wi μ J))).bind fun p65 => lpC n t a k1 (v + 1) p65.2 else some ((), wi μ J)) = some ((), wi μ K) ∧ ((gI (wi μ (wm I m s)) 12 m 11).bind fun x54 => if eq32 x54 0 then (gI (wi μ (wm I m s)) 12 m 9).bind fun x61 => if eq32 x61 13 then endM n m (wi μ (wm I m s)) else lM1 n m (fun ν => lpM n m k2 () ν) (wi μ (wm I m s)) else endM n m (wi μ (wm I m s))) = endM n m (wi μ (wm I m u)) ∧ jF J K t a ∧ rF s u ∧ JS K u t a z P q' p' F' G'
    rw [bP_gI hT, z4, bM_gI hM, s11]
    by_cases cF : F.1 = 0
    · have hqp := hA.2.2 cF
      have hq := hS.2.2.1
      have hv3 := hv.2.2 cF
      rw [i_lt_f (by omega), bP_gI hT, t5, i_eq_t (x := G.1) (y := 0) (by omega), bM_gI hM, s9]
      by_cases c13 : tK (bts P) z q = 13
      · rw [i_eq_t (k0.mpr c13), i_eq_t (x := ((tK (bts P) z p : Nat) : Int)) (y := 13) (by rw [← hqp, c13]; rfl)]
        exact ⟨J, s, q, p, F, G, rfl, rfl, jF.rf, rF.rf, hJ⟩
      · obtain ⟨K, u, q', p', F', G', e1, e2, f1, f2, js, lq⟩ := line_j (n := n) hT hL sep hca hX hM hXI hcm hJ cF hn
        rw [i_eq_f (x := ck (tK (bts P) z q)) (y := 0) (by omega), bP_gI hT, t1, i_eq_t cF, bT_inv hT, bnd e1, i_eq_f (x := ((tK (bts P) z p : Nat) : Int)) (y := 13) (by rw [← hqp]; omega), e2]
        dsimp only
        have hd2 := hd.2 cF
        have xK : isX μ c K := hX.cg (fun b hb => f1.1 b (by omega) (by omega))
        have zq := js.1.2.2.1
        obtain ⟨K', u', q2, p2, F2, G2, x1, x2, x3, x4, x5⟩ := loop_j hT hL sep hca hM hXI hcm hn d k1 k2 K u q' p' F' G' (v + 1) xK js ⟨by omega, by omega, fun zz => by have := lq zz; omega⟩ ⟨by omega, fun zz => by have := lq zz; omega⟩ (by omega) (by omega)
        exact ⟨K', u', q2, p2, F2, G2, x1, x2, f1.tr x3, f2.tr x4, x5⟩
    · have e2 : (if eq32 G.1 0 then (gI (wi μ (wm I m s)) 12 m 9).bind fun x61 => if eq32 x61 13 then endM n m (wi μ (wm I m s)) else lM1 n m (fun ν => lpM n m k2 () ν) (wi μ (wm I m s)) else endM n m (wi μ (wm I m s))) = endM n m (wi μ (wm I m s)) := i_eq_f (by omega)
      refine ⟨J, s, q, p, F, G, ?_, e2, jF.rf, rF.rf, hJ⟩
      by_cases cv : (z : Int) < v
      · rw [i_lt_t (by omega)]
      · rw [i_lt_f (by omega), bP_gI hT, t5]
        by_cases ce : ck (tK (bts P) z q) = 0
        · rw [i_eq_t ce]
        · rw [i_eq_f (by omega), bP_gI hT, t1, i_eq_f (by omega)]
end TJ
