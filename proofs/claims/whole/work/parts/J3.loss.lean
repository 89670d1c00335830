/-! loss, of both -/
section BLO
variable {μ : Mem} {I : Nat → Nat → Int} {c n : Nat}
theorem FrW.r1 {s : Ld} {j : Nat} {x : Int} (hj : j < 220) : FrW s (up2 s 1 j x) := ⟨⟨up2_row (by decide), up2_row (by decide), up2_row (by decide), up2_row (by decide), up2_row (by decide)⟩, fun k _ _ => by rw [up2_row (by decide)], fun k hk => up2_n (by omega)⟩
theorem both_loss (hC : isC μ c) (hM : isM μ (c + 193)) (hs : hasS μ c) (hR : RelC c I) {b x : Int} (hb : -2147483648 ≤ b ∧ b < 2147483648) (hx : -2147483648 ≤ x ∧ x < 2147483648) (hn : 20000 ≤ n) : BothS μ c I (mX10_loss n c b x) (mX11_loss n (c + 193) b x) := by
  obtain ⟨hk, lr, lq, h0, h9⟩ := id hR.1
  have hz := hk.1
  have hH := hC.here
  have s1 := s1_of (I := I) (J := I) (c := c) rfl
  have lr' : LR (ld I (c + 3)) (up2 (ld I (c + 193)) 0 0 0 1) := by rw [s1]; exact lr
  by_cases ch : 0 ≤ b ∧ b < ld I (c + 3) 0 0
  · obtain ⟨q, rfl⟩ : ∃ q : Nat, b = (q : Int) := ⟨b.toNat, by omega⟩
    by_cases cx : 0 ≤ x ∧ x < ld I (c + 3) 0 1
    · obtain ⟨r, rfl⟩ : ∃ r : Nat, x = (r : Int) := ⟨x.toNat, by omega⟩
      have g9 := (hk.2.2.1 r cx.2).2.2.2.2.1
      by_cases c9 : ld I (c + 3) 9 r = 0
      · obtain ⟨H, hHe⟩ : ∃ H : Nat, (H : Int) = ld I (c + 3) 0 0 := ⟨(ld I (c + 3) 0 0).toNat, by omega⟩
        obtain ⟨R, hRe⟩ : ∃ R : Nat, (R : Int) = ld I (c + 3) 0 1 := ⟨(ld I (c + 3) 0 1).toNat, by omega⟩
        have hbd := qn_rg hR.1 (q := q) ch.2
        have A204 : I (c + 193 + 1) (204 + r) = 0 := by rw [(lr.2.2 r cx.2).2.2.2.2.2.2.2.2]; exact c9
        -- the class's first search
        obtain ⟨ν, K1, e1, sm, m11, hE, n2, w2, k1⟩ := searcher_eq (n := n) (J := I) hC hs
        have hC2 := hC.sm sm
        have hM2 := hM.sm sm
        have hsn : hasS ν c := Or.inr ⟨m11, hE, n2⟩
        have gr : Grow μ ν c := ⟨sm, hC2, hM2, hsn, by
          rcases w2 with ⟨w, w'⟩ | ⟨w, w'⟩
          · exact Or.inl ⟨w, by omega⟩
          · exact Or.inr ⟨w, w', n2⟩⟩
        have nl : ∀ k : Nat, k ≤ 12 → ld K1 (c + 3) k = ld I (c + 3) k := fun k hk' => k1 _ (by omega)
        obtain ⟨K2, v1, e2, fq, v13, alt⟩ := fewestHours_eq (n := n) (J := K1) (l := ld I (c + 3)) (G := 1) (sk := q) (b3 := -1) hE hC2.here (by omega) hk hRe hHe (by decide) (by omega) hn (by decide) (hk.cg nl) ⟨fun k hk' _ => nl k hk', fun r' _ => by rw [nl 9 (by decide)]; exact ⟨fun w => ⟨w, by omega⟩, fun w => w.1⟩⟩ rfl rfl
        have kI : ∀ b : Nat, b < c + 215 → K2 b = I b := fun b hb' => (fq b (Or.inl hb')).trans (k1 b hb')
        have cpre : ∀ {v : Int} {J : Nat → Nat → Int}, (if eq32 v1 (-4) then some ((-4), wi ν K2) else if eq32 v1 (-1) then some ((-5), wi ν K2) else (inv (wi ν K2) 11 c (mX10_searcher n c (wi ν K2))).bind fun p69 => (inv p69.2 5 p69.1 (mX4_fewestHours n p69.1 (q : Int) 1 (r : Int) p69.2)).bind fun p75 => if eq32 p75.1 (-4) then some (p75.1, p75.2) else if eq32 p75.1 (-1) then some (p75.1, p75.2) else some ((p75.1 - v1), p75.2)) = some (v, wi ν J) → mX10_loss n c (q : Int) (r : Int) (wi μ I) = some (v, wi ν J) := fun {v J} w => by
          unfold mX10_loss
          rw [bC_g1 hC, bL_inv hH, hasHouse_w hH hk hb]
          dsimp only
          rw [i_bi_t ch, bC_g1 hC, bL_inv hH, hasRope_w hH hk hx]
          dsimp only
          rw [i_bi_t cx, bC_g1 hC, bL_g14 hH, bL_ld9 hH (by omega) (by omega), Int.toNat_natCast, i_eq_t c9, bC_inv hC, bnd e1]
          dsimp only
          rw [bE_inv hE, bnd e2]
          exact w
        -- the reference's first search, on any memory of the class
        have ref : ∀ K : Nat → Nat → Int, (∀ b : Nat, b < c + 215 → K b = I b) → ∃ u : Ld, mX11_soonestOf n (c + 193) (q : Int) 1 (wi ν (wm K (c + 193) (up2 (ld K (c + 193)) 0 0 0))) = some (v1, wi ν (wm K (c + 193) u)) ∧ FrW (ld K (c + 193)) u ∧ u 1 = I (c + 193 + 1) ∧ (v1 = -4 ∨ v1 = -1 ∨ 1 ≤ v1) ∧ (∀ {v : Int} {w : Ld}, (if eq32 v1 (-4) then some ((-4), wi ν (wm K (c + 193) u)) else if eq32 v1 (-1) then some ((-5), wi ν (wm K (c + 193) u)) else (gA (wi ν (wm K (c + 193) u)) 12 (c + 193) 1).bind fun x62 => (stI (wi ν (wm K (c + 193) u)) 0 x62 (204 + (r : Int)) 1).bind fun μ71 => (inv μ71 12 (c + 193) (mX11_soonestOf n (c + 193) (q : Int) 1 μ71)).bind fun p75 => (gA p75.2 12 (c + 193) 1).bind fun x81 => (stI p75.2 0 x81 (204 + (r : Int)) 0).bind fun μ90 => if lt32 p75.1 0 then some (p75.1, μ90) else some ((p75.1 - v1), μ90)) = some (v, wi ν (wm K (c + 193) w)) → mX11_loss n (c + 193) (q : Int) (r : Int) (wi ν K) = some (v, wi ν (wm K (c + 193) w))) := fun K hK => by
          have s2 := s1_of (I := I) (J := K) (c := c) (hK _ (by omega))
          have lrK : LR (ld I (c + 3)) (up2 (ld K (c + 193)) 0 0 0 1) := by rw [s2]; exact lr
          obtain ⟨u, a, e3, fw, u1, alt2⟩ := soonestOf_eq (n := n) (I := K) (s := up2 (ld K (c + 193)) 0 0 0) (l := ld I (c + 3)) (h := q) (G := 1) hM2 lrK hk hRe hHe (by omega) hbd (by decide) hn rfl rfl
          obtain ⟨er, sg⟩ := soon_un (by decide) hk hHe (opn_of hRe) rfl alt alt2
          rw [er] at e3
          refine ⟨u, e3, (Fr.f0 _ (Or.inl rfl)).w.tr fw, u1.trans s2, sg, fun {v w} hw => ?_⟩
          rw [← ldwm K (c + 193)]
          unfold mX11_loss
          rw [bM_pI hM2, bM_inv hM2, isHouse_w hM2 lrK hk hb]
          dsimp only
          rw [i_bi_t ch, bM_inv hM2, isRope_w hM2 lrK hk hx]
          dsimp only
          rw [i_bi_t cx, bM_inv hM2, mhangs_w hM2 lrK hk cx.2]
          dsimp only
          rw [i_bi_t c9, bM_inv hM2, bnd e3]
          exact hw
        have fin : ∀ (v : Int) (K : Nat → Nat → Int) (w : Ld), (∀ b : Nat, b < c + 215 → K b = I b) → mX10_loss n c (q : Int) (r : Int) (wi μ I) = some (v, wi ν K) → mX11_loss n (c + 193) (q : Int) (r : Int) (wi ν K) = some (v, wi ν (wm K (c + 193) w)) → FrW (ld K (c + 193)) w → w 1 = I (c + 193 + 1) → BothS μ c I (mX10_loss n c (q : Int) (r : Int)) (mX11_loss n (c + 193) (q : Int) (r : Int)) := fun v K w hK a1 a2 a3 a4 => BothS.mk (ν := ν) (J := K) (s' := w) (v := v) hR (fun b b1 b2 => hK b (by unfold tmp at b1; omega)) a1 a2 a3 (by rw [a4]; exact hR.1.cg (fun k hk' => hK _ (by omega))) gr
        obtain ⟨u, e3, fu, u1, sg, rp⟩ := ref K2 kI
        by_cases d4 : v1 = -4
        · exact fin (-4) K2 u kI (cpre (by rw [i_eq_t d4])) (rp (by rw [i_eq_t d4])) fu u1
        · by_cases d1 : v1 = -1
          · exact fin (-5) K2 u kI (cpre (by rw [i_eq_f (by omega), i_eq_t d1])) (rp (by rw [i_eq_f (by omega), i_eq_t d1])) fu u1
          · -- the second search, without the rope
            obtain ⟨ν', K3, e4, sm', m11', hE', n2', w2', k3⟩ := searcher_eq (n := n) (J := K2) hC2 hsn
            have same : mX10_searcher n c (wi ν K2) = some (c + 215, wi ν K2) := by
              have g11 : gA (wi ν K2) 11 c 11 = some (mA ν c 11) := if_pos hC2.k
              rw [searcher_s, bnd g11, m11, if_neg (by omega), bnd g11, m11]
            have kc := okL_cut hk (r := r) (x := 1) (Or.inr rfl)
            have l20 : up2 (ld I (c + 3)) 9 r 1 0 = ld I (c + 3) 0 := up2_row (by decide)
            have hd2 : hd (up2 (ld I (c + 3)) 9 r 1) q = hd (ld I (c + 3)) q := by unfold hd; rw [up2_row (by decide), up2_row (by decide)]
            have hRe2 : (R : Int) = up2 (ld I (c + 3)) 9 r 1 0 1 := by rw [l20]; exact hRe
            have hHe2 : (H : Int) = up2 (ld I (c + 3)) 9 r 1 0 0 := by rw [l20]; exact hHe
            have nl2 : ∀ k : Nat, k ≤ 12 → ld K2 (c + 3) k = ld I (c + 3) k := fun k hk' => kI _ (by omega)
            obtain ⟨K4, v2, e5, fq2, v23, alt3⟩ := fewestHours_eq (n := n) (J := K2) (l := up2 (ld I (c + 3)) 9 r 1) (G := 1) (sk := q) (b3 := (r : Int)) hE hC2.here (by omega) kc hRe2 hHe2 (by decide) (by omega) hn (by omega) (hk.cg nl2) ⟨fun k hk' k9 => by rw [nl2 k hk', up2_row k9], fun r' hr' => by
              rw [nl2 9 (by decide)]
              by_cases cr : r' = r
              · subst cr
                rw [up2_s]
                exact ⟨fun w => absurd w (by decide), fun w => absurd rfl w.2⟩
              · rw [up2_n (by omega)]
                exact ⟨fun w => ⟨w, by omega⟩, fun w => w.1⟩⟩ rfl rfl
            have kI4 : ∀ b : Nat, b < c + 215 → K4 b = I b := fun b hb' => (fq2 b (Or.inl hb')).trans (kI b hb')
            obtain ⟨u', e6, fu', u1', -, rp'⟩ := ref K4 kI4
            have lr2 : LR (up2 (ld I (c + 3)) 9 r 1) (up2 u' 1 (204 + r) 1 1) := by
              rw [up2_r, u1']
              exact LR_cut lr hk cx.2 1
            obtain ⟨t, a, e7, fw2, t1, alt4⟩ := soonestOf_eq (n := n) (I := K4) (s := up2 u' 1 (204 + r) 1) (l := up2 (ld I (c + 3)) 9 r 1) (h := q) (G := 1) hM2 lr2 kc hRe2 hHe2 (by omega) (by rw [hd2]; exact hbd) (by decide) hn rfl rfl
            obtain ⟨er2, sg2⟩ := soon_un (by decide) kc hHe2 (opn_of hRe2) rfl alt3 alt4
            rw [er2] at e7
            have i204 : (204 + (r : Int)).toNat = 204 + r := by omega
            have w1 : up2 t 1 (204 + r) 0 1 = I (c + 193 + 1) := by
              rw [up2_r, t1, up2_r, u1', upA_up, upA_id A204]
            have fwW : FrW (ld K4 (c + 193)) (up2 t 1 (204 + r) 0) := ((fu'.tr (FrW.r1 (by omega))).tr fw2).tr (FrW.r1 (by omega))
            have cl : ∀ {v : Int}, (if eq32 v2 (-4) then some (v2, wi ν K4) else if eq32 v2 (-1) then some (v2, wi ν K4) else some ((v2 - v1), wi ν K4)) = some (v, wi ν K4) → mX10_loss n c (q : Int) (r : Int) (wi μ I) = some (v, wi ν K4) := fun {v} hw => cpre (by
              rw [i_eq_f (by omega), i_eq_f (by omega), bC_inv hC2, bnd same]
              dsimp only
              rw [bE_inv hE, bnd e5]
              exact hw)
            have rf : ∀ {v : Int}, (if lt32 v2 0 then some (v2, wi ν (wm K4 (c + 193) (up2 t 1 (204 + r) 0))) else some ((v2 - v1), wi ν (wm K4 (c + 193) (up2 t 1 (204 + r) 0)))) = some (v, wi ν (wm K4 (c + 193) (up2 t 1 (204 + r) 0))) → mX11_loss n (c + 193) (q : Int) (r : Int) (wi ν K4) = some (v, wi ν (wm K4 (c + 193) (up2 t 1 (204 + r) 0))) := fun {v} hw => rp' (by
              rw [i_eq_f (by omega), i_eq_f (by omega), bM_g1 hM2, bM_st1 hM2 (by omega) (by omega), i204, bM_inv hM2, bnd e7]
              dsimp only
              rw [bM_g1 hM2, bM_st1 hM2 (by omega) (by omega), i204]
              exact hw)
            by_cases f4 : v2 = -4
            · exact fin v2 K4 _ kI4 (cl (by rw [i_eq_t f4])) (rf (by rw [i_lt_t (by omega)])) fwW w1
            · by_cases f1 : v2 = -1
              · exact fin v2 K4 _ kI4 (cl (by rw [i_eq_f (by omega), i_eq_t f1])) (rf (by rw [i_lt_t (by omega)])) fwW w1
              · exact fin (v2 - v1) K4 _ kI4 (cl (by rw [i_eq_f (by omega), i_eq_f (by omega)])) (rf (by rw [i_lt_f (by omega)])) fwW w1
      · refine (Both.q (v := -5) hR ?_ ?_).s hC hM hs
        · unfold mX10_loss
          rw [bC_g1 hC, bL_inv hH, hasHouse_w hH hk hb]
          dsimp only
          rw [i_bi_t ch, bC_g1 hC, bL_inv hH, hasRope_w hH hk hx]
          dsimp only
          rw [i_bi_t cx, bC_g1 hC, bL_g14 hH, bL_ld9 hH (by omega) (by omega), Int.toNat_natCast, i_eq_f (by omega)]
        · unfold mX11_loss
          rw [bM_pI hM, bM_inv hM, isHouse_w hM lr' hk hb]
          dsimp only
          rw [i_bi_t ch, bM_inv hM, isRope_w hM lr' hk hx]
          dsimp only
          rw [i_bi_t cx, bM_inv hM, mhangs_w hM lr' hk cx.2]
          dsimp only
          rw [i_bi_f c9]
    · refine (Both.q (v := -2) hR ?_ ?_).s hC hM hs
      · unfold mX10_loss
        rw [bC_g1 hC, bL_inv hH, hasHouse_w hH hk hb]
        dsimp only
        rw [i_bi_t ch, bC_g1 hC, bL_inv hH, hasRope_w hH hk hx]
        dsimp only
        rw [i_bi_f cx]
      · unfold mX11_loss
        rw [bM_pI hM, bM_inv hM, isHouse_w hM lr' hk hb]
        dsimp only
        rw [i_bi_t ch, bM_inv hM, isRope_w hM lr' hk hx]
        dsimp only
        rw [i_bi_f cx]
  · refine (Both.q (v := -2) hR ?_ ?_).s hC hM hs
    · unfold mX10_loss
      rw [bC_g1 hC, bL_inv hH, hasHouse_w hH hk hb]
      dsimp only
      rw [i_bi_f ch]
    · unfold mX11_loss
      rw [bM_pI hM, bM_inv hM, isHouse_w hM lr' hk hb]
      dsimp only
      rw [i_bi_f ch]
end BLO
