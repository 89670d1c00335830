/-! land: the call -/
section LB
variable {μ : Mem} {I : Nat → Nat → Int} {c n : Nat}
theorem both_land (hC : isC μ c) (hM : isM μ (c + 193)) (hR : RelC c I) (hX : isX μ c I) {b : Int} (hb : -2147483648 ≤ b ∧ b < 2147483648) (hn : 20000 ≤ n) : Both μ c I (mX10_land n c b) (mX11_land n (c + 193) b) := by
  obtain ⟨t0, t1, t2, t3, t4⟩ := id hR.2.2.2
  have hP := hC.tp
  have hL := hC.trial
  have hH := hC.here
  by_cases cr : 0 ≤ b ∧ b ≤ I (c + 1) 0
  · obtain ⟨z, hz⟩ : ∃ z : Nat, b = (z : Int) := ⟨b.toNat, by omega⟩
    have s5 : ld I (c + 193) 0 5 = I (c + 1) 0 := t0.symm
    have run : ∀ X : Nat → Nat → Int, isX μ c X → _ := fun X hXX => text_j (n := n) (I := X) (J := I) (s := ld I (c + 193)) (t := c + 1) (a := c + 16) (m := c + 193) (c := c) (z := z) hP hL (by omega) (by omega) hX hM hXX (by omega) hz (by omega) (fun i hi => (t2 i hi).1) ⟨by omega, by omega⟩ (fun i hi => (t2 i (by omega)).2 (by omega)) hn
    obtain ⟨K, -, -, -, -, -, eK, -, fK, -, -, -, -⟩ := run I hX
    have xK : isX μ c K := hX.cg (fun b hb => fK b (by omega) (by omega))
    -- behind the class's text
    obtain ⟨J, v, eJ, jo, j1, jc⟩ : ∃ (J : Nat → Nat → Int) (v : Int), mX10_land n c b (wi μ I) = some (v, wi μ J) ∧ (∀ b : Nat, ¬ (c + 3 ≤ b ∧ b ≤ c + 15) → J b = K b) ∧ (K (c + 1) 1 = 0 → EqL (ld K (c + 16)) (ld J (c + 3)) ∧ v = K (c + 16) 5) ∧ (-2147483648 ≤ K (c + 1) 1 ∧ K (c + 1) 1 < 2147483648 → K (c + 1) 1 ≠ 0 → J = K ∧ v = -30 - K (c + 1) 1) := by
      have pre : mX10_land n c b (wi μ I) = (if eq32 (K (c + 1) 1) 0 then (gA (wi μ K) 11 c 1).bind fun x52 => (gA (wi μ K) 11 c 2).bind fun x56 => (inv (wi μ K) 2 x52 (mX1_takeAll n x52 x56 (wi μ K))).bind fun p59 => (gA p59.2 11 c 1).bind fun x63 => (gI p59.2 2 x63 5).bind fun x66 => some (x66, p59.2) else (gA (wi μ K) 11 c 0).bind fun x43 => (gI (wi μ K) 9 x43 1).bind fun x46 => some (((-30) - x46), wi μ K)) := by
        unfold mX10_land
        rw [i_lt_f (by omega), bC_g0 hC, bP_gI hP, i_lt_f (by omega), bC_g0 hC, bC_g2 hC, bT_inv hP, bnd eK]
        dsimp only
        rw [bC_g0 hC, bP_gI hP]
      obtain ⟨m, ht, hm⟩ := takeAll_w (n := n) (I := K) (a := c + 3) (b := c + 16) hH hL (by omega)
      have w : ld (wl K (c + 3) m) (c + 3) 0 5 = m 0 5 := congrFun (wl_row (I := K) (a := c + 3) (l := m) (k := 0) (by decide)) 5
      by_cases cz : eq32 (K (c + 1) 1) 0
      · refine ⟨wl K (c + 3) m, m 0 5, ?_, fun b hb => wl_out (by omega), fun _ => ⟨fun k i hk hi => ?_, hm.z (by decide)⟩, fun r nz => ?_⟩
        · rw [pre, if_pos cz, bC_g1 hC, bC_g2 hC, bL_inv hH, bnd ht]
          dsimp only
          rw [bC_g1 hC, bL_gI hH, w]
        · rw [show ld (wl K (c + 3) m) (c + 3) k = m k from wl_row hk]
          exact hm k i hk hi
        · exact absurd ((eq32_iff r.1 r.2 (by omega) (by omega)).mp cz) nz
      · refine ⟨K, -30 - K (c + 1) 1, ?_, fun _ _ => rfl, fun e => absurd (by rw [e]) cz, fun _ _ => ⟨rfl, rfl⟩⟩
        rw [pre, if_neg cz, bC_g0 hC, bP_gI hP]
    have xJ : isX μ c J := xK.cg (fun b hb => jo b (by omega))
    obtain ⟨K', u, q, p, F, G, eK', eM, -, k0, fu, u5, js⟩ := run J xJ
    have ek : K' = K := wi_inj (congrArg Prod.snd (Option.some.inj (eK'.symm.trans eK)))
    rw [ek] at k0 js
    obtain ⟨cs, rs, al, tl, -⟩ := js
    obtain ⟨u', eE, w1, w2, w3, w4, w5, w6⟩ := end_w (n := n) (I := J) hM rs hn
    have F1 : K (c + 1) 1 = F.1 := cs.2.2.2.1
    have F2 : K (c + 1) 2 = F.2 := cs.2.2.2.2.1
    have Fr := cs.2.2.2.2.2
    have sJ : ld J (c + 193) = ld I (c + 193) := funext fun k => (jo _ (by omega)).trans (fK _ (by omega) (by omega))
    have el := ldwm (μ := μ) J (c + 193)
    rw [sJ] at el
    rw [el, eE] at eM
    have su : ∀ k : Nat, k ≠ 0 → k ≠ 4 → u k = I (c + 193 + k) := fun k h0 h4 => fu k h0 h4
    have w0 : wm J (c + 193) u' (c + 193) = u' 0 := wm_row (k := 0) (by decide)
    have w' : ∀ k : Nat, k ≤ 21 → wm J (c + 193) u' (c + 193 + k) = u' k := fun k hk => wm_row hk
    have o1 : ∀ b : Nat, b < c + 193 → wm J (c + 193) u' b = J b := fun b hb => wm_out (by omega)
    have jI : ∀ b : Nat, b ≠ c + 1 → ¬ (c + 3 ≤ b ∧ b ≤ c + 28) → J b = I b := fun b h1 h2 => (jo b (by omega)).trans (fK b h1 (by omega))
    have j1r : J (c + 1) = K (c + 1) := jo _ (by omega)
    have ev : v = (if G.1 = 0 then u 4 5 else -30 - G.1) := by
      by_cases cz : F.1 = 0
      · rw [if_pos (by rw [← al.1]; exact cz), (j1 (by rw [F1]; exact cz)).2]
        exact (tl cz).2.1.1.2.2.2.2.symm
      · rw [if_neg (by rw [← al.1]; exact cz), (jc (by rw [F1]; omega) (by rw [F1]; exact cz)).2, F1, al.1]
    rw [← ev] at eM
    refine ⟨v, J, wm J (c + 193) u', eJ, eM, ?_, fun b hb => ?_⟩
    · refine hR.mk2 (fun b hb => ?_) ?_ ?_ ?_ ?_ (fun j hj => ?_) ?_ ⟨?_, ?_, fun k hk => ⟨?_, fun hlt => ?_⟩, ?_, ?_⟩
      · rw [o1 b (by omega), jI b (by omega) (by omega)]
      · rw [w' 2 (by decide), w1 2 (by decide) (by decide), su 2 (by decide) (by decide)]
      · rw [w' 19 (by decide), w1 19 (by decide) (by decide), su 19 (by decide) (by decide)]
      · rw [w' 20 (by decide), w1 20 (by decide) (by decide), su 20 (by decide) (by decide)]
      · rw [w' 21 (by decide), w1 21 (by decide) (by decide), su 21 (by decide) (by decide)]
      · rw [w' 1 (by decide), w5 j hj, su 1 (by decide) (by decide)]
      · rw [w' 1 (by decide)]
        by_cases cz : F.1 = 0
        · have r1 := (j1 (by rw [F1]; exact cz)).1.rl (tl cz).rl
          have r2 := r1.row (B := u' 1) (fun j hj => by rw [w6 j hj, if_pos (by rw [← al.1]; exact cz)])
          exact r2.cg (fun k hk => o1 _ (by omega))
        · have r1 := (jc (by rw [F1]; omega) (by rw [F1]; exact cz)).1
          have r2 := hR.1.row (B := u' 1) (fun j hj => by rw [w6 j hj, if_neg (by rw [← al.1]; exact cz), su 1 (by decide) (by decide)])
          exact r2.cg (fun k hk => (o1 (c + 3 + k) (by omega)).trans (by rw [r1, fK _ (by omega) (by omega)]; rfl))
      · rw [o1 (c + 1) (by omega), j1r, k0, w0, w2 5 (by decide) (by decide), u5]
      · rw [o1 (c + 1) (by omega), j1r, k0]; omega
      · rw [o1 (c + 2) (by omega), jI (c + 2) (by omega) (by omega)]
        exact (t2 k hk).1
      · rw [o1 (c + 1) (by omega), j1r, k0] at hlt
        omega
      · rw [o1 (c + 1) (by omega), j1r, F1, w0, w3, al.1]
      · rw [o1 (c + 1) (by omega), j1r, F2, w0, w4]
        by_cases cz : F.1 = 0
        · rw [if_pos (by rw [← al.1]; exact cz)]
          exact Fr.2.2 cz
        · rw [if_neg (by rw [← al.1]; exact cz), al.2.1 cz]
    · exact ⟨by rw [o1 b (by omega), jI b (by omega) (by omega)], jI b (by omega) (by omega)⟩
  · refine Both.q (v := -3) hR ?_ ?_
    · unfold mX10_land
      by_cases c0 : b < 0
      · rw [i_lt_t (by omega)]
      · rw [i_lt_f (by omega), bC_g0 hC, bP_gI hP, i_lt_t (by omega)]
    · have g5 : up2 (ld I (c + 193)) 0 0 0 0 5 = I (c + 1) 0 := (up2_n (by decide)).trans t0.symm
      rw [land_s, bM_pI hM, bM_gI hM, g5, oI2l_of (x := I (c + 1) 0) (by omega) (by omega), within_w (by omega) (by omega) (by omega)]
      dsimp only
      rw [i_bi_f (by omega)]
end LB
