/-! the reference: cheapest, whole -/
section CJ
variable {μ : Mem} {I : Nat → Nat → Int} {m n o H h R : Nat} {ro : Nat → Nat} {l : Ld} {b : Int}
def HA (l : Ld) (o H : Nat) (ro : Nat → Nat) (s : Ld) : Prop := (∃ L0 : Ld, LR L0 (s 1) ∧ vL l L0 ∧ hngM s o ro L0) ∧ ∀ k : Nat, k < H → -1 ≤ s 5 k ∧ s 5 k ≤ 15
theorem PL.cg {x0 : Int} {Sp : Int → Int → Int → Prop} {k z : Nat} {S P T Q : Nat → Int} (h : PL x0 Sp k S P z) (e : ∀ j : Nat, j < z → T j = S j ∧ Q j = P j) : PL x0 Sp k T Q z := by
  refine ⟨fun i hi => ?_, fun x c hx => ?_⟩
  · rw [(e i hi).1, (e i hi).2]; exact h.1 i hi
  · obtain ⟨i, q1, q2, q3⟩ := h.2 x c hx
    exact ⟨i, q1, by rw [(e i q1).1]; exact q2, by rw [(e i q1).2]; exact q3⟩
theorem chO_l (hM : isM μ m) (hkl : okL l) (hH : (H : Int) = l 0 0) (hH4 : H ≤ 4) (op : opn l o ro R) (hh : h < H) (hb : 0 ≤ b ∧ b ≤ 1000000) (hn : 20000 ≤ n) (v0 : VG l h b 1 l) {N : Nat} (hN : 1 ≤ N ∧ N ≤ 6) : ∀ (d kk k z : Nat) (s : Ld), k + d = N → d + 1 < kk → HA l o H ro s → z ≤ 3000 → PL (kM o H h ro b l) (SpL (kM o H h ro b) l o H h ro b) k (s 11) (s 12) z → Fm (kM o H h ro b l) (SpL (kM o H h ro b) l o H h ro b) (GpL (kM o H h ro b) l o H h ro b) k (s 0 31) → (∀ j : Nat, 1 ≤ j → j ≤ k → j < N → ¬ mnC (kM o H h ro b l) (SpL (kM o H h ro b) l o H h ro b) j) → ∃ (u : Ld) (v : Int), lp (chO n m (h : Int) b (N : Int)) kk ((z : Int), (k : Int) + 1) (wi μ (wm I m s)) = chE n m v (wi μ (wm I m u)) ∧ FG H s u ∧ (0 ≤ v ∧ v ≤ 3001) ∧ Ac (kM o H h ro b l) (SpL (kM o H h ro b) l o H h ro b) (GpL (kM o H h ro b) l o H h ro b) N (if 3000 < v then -4 else u 0 31)
  | d, 0, k, z, s, h1, h2, hA, hz, hP, hF, hm => absurd h2 (by omega)
  | 0, kk + 1, k, z, s, h1, h2, hA, hz, hP, hF, hm => by
    have ek : k = N := by omega
    subst ek
    refine ⟨s, (z : Int), ?_, FG.rf, by omega, ?_⟩
    · generalize hB : lp (chO n m (h : Int) b (k : Int)) kk = self
      show chO n m (h : Int) b (k : Int) (lp (chO n m (h : Int) b (k : Int)) kk) ((z : Int), (k : Int) + 1) (wi μ (wm I m s)) = _
      rw [hB]
      unfold chO
      dsimp only
      rw [i_lt_t (by omega)]
    · rw [if_neg (by omega)]
      exact Or.inr ⟨fun j a b => hm j a (by omega) b, hF⟩
  | d + 1, kk + 1, k, z, s, h1, h2, hA, hz, hP, hF, hm => by
    have ih := chO_l hM hkl hH hH4 op hh hb hn v0 hN d kk (k + 1)
    have stopN : ∀ (x : Int) (u : Ld), lp (chO n m (h : Int) b (N : Int)) kk (x, (N : Int) + 1) (wi μ (wm I m u)) = chE n m x (wi μ (wm I m u)) := fun x u => by
      cases kk with
      | zero => exact absurd h2 (by omega)
      | succ kk =>
        generalize hB : lp (chO n m (h : Int) b (N : Int)) kk = self
        show chO n m (h : Int) b (N : Int) (lp (chO n m (h : Int) b (N : Int)) kk) (x, (N : Int) + 1) (wi μ (wm I m u)) = _
        rw [hB]
        unfold chO
        dsimp only
        rw [i_lt_t (by omega)]
    have stopM : ∀ (x : Nat) (j : Int) (u : Ld), 3000 < x → x ≤ 3001 → 0 ≤ j ∧ j ≤ (N : Int) → lp (chO n m (h : Int) b (N : Int)) kk ((x : Int), j) (wi μ (wm I m u)) = chE n m (x : Int) (wi μ (wm I m u)) := fun x j u hx hx3 hj => by
      cases kk with
      | zero => exact absurd h2 (by omega)
      | succ kk =>
        generalize hB : lp (chO n m (h : Int) b (N : Int)) kk = self
        show chO n m (h : Int) b (N : Int) (lp (chO n m (h : Int) b (N : Int)) kk) ((x : Int), j) (wi μ (wm I m u)) = _
        rw [hB]
        unfold chO
        dsimp only
        rw [i_lt_f (by omega), i_lt_t (by omega)]
    generalize hB : lp (chO n m (h : Int) b (N : Int)) kk = self at ih stopN stopM
    obtain ⟨u1, e1, g1, g2⟩ := clT_l (I := I) (K := chYr n m (h : Int) b (N : Int) self ((z : Int), (k : Int) + 1)) hM 8192 n 0 s (by omega) (by omega) (fun j hj => absurd hj (by omega))
    have fr := Fm.rg v0 hH4 hF
    have f31 : up2 u1 0 26 0 0 31 = s 0 31 := by rw [up2_n (by decide), g1 0 (by decide)]
    have r2 : ∀ j : Nat, j ≠ 0 → j ≠ 9 → up2 u1 0 26 0 j = s j := fun j j0 j9 => by rw [up2_row j0, g1 j j9]
    have sf : SF l o H ro (up2 u1 0 26 0) 0 := by
      obtain ⟨⟨L0, a1, a2, a3⟩, a5⟩ := hA
      refine ⟨⟨⟨L0, by rw [r2 1 (by decide) (by decide)]; exact a1, a2, ?_⟩, ⟨up2_s, by decide, HT.empty (fun j hj => by rw [up2_row (by decide)]; exact g2 j hj), fun i hi => absurd hi (by omega)⟩, fun j hj => by rw [r2 5 (by decide) (by decide)]; exact a5 j hj⟩, fun i hi => absurd hi (by omega), by rw [f31]; omega, by rw [f31]; omega⟩
      exact ⟨by rw [up2_n (by decide), g1 0 (by decide)]; exact a3.1, a3.2.1, fun j hj => by rw [r2 10 (by decide) (by decide)]; exact a3.2.2.1 j hj, a3.2.2.2⟩
    have hS : ∀ j : Nat, j < z → (∃ L : Ld, VG l h b 1 L ∧ s 11 j = kM o H h ro b L) ∧ 0 ≤ s 12 j ∧ s 12 j ≤ 90000 := fun j hj => by
      obtain ⟨q1, q2, q3⟩ := Ck.vg v0 hH4 k _ _ (hP.1 j hj)
      exact ⟨q1, q2, by omega⟩
    obtain ⟨u3, z1, e3, t1, t2, t3⟩ := chP_l (n := n) (I := I) (M := (N : Int)) hM hkl hH hH4 op hh hb hn self (hr := (k : Int) + 1) hz hS z n 0 (up2 u1 0 26 0) 0 (by omega) (by omega) sf (fun j hj => by rw [r2 11 (by decide) (by decide), r2 12 (by decide) (by decide)]; exact ⟨rfl, rfl⟩) (AdL.rf (fun x c w => by obtain ⟨j, hj, -⟩ := w; omega) (fun c w => by obtain ⟨j, hj, -⟩ := w; omega))
    rw [f31] at t3
    have us := t1.1.2.1
    obtain ⟨w1, w2, w3⟩ := hP.st hF t3 us.2.2.1.2.2.1 us.2.1
    have fg : FG H s u3 := FG.tr ⟨fun j j0 _ _ _ j9 _ _ _ => r2 j j0 j9, fun j j26 _ => by rw [up2_n (by omega), g1 0 (by decide)], fun j _ => by rw [r2 1 (by decide) (by decide)]⟩ t2.g
    have e1' : lp (clT m (Int × Mem) (chYr n m (h : Int) b (N : Int) self ((z : Int), (k : Int) + 1))) n 0 (wi μ (wm I m s)) = chYr n m (h : Int) b (N : Int) self ((z : Int), (k : Int) + 1) (wi μ (wm I m u1)) := e1
    have e3' : lp (chP n m (h : Int) b (N : Int) self ((z : Int), (k : Int) + 1)) n 0 (wi μ (wm I m (up2 u1 0 26 0))) = chQ n m (N : Int) self ((z : Int), (k : Int) + 1) (wi μ (wm I m u3)) := e3
    have pre : ∀ (u' : Ld) (v : Int), chQ n m (N : Int) self ((z : Int), (k : Int) + 1) (wi μ (wm I m u3)) = chE n m v (wi μ (wm I m u')) → lp (chO n m (h : Int) b (N : Int)) (kk + 1) ((z : Int), (k : Int) + 1) (wi μ (wm I m s)) = chE n m v (wi μ (wm I m u')) := fun u' v e => by
      show chO n m (h : Int) b (N : Int) (lp (chO n m (h : Int) b (N : Int)) kk) ((z : Int), (k : Int) + 1) (wi μ (wm I m s)) = _
      rw [hB]
      unfold chO
      dsimp only
      rw [i_lt_f (by omega), i_lt_f (by omega), e1']
      unfold chYr
      rw [bM_pI hM, e3']
      exact e
    by_cases cN : k + 1 = N
    · refine ⟨u3, (z : Int), pre u3 _ ?_, fg, by omega, ?_⟩
      · unfold chQ
        dsimp only
        rw [i_eq_t (by omega), show (k : Int) + 1 + 1 = (N : Int) + 1 by omega]
        exact stopN _ _
      · rw [if_neg (by omega)]
        rw [cN] at w1
        exact Or.inr ⟨fun j a b => hm j a (by omega) b, w1⟩
    · obtain ⟨u4, e4, x1, x2⟩ := chC_l (I := I) hM self (hr := (k : Int) + 1) us.2.1 z1 n 0 u3 (by omega) (by have := us.2.1; omega) (fun j hj => absurd hj (by omega))
      have fg4 : FG H s u4 := fg.tr ⟨fun j j0 _ _ _ _ j11 j12 _ => x1 j j11 j12, fun j _ _ => by rw [x1 0 (by decide) (by decide)], fun j _ => by rw [x1 1 (by decide) (by decide)]⟩
      have e4' : lp (chC m self (z1 : Int) ((k : Int) + 1)) n 0 (wi μ (wm I m u3)) = self ((z1 : Int), (k : Int) + 1 + 1) (wi μ (wm I m u4)) := e4
      have q2 : chQ n m (N : Int) self ((z : Int), (k : Int) + 1) (wi μ (wm I m u3)) = self ((z1 : Int), (k : Int) + 1 + 1) (wi μ (wm I m u4)) := by
        unfold chQ
        dsimp only
        rw [i_eq_f (by omega), bM_gI hM, us.1, e4']
      by_cases cz : 3000 < z1
      · refine ⟨u4, (z1 : Int), pre u4 _ ?_, fg4, by have := us.2.1; omega, ?_⟩
        · rw [q2]
          exact stopM z1 _ u4 cz us.2.1 (by omega)
        · rw [if_pos (by omega)]
          exact Or.inl ⟨rfl, k + 1, by omega, by omega, w2 cz⟩
      · obtain ⟨w4, w5⟩ := w3 (by omega)
        have ha4 : HA l o H ro u4 := by
          obtain ⟨⟨L0, a1, a2, a3⟩, -, a5⟩ := t1.1
          exact ⟨⟨L0, by rw [x1 1 (by decide) (by decide)]; exact a1, a2, by rw [x1 0 (by decide) (by decide)]; exact a3.1, a3.2.1, fun j hj => by rw [x1 10 (by decide) (by decide)]; exact a3.2.2.1 j hj, a3.2.2.2⟩, fun j hj => by rw [x1 5 (by decide) (by decide)]; exact a5 j hj⟩
        obtain ⟨u5, v, e5, y1, y2, y3⟩ := ih z1 u4 (by omega) (by omega) ha4 (by omega) (w5.cg x2) (by rw [x1 0 (by decide) (by decide)]; exact w1) (fun j a b c => by
          by_cases cj : j = k + 1
          · rw [cj]; exact w4
          · exact hm j a (by omega) c)
        exact ⟨u5, v, pre u5 v (by rw [q2]; exact e5), fg4.tr y1, y2, y3⟩
theorem mcheapest_eq (hM : isM μ m) {s : Ld} (hl : LR l (s 1)) (hk : okL l) (hR : (R : Int) = l 0 1) (hH : (H : Int) = l 0 0) (hh : h < H) (hb : 0 ≤ hd l h ∧ hd l h ≤ 1000000) {N : Nat} (hN : 1 ≤ N ∧ N ≤ 6) (hn : 20000 ≤ n) (ho : oN (l 9) R = o) (hro : oR (l 9) R = ro) : ∃ (u : Ld) (a : Int), mX11_cheapest n m (h : Int) (N : Int) (wi μ (wm I m s)) = some (a, wi μ (wm I m u)) ∧ FrW s u ∧ u 1 = s 1 ∧ ((¬ (o ≤ 3 ∧ H ≤ 4) ∧ a = -4) ∨ ((o ≤ 3 ∧ H ≤ 4) ∧ Ac (kM o H h ro (hd l h) l) (SpL (kM o H h ro (hd l h)) l o H h ro (hd l h)) (GpL (kM o H h ro (hd l h)) l o H h ro (hd l h)) N a)) := by
  have hk0 := hk.1
  have hl0 : LR l (up2 s 0 0 0 1) := by rw [up2_row (by decide)]; exact hl
  obtain ⟨u1, e1, ⟨f1, f2⟩, hng⟩ := areFew_eq (n := n) (I := I) hM hl0 hk hR hH hn
  have op := opn_of (l := l) hR
  rw [ho, hro] at op
  rw [ho] at e1 hng
  rw [hro] at hng
  have o1 : ∀ k : Nat, k ≠ 0 → k ≠ 10 → u1 k = s k := fun k k0 k10 => by rw [f1 k k0 k10, up2_row k0]
  rw [cheapest_s, bM_pI hM, bM_inv hM, isHouse_w hM hl0 hk (by omega)]
  dsimp only
  rw [i_bi_t (by omega), within_w (by omega) (by omega) (by omega)]
  dsimp only
  rw [i_bi_t (by omega), bM_inv hM, bnd e1]
  dsimp only
  by_cases c : o ≤ 3 ∧ H ≤ 4
  · have lb : LR l (u1 1) := by rw [o1 1 (by decide) (by decide)]; exact hl
    have e46 : (up1 u1 6 (cpR 220 (u1 6) (u1 1))) 1 (46 + (h : Int)).toNat = hd l h := by
      rw [up1_o (by decide), show (46 + (h : Int)).toNat = 46 + h by omega]
      exact (lb.2.1 h (by omega)).2.2.2.2
    rw [i_bi_t c, bM_inv hM, keeps_w hM (by omega)]
    dsimp only
    rw [bM_g1 hM, bM_ld1 hM (by omega) (by omega), e46, bM_pI hM, bM_g28 hM, bM_inv hM]
    have hng3 : hngM (up2 (up1 u1 6 (cpR 220 (u1 6) (u1 1))) 0 31 (-1)) o ro l := by
      obtain ⟨q1, q2, q3, q4⟩ := hng c.1
      refine ⟨?_, q2, fun k hk' => ?_, q4⟩
      · rw [up2_n (by decide), up1_o (by decide)]; exact q1
      · rw [up2_row (by decide), up1_o (by decide)]; exact q3 k hk'
    have l3 : LR l ((up2 (up1 u1 6 (cpR 220 (u1 6) (u1 1))) 0 31 (-1)) 1) := by rw [up2_row (by decide), up1_o (by decide)]; exact lb
    have es : mX11_state n m (h : Int) (hd l h) (wi μ (wm I m (up2 (up1 u1 6 (cpR 220 (u1 6) (u1 1))) 0 31 (-1)))) = some (kM o H h ro (hd l h) l, wi μ (wm I m (up2 (up1 u1 6 (cpR 220 (u1 6) (u1 1))) 0 31 (-1)))) := state_eq (n := n) (I := I) (g := hd l h) hM l3 hk hng3 hH hh (by omega) (by unfold hd at hb; omega) hn
    rw [bnd es]
    dsimp only
    rw [bM_st11 hM (by decide) (by decide), bM_g29 hM, bM_st12 hM (by decide) (by decide), bM_inv hM]
    generalize hx0 : kM o H h ro (hd l h) l = x0
    obtain ⟨p, hp, e4⟩ := nobody_eq (n := n) (I := I) (s := up2 (up2 (up2 (up1 u1 6 (cpR 220 (u1 6) (u1 1))) 0 31 (-1)) 11 (0 : Int).toNat x0) 12 (0 : Int).toNat 0) hM (by omega)
    rw [bnd e4]
    dsimp only
    have w4 : ∀ k : Nat, k ≠ 0 → k ≠ 5 → k ≠ 6 → k ≠ 10 → k ≠ 11 → k ≠ 12 → up1 (up2 (up2 (up2 (up1 u1 6 (cpR 220 (u1 6) (u1 1))) 0 31 (-1)) 11 (0 : Int).toNat x0) 12 (0 : Int).toNat 0) 5 p k = s k := fun k k0 k5 k6 k10 k11 k12 => by rw [up1_o k5, up2_row k12, up2_row k11, up2_row k0, up1_o k6, o1 k k0 k10]
    have w0 : ∀ j : Nat, j ≠ 31 → up1 (up2 (up2 (up2 (up1 u1 6 (cpR 220 (u1 6) (u1 1))) 0 31 (-1)) 11 (0 : Int).toNat x0) 12 (0 : Int).toNat 0) 5 p 0 j = u1 0 j := fun j hj => by rw [up1_o (by decide), up2_row (by decide), up2_row (by decide), up2_n (by omega), up1_o (by decide)]
    have w6 : up1 (up2 (up2 (up2 (up1 u1 6 (cpR 220 (u1 6) (u1 1))) 0 31 (-1)) 11 (0 : Int).toNat x0) 12 (0 : Int).toNat 0) 5 p 6 = cpR 220 (u1 6) (s 1) := by rw [up1_o (by decide), up2_row (by decide), up2_row (by decide), up2_row (by decide), up1_s, o1 1 (by decide) (by decide)]
    have w31 : up1 (up2 (up2 (up2 (up1 u1 6 (cpR 220 (u1 6) (u1 1))) 0 31 (-1)) 11 (0 : Int).toNat x0) 12 (0 : Int).toNat 0) 5 p 0 31 = -1 := by rw [up1_o (by decide), up2_row (by decide), up2_row (by decide), up2_s]
    have w11 : up1 (up2 (up2 (up2 (up1 u1 6 (cpR 220 (u1 6) (u1 1))) 0 31 (-1)) 11 (0 : Int).toNat x0) 12 (0 : Int).toNat 0) 5 p 11 0 = x0 := by
      rw [up1_o (by decide), up2_row (by decide)]
      exact up2_s
    have w12 : up1 (up2 (up2 (up2 (up1 u1 6 (cpR 220 (u1 6) (u1 1))) 0 31 (-1)) 11 (0 : Int).toNat x0) 12 (0 : Int).toNat 0) 5 p 12 0 = 0 := by
      rw [up1_o (by decide)]
      exact up2_s
    have w10 : up1 (up2 (up2 (up2 (up1 u1 6 (cpR 220 (u1 6) (u1 1))) 0 31 (-1)) 11 (0 : Int).toNat x0) 12 (0 : Int).toNat 0) 5 p 10 = u1 10 := by rw [up1_o (by decide), up2_row (by decide), up2_row (by decide), up2_row (by decide), up1_o (by decide)]
    have w5 : up1 (up2 (up2 (up2 (up1 u1 6 (cpR 220 (u1 6) (u1 1))) 0 31 (-1)) 11 (0 : Int).toNat x0) 12 (0 : Int).toNat 0) 5 p 5 = p := up1_s
    clear e4 es
    generalize up1 (up2 (up2 (up2 (up1 u1 6 (cpR 220 (u1 6) (u1 1))) 0 31 (-1)) 11 (0 : Int).toNat x0) 12 (0 : Int).toNat 0) 5 p = u4 at w4 w0 w6 w31 w11 w12 w10 w5 ⊢
    have ha : HA l o H ro u4 := by
      obtain ⟨q1, q2, q3, q4⟩ := hng c.1
      exact ⟨⟨l, by rw [w4 1 (by decide) (by decide) (by decide) (by decide) (by decide) (by decide)]; exact hl, ⟨hk, fxL.rf⟩, by rw [w0 27 (by decide)]; exact q1, q2, fun k hk' => by rw [w10]; exact q3 k hk', q4⟩, fun k hk' => by rw [w5, hp k (by omega)]; decide⟩
    have hP : PL (kM o H h ro (hd l h) l) (SpL (kM o H h ro (hd l h)) l o H h ro (hd l h)) 0 (u4 11) (u4 12) 1 := by
      rw [hx0]
      refine ⟨fun i hi => ?_, fun x d hx => ⟨0, by omega, by rw [w11]; exact hx.1.symm, by rw [w12, hx.2]; decide⟩⟩
      have : i = 0 := by omega
      subst this
      exact ⟨w11, w12⟩
    obtain ⟨u7, v, e7, f7, vr, ac⟩ := chO_l (n := n) (I := I) (b := hd l h) hM hk hH c.2 op hh hb hn ⟨⟨hk, fxL.rf⟩, by omega, by omega⟩ hN N n 0 1 u4 (by omega) (by omega) ha (by omega) hP (Or.inl ⟨w31, fun j hj => absurd hj (by omega)⟩) (fun j a b => absurd a (by omega))
    have e7' : lp (chO n m (h : Int) (hd l h) (N : Int)) n (1, 1) (wi μ (wm I m u4)) = chE n m v (wi μ (wm I m u7)) := e7
    have o7 : ∀ k : Nat, k ≠ 0 → k ≠ 1 → k ≠ 5 → k ≠ 6 → k ≠ 8 → k ≠ 9 → k ≠ 10 → k ≠ 11 → k ≠ 12 → k ≠ 13 → u7 k = s k := fun k k0 k1 k5 k6 k8 k9 k10 k11 k12 k13 => by rw [f7.1 k k0 k1 k5 k8 k9 k11 k12 k13, w4 k k0 k5 k6 k10 k11 k12]
    have x6 : u7 6 = cpR 220 (u1 6) (s 1) := by rw [f7.1 6 (by decide) (by decide) (by decide) (by decide) (by decide) (by decide) (by decide) (by decide), w6]
    obtain ⟨r1, r2⟩ := again2 (s := s) (u := u7) x6 (fun j hj => by rw [f7.2.2 j hj, w4 1 (by decide) (by decide) (by decide) (by decide) (by decide) (by decide)]) ⟨o7 2 (by decide) (by decide) (by decide) (by decide) (by decide) (by decide) (by decide) (by decide) (by decide) (by decide), o7 3 (by decide) (by decide) (by decide) (by decide) (by decide) (by decide) (by decide) (by decide) (by decide) (by decide), o7 19 (by decide) (by decide) (by decide) (by decide) (by decide) (by decide) (by decide) (by decide) (by decide) (by decide), o7 20 (by decide) (by decide) (by decide) (by decide) (by decide) (by decide) (by decide) (by decide) (by decide) (by decide), o7 21 (by decide) (by decide) (by decide) (by decide) (by decide) (by decide) (by decide) (by decide) (by decide) (by decide)⟩ (fun j j0 hj => by rw [f7.2.1 j (by omega) (by omega), w0 j (by omega), f2 j (by omega), up2_n (by omega)])
    rw [e7']
    unfold chE
    rw [bM_inv hM, isAgain_w hM (by omega)]
    dsimp only
    rw [← hx0]
    by_cases cv : 3000 < v
    · rw [if_pos cv] at ac
      rw [i_lt_t (by omega)]
      exact ⟨_, -4, rfl, r1, r2, Or.inr ⟨c, ac⟩⟩
    · rw [if_neg cv] at ac
      rw [i_lt_f (by omega), bM_gI hM, up1_o (by decide)]
      exact ⟨_, _, rfl, r1, r2, Or.inr ⟨c, ac⟩⟩
  · rw [i_bi_f c]
    exact ⟨u1, -4, rfl, ⟨⟨o1 2 (by decide) (by decide), o1 3 (by decide) (by decide), o1 19 (by decide) (by decide), o1 20 (by decide) (by decide), o1 21 (by decide) (by decide)⟩, fun j j0 hj => by rw [f2 j (by omega), up2_n (by omega)], fun j _ => by rw [o1 1 (by decide) (by decide)]⟩, o1 1 (by decide) (by decide), Or.inl ⟨c, rfl⟩⟩
end CJ
