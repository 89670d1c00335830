/-! the reference: soonestOf, whole -/
section SR
variable {μ : Mem} {I : Nat → Nat → Int} {m n o H h R : Nat} {ro : Nat → Nat} {l : Ld} {b G : Int}
theorem clT_l {K : Mem → Option (Int × Mem)} (hM : isM μ m) : ∀ (d kk i : Nat) (s : Ld), i + d = 8192 → d < kk → (∀ j : Nat, j < i → s 9 j = 0) → ∃ u : Ld, lp (clT m (Int × Mem) K) kk (i : Int) (wi μ (wm I m s)) = K (wi μ (wm I m u)) ∧ (∀ k : Nat, k ≠ 9 → u k = s k) ∧ ∀ j : Nat, j < 8192 → u 9 j = 0
  | d, 0, i, s, h1, h2, hz => absurd h2 (by omega)
  | 0, kk + 1, i, s, h1, h2, hz => by
    refine ⟨s, ?_, fun _ _ => rfl, fun j hj => hz j (by omega)⟩
    generalize hB : lp (clT m (Int × Mem) K) kk = self
    show clT m (Int × Mem) K (lp (clT m (Int × Mem) K) kk) (i : Int) (wi μ (wm I m s)) = _
    rw [hB]
    unfold clT
    rw [i_lt_f (by omega)]
  | d + 1, kk + 1, i, s, h1, h2, hz => by
    obtain ⟨u, e, u1, u2⟩ := clT_l hM d kk (i + 1) (up2 s 9 i 0) (by omega) (by omega) (fun j hj => by
      by_cases c : j = i
      · rw [c, up2_s]
      · rw [up2_n (by omega)]; exact hz j (by omega))
    refine ⟨u, ?_, fun k hk => (u1 k hk).trans (up2_row hk), u2⟩
    generalize hB : lp (clT m (Int × Mem) K) kk = self at e
    show clT m (Int × Mem) K (lp (clT m (Int × Mem) K) kk) (i : Int) (wi μ (wm I m s)) = _
    rw [hB]
    unfold clT
    rw [i_lt_t (by omega), bM_g24 hM, bM_st9 hM (by omega) (by omega), Int.toNat_natCast]
    exact e
theorem again2 {s u : Ld} {X : Nat → Int} (h6 : u 6 = cpR 220 X (s 1)) (h1 : ∀ j : Nat, 220 ≤ j → u 1 j = s 1 j) (hr : u 2 = s 2 ∧ u 3 = s 3 ∧ u 19 = s 19 ∧ u 20 = s 20 ∧ u 21 = s 21) (h0 : ∀ j : Nat, 0 < j → j < 17 → u 0 j = s 0 j) : FrW s (up1 u 1 (cpR 220 (u 1) (u 6))) ∧ up1 u 1 (cpR 220 (u 1) (u 6)) 1 = s 1 := by
  have e1 : up1 u 1 (cpR 220 (u 1) (u 6)) 1 = s 1 := by
    rw [up1_s, h6]
    funext j
    unfold cpR
    by_cases hj : j < 220
    · rw [if_pos hj, if_pos hj]
    · rw [if_neg hj, h1 j (by omega)]
  refine ⟨⟨?_, fun j j0 j1 => ?_, fun j _ => congrFun e1 j⟩, e1⟩
  · rw [up1_o (by decide), up1_o (by decide), up1_o (by decide), up1_o (by decide), up1_o (by decide)]
    exact hr
  · rw [up1_o (by decide)]
    exact h0 j j0 j1
theorem opn_of (hR : (R : Int) = l 0 1) : opn l (oN (l 9) R) (oR (l 9) R) R := ⟨hR, (oR_p R).1, (oR_p R).2.1, (oR_p R).2.2⟩
theorem kM_rg0 (hk : okL l) (hH : (H : Int) = l 0 0) (hH4 : H ≤ 4) (op : opn l o ro R) (ho : o ≤ 3) : 0 ≤ kM o H h ro (hd l h) l ∧ kM o H h ro (hd l h) l < 4611686018427387904 :=
  cdM_rg (rg_of (ro := ro) (o := o) hk hH (fun k hk' => by have := (op.2.1 k hk').1; have := op.1; omega) (by omega)) ho hH4
theorem soonestOf_eq (hM : isM μ m) {s : Ld} (hl : LR l (s 1)) (hk : okL l) (hR : (R : Int) = l 0 1) (hH : (H : Int) = l 0 0) (hh : h < H) (hb : 0 ≤ hd l h ∧ hd l h ≤ 1000000) (hG : 1 ≤ G ∧ G ≤ 3) (hn : 20000 ≤ n) (ho : oN (l 9) R = o) (hro : oR (l 9) R = ro) : ∃ (u : Ld) (a : Int), mX11_soonestOf n m (h : Int) G (wi μ (wm I m s)) = some (a, wi μ (wm I m u)) ∧ FrW s u ∧ u 1 = s 1 ∧ ((¬ (o ≤ 3 ∧ H ≤ 4) ∧ a = -4) ∨ ((o ≤ 3 ∧ H ≤ 4) ∧ An (kM o H h ro (hd l h) l) (StL (kM o H h ro (hd l h)) l o H h ro (hd l h) G) (GoL (kM o H h ro (hd l h)) l o H h ro (hd l h) G) a)) := by
  obtain ⟨u1, e1, ⟨f1, f2⟩, hng⟩ := areFew_eq (n := n) (I := I) hM hl hk hR hH hn
  have op := opn_of (l := l) hR
  rw [ho, hro] at op
  rw [ho] at e1 hng
  rw [hro] at hng
  rw [soonestOf_s, bM_inv hM, bnd e1]
  dsimp only
  by_cases c : o ≤ 3 ∧ H ≤ 4
  · have lb : LR l (u1 1) := by rw [f1 1 (by decide) (by decide)]; exact hl
    have hk0 := hk.1
    have e46 : (up1 u1 6 (cpR 220 (u1 6) (u1 1))) 1 (46 + (h : Int)).toNat = hd l h := by
      rw [up1_o (by decide), show (46 + (h : Int)).toNat = 46 + h by omega]
      exact (lb.2.1 h (by omega)).2.2.2.2
    obtain ⟨u3, e3, g1, g2⟩ := clT_l (I := I) (K := soB n m (h : Int) (hd l h) G) hM 8192 n 0 (up1 u1 6 (cpR 220 (u1 6) (u1 1))) (by omega) (by omega) (fun j hj => absurd hj (by omega))
    rw [i_bi_t c, bM_inv hM, keeps_w hM (by omega)]
    dsimp only
    rw [bM_g1 hM, bM_ld1 hM (by omega) (by omega), e46]
    have e3' : lp (clT m (Int × Mem) (soB n m (h : Int) (hd l h) G)) n 0 (wi μ (wm I m (up1 u1 6 (cpR 220 (u1 6) (u1 1))))) = soB n m (h : Int) (hd l h) G (wi μ (wm I m u3)) := e3
    rw [e3']
    unfold soB
    obtain ⟨p, hp, e4⟩ := nobody_eq (n := n) (I := I) (s := up2 u3 0 26 0) hM (by omega)
    have w3 : ∀ k : Nat, k ≠ 0 → k ≠ 6 → k ≠ 9 → k ≠ 10 → u3 k = s k := fun k k0 k6 k9 k10 => by rw [g1 k k9, up1_o k6, f1 k k0 k10]
    have w4 : ∀ k : Nat, k ≠ 0 → k ≠ 5 → k ≠ 6 → k ≠ 9 → k ≠ 10 → up1 (up2 u3 0 26 0) 5 p k = s k := fun k k0 k5 k6 k9 k10 => by rw [up1_o k5, up2_row k0, w3 k k0 k6 k9 k10]
    have hng4 : hngM (up1 (up2 u3 0 26 0) 5 p) o ro l := by
      obtain ⟨q1, q2, q3, q4⟩ := hng c.1
      refine ⟨?_, q2, fun k hk' => ?_, q4⟩
      · rw [up1_o (by decide), up2_n (by decide), g1 0 (by decide), up1_o (by decide)]; exact q1
      · rw [up1_o (by decide), up2_row (by decide), g1 10 (by decide), up1_o (by decide)]; exact q3 k hk'
    have l4 : LR l ((up1 (up2 u3 0 26 0) 5 p) 1) := by rw [w4 1 (by decide) (by decide) (by decide) (by decide) (by decide)]; exact hl
    have es : mX11_state n m (h : Int) (hd l h) (wi μ (wm I m (up1 (up2 u3 0 26 0) 5 p))) = some (kM o H h ro (hd l h) l, wi μ (wm I m (up1 (up2 u3 0 26 0) 5 p))) := state_eq (n := n) (I := I) (g := hd l h) hM l4 hk hng4 hH hh (by omega) (by unfold hd at hb; omega) hn
    have z4 : MSt (up1 (up2 u3 0 26 0) 5 p) 0 := by
      refine ⟨?_, by decide, HT.empty (fun j hj => ?_), fun i hi => absurd hi (by omega)⟩
      · rw [up1_o (by decide), up2_s]; rfl
      · rw [up1_o (by decide), up2_row (by decide)]; exact g2 j hj
    have kr := kM_rg0 (h := h) hk hH c.2 op c.1
    obtain ⟨u6, e6, mp⟩ := meets_eq (n := n) (I := I) (x := kM o H h ro (hd l h) l) hM z4 kr hn
    obtain ⟨m1, m2, m3, m4⟩ := mp.2 (fun w => by obtain ⟨i, hi, -⟩ := w; omega) (by omega)
    have s6 : SA l o H ro u6 1 := by
      refine ⟨⟨l, by rw [m1 1 (by decide) (by decide) (by decide)]; exact l4, ⟨hk, fxL.rf⟩, ?_⟩, m3, fun k hk' => ?_⟩
      · obtain ⟨q1, q2, q3, q4⟩ := hng4
        exact ⟨by rw [m2 27 (by decide)]; exact q1, q2, fun k hk' => by rw [m1 10 (by decide) (by decide) (by decide)]; exact q3 k hk', q4⟩
      · rw [m1 5 (by decide) (by decide) (by decide), up1_s, hp k (by omega)]; decide
    have li : Lin (kM o H h ro (hd l h) l) (StL (kM o H h ro (hd l h)) l o H h ro (hd l h) G) (GoL (kM o H h ro (hd l h)) l o H h ro (hd l h) G) 0 (u6 8) 0 1 := by
      refine ⟨fun x => ?_, fun i hi => absurd hi (by omega), by omega, by omega⟩
      rw [m4]
      constructor
      · intro w
        rcases (inL.put (z := 0)).mp w with ⟨i, hi, -⟩ | w
        · omega
        · exact w
      · intro w
        exact (inL.put (z := 0)).mpr (Or.inr w)
    obtain ⟨u7, a, e7, f7, an⟩ := soO_l (n := n) (I := I) (b := hd l h) hM hk hH c.2 op hh hb hG hn ⟨⟨hk, fxL.rf⟩, by omega, by omega⟩ 3000 n 0 0 1 u6 (by omega) (by omega) s6 (by omega) li (fun j hj => absurd hj (by omega))
    have e7' : lp (soO n m (h : Int) (hd l h) G) n (0, -1, 1) (wi μ (wm I m u6)) = soE n m a (wi μ (wm I m u7)) := e7
    have o6 : ∀ k : Nat, k ≠ 0 → k ≠ 1 → k ≠ 5 → k ≠ 8 → k ≠ 9 → k ≠ 6 → k ≠ 10 → u7 k = s k := fun k k0 k1 k5 k8 k9 k6 k10 => by rw [f7.1 k k0 k1 k5 k8 k9, m1 k k0 k8 k9, w4 k k0 k5 k6 k9 k10]
    have x6 : u7 6 = cpR 220 (u1 6) (s 1) := by rw [f7.1 6 (by decide) (by decide) (by decide) (by decide) (by decide), m1 6 (by decide) (by decide) (by decide), up1_o (by decide), up2_row (by decide), g1 6 (by decide), up1_s, f1 1 (by decide) (by decide)]
    obtain ⟨r1, r2⟩ := again2 (s := s) (u := u7) x6 (fun j hj => by rw [f7.2.2.2 j hj, m1 1 (by decide) (by decide) (by decide), w4 1 (by decide) (by decide) (by decide) (by decide) (by decide)]) ⟨o6 2 (by decide) (by decide) (by decide) (by decide) (by decide) (by decide) (by decide), o6 3 (by decide) (by decide) (by decide) (by decide) (by decide) (by decide) (by decide), o6 19 (by decide) (by decide) (by decide) (by decide) (by decide) (by decide) (by decide), o6 20 (by decide) (by decide) (by decide) (by decide) (by decide) (by decide) (by decide), o6 21 (by decide) (by decide) (by decide) (by decide) (by decide) (by decide) (by decide)⟩ (fun j _ hj => by rw [f7.2.1 j (by omega), m2 j (by omega), up1_o (by decide), up2_n (by omega), g1 0 (by decide), up1_o (by decide), f2 j (by omega)])
    refine ⟨_, a, ?_, r1, r2, Or.inr ⟨c, an⟩⟩
    rw [bM_pI hM, bM_inv hM, bnd e4]
    dsimp only
    rw [bM_inv hM, bnd es]
    dsimp only
    rw [bM_inv hM, bnd e6]
    dsimp only
    rw [e7']
    unfold soE
    rw [bM_inv hM, isAgain_w hM (by omega)]
  · rw [i_bi_f c]
    exact ⟨u1, -4, rfl, ⟨⟨f1 2 (by decide) (by decide), f1 3 (by decide) (by decide), f1 19 (by decide) (by decide), f1 20 (by decide) (by decide), f1 21 (by decide) (by decide)⟩, fun j _ hj => f2 j (by omega), fun j _ => by rw [f1 1 (by decide) (by decide)]⟩, f1 1 (by decide) (by decide), Or.inl ⟨c, rfl⟩⟩
end SR
