/-! the reference: becomes and goes -/
section LG
variable {μ : Mem} {I : Nat → Nat → Int} {m n o H h : Nat} {ro : Nat → Nat} {l : Ld} {b : Int}
theorem hour_m (hM : isM μ m) {s L0 L : Ld} (hl : LR L0 (s 1)) (v0 : vL l L0) (vl : vL l L) (hH : (H : Int) = l 0 0) (hH4 : H ≤ 4) (hh : h < H) (ho : hngM s o ro L0) (hg : 0 ≤ hd L h - b ∧ hd L h - b ≤ 3) (hp : ∀ k : Nat, k < H → -2147483648 ≤ s 5 k ∧ s 5 k < 2147483648) (hn : 20000 ≤ n) : ∃ (u1 u L1 : Ld) (v : Int), mX11_becomes n m (kM o H h ro b L) (h : Int) b (wi μ (wm I m s)) = some ((), wi μ (wm I m u1)) ∧ mX11_goes n m (wi μ (wm I m u1)) = some (v, wi μ (wm I m u)) ∧ vL l L1 ∧ kM o H h ro b L1 = kM o H h ro b L ∧ hd L1 h = hd L h ∧ LR (goL (s 5) L1).1 (u 1) ∧ vL l (goL (s 5) L1).1 ∧ (∀ k : Nat, k ≠ 1 → u k = s k) ∧ ∀ j : Nat, 220 ≤ j → u 1 j = s 1 j := by
  have rL : ∀ k : Nat, k < o → ((ro k : Nat) : Int) < L 0 1 := fun k hk => by
    rw [vl.2.1 1 (by decide), ← v0.2.1 1 (by decide)]
    exact (ho.2.2.1 k hk).2
  have hHL : (H : Int) = L 0 0 := by rw [vl.2.1 0 (by decide)]; exact hH
  have hH0 : (H : Int) = L0 0 0 := by rw [v0.2.1 0 (by decide)]; exact hH
  have rg := rg_of (ro := ro) (o := o) vl.1 hHL rL hg
  have e7 : L0 7 = L 7 := by rw [v0.2.2.2.2.2.1, vl.2.2.2.2.2.1]
  obtain ⟨u1, L1, e1, g1, g2, g3, g4, g5, g6, g7, g8⟩ := becomes_eq (n := n) (I := I) (b := b) hM rg hH4 hl v0.1 hH0 ho (fun j hj => by
    have q := vl.1.2.2.1 (ro j) (rL j hj)
    rw [show fD o ro L j = L 8 (ro j) from if_pos hj, e7]
    exact q.2.2.2.1) hh hn
  have vl1 : vL l L1 := ⟨g4, v0.2.tr g5⟩
  have hd1 : hd L1 h = hd L h := by
    show L1 5 h + L1 6 h = _
    rw [g6]; omega
  have h10 : (H : Int) = L1 0 0 := by rw [vl1.2.1 0 (by decide)]; exact hH
  have e5 : u1 5 = s 5 := g1 5 (by decide)
  obtain ⟨A, e2, lA, -, -, q⟩ := goes_2w (n := n) (I := I) hM g3 g4 (fun k hk => by rw [e5]; exact hp k (by omega)) (by omega)
  rw [e5] at e2 lA
  refine ⟨u1, up1 u1 1 A, L1, _, e1, e2, vl1, kM_of g7 g8 hd1, hd1, ?_, ⟨(goL_ok _ g4).1, vl1.2.tr (goL_ok _ g4).2⟩, fun k hk => ?_, fun j hj => ?_⟩
  · rw [up1_s]; exact lA
  · rw [up1_o hk]; exact g1 k hk
  · rw [up1_s, q j hj]; exact g2 j hj
end LG
