/-! the reference: the last step of pullsAll -/
def lfM (n m : Nat) (y h b G : Int) (ν : Mem) : Option (Int × Mem) := (inv ν 12 m (mX11_becomes n m y h b ν)).bind fun p16 => (inv p16.2 12 m (mX11_goes n m p16.2)).bind fun p20 => (gA p20.2 12 m 1).bind fun x25 => (ldI p20.2 0 x25 (46 + h)).bind fun x33 => if lt32 (x33 - b) G then (inv p20.2 12 m (mX11_state n m h b p20.2)).bind fun p50 => (inv p50.2 12 m (mX11_meets n m p50.1 p50.2)).bind fun p53 => retZ 0 p53.2 else retZ 1 p20.2
section LH
variable {μ : Mem} {I : Nat → Nat → Int} {m n o H h z : Nat} {ro : Nat → Nat} {l : Ld} {b G : Int}
theorem MSt.cg {s u : Ld} (h : MSt s z) (e0 : u 0 = s 0) (e8 : u 8 = s 8) (e9 : u 9 = s 9) : MSt u z := by
  unfold MSt at *
  rw [e0, e8, e9]
  exact h
theorem leaf_m (hM : isM μ m) {s L0 L : Ld} (hl : LR L0 (s 1)) (v0 : vL l L0) (vl : vL l L) (hH : (H : Int) = l 0 0) (hH4 : H ≤ 4) (hh : h < H) (ho : hngM s o ro L0) (hb : 0 ≤ b ∧ b ≤ 1000000) (hG : 1 ≤ G ∧ G ≤ 3) (hg : 0 ≤ hd L h - b ∧ hd L h - b < G) (hp : ∀ k : Nat, k < H → -2147483648 ≤ s 5 k ∧ s 5 k < 2147483648) (hz : MSt s z) (hn : 20000 ≤ n) : ∃ (u0 u L1 : Ld), vL l L1 ∧ kM o H h ro b L1 = kM o H h ro b L ∧ hd L1 h = hd L h ∧ vL l (goL (s 5) L1).1 ∧ LR (goL (s 5) L1).1 (u 1) ∧ (∀ j : Nat, 220 ≤ j → u 1 j = s 1 j) ∧ (∀ k : Nat, k ≠ 1 → u0 k = s k) ∧ u0 1 = u 1 ∧ ((hd (goL (s 5) L1).1 h - b < G ∧ lfM n m (kM o H h ro b L) (h : Int) b G (wi μ (wm I m s)) = some (0, wi μ (wm I m u)) ∧ metP u0 u z (kM o H h ro b (goL (s 5) L1).1)) ∨ (¬ hd (goL (s 5) L1).1 h - b < G ∧ lfM n m (kM o H h ro b L) (h : Int) b G (wi μ (wm I m s)) = some (1, wi μ (wm I m u)) ∧ u = u0)) := by
  obtain ⟨u1, u0, L1, v, e1, e2, vl1, ek, eh, lA, vg, g1, g2⟩ := hour_m (n := n) (I := I) hM hl v0 vl hH hH4 hh ho ⟨hg.1, by omega⟩ hp hn
  have gn := goL_gn (h := h) vl1.1 (s 5)
  have hHg : (H : Int) = (goL (s 5) L1).1 0 0 := by rw [vg.2.1 0 (by decide)]; exact hH
  have q := (lA.2.1 h (by omega)).2.2.2.2
  have q' : u0 1 (46 + (h : Int)).toNat = hd (goL (s 5) L1).1 h := by rw [show (46 + (h : Int)).toNat = 46 + h by omega]; exact q
  have hog : hngM u0 o ro (goL (s 5) L1).1 := ⟨by rw [g1 0 (by decide)]; exact ho.1, ho.2.1, fun k hk => by rw [g1 10 (by decide), vg.2.1 1 (by decide), ← v0.2.1 1 (by decide)]; exact ho.2.2.1 k hk, ho.2.2.2⟩
  have pre : lfM n m (kM o H h ro b L) (h : Int) b G (wi μ (wm I m s)) = (if lt32 (hd (goL (s 5) L1).1 h - b) G then (inv (wi μ (wm I m u0)) 12 m (mX11_state n m (h : Int) b (wi μ (wm I m u0)))).bind fun p50 => (inv p50.2 12 m (mX11_meets n m p50.1 p50.2)).bind fun p53 => retZ 0 p53.2 else retZ 1 (wi μ (wm I m u0))) := by
    unfold lfM
    rw [bM_inv hM, bnd e1]
    dsimp only
    rw [bM_inv hM, bnd e2]
    dsimp only
    rw [bM_g1 hM, bM_ld1 hM (by omega) (by omega), q']
  by_cases c : hd (goL (s 5) L1).1 h - b < G
  · have es : mX11_state n m (h : Int) b (wi μ (wm I m u0)) = some (kM o H h ro b (goL (s 5) L1).1, wi μ (wm I m u0)) := state_eq (n := n) (I := I) (g := b) hM lA vg.1 hog hHg hh (by omega) (by unfold hd at gn eh hg; unfold hd at c; omega) hn
    have rg := rg_of (ro := ro) (o := o) (g := hd (goL (s 5) L1).1 h - b) vg.1 hHg (fun k hk => (hog.2.2.1 k hk).2) (by omega)
    have hz0 : MSt u0 z := hz.cg (g1 0 (by decide)) (g1 8 (by decide)) (g1 9 (by decide))
    obtain ⟨u, e3, mp⟩ := meets_eq (n := n) (I := I) (x := kM o H h ro b (goL (s 5) L1).1) hM hz0 (cdM_rg rg ho.2.1 hH4) hn
    have u1e : u 1 = u0 1 := by
      by_cases ci : inL (u0 8) z (kM o H h ro b (goL (s 5) L1).1) ∨ 3000 < z
      · rw [mp.1 ci]
      · exact (mp.2 (fun w => ci (Or.inl w)) (by omega)).1 1 (by decide) (by decide) (by decide)
    refine ⟨u0, u, L1, vl1, ek, eh, vg, by rw [u1e]; exact lA, fun j hj => by rw [u1e]; exact g2 j hj, g1, u1e.symm, Or.inl ⟨c, ?_, mp⟩⟩
    rw [pre, i_lt_t (by omega), bM_inv hM, bnd es]
    dsimp only
    rw [bM_inv hM, bnd e3]
    rfl
  · refine ⟨u0, u0, L1, vl1, ek, eh, vg, lA, g2, g1, rfl, Or.inr ⟨c, ?_, rfl⟩⟩
    rw [pre, i_lt_f (by omega)]
    rfl
end LH
