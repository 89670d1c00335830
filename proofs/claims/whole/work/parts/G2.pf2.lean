/-! the reference: all pulls from a code with what they cost, the recursion -/
section PE
variable {μ : Mem} {I : Nat → Nat → Int} {m n o H h i : Nat} {ro : Nat → Nat} {l L : Ld} {b y : Int} {self : Nat × Int × Int × Int × Int × Int → Mem → Option (Unit × Mem)}
theorem SF.put {s : Ld} {z : Nat} (hS : SF l o H ro s z) {w : Int} (hw : -1 ≤ w ∧ w ≤ 15) : SF l o H ro (up2 s 5 i w) z := ⟨hS.1.put hw, by rw [up2_row (by decide)]; exact hS.2.1, by rw [up2_row (by decide)]; exact hS.2.2⟩
theorem FF.put {s u : Ld} {w : Int} (hi : i < H) (h : FF H (up2 s 5 i w) u (i + 1)) : FF H s u i := by
  obtain ⟨a1, a2, a3, a4⟩ := h
  refine ⟨fun k k0 k1 k5 k8 k9 k13 => (a1 k k0 k1 k5 k8 k9 k13).trans (up2_row k5), fun j hj hj2 => (a2 j hj hj2).trans (by rw [up2_row (by decide)]), fun j hj => (a3 j (by omega)).trans (up2_n (by omega)), fun j hj => (a4 j hj).trans (by rw [up2_row (by decide)])⟩
theorem pf_in (hM : isM μ m) (hkl : okL l) (hi : i < H) (hH : (H : Int) = l 0 0) (hH4 : H ≤ 4) {c : Int} (hc : 0 ≤ c ∧ c + ((H - i : Nat) : Int) ≤ 100000)
    (hself : ∀ (c : Int) (s : Ld) (z : Nat), 0 ≤ c ∧ c + ((H - (i + 1) : Nat) : Int) ≤ 100000 → SF l o H ro s z → ∃ (u : Ld) (z1 : Nat) (E : Int → Int → Prop) (F : Int → Prop), self (m, (i : Int) + 1, y, c, (h : Int), b) (wi μ (wm I m s)) = some ((), wi μ (wm I m u)) ∧ SF l o H ro u z1 ∧ FF H s u (i + 1) ∧ AdL E F (s 8) (s 13) z (s 0 31) (u 8) (u 13) z1 (u 0 31) ∧ EF l o H h ro b y (fun p => c + cn p (i + 1) (H - (i + 1))) E F (Wi l o H ro s (i + 1))) :
    ∀ (e kk v : Nat) (s : Ld) (z : Nat), v + e = o + 1 → e < kk → SF l o H ro s z → ∃ (u : Ld) (z1 : Nat) (E : Int → Int → Prop) (F : Int → Prop), lp (pfB n m self (i : Int) y c (h : Int) b) kk (v : Int) (wi μ (wm I m s)) = some ((), wi μ (wm I m u)) ∧ SF l o H ro u z1 ∧ FF H s u i ∧ AdL E F (s 8) (s 13) z (s 0 31) (u 8) (u 13) z1 (u 0 31) ∧ EF l o H h ro b y (fun p => c + cn p i (H - i)) E F (Wv l o H ro s i v)
  | e, 0, v, s, z, h1, h2, hS => absurd h2 (by omega)
  | 0, kk + 1, v, s, z, h1, h2, hS => by
    obtain ⟨L0, hl, v0, ho⟩ := hS.1.1
    have o3 := ho.2.1
    refine ⟨s, z, _, _, ?_, hS, FF.rf, AdL.rf (fun _ _ w => w) (fun _ w => w), EF.none (fun p hp => ?_)⟩
    · generalize hB : lp (pfB n m self (i : Int) y c (h : Int) b) kk = nx
      show pfB n m self (i : Int) y c (h : Int) b (lp (pfB n m self (i : Int) y c (h : Int) b) kk) (v : Int) (wi μ (wm I m s)) = _
      rw [hB]
      unfold pfB
      rw [bM_gI hM, ho.1, i_lt_t (by omega)]
    · obtain ⟨t, ht, hc⟩ := hp.2.1
      rcases hc with ⟨a, -⟩ | ⟨k, a, b, -⟩ <;> omega
  | e + 1, kk + 1, v, s, z, h1, h2, hS => by
    obtain ⟨L0, hl, v0, ho⟩ := hS.1.1
    have o3 := ho.2.1
    have k0 := hkl.1
    have hm := ho.2.2.2
    have ih := pf_in hM hkl hi hH hH4 hc hself e kk (v + 1)
    generalize hB : lp (pfB n m self (i : Int) y c (h : Int) b) kk = nx at ih
    -- a choice taken
    have take : ∀ w : Int, cho l o ro i v w → ∃ (u : Ld) (z1 : Nat) (E : Int → Int → Prop) (F : Int → Prop), pfK n m self (i : Int) y c (h : Int) b nx (v : Int) (m + 5) w (wi μ (wm I m s)) = some ((), wi μ (wm I m u)) ∧ SF l o H ro u z1 ∧ FF H s u i ∧ AdL E F (s 8) (s 13) z (s 0 31) (u 8) (u 13) z1 (u 0 31) ∧ EF l o H h ro b y (fun p => c + cn p i (H - i)) E F (Wv l o H ro s i v) := by
      intro w hcw
      have hw := cho_rg hS.1 hkl hcw
      have dw : (v = 0 ∧ w = -1) ∨ (v ≠ 0 ∧ w ≠ -1) := by
        rcases hcw with ⟨a, b⟩ | ⟨k, a, -, b, -⟩
        · exact Or.inl ⟨a, b⟩
        · exact Or.inr ⟨by omega, by omega⟩
      have inW : ∀ p : Nat → Int, Wi l o H ro (up2 s 5 i w) (i + 1) p ↔ (∀ j : Nat, j < i → p j = s 5 j) ∧ p i = w ∧ ∀ j : Nat, i < j → j < H → chc l o ro j (p j) := fun p => by
        constructor
        · intro hp
          exact ⟨fun j hj => (hp.1 j (by omega)).trans (up2_n (by omega)), (hp.1 i (by omega)).trans up2_s, fun j a b => hp.2 j (by omega) b⟩
        · intro hp
          refine ⟨fun j hj => ?_, fun j a b => hp.2.2 j (by omega) b⟩
          by_cases c : j = i
          · rw [c, up2_s]; exact hp.2.1
          · rw [up2_n (by omega)]; exact hp.1 j (by omega)
      have sub : ∀ p : Nat → Int, Wi l o H ro (up2 s 5 i w) (i + 1) p → Wv l o H ro s i v p := fun p hp => by
        obtain ⟨q1, q2, q3⟩ := (inW p).mp hp
        exact ⟨q1, ⟨v, Nat.le_refl _, by rw [q2]; exact hcw⟩, q3⟩
      have go : ∀ c' : Int, c' = c + (if w = -1 then 0 else 1) → ∃ (u : Ld) (z1 : Nat) (E : Int → Int → Prop) (F : Int → Prop), ((inv (wi μ (wm I m (up2 s 5 i w))) 12 m (self (m, (i : Int) + 1, y, c', (h : Int), b) (wi μ (wm I m (up2 s 5 i w))))).bind fun p130 => nx ((v : Int) + 1) p130.2) = some ((), wi μ (wm I m u)) ∧ SF l o H ro u z1 ∧ FF H s u i ∧ AdL E F (s 8) (s 13) z (s 0 31) (u 8) (u 13) z1 (u 0 31) ∧ EF l o H h ro b y (fun p => c + cn p i (H - i)) E F (Wv l o H ro s i v) := by
        intro c' ec
        have cr : 0 ≤ c' ∧ c' + ((H - (i + 1) : Nat) : Int) ≤ 100000 := by
          rw [ec]; split <;> omega
        obtain ⟨u, z1, E, F, e1, f1, f2, f3, f4⟩ := hself c' (up2 s 5 i w) z cr (hS.put hw)
        have f3' : AdL E F (s 8) (s 13) z (s 0 31) (u 8) (u 13) z1 (u 0 31) := by
          have q8 : up2 s 5 i w 8 = s 8 := up2_row (by decide)
          have q13 : up2 s 5 i w 13 = s 13 := up2_row (by decide)
          have q0 : up2 s 5 i w 0 = s 0 := up2_row (by decide)
          rw [q8, q13, q0] at f3
          exact f3
        have f4' : EF l o H h ro b y (fun p => c + cn p i (H - i)) E F (Wi l o H ro (up2 s 5 i w) (i + 1)) := f4.cg (fun _ => Iff.rfl) (fun p hp => by
          have q2 := ((inW p).mp hp).2.1
          show c' + cn p (i + 1) (H - (i + 1)) = c + cn p i (H - i)
          rw [show H - i = (H - (i + 1)) + 1 by omega]
          show c' + cn p (i + 1) (H - (i + 1)) = c + ((if p i = -1 then 0 else 1) + cn p (i + 1) (H - (i + 1)))
          rw [q2, ec]
          omega)
        obtain ⟨u2, z2, E2, F2, e2, p1, p2, p3, p4⟩ := ih u z1 (by omega) (by omega) f1
        have fa := f2.put hi
        refine ⟨u2, z2, _, _, ?_, p1, fa.tr p2, f3'.tr p3, (f4'.or p4).cg (fun p => ?_) (fun _ _ => rfl)⟩
        · rw [bM_inv hM, bnd e1]
          exact e2
        · constructor
          · intro hp
            rcases hp with hp | hp
            · exact sub p hp
            · obtain ⟨q1, ⟨t, q2, q3⟩, q4⟩ := hp
              exact ⟨fun j hj => (q1 j hj).trans (fa.2.2.1 j (Or.inl hj)), ⟨t, by omega, q3⟩, q4⟩
          · intro hp
            obtain ⟨q1, ⟨t, q2, q3⟩, q4⟩ := hp
            by_cases c : t = v
            · exact Or.inl ((inW p).mpr ⟨q1, cho_fn hm hcw q3 c, q4⟩)
            · exact Or.inr ⟨fun j hj => (q1 j hj).trans (fa.2.2.1 j (Or.inl hj)).symm, ⟨t, by omega, q3⟩, q4⟩
      unfold pfK
      rw [bM_st5 hM (by omega) (by omega), Int.toNat_natCast]
      rcases dw with ⟨d1, d2⟩ | ⟨d1, d2⟩
      · rw [i_eq_t (by omega)]
        exact go c (by rw [if_pos d2]; omega)
      · rw [i_eq_f (by omega)]
        exact go (c + 1) (by rw [if_neg d2])
    show ∃ (u : Ld) (z1 : Nat) (E : Int → Int → Prop) (F : Int → Prop), pfB n m self (i : Int) y c (h : Int) b (lp (pfB n m self (i : Int) y c (h : Int) b) kk) (v : Int) (wi μ (wm I m s)) = some ((), wi μ (wm I m u)) ∧ _
    rw [hB]
    unfold pfB
    rw [bM_gI hM, ho.1, i_lt_f (by omega)]
    by_cases cv : v = 0
    · subst cv
      rw [i_lt_f (by omega)]
      unfold pfJ
      rw [bM_g15 hM, i_eq_t (x := ((0 : Nat) : Int)) (y := 0) rfl]
      exact take (-1) (Or.inl ⟨rfl, rfl⟩)
    · obtain ⟨r1, r2⟩ := ho.2.2.1 (v - 1) (by omega)
      have e10 : s 10 ((v : Int) - 1).toNat = ((ro (v - 1) : Nat) : Int) := by rw [show ((v : Int) - 1).toNat = v - 1 by omega]; exact r1
      have l10 : L0 10 = l 10 := v0.2.2.2.2.2.2.2.1
      rw [i_lt_t (by omega), bM_g25 hM, bM_ld10 hM (by omega) (by omega), e10, bM_inv hM, isEnd_w hM hl v0.1 (by omega) r2]
      dsimp only
      rw [l10]
      by_cases ce : l 10 (2 * ro (v - 1)) = (i : Int) ∨ l 10 (2 * ro (v - 1) + 1) = (i : Int)
      · rw [i_bi_t ce]
        unfold pfJ
        rw [bM_g15 hM, i_eq_f (by omega), bM_g25 hM, bM_ld10 hM (by omega) (by omega), e10]
        exact take _ (Or.inr ⟨v - 1, by omega, by omega, rfl, ce⟩)
      · rw [i_bi_f ce]
        obtain ⟨u, z1, E, F, e2, p1, p2, p3, p4⟩ := ih s z (by omega) (by omega) hS
        refine ⟨u, z1, E, F, e2, p1, p2, p3, p4.cg (fun p => ?_) (fun _ _ => rfl)⟩
        constructor
        · intro hp
          obtain ⟨q1, ⟨t, q2, q3⟩, q4⟩ := hp
          exact ⟨q1, ⟨t, by omega, q3⟩, q4⟩
        · intro hp
          obtain ⟨q1, ⟨t, q2, q3⟩, q4⟩ := hp
          refine ⟨q1, ⟨t, ?_, q3⟩, q4⟩
          by_cases c : t = v
          · exfalso
            rcases q3 with ⟨a, -⟩ | ⟨k, a, -, -, c2⟩
            · omega
            · have : k = v - 1 := by omega
              rw [this] at c2
              exact ce c2
          · omega
theorem pf_r (hM : isM μ m) (hkl : okL l) (vl : vL l L) (hH : (H : Int) = l 0 0) (hH4 : H ≤ 4) (hh : h < H) (hb : 0 ≤ b ∧ b ≤ 1000000) (hg : hd L h - b = 0) (hn : 20000 ≤ n) : ∀ (d k i : Nat), i + d = H → d < k → ∀ (c : Int) (s : Ld) (z : Nat), 0 ≤ c ∧ c + ((H - i : Nat) : Int) ≤ 100000 → SF l o H ro s z → ∃ (u : Ld) (z1 : Nat) (E : Int → Int → Prop) (F : Int → Prop), rX11_pullsFor n k (m, (i : Int), kM o H h ro b L, c, (h : Int), b) (wi μ (wm I m s)) = some ((), wi μ (wm I m u)) ∧ SF l o H ro u z1 ∧ FF H s u i ∧ AdL E F (s 8) (s 13) z (s 0 31) (u 8) (u 13) z1 (u 0 31) ∧ EF l o H h ro b (kM o H h ro b L) (fun p => c + cn p i (H - i)) E F (Wi l o H ro s i)
  | d, 0, i, h1, h2, c, s, z, hc, hS => absurd h2 (by omega)
  | 0, k + 1, i, h1, h2, c, s, z, hc, hS => by
    have ei : i = H := by omega
    subst ei
    obtain ⟨L0, hl, v0, ho⟩ := hS.1.1
    have e0 : s 1 (0 : Int).toNat = (i : Int) := by rw [hH, ← v0.2.1 0 (by decide)]; exact hl.1.1
    obtain ⟨u, z1, E, F, e, p1, p2, p3, p4⟩ := pf_leaf (n := n) (I := I) (c := c) hM vl hH hH4 hh hb hg hn (by omega) hS
    refine ⟨u, z1, E, F, ?_, p1, p2, p3, by rw [Nat.sub_self]; exact p4⟩
    show bX11_pullsFor n (lp (bX11_pullsFor n) k) (m, (i : Int), kM o i h ro b L, c, (h : Int), b) (wi μ (wm I m s)) = _
    rw [pf_s, bM_g1 hM, bM_ld1 hM (by decide) (by decide), e0, i_eq_t rfl]
    exact e
  | d + 1, k + 1, i, h1, h2, c, s, z, hc, hS => by
    obtain ⟨L0, hl, v0, ho⟩ := hS.1.1
    have o3 := ho.2.1
    have e0 : s 1 (0 : Int).toNat = (H : Int) := by rw [hH, ← v0.2.1 0 (by decide)]; exact hl.1.1
    have ih := pf_r hM hkl vl hH hH4 hh hb hg hn d k (i + 1) (by omega) (by omega)
    have ih' : ∀ (c : Int) (s : Ld) (z : Nat), 0 ≤ c ∧ c + ((H - (i + 1) : Nat) : Int) ≤ 100000 → SF l o H ro s z → ∃ (u : Ld) (z1 : Nat) (E : Int → Int → Prop) (F : Int → Prop), lp (bX11_pullsFor n) k (m, (i : Int) + 1, kM o H h ro b L, c, (h : Int), b) (wi μ (wm I m s)) = some ((), wi μ (wm I m u)) ∧ SF l o H ro u z1 ∧ FF H s u (i + 1) ∧ AdL E F (s 8) (s 13) z (s 0 31) (u 8) (u 13) z1 (u 0 31) ∧ EF l o H h ro b (kM o H h ro b L) (fun p => c + cn p (i + 1) (H - (i + 1))) E F (Wi l o H ro s (i + 1)) := ih
    generalize hB : lp (bX11_pullsFor n) k = self at ih'
    obtain ⟨u, z1, E, F, e, p1, p2, p3, p4⟩ := pf_in (n := n) (i := i) hM hkl (by omega) hH hH4 hc ih' (o + 1) n 0 s z (by omega) (by omega) hS
    refine ⟨u, z1, E, F, ?_, p1, p2, p3, p4.cg (fun p => ?_) (fun _ _ => rfl)⟩
    · show bX11_pullsFor n (lp (bX11_pullsFor n) k) (m, (i : Int), kM o H h ro b L, c, (h : Int), b) (wi μ (wm I m s)) = _
      rw [hB, pf_s, bM_g1 hM, bM_ld1 hM (by decide) (by decide), e0, i_eq_f (by omega)]
      exact e
    · constructor
      · intro hp
        refine ⟨hp.1, fun j a b => ?_⟩
        by_cases c : j = i
        · rw [c]; exact cho_chc.mp hp.2.1
        · exact hp.2.2 j (by omega) b
      · intro hp
        exact ⟨hp.1, cho_chc.mpr (hp.2 i (Nat.le_refl _) (by omega)), fun j a b => hp.2 j (by omega) b⟩
theorem pullsFor_eq (hM : isM μ m) (hkl : okL l) (vl : vL l L) (hH : (H : Int) = l 0 0) (hH4 : H ≤ 4) (hh : h < H) (hb : 0 ≤ b ∧ b ≤ 1000000) (hg : hd L h - b = 0) (hn : 20000 ≤ n) {c : Int} (hc : 0 ≤ c ∧ c ≤ 90000) {s : Ld} {z : Nat} (hS : SF l o H ro s z) : ∃ (u : Ld) (z1 : Nat) (E : Int → Int → Prop) (F : Int → Prop), mX11_pullsFor n m 0 (kM o H h ro b L) c (h : Int) b (wi μ (wm I m s)) = some ((), wi μ (wm I m u)) ∧ SF l o H ro u z1 ∧ FF H s u 0 ∧ AdL E F (s 8) (s 13) z (s 0 31) (u 8) (u 13) z1 (u 0 31) ∧ EF l o H h ro b (kM o H h ro b L) (fun p => c + cn p 0 H) E F (vP l o H ro) := by
  obtain ⟨u, z1, E, F, e, p1, p2, p3, p4⟩ := pf_r (n := n) (I := I) hM hkl vl hH hH4 hh hb hg hn H 12 0 (by omega) (by omega) c s z (by omega) hS
  refine ⟨u, z1, E, F, e, p1, p2, p3, p4.cg (fun p => ?_) (fun _ _ => rfl)⟩
  exact ⟨fun hp j hj => hp.2 j (by omega) hj, fun hp => ⟨fun j hj => absurd hj (by omega), fun j _ hj => hp j hj⟩⟩
end PE
