/-! the reference: all pulls from a code, the recursion -/
section PB
variable {μ : Mem} {I : Nat → Nat → Int} {m n o H h i : Nat} {ro : Nat → Nat} {l L : Ld} {b G y : Int} {self : Nat × Int × Int × Int × Int × Int → Mem → Option (Int × Mem)}
theorem cho_rg {s : Ld} {z v : Nat} {w : Int} (hS : SA l o H ro s z) (hk : okL l) (hc : cho l o ro i v w) : -1 ≤ w ∧ w ≤ 15 := by
  obtain ⟨⟨L0, -, v0, ho⟩, -, -⟩ := hS
  rcases hc with ⟨-, e⟩ | ⟨k, -, k1, e, -⟩
  · omega
  · have := (ho.2.2.1 k k1).2
    rw [v0.2.1 1 (by decide)] at this
    have := hk.1
    omega
theorem SA.put {s : Ld} {z : Nat} (hS : SA l o H ro s z) {w : Int} (hw : -1 ≤ w ∧ w ≤ 15) : SA l o H ro (up2 s 5 i w) z := by
  obtain ⟨⟨L0, a1, a2, a3⟩, hz, h5⟩ := hS
  refine ⟨⟨L0, by rw [up2_row (by decide)]; exact a1, a2, by rw [up2_row (by decide)]; exact a3.1, a3.2.1, fun k hk => by rw [up2_row (by decide)]; exact a3.2.2.1 k hk, a3.2.2.2⟩, hz.cg (up2_row (by decide)) (up2_row (by decide)) (up2_row (by decide)), fun k hk => ?_⟩
  by_cases c : k = i
  · rw [c, up2_s]; exact hw
  · rw [up2_n (by omega)]; exact h5 k hk
theorem FA.put {s u : Ld} {w : Int} (hi : i < H) (h : FA H (up2 s 5 i w) u (i + 1)) : FA H s u i := by
  obtain ⟨a1, a2, a3, a4⟩ := h
  refine ⟨fun k k0 k1 k5 k8 k9 => (a1 k k0 k1 k5 k8 k9).trans (up2_row k5), fun j hj => (a2 j hj).trans (by rw [up2_row (by decide)]), fun j hj => (a3 j (by omega)).trans (up2_n (by omega)), fun j hj => (a4 j hj).trans (by rw [up2_row (by decide)])⟩
theorem cho_fn {v t : Nat} {w : Int} (hm : ∀ j k : Nat, j < k → k < o → ro j < ro k) (hc : cho l o ro i v w) {x : Int} (hx : cho l o ro i t x) (e : t = v) : x = w := by
  subst e
  rcases hc with ⟨a1, a2⟩ | ⟨k, a1, -, a2, -⟩
  · rcases hx with ⟨-, b2⟩ | ⟨k, b1, -⟩
    · rw [a2, b2]
    · omega
  · rcases hx with ⟨b1, -⟩ | ⟨k', b1, -, b2, -⟩
    · omega
    · have : k = k' := by omega
      rw [a2, b2, this]
theorem pa_in (hM : isM μ m) (hkl : okL l) (hi : i < H) (hH : (H : Int) = l 0 0)
    (hself : ∀ (s : Ld) (z : Nat), SA l o H ro s z → ∃ (u : Ld) (z1 : Nat) (r : Int), self (m, (i : Int) + 1, y, (h : Int), b, G) (wi μ (wm I m s)) = some (r, wi μ (wm I m u)) ∧ SA l o H ro u z1 ∧ FA H s u (i + 1) ∧ OA l o H h ro b G y (s 8) (u 8) z z1 r (Wi l o H ro s (i + 1))) :
    ∀ (e kk v : Nat) (s : Ld) (z : Nat), v + e = o + 1 → e < kk → SA l o H ro s z → ∃ (u : Ld) (z1 : Nat) (r : Int), lp (paB n m self (i : Int) y (h : Int) b G) kk (v : Int) (wi μ (wm I m s)) = some (r, wi μ (wm I m u)) ∧ SA l o H ro u z1 ∧ FA H s u i ∧ OA l o H h ro b G y (s 8) (u 8) z z1 r (Wv l o H ro s i v)
  | e, 0, v, s, z, h1, h2, hS => absurd h2 (by omega)
  | 0, kk + 1, v, s, z, h1, h2, hS => by
    obtain ⟨L0, hl, v0, ho⟩ := hS.1
    have o3 := ho.2.1
    refine ⟨s, z, 0, ?_, hS, FA.rf, OA.none (fun p hp => ?_)⟩
    · generalize hB : lp (paB n m self (i : Int) y (h : Int) b G) kk = nx
      show paB n m self (i : Int) y (h : Int) b G (lp (paB n m self (i : Int) y (h : Int) b G) kk) (v : Int) (wi μ (wm I m s)) = _
      rw [hB]
      unfold paB
      rw [bM_gI hM, ho.1, i_lt_t (by omega)]
      rfl
    · obtain ⟨t, ht, hc⟩ := hp.2.1
      rcases hc with ⟨a, -⟩ | ⟨k, a, b, -⟩ <;> omega
  | e + 1, kk + 1, v, s, z, h1, h2, hS => by
    obtain ⟨L0, hl, v0, ho⟩ := hS.1
    have o3 := ho.2.1
    have k0 := hkl.1
    have hm := ho.2.2.2
    have ih := pa_in hM hkl hi hH hself e kk (v + 1)
    generalize hB : lp (paB n m self (i : Int) y (h : Int) b G) kk = nx at ih
    -- a choice taken
    have take : ∀ w : Int, cho l o ro i v w → ∃ (u : Ld) (z1 : Nat) (r : Int), paK n m self (i : Int) y (h : Int) b G nx (v : Int) (m + 5) w (wi μ (wm I m s)) = some (r, wi μ (wm I m u)) ∧ SA l o H ro u z1 ∧ FA H s u i ∧ OA l o H h ro b G y (s 8) (u 8) z z1 r (Wv l o H ro s i v) := by
      intro w hc
      have hw := cho_rg hS hkl hc
      obtain ⟨u, z1, r, e1, f1, f2, f3⟩ := hself (up2 s 5 i w) z (hS.put hw)
      have f3' : OA l o H h ro b G y (s 8) (u 8) z z1 r (Wi l o H ro (up2 s 5 i w) (i + 1)) := by
        have q : up2 s 5 i w 8 = s 8 := up2_row (by decide)
        rw [q] at f3
        exact f3
      have inW : ∀ p : Nat → Int, Wi l o H ro (up2 s 5 i w) (i + 1) p ↔ (∀ j : Nat, j < i → p j = s 5 j) ∧ p i = w ∧ ∀ j : Nat, i < j → j < H → chc l o ro j (p j) := fun p => by
        constructor
        · intro hp
          exact ⟨fun j hj => (hp.1 j (by omega)).trans (up2_n (by omega)), (hp.1 i (by omega)).trans up2_s, fun j a b => hp.2 j (by omega) b⟩
        · intro hp
          refine ⟨fun j hj => ?_, fun j a b => hp.2.2 j (by omega) b⟩
          by_cases c : j = i
          · rw [c, up2_s]; exact hp.2.1
          · rw [up2_n (by omega)]; exact hp.1 j (by omega)
      have sub : ∀ p : Nat → Int, Wi l o H ro (up2 s 5 i w) (i + 1) p → Wv l o H ro s i v p := fun p hp => by
        obtain ⟨q1, q2, q3⟩ := (inW p).mp hp
        exact ⟨q1, ⟨v, Nat.le_refl _, by rw [q2]; exact hc⟩, q3⟩
      unfold paK
      rw [bM_st5 hM (by omega) (by omega), Int.toNat_natCast, bM_inv hM, bnd e1]
      dsimp only
      rcases f3'.2.2.2.2 with r0 | r1
      · rw [r0] at f3' ⊢
        rw [i_eq_t rfl]
        obtain ⟨u2, z2, r2, e2, p1, p2, p3⟩ := ih u z1 (by omega) (by omega) f1
        have fa := f2.put hi
        refine ⟨u2, z2, r2, e2, p1, fa.tr p2, (f3'.tr p3).iff (fun p => ?_)⟩
        constructor
        · intro hp
          rcases hp with hp | hp
          · exact sub p hp
          · obtain ⟨q1, ⟨t, q2, q3⟩, q4⟩ := hp
            exact ⟨fun j hj => (q1 j hj).trans (fa.2.2.1 j (Or.inl hj)), ⟨t, by omega, q3⟩, q4⟩
        · intro hp
          obtain ⟨q1, ⟨t, q2, q3⟩, q4⟩ := hp
          by_cases c : t = v
          · exact Or.inl ((inW p).mpr ⟨q1, cho_fn hm hc q3 c, q4⟩)
          · exact Or.inr ⟨fun j hj => (q1 j hj).trans (fa.2.2.1 j (Or.inl hj)).symm, ⟨t, by omega, q3⟩, q4⟩
      · rw [r1] at f3' ⊢
        rw [i_eq_f (by omega)]
        exact ⟨u, z1, 1, rfl, f1, f2.put hi, f3'.one sub⟩
    show ∃ (u : Ld) (z1 : Nat) (r : Int), paB n m self (i : Int) y (h : Int) b G (lp (paB n m self (i : Int) y (h : Int) b G) kk) (v : Int) (wi μ (wm I m s)) = some (r, wi μ (wm I m u)) ∧ _
    rw [hB]
    unfold paB
    rw [bM_gI hM, ho.1, i_lt_f (by omega)]
    by_cases cv : v = 0
    · subst cv
      rw [i_lt_f (by omega)]
      unfold paJ
      rw [bM_g15 hM, i_eq_t (x := ((0 : Nat) : Int)) (y := 0) rfl]
      exact take (-1) (Or.inl ⟨rfl, rfl⟩)
    · obtain ⟨r1, r2⟩ := ho.2.2.1 (v - 1) (by omega)
      have e10 : s 10 ((v : Int) - 1).toNat = ((ro (v - 1) : Nat) : Int) := by rw [show ((v : Int) - 1).toNat = v - 1 by omega]; exact r1
      have l10 : L0 10 = l 10 := v0.2.2.2.2.2.2.2.1
      rw [i_lt_t (by omega), bM_g25 hM, bM_ld10 hM (by omega) (by omega), e10, bM_inv hM, isEnd_w hM hl v0.1 (by omega) r2]
      dsimp only
      rw [l10]
      by_cases ce : l 10 (2 * ro (v - 1)) = (i : Int) ∨ l 10 (2 * ro (v - 1) + 1) = (i : Int)
      · rw [i_bi_t ce]
        unfold paJ
        rw [bM_g15 hM, i_eq_f (by omega), bM_g25 hM, bM_ld10 hM (by omega) (by omega), e10]
        exact take _ (Or.inr ⟨v - 1, by omega, by omega, rfl, ce⟩)
      · rw [i_bi_f ce]
        obtain ⟨u, z1, r, e2, p1, p2, p3⟩ := ih s z (by omega) (by omega) hS
        refine ⟨u, z1, r, e2, p1, p2, p3.iff (fun p => ?_)⟩
        constructor
        · intro hp
          obtain ⟨q1, ⟨t, q2, q3⟩, q4⟩ := hp
          exact ⟨q1, ⟨t, by omega, q3⟩, q4⟩
        · intro hp
          obtain ⟨q1, ⟨t, q2, q3⟩, q4⟩ := hp
          refine ⟨q1, ⟨t, ?_, q3⟩, q4⟩
          by_cases c : t = v
          · exfalso
            rcases q3 with ⟨a, -⟩ | ⟨k, a, -, -, c2⟩
            · omega
            · have : k = v - 1 := by omega
              rw [this] at c2
              exact ce c2
          · omega
end PB
