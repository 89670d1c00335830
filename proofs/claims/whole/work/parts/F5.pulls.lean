/-! the reference: all pulls from a code -/
def paK (n m : Nat) (self : Nat × Int × Int × Int × Int × Int → Mem → Option (Int × Mem)) (i y h b G : Int) (nx : Int → Mem → Option (Int × Mem)) (v95 : Int) (x96 : Nat) (v118 : Int) (μ118 : Mem) : Option (Int × Mem) := (stI μ118 0 x96 i v118).bind fun μ118 => (inv μ118 12 m (self (m, (i + 1), y, h, b, G) μ118)).bind fun p130 => if eq32 p130.1 0 then nx (v95 + 1) p130.2 else retZ 1 p130.2
def paJ (n m : Nat) (self : Nat × Int × Int × Int × Int × Int → Mem → Option (Int × Mem)) (i y h b G : Int) (nx : Int → Mem → Option (Int × Mem)) (v95 : Int) (μ95 : Mem) : Option (Int × Mem) := (gA μ95 12 m 15).bind fun x96 => if eq32 v95 0 then paK n m self i y h b G nx v95 x96 (-1) μ95 else (gA μ95 12 m 25).bind fun x110 => (ldI μ95 0 x110 (v95 - 1)).bind fun x117 => paK n m self i y h b G nx v95 x96 x117 μ95
def paB (n m : Nat) (self : Nat × Int × Int × Int × Int × Int → Mem → Option (Int × Mem)) (i y h b G : Int) : (Int → Mem → Option (Int × Mem)) → Int → Mem → Option (Int × Mem) := fun nx61 v61 μ61 => (gI μ61 12 m 27).bind fun x64 => if lt32 x64 v61 then retZ 0 μ61 else if lt32 0 v61 then (gA μ61 12 m 25).bind fun x78 => (ldI μ61 0 x78 (v61 - 1)).bind fun x85 => (inv μ61 12 m (mX11_isEnd n m i x85 μ61)).bind fun p86 => if eq32 p86.1 0 then nx61 (v61 + 1) p86.2 else paJ n m self i y h b G nx61 v61 p86.2 else paJ n m self i y h b G nx61 v61 μ61
theorem pa_s {n m : Nat} {self : Nat × Int × Int × Int × Int × Int → Mem → Option (Int × Mem)} {i y h b G : Int} (μ : Mem) : bX11_pullsAll n self (m, i, y, h, b, G) μ = ((gA μ 12 m 1).bind fun x2 => (ldI μ 0 x2 0).bind fun x6 => if eq32 i x6 then lfM n m y h b G μ else lp (paB n m self i y h b G) n 0 μ) := rfl
section PA
variable {μ : Mem} {I : Nat → Nat → Int} {m n o H h : Nat} {ro : Nat → Nat} {l L : Ld} {b G : Int}
def chc (l : Ld) (o : Nat) (ro : Nat → Nat) (j : Nat) (w : Int) : Prop := w = -1 ∨ ∃ k : Nat, k < o ∧ w = ((ro k : Nat) : Int) ∧ (l 10 (2 * ro k) = (j : Int) ∨ l 10 (2 * ro k + 1) = (j : Int))
def Wi (l : Ld) (o H : Nat) (ro : Nat → Nat) (s : Ld) (i : Nat) (p : Nat → Int) : Prop := (∀ j : Nat, j < i → p j = s 5 j) ∧ ∀ j : Nat, i ≤ j → j < H → chc l o ro j (p j)
def cho (l : Ld) (o : Nat) (ro : Nat → Nat) (j t : Nat) (w : Int) : Prop := (t = 0 ∧ w = -1) ∨ ∃ k : Nat, t = k + 1 ∧ k < o ∧ w = ((ro k : Nat) : Int) ∧ (l 10 (2 * ro k) = (j : Int) ∨ l 10 (2 * ro k + 1) = (j : Int))
def Wv (l : Ld) (o H : Nat) (ro : Nat → Nat) (s : Ld) (i v : Nat) (p : Nat → Int) : Prop := (∀ j : Nat, j < i → p j = s 5 j) ∧ (∃ t : Nat, v ≤ t ∧ cho l o ro i t (p i)) ∧ ∀ j : Nat, i < j → j < H → chc l o ro j (p j)
def SA (l : Ld) (o H : Nat) (ro : Nat → Nat) (s : Ld) (z : Nat) : Prop := (∃ L0 : Ld, LR L0 (s 1) ∧ vL l L0 ∧ hngM s o ro L0) ∧ MSt s z ∧ ∀ k : Nat, k < H → -1 ≤ s 5 k ∧ s 5 k ≤ 15
def FA (H : Nat) (s u : Ld) (i : Nat) : Prop := (∀ k : Nat, k ≠ 0 → k ≠ 1 → k ≠ 5 → k ≠ 8 → k ≠ 9 → u k = s k) ∧ (∀ j : Nat, j ≠ 26 → u 0 j = s 0 j) ∧ (∀ j : Nat, j < i ∨ H ≤ j → u 5 j = s 5 j) ∧ ∀ j : Nat, 220 ≤ j → u 1 j = s 1 j
theorem FA.rf {s : Ld} {i : Nat} : FA H s s i := ⟨fun _ _ _ _ _ _ => rfl, fun _ _ => rfl, fun _ _ => rfl, fun _ _ => rfl⟩
theorem FA.tr {s u v : Ld} {i : Nat} (h1 : FA H s u i) (h2 : FA H u v i) : FA H s v i := ⟨fun k a b c d e => (h2.1 k a b c d e).trans (h1.1 k a b c d e), fun j hj => (h2.2.1 j hj).trans (h1.2.1 j hj), fun j hj => (h2.2.2.1 j hj).trans (h1.2.2.1 j hj), fun j hj => (h2.2.2.2 j hj).trans (h1.2.2.2 j hj)⟩
theorem pa_leaf (hM : isM μ m) (vl : vL l L) (hH : (H : Int) = l 0 0) (hH4 : H ≤ 4) (hh : h < H) (hb : 0 ≤ b ∧ b ≤ 1000000) (hG : 1 ≤ G ∧ G ≤ 3) (hg : 0 ≤ hd L h - b ∧ hd L h - b < G) (hn : 20000 ≤ n) {s : Ld} {z : Nat} (hS : SA l o H ro s z) : ∃ (u : Ld) (z1 : Nat) (r : Int), lfM n m (kM o H h ro b L) (h : Int) b G (wi μ (wm I m s)) = some (r, wi μ (wm I m u)) ∧ SA l o H ro u z1 ∧ FA H s u H ∧ OA l o H h ro b G (kM o H h ro b L) (s 8) (u 8) z z1 r (Wi l o H ro s H) := by
  obtain ⟨⟨L0, hl, v0, ho⟩, hz, h5⟩ := hS
  obtain ⟨u0, u, L1, vl1, ek, eh, vg, lA, g2, g1, u01, alt⟩ := leaf_m (n := n) (I := I) (z := z) hM hl v0 vl hH hH4 hh ho hb hG hg (fun k hk => by have := h5 k hk; omega) hz hn
  have pc : ∀ p : Nat → Int, Wi l o H ro s H p → goL p L1 = goL (s 5) L1 := fun p hp => goL_cg' vl1.1 (fun k hk => hp.1 k (by rw [vl1.2.1 0 (by decide)] at hk; omega))
  have self : Wi l o H ro s H (s 5) := ⟨fun _ _ => rfl, fun j a b => absurd a (by omega)⟩
  have hng : ∀ w : Ld, w 0 27 = s 0 27 → w 10 = s 10 → hngM w o ro (goL (s 5) L1).1 := fun w e1 e2 => ⟨by rw [e1]; exact ho.1, ho.2.1, fun k hk => by rw [e2, vg.2.1 1 (by decide), ← v0.2.1 1 (by decide)]; exact ho.2.2.1 k hk, ho.2.2.2⟩
  have e8 : u0 8 = s 8 := g1 8 (by decide)
  rcases alt with ⟨c, e, mp⟩ | ⟨c, e, eu⟩
  · by_cases ci : inL (u0 8) z (kM o H h ro b (goL (s 5) L1).1) ∨ 3000 < z
    · have eu := mp.1 ci
      have es : ∀ k : Nat, k ≠ 1 → u k = s k := fun k hk => by rw [eu]; exact g1 k hk
      refine ⟨u, z, 0, e, ⟨⟨_, lA, vg, hng u (by rw [es 0 (by decide)]) (es 10 (by decide))⟩, hz.cg (es 0 (by decide)) (es 8 (by decide)) (es 9 (by decide)), fun k hk => by rw [es 5 (by decide)]; exact h5 k hk⟩, ⟨fun k _ a _ _ _ => es k a, fun j _ => by rw [es 0 (by decide)], fun j _ => by rw [es 5 (by decide)], g2⟩, ⟨Nat.le_refl _, fun i _ => by rw [es 8 (by decide)]⟩, fun x hx => Or.inl (by rw [es 8 (by decide)] at hx; exact hx), fun _ p hp => ?_, fun w => absurd w (by decide), Or.inl rfl⟩
      refine ⟨L1, ⟨vl1, ek, by omega, by omega⟩, by rw [pc p hp]; exact c, fun w => ?_⟩
      rw [pc p hp, es 8 (by decide), ← e8]
      exact ci.resolve_right (by omega)
    · have no : ¬ inL (u0 8) z (kM o H h ro b (goL (s 5) L1).1) := fun w => ci (Or.inl w)
      obtain ⟨m1, m2, m3, m4⟩ := mp.2 no (by omega)
      rw [e8] at m4
      refine ⟨u, z + 1, 0, e, ⟨⟨_, lA, vg, hng u (by rw [m2 27 (by decide), g1 0 (by decide)]) (by rw [m1 10 (by decide) (by decide) (by decide), g1 10 (by decide)])⟩, m3, fun k hk => by rw [m1 5 (by decide) (by decide) (by decide), g1 5 (by decide)]; exact h5 k hk⟩, ⟨fun k a a1 _ c1 c2 => by rw [m1 k a c1 c2, g1 k a1], fun j hj => by rw [m2 j hj, g1 0 (by decide)], fun j _ => by rw [m1 5 (by decide) (by decide) (by decide), g1 5 (by decide)], g2⟩, ⟨by omega, fun i hi => by rw [m4, upA_n (by omega)]⟩, fun x hx => ?_, fun _ p hp => ?_, fun w => absurd w (by decide), Or.inl rfl⟩
      · rw [m4] at hx
        rcases inL.put.mp hx with w | w
        · exact Or.inl w
        · exact Or.inr ⟨s 5, L1, self, ⟨vl1, ek, by omega, by omega⟩, c, w⟩
      · refine ⟨L1, ⟨vl1, ek, by omega, by omega⟩, by rw [pc p hp]; exact c, fun _ => ?_⟩
        rw [pc p hp, m4]
        exact inL.put.mpr (Or.inr rfl)
  · have es : ∀ k : Nat, k ≠ 1 → u k = s k := fun k hk => by rw [eu]; exact g1 k hk
    exact ⟨u, z, 1, e, ⟨⟨_, lA, vg, hng u (by rw [es 0 (by decide)]) (es 10 (by decide))⟩, hz.cg (es 0 (by decide)) (es 8 (by decide)) (es 9 (by decide)), fun k hk => by rw [es 5 (by decide)]; exact h5 k hk⟩, ⟨fun k _ a _ _ _ => es k a, fun j _ => by rw [es 0 (by decide)], fun j _ => by rw [es 5 (by decide)], g2⟩, ⟨Nat.le_refl _, fun i _ => by rw [es 8 (by decide)]⟩, fun x hx => Or.inl (by rw [es 8 (by decide)] at hx; exact hx), fun w => absurd w (by decide), fun _ => ⟨s 5, L1, self, ⟨vl1, ek, by omega, by omega⟩, c⟩, Or.inr rfl⟩
end PA
