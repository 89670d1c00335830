/-! the reference: all pulls from a code, whole -/
section PC
variable {μ : Mem} {I : Nat → Nat → Int} {m n o H h : Nat} {ro : Nat → Nat} {l L : Ld} {b G : Int}
theorem cho_chc {j : Nat} {w : Int} : (∃ t : Nat, 0 ≤ t ∧ cho l o ro j t w) ↔ chc l o ro j w := by
  constructor
  · intro hp
    obtain ⟨t, -, hc⟩ := hp
    rcases hc with ⟨-, e⟩ | ⟨k, -, k1, k2, k3⟩
    · exact Or.inl e
    · exact Or.inr ⟨k, k1, k2, k3⟩
  · intro hp
    rcases hp with e | ⟨k, k1, k2, k3⟩
    · exact ⟨0, Nat.le_refl _, Or.inl ⟨rfl, e⟩⟩
    · exact ⟨k + 1, by omega, Or.inr ⟨k, rfl, k1, k2, k3⟩⟩
theorem pa_r (hM : isM μ m) (hkl : okL l) (vl : vL l L) (hH : (H : Int) = l 0 0) (hH4 : H ≤ 4) (hh : h < H) (hb : 0 ≤ b ∧ b ≤ 1000000) (hG : 1 ≤ G ∧ G ≤ 3) (hg : 0 ≤ hd L h - b ∧ hd L h - b < G) (hn : 20000 ≤ n) : ∀ (d k i : Nat), i + d = H → d < k → ∀ (s : Ld) (z : Nat), SA l o H ro s z → ∃ (u : Ld) (z1 : Nat) (r : Int), rX11_pullsAll n k (m, (i : Int), kM o H h ro b L, (h : Int), b, G) (wi μ (wm I m s)) = some (r, wi μ (wm I m u)) ∧ SA l o H ro u z1 ∧ FA H s u i ∧ OA l o H h ro b G (kM o H h ro b L) (s 8) (u 8) z z1 r (Wi l o H ro s i)
  | d, 0, i, h1, h2, s, z, hS => absurd h2 (by omega)
  | 0, k + 1, i, h1, h2, s, z, hS => by
    have ei : i = H := by omega
    subst ei
    obtain ⟨L0, hl, v0, ho⟩ := hS.1
    have e0 : s 1 (0 : Int).toNat = (i : Int) := by rw [hH, ← v0.2.1 0 (by decide)]; exact hl.1.1
    obtain ⟨u, z1, r, e, p1, p2, p3⟩ := pa_leaf (n := n) (I := I) hM vl hH hH4 hh hb hG hg hn hS
    refine ⟨u, z1, r, ?_, p1, p2, p3⟩
    show bX11_pullsAll n (lp (bX11_pullsAll n) k) (m, (i : Int), kM o i h ro b L, (h : Int), b, G) (wi μ (wm I m s)) = _
    rw [pa_s, bM_g1 hM, bM_ld1 hM (by decide) (by decide), e0, i_eq_t rfl]
    exact e
  | d + 1, k + 1, i, h1, h2, s, z, hS => by
    obtain ⟨L0, hl, v0, ho⟩ := hS.1
    have o3 := ho.2.1
    have e0 : s 1 (0 : Int).toNat = (H : Int) := by rw [hH, ← v0.2.1 0 (by decide)]; exact hl.1.1
    have ih := pa_r hM hkl vl hH hH4 hh hb hG hg hn d k (i + 1) (by omega) (by omega)
    have ih' : ∀ (s : Ld) (z : Nat), SA l o H ro s z → ∃ (u : Ld) (z1 : Nat) (r : Int), lp (bX11_pullsAll n) k (m, (i : Int) + 1, kM o H h ro b L, (h : Int), b, G) (wi μ (wm I m s)) = some (r, wi μ (wm I m u)) ∧ SA l o H ro u z1 ∧ FA H s u (i + 1) ∧ OA l o H h ro b G (kM o H h ro b L) (s 8) (u 8) z z1 r (Wi l o H ro s (i + 1)) := ih
    generalize hB : lp (bX11_pullsAll n) k = self at ih'
    obtain ⟨u, z1, r, e, p1, p2, p3⟩ := pa_in (n := n) (i := i) hM hkl (by omega) hH ih' (o + 1) n 0 s z (by omega) (by omega) hS
    refine ⟨u, z1, r, ?_, p1, p2, p3.iff (fun p => ?_)⟩
    · show bX11_pullsAll n (lp (bX11_pullsAll n) k) (m, (i : Int), kM o H h ro b L, (h : Int), b, G) (wi μ (wm I m s)) = _
      rw [hB, pa_s, bM_g1 hM, bM_ld1 hM (by decide) (by decide), e0, i_eq_f (by omega)]
      exact e
    · constructor
      · intro hp
        refine ⟨hp.1, fun j a b => ?_⟩
        by_cases c : j = i
        · rw [c]; exact cho_chc.mp hp.2.1
        · exact hp.2.2 j (by omega) b
      · intro hp
        exact ⟨hp.1, cho_chc.mpr (hp.2 i (Nat.le_refl _) (by omega)), fun j a b => hp.2 j (by omega) b⟩
/-- pulls that can be made -/
def vP (l : Ld) (o H : Nat) (ro : Nat → Nat) (p : Nat → Int) : Prop := ∀ j : Nat, j < H → chc l o ro j (p j)
theorem pullsAll_eq (hM : isM μ m) (hkl : okL l) (vl : vL l L) (hH : (H : Int) = l 0 0) (hH4 : H ≤ 4) (hh : h < H) (hb : 0 ≤ b ∧ b ≤ 1000000) (hG : 1 ≤ G ∧ G ≤ 3) (hg : 0 ≤ hd L h - b ∧ hd L h - b < G) (hn : 20000 ≤ n) {s : Ld} {z : Nat} (hS : SA l o H ro s z) : ∃ (u : Ld) (z1 : Nat) (r : Int), mX11_pullsAll n m 0 (kM o H h ro b L) (h : Int) b G (wi μ (wm I m s)) = some (r, wi μ (wm I m u)) ∧ SA l o H ro u z1 ∧ FA H s u 0 ∧ OA l o H h ro b G (kM o H h ro b L) (s 8) (u 8) z z1 r (vP l o H ro) := by
  obtain ⟨u, z1, r, e, p1, p2, p3⟩ := pa_r (n := n) (I := I) hM hkl vl hH hH4 hh hb hG hg hn H 12 0 (by omega) (by omega) s z hS
  refine ⟨u, z1, r, e, p1, p2, p3.iff (fun p => ?_)⟩
  exact ⟨fun hp j hj => hp.2 j (by omega) hj, fun hp => ⟨fun j hj => absurd hj (by omega), fun j _ hj => hp j hj⟩⟩
end PC
