/-! stones -/
section ST
variable {μ : Mem} {I : Nat → Nat → Int} {c n : Nat}
theorem LR_st {l : Ld} {A : Nat → Int} (h : LR l A) (hk : okL l) {r w : Nat} (hr : (r : Int) < l 0 1) (hw : w < 2) (x : Int) : LR (up2 l 11 (2 * r + w) x) (upA A (140 + 16 * w + r) x) := by
  have hz := hk.1
  obtain ⟨h0, h1, h2⟩ := h
  refine ⟨?_, fun p hp => ?_, fun p hp => ?_⟩
  · simp (disch := omega) only [upA_n, up2_n]; exact h0
  · simp (disch := omega) only [up2_n] at hp ⊢
    simp (disch := omega) only [upA_n]; exact h1 p hp
  · simp (disch := omega) only [up2_n] at hp ⊢
    have g := h2 p hp
    have e5 : upA A (140 + 16 * w + r) x (140 + p) = up2 l 11 (2 * r + w) x 11 (2 * p) := by
      by_cases e : p = r ∧ w = 0
      · obtain ⟨rfl, rfl⟩ := e
        rw [show 140 + 16 * 0 + p = 140 + p by omega, upA_s, show 2 * p + 0 = 2 * p from rfl, up2_s]
      · rw [upA_n (by omega), up2_n (by omega)]; exact g.2.2.2.2.1
    have e6 : upA A (140 + 16 * w + r) x (156 + p) = up2 l 11 (2 * r + w) x 11 (2 * p + 1) := by
      by_cases e : p = r ∧ w = 1
      · obtain ⟨rfl, rfl⟩ := e
        rw [show 140 + 16 * 1 + p = 156 + p by omega, upA_s, up2_s]
      · rw [upA_n (by omega), up2_n (by omega)]; exact g.2.2.2.2.2.1
    refine ⟨?_, ?_, ?_, ?_, e5, e6, ?_, ?_, ?_⟩ <;> rw [upA_n (by omega)]
    · exact g.1
    · exact g.2.1
    · exact g.2.2.1
    · exact g.2.2.2.1
    · exact g.2.2.2.2.2.2.1
    · exact g.2.2.2.2.2.2.2.1
    · exact g.2.2.2.2.2.2.2.2
theorem LRq_st {l : Ld} {A : Nat → Int} (h : LRq l A) (hk : okL l) {b j : Nat} (hj : 76 ≤ j) (x : Int) : LRq (up2 l 11 b x) (upA A j x) := by
  have hz := hk.1
  refine ⟨?_, fun p hp => ?_⟩
  · rw [upA_n (by omega), up2_n (by omega)]; exact h.1
  · simp (disch := omega) only [up2_n] at hp ⊢
    simp (disch := omega) only [upA_n]
    exact h.2 p hp
theorem okL_st {l : Ld} (hk : okL l) {b : Nat} {x : Int} (hx : 0 ≤ x ∧ x ≤ 9) : okL (up2 l 11 b x) := by
  obtain ⟨k0, k1, k2, k3⟩ := hk
  refine ⟨?_, fun p hp => ?_, fun p hp => ?_, fun p hp => ?_⟩
  · simp (disch := omega) only [up2_n]; exact k0
  · simp (disch := omega) only [up2_n] at hp ⊢; exact k1 p hp
  · simp (disch := omega) only [up2_n] at hp ⊢; exact k2 p hp
  · simp (disch := omega) only [up2_n] at hp ⊢
    have g := k3 p hp
    by_cases e : p = b
    · subst e
      rw [up2_s]
      exact ⟨g.1, g.2.1, hx.1, hx.2, g.2.2.2.2⟩
    · rw [up2_n (show ¬ (11 = 11 ∧ p = b) by omega)]
      exact g
end ST
