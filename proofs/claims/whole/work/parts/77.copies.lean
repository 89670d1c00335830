/-! lands that agree as far as their rows reach -/
def EqL (l l' : Ld) : Prop := ∀ k i : Nat, k ≤ 12 → i < lnL k → l' k i = l k i
theorem EqL.z {l l' : Ld} (h : EqL l l') {i : Nat} (hi : i < 6) : l' 0 i = l 0 i := h 0 i (by decide) hi
theorem EqL.ok {l l' : Ld} (h : EqL l l') (hk : okL l) : okL l' := by
  obtain ⟨k0, k1, k2, k3⟩ := hk
  refine ⟨?_, fun p hp => ?_, fun p hp => ?_, fun p hp => ?_⟩
  · rw [h.z (by decide), h.z (by decide), h.z (by decide), h.z (by decide)]; exact k0
  · rw [h.z (by decide)] at hp
    rw [h 1 p (by decide) (show p < 10 by omega), h 2 p (by decide) (show p < 10 by omega), h 3 p (by decide) (show p < 10 by omega), h 4 p (by decide) (show p < 10 by omega)]
    exact k1 p hp
  · rw [h.z (by decide)] at hp
    rw [h 7 p (by decide) (show p < 16 by omega), h 8 p (by decide) (show p < 16 by omega), h 9 p (by decide) (show p < 16 by omega), h 10 (2 * p) (by decide) (show 2 * p < 32 by omega), h 10 (2 * p + 1) (by decide) (show 2 * p + 1 < 32 by omega)]
    exact k2 p hp
  · rw [h.z (by decide)] at hp
    rw [h 10 p (by decide) (show p < 32 by omega), h 11 p (by decide) (show p < 32 by omega), h 12 p (by decide) (show p < 32 by omega), h.z (by decide)]
    exact k3 p hp
theorem EqL.rl {l l' : Ld} {A : Nat → Int} (h : EqL l l') (hr : RLl l A) : RLl l' A := by
  obtain ⟨hk, ⟨r0, r1, r2⟩, ⟨q0, q1⟩, h0, h9⟩ := hr
  have hz := hk.1
  refine ⟨h.ok hk, ⟨?_, fun p hp => ?_, fun p hp => ?_⟩, ⟨?_, fun p hp => ?_⟩, ?_, ?_, fun p hp => ?_⟩
  · rw [h.z (by decide), h.z (by decide), h.z (by decide), h.z (by decide), h.z (by decide)]; exact r0
  · rw [h.z (by decide)] at hp
    rw [h 1 p (by decide) (show p < 10 by omega), h 2 p (by decide) (show p < 10 by omega), h 3 p (by decide) (show p < 10 by omega), h 4 p (by decide) (show p < 10 by omega), h 5 p (by decide) (show p < 10 by omega), h 6 p (by decide) (show p < 10 by omega)]
    exact r1 p hp
  · rw [h.z (by decide)] at hp
    rw [h 7 p (by decide) (show p < 16 by omega), h 8 p (by decide) (show p < 16 by omega), h 9 p (by decide) (show p < 16 by omega), h 10 (2 * p) (by decide) (show 2 * p < 32 by omega), h 10 (2 * p + 1) (by decide) (show 2 * p + 1 < 32 by omega), h 11 (2 * p) (by decide) (show 2 * p < 32 by omega), h 11 (2 * p + 1) (by decide) (show 2 * p + 1 < 32 by omega), h 12 (2 * p) (by decide) (show 2 * p < 32 by omega), h 12 (2 * p + 1) (by decide) (show 2 * p + 1 < 32 by omega)]
    exact r2 p hp
  · rw [h.z (by decide)]; exact q0
  · rw [h.z (by decide)] at hp
    rw [h 5 p (by decide) (show p < 10 by omega), h 6 p (by decide) (show p < 10 by omega)]
    exact q1 p hp
  · rw [h.z (by decide)]; exact h0
  · rw [h.z (by decide)]; exact h9.1
  · rw [h.z (by decide)] at hp
    rw [h 5 p (by decide) (show p < 10 by omega), h 6 p (by decide) (show p < 10 by omega), h.z (by decide)]
    exact h9.2 p hp
