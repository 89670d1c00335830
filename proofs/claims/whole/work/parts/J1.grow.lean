/-! class and reference side by side, where a search may be made -/
section GR
variable {μ ν : Mem} {c : Nat}
theorem isL.sm (h : SM μ ν c) {b : Nat} (hb : b + 12 < c + 215) (hc : b ≠ c) (hL : isL μ b) : isL ν b := by
  unfold isL at *
  rw [h.1 b (by omega)]
  exact ⟨hL.1, fun k hk => by rw [h.2 b _ (by omega) (by omega)]; exact hL.2.1 k hk, fun k hk k0 => by rw [h.1 (b + k) (by omega)]; exact hL.2.2 k hk k0⟩
theorem isC.sm (h : SM μ ν c) (hC : isC μ c) : isC ν c := by
  obtain ⟨c1, c2, ⟨c3, c4⟩, c5, c6, c7, c8, c9, c10, c11, c12, c13⟩ := hC
  have S := h.1
  have A := h.2
  refine ⟨by rw [S c (by omega)]; exact c1, ?_, ⟨c3.sm h (by omega) (by omega), c4.sm h (by omega) (by omega)⟩, ?_, fun i hi => ?_, fun i hi => ?_, ?_, ?_, ?_, ?_, ?_, ?_⟩
  · rw [A c 0 (by omega) (by omega), A c 1 (by omega) (by omega), A c 2 (by omega) (by omega), A c 3 (by omega) (by omega), A c 4 (by omega) (by omega), A c 5 (by omega) (by omega), A c 6 (by omega) (by omega), A c 7 (by omega) (by omega), A c 8 (by omega) (by omega), A c 9 (by omega) (by omega), A c 10 (by omega) (by omega)]
    exact c2
  · rw [S _ (by omega), S (c + 30) (by omega), S (c + 31) (by omega)]; exact c5
  · obtain ⟨x, y⟩ := c6 i hi
    exact ⟨x.sm h (by omega) (by omega), by rw [A _ _ (by omega) (by omega)]; exact y⟩
  · obtain ⟨x, y⟩ := c7 i hi
    unfold isN at *
    rw [S _ (by omega), S (c + 185 + 2 * i + 1) (by omega), A (c + 185 + 2 * i) 2 (by omega) (by omega), A (c + 31) i (by omega) (by omega)]
    exact ⟨x, y⟩
  · unfold isTy at *
    rw [S _ (by omega), S (c + 32 + 1) (by omega), A (c + 32) 6 (by omega) (by omega)]
    exact c8
  · rw [S _ (by omega), S (c + 2) (by omega), A (c + 1) 3 (by omega) (by omega)]
    exact c9
  · rw [S _ (by omega), S (c + 35) (by omega), A (c + 34) 0 (by omega) (by omega)]
    exact c10
  · obtain ⟨d1, d2, d3, d4, d5, d6, d7, d8, d9, d10⟩ := c11
    refine ⟨?_, ?_, ?_, ?_, ?_, ?_, ?_, ?_, ?_, fun i hi => ⟨(d10 i hi).1.sm h (by omega) (by omega), ?_⟩⟩
    · rw [S _ (by omega)]; exact d1
    · rw [A _ _ (by omega) (by omega)]; exact d2
    · rw [A _ _ (by omega) (by omega)]; exact d3
    · rw [A _ _ (by omega) (by omega)]; exact d4
    · rw [A _ _ (by omega) (by omega)]; exact d5
    · rw [S _ (by omega)]; exact d6
    · rw [S _ (by omega)]; exact d7
    · rw [S _ (by omega)]; exact d8
    · rw [S _ (by omega)]; exact d9
    · rw [A _ _ (by omega) (by omega)]; exact (d10 i hi).2
  · obtain ⟨d1, d2, d3, d4, d5, d6, d7, d8⟩ := c12
    refine ⟨?_, ?_, ?_, ?_, ?_, ?_, ?_, fun i hi => ⟨?_, ?_⟩⟩
    · rw [S _ (by omega)]; exact d1
    · rw [A _ _ (by omega) (by omega)]; exact d2
    · rw [A _ _ (by omega) (by omega)]; exact d3
    · rw [A _ _ (by omega) (by omega)]; exact d4
    · rw [S _ (by omega)]; exact d5
    · rw [S _ (by omega)]; exact d6
    · rw [S _ (by omega)]; exact d7
    · rw [A _ _ (by omega) (by omega)]; exact (d8 i hi).1
    · rw [S _ (by omega)]; exact (d8 i hi).2
  · obtain ⟨d1, d2, d3, d4, d5⟩ := c13
    refine ⟨?_, ?_, ?_, ?_, ?_⟩
    · rw [S _ (by omega)]; exact d1
    · rw [A _ _ (by omega) (by omega)]; exact d2
    · rw [A _ _ (by omega) (by omega)]; exact d3
    · rw [S _ (by omega)]; exact d4
    · rw [S _ (by omega)]; exact d5
theorem isM.sm (h : SM μ ν c) (hM : isM μ (c + 193)) : isM ν (c + 193) := by
  refine ⟨by rw [h.1 _ (by omega)]; exact hM.1, fun k q hk hq => ?_⟩
  have lt : k < 22 := by
    refine Classical.byContradiction fun w => ?_
    have : mSh[k]? = none := List.getElem?_eq_none (by show 22 ≤ k; omega)
    rw [this] at hq
    exact absurd hq (by simp)
  obtain ⟨x, y⟩ := hM.2 k q hk hq
  exact ⟨by rw [h.2 _ _ (by omega) (by omega)]; exact x, by rw [h.1 _ (by omega)]; exact y⟩
/-- a memory in which the search may have been made -/
def Grow (μ ν : Mem) (c : Nat) : Prop := SM μ ν c ∧ isC ν c ∧ isM ν (c + 193) ∧ hasS ν c ∧ ((mW ν = mW μ ∧ mN ν = mN μ) ∨ (mW ν = mW μ + 20329 ∧ mN μ = c + 214 ∧ mN ν = c + 229))
theorem Grow.rf (hC : isC μ c) (hM : isM μ (c + 193)) (hs : hasS μ c) : Grow μ μ c := ⟨SM.rf, hC, hM, hs, Or.inl ⟨rfl, rfl⟩⟩
def BothS (μ : Mem) (c : Nat) (I : Nat → Nat → Int) (f g : Mem → Option (Int × Mem)) : Prop := ∃ (v : Int) (ν : Mem) (J K : Nat → Nat → Int), f (wi μ I) = some (v, wi ν J) ∧ g (wi ν J) = some (v, wi ν K) ∧ RelC c K ∧ (∀ b : Nat, b < c → K b = I b ∧ J b = I b) ∧ Grow μ ν c
theorem Both.s {I : Nat → Nat → Int} {f g : Mem → Option (Int × Mem)} (h : Both μ c I f g) (hC : isC μ c) (hM : isM μ (c + 193)) (hs : hasS μ c) : BothS μ c I f g := by
  obtain ⟨v, J, K, h1, h2, h3, h4⟩ := h
  exact ⟨v, μ, J, K, h1, h2, h3, h4, Grow.rf hC hM hs⟩
theorem BothS.mk {I J : Nat → Nat → Int} {f g : Mem → Option (Int × Mem)} {v : Int} {s' : Ld} (hR : RelC c I) (hJ : CFh c I J) (hf : f (wi μ I) = some (v, wi ν J)) (hg : g (wi ν J) = some (v, wi ν (wm J (c + 193) s'))) (hs : FrW (ld J (c + 193)) s') (hl : RLl (ld J (c + 3)) (s' 1)) (hG : Grow μ ν c) : BothS μ c I f g :=
  ⟨v, ν, J, _, hf, hg, hR.go hJ hs hl, fun b hb => ⟨by rw [wm_out (by omega)]; exact hJ b (by unfold tmp; omega) (by omega), hJ b (by unfold tmp; omega) (by omega)⟩, hG⟩
end GR
