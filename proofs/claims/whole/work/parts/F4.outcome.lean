/-! what a search for codes comes to, over a set W of pulls -/
section OA
variable {l : Ld} {o H h : Nat} {ro : Nat → Nat} {b G y : Int} {S T U : Nat → Int} {z z1 z2 : Nat} {W W' : (Nat → Int) → Prop}
/-- a land of the code y -/
def lY (l : Ld) (o H h : Nat) (ro : Nat → Nat) (b y : Int) (L : Ld) : Prop := vL l L ∧ kM o H h ro b L = y ∧ 0 ≤ hd L h - b ∧ hd L h - b ≤ 3
def OA (l : Ld) (o H h : Nat) (ro : Nat → Nat) (b G y : Int) (S T : Nat → Int) (z z1 : Nat) (r : Int) (W : (Nat → Int) → Prop) : Prop := (z ≤ z1 ∧ ∀ i : Nat, i < z → T i = S i) ∧ (∀ x : Int, inL T z1 x → inL S z x ∨ ∃ (p : Nat → Int) (L : Ld), W p ∧ lY l o H h ro b y L ∧ hd (goL p L).1 h - b < G ∧ x = kM o H h ro b (goL p L).1) ∧ (r = 0 → ∀ p : Nat → Int, W p → ∃ L : Ld, lY l o H h ro b y L ∧ hd (goL p L).1 h - b < G ∧ (z1 ≤ 3000 → inL T z1 (kM o H h ro b (goL p L).1))) ∧ (r = 1 → ∃ (p : Nat → Int) (L : Ld), W p ∧ lY l o H h ro b y L ∧ ¬ hd (goL p L).1 h - b < G) ∧ (r = 0 ∨ r = 1)
theorem inL.mono {x : Int} (hz : z ≤ z1) (e : ∀ i : Nat, i < z → T i = S i) (h : inL S z x) : inL T z1 x := by
  obtain ⟨i, hi, q⟩ := h
  exact ⟨i, by omega, by rw [e i hi]; exact q⟩
theorem OA.tr {r : Int} (h1 : OA l o H h ro b G y S T z z1 0 W) (h2 : OA l o H h ro b G y T U z1 z2 r W') : OA l o H h ro b G y S U z z2 r (fun p => W p ∨ W' p) := by
  obtain ⟨⟨a1, a2⟩, a3, a4, -, -⟩ := h1
  obtain ⟨⟨b1, b2⟩, b3, b4, b5, b6⟩ := h2
  refine ⟨⟨by omega, fun i hi => (b2 i (by omega)).trans (a2 i hi)⟩, fun x hx => ?_, fun r0 p hp => ?_, fun r1 => ?_, b6⟩
  · rcases b3 x hx with c | ⟨p, L, q1, q2⟩
    · rcases a3 x c with c' | ⟨p, L, q1, q2⟩
      · exact Or.inl c'
      · exact Or.inr ⟨p, L, Or.inl q1, q2⟩
    · exact Or.inr ⟨p, L, Or.inr q1, q2⟩
  · rcases hp with c | c
    · obtain ⟨L, q1, q2, q3⟩ := a4 rfl p c
      exact ⟨L, q1, q2, fun hz => (q3 (by omega)).mono b1 b2⟩
    · exact b4 r0 p c
  · obtain ⟨p, L, q1, q2⟩ := b5 r1
    exact ⟨p, L, Or.inr q1, q2⟩
theorem OA.one (h1 : OA l o H h ro b G y S T z z1 1 W) (hW : ∀ p : Nat → Int, W p → W' p) : OA l o H h ro b G y S T z z1 1 W' := by
  obtain ⟨a1, a3, -, a5, a6⟩ := h1
  refine ⟨a1, fun x hx => ?_, fun e => absurd e (by decide), fun e => ?_, a6⟩
  · rcases a3 x hx with c | ⟨p, L, q1, q2⟩
    · exact Or.inl c
    · exact Or.inr ⟨p, L, hW p q1, q2⟩
  · obtain ⟨p, L, q1, q2⟩ := a5 e
    exact ⟨p, L, hW p q1, q2⟩
theorem OA.iff {r : Int} (h1 : OA l o H h ro b G y S T z z1 r W) (hW : ∀ p : Nat → Int, W p ↔ W' p) : OA l o H h ro b G y S T z z1 r W' := by
  have e : W = W' := funext fun p => propext (hW p)
  rw [← e]
  exact h1
theorem OA.none (hW : ∀ p : Nat → Int, ¬ W p) : OA l o H h ro b G y S S z z 0 W := ⟨⟨Nat.le_refl _, fun _ _ => rfl⟩, fun _ hx => Or.inl hx, fun _ p hp => absurd hp (hW p), fun e => absurd e (by decide), Or.inl rfl⟩
end OA
