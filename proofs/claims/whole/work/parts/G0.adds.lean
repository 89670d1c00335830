/-! what is put into a list with prices, told by events -/
section AL
variable {E E' : Int → Int → Prop} {F F' : Int → Prop} {S P T Q U R : Nat → Int} {z z1 z2 : Nat} {f g k : Int}
def AdL (E : Int → Int → Prop) (F : Int → Prop) (S P : Nat → Int) (z : Nat) (f : Int) (T Q : Nat → Int) (z1 : Nat) (g : Int) : Prop := (z ≤ z1 ∧ ∀ i : Nat, i < z → T i = S i ∧ Q i ≤ P i) ∧ (∀ i : Nat, i < z1 → (i < z ∧ Q i = P i) ∨ E (T i) (Q i)) ∧ (∀ x c : Int, E x c → z1 ≤ 3000 → ∃ i : Nat, i < z1 ∧ T i = x ∧ Q i ≤ c) ∧ (g = f ∨ F g) ∧ (f ≠ -1 → g ≠ -1 ∧ g ≤ f) ∧ ∀ c : Int, F c → g ≠ -1 ∧ g ≤ c
theorem AdL.rf (hE : ∀ x c : Int, ¬ E x c) (hF : ∀ c : Int, ¬ F c) : AdL E F S P z f S P z f := ⟨⟨Nat.le_refl _, fun _ _ => ⟨rfl, Int.le_refl _⟩⟩, fun _ hi => Or.inl ⟨hi, rfl⟩, fun x c h => absurd h (hE x c), Or.inl rfl, fun h => ⟨h, Int.le_refl _⟩, fun c h => absurd h (hF c)⟩
theorem AdL.tr (h1 : AdL E F S P z f T Q z1 g) (h2 : AdL E' F' T Q z1 g U R z2 k) : AdL (fun x c => E x c ∨ E' x c) (fun c => F c ∨ F' c) S P z f U R z2 k := by
  obtain ⟨⟨a1, a2⟩, a3, a4, a5, a6, a7⟩ := h1
  obtain ⟨⟨b1, b2⟩, b3, b4, b5, b6, b7⟩ := h2
  refine ⟨⟨by omega, fun i hi => ⟨(b2 i (by omega)).1.trans (a2 i hi).1, Int.le_trans (b2 i (by omega)).2 (a2 i hi).2⟩⟩, fun i hi => ?_, fun x c h hz => ?_, ?_, fun h => ?_, fun c h => ?_⟩
  · rcases b3 i hi with ⟨q1, q2⟩ | q
    · rcases a3 i q1 with ⟨r1, r2⟩ | r
      · exact Or.inl ⟨r1, q2.trans r2⟩
      · exact Or.inr (Or.inl (by rw [(b2 i q1).1, q2]; exact r))
    · exact Or.inr (Or.inr q)
  · rcases h with h | h
    · obtain ⟨i, q1, q2, q3⟩ := a4 x c h (by omega)
      exact ⟨i, by omega, (b2 i q1).1.trans q2, Int.le_trans (b2 i q1).2 q3⟩
    · exact b4 x c h hz
  · rcases b5 with q | q
    · rcases a5 with r | r
      · exact Or.inl (q.trans r)
      · exact Or.inr (Or.inl (by rw [q]; exact r))
    · exact Or.inr (Or.inr q)
  · have q := a6 h
    have r := b6 q.1
    exact ⟨r.1, Int.le_trans r.2 q.2⟩
  · rcases h with h | h
    · have q := a7 c h
      have r := b6 q.1
      exact ⟨r.1, Int.le_trans r.2 q.2⟩
    · exact b7 c h
theorem AdL.wk (h1 : AdL E F S P z f T Q z1 g) (e1 : ∀ x c : Int, E x c → E' x c) (e2 : ∀ x c : Int, E' x c → ∃ d : Int, d ≤ c ∧ E x d) (f1 : ∀ c : Int, F c → F' c) (f2 : ∀ c : Int, F' c → ∃ d : Int, d ≤ c ∧ F d) : AdL E' F' S P z f T Q z1 g := by
  obtain ⟨a1, a3, a4, a5, a6, a7⟩ := h1
  refine ⟨a1, fun i hi => ?_, fun x c h hz => ?_, ?_, a6, fun c h => ?_⟩
  · rcases a3 i hi with q | q
    · exact Or.inl q
    · exact Or.inr (e1 _ _ q)
  · obtain ⟨d, hd, q⟩ := e2 x c h
    obtain ⟨i, q1, q2, q3⟩ := a4 x d q hz
    exact ⟨i, q1, q2, Int.le_trans q3 hd⟩
  · rcases a5 with q | q
    · exact Or.inl q
    · exact Or.inr (f1 _ q)
  · obtain ⟨d, hd, q⟩ := f2 c h
    have r := a7 d q
    exact ⟨r.1, Int.le_trans r.2 hd⟩
theorem AdL.iff (h1 : AdL E F S P z f T Q z1 g) (e : ∀ x c : Int, E x c ↔ E' x c) (e' : ∀ c : Int, F c ↔ F' c) : AdL E' F' S P z f T Q z1 g := h1.wk (fun x c => (e x c).mp) (fun x c h => ⟨c, Int.le_refl _, (e x c).mpr h⟩) (fun c => (e' c).mp) (fun c h => ⟨c, Int.le_refl _, (e' c).mpr h⟩)
/-- one code, met before -/
theorem AdL.old {x c : Int} {i : Nat} (hi : i < z) (hx : S i = x) (hm : ∀ q : Int, q = mMin (P i) c → (c < P i ∧ q = c) ∨ (P i ≤ c ∧ q = P i)) : AdL (fun x' c' => x' = x ∧ c' = c) (fun _ => False) S P z f S (upA P i (mMin (P i) c)) z f := by
  refine ⟨⟨Nat.le_refl _, fun j hj => ⟨rfl, ?_⟩⟩, fun j hj => ?_, fun x' c' h _ => ⟨i, hi, hx.trans h.1.symm, ?_⟩, Or.inl rfl, fun h => ⟨h, Int.le_refl _⟩, fun _ h => h.elim⟩
  · by_cases cj : j = i
    · rw [cj, upA_s]; rcases hm _ rfl with ⟨a, b⟩ | ⟨a, b⟩ <;> omega
    · rw [upA_n cj]; exact Int.le_refl _
  · by_cases cj : j = i
    · rw [cj, upA_s]
      rcases hm _ rfl with ⟨a, b⟩ | ⟨a, b⟩
      · exact Or.inr ⟨hx, b⟩
      · exact Or.inl ⟨hi, b⟩
    · exact Or.inl ⟨hj, by rw [upA_n cj]⟩
  · rw [upA_s, h.2]; rcases hm _ rfl with ⟨a, b⟩ | ⟨a, b⟩ <;> omega
/-- one code, new -/
theorem AdL.new {x c : Int} : AdL (fun x' c' => x' = x ∧ c' = c) (fun _ => False) S P z f (upA S z x) (upA P z c) (z + 1) f := by
  refine ⟨⟨by omega, fun j hj => by rw [upA_n (by omega), upA_n (by omega)]; exact ⟨rfl, Int.le_refl _⟩⟩, fun j hj => ?_, fun x' c' h _ => ⟨z, by omega, by rw [upA_s, h.1], by rw [upA_s, h.2]; exact Int.le_refl _⟩, Or.inl rfl, fun h => ⟨h, Int.le_refl _⟩, fun _ h => h.elim⟩
  by_cases cj : j = z
  · rw [cj, upA_s, upA_s]; exact Or.inr ⟨rfl, rfl⟩
  · rw [upA_n cj, upA_n cj]; exact Or.inl ⟨by omega, rfl⟩
/-- no place is left -/
theorem AdL.full (hz : 3000 < z) : AdL E (fun _ => False) S P z f S P z f := ⟨⟨Nat.le_refl _, fun _ _ => ⟨rfl, Int.le_refl _⟩⟩, fun _ hi => Or.inl ⟨hi, rfl⟩, fun _ _ _ h => absurd h (by omega), Or.inl rfl, fun h => ⟨h, Int.le_refl _⟩, fun _ h => h.elim⟩
/-- the goal -/
theorem AdL.goal {c : Int} (hc : 0 ≤ c) (hg : ((f = -1 ∨ c < f) ∧ g = c) ∨ (f ≠ -1 ∧ f ≤ c ∧ g = f)) : AdL (fun _ _ => False) (fun c' => c' = c) S P z f S P z g := by
  refine ⟨⟨Nat.le_refl _, fun _ _ => ⟨rfl, Int.le_refl _⟩⟩, fun _ hi => Or.inl ⟨hi, rfl⟩, fun _ _ h => h.elim, ?_, fun h => ?_, fun c' h => ?_⟩
  · rcases hg with ⟨a, b⟩ | ⟨a, b, d⟩
    · exact Or.inr b
    · exact Or.inl d
  · rcases hg with ⟨a, b⟩ | ⟨a, b, d⟩ <;> omega
  · rcases hg with ⟨a, b⟩ | ⟨a, b, d⟩ <;> omega
end AL
