/-! open addressing, told apart from both programs: a table T of M slots, a list S of z codes -/
theorem least {P : Nat → Prop} : ∀ M : Nat, (∃ d : Nat, d < M ∧ P d) → ∃ d : Nat, d < M ∧ P d ∧ ∀ e : Nat, e < d → ¬ P e
  | 0, h => by
    obtain ⟨d, h1, -⟩ := h
    omega
  | M + 1, h => by
    by_cases c : ∃ d : Nat, d < M ∧ P d
    · obtain ⟨d, h1, h2, h3⟩ := least M c
      exact ⟨d, by omega, h2, h3⟩
    · obtain ⟨d, h1, h2⟩ := h
      have e : d = M := by
        by_cases x : d < M
        · exact absurd ⟨d, x, h2⟩ c
        · omega
      exact ⟨d, h1, h2, fun k hk z => c ⟨k, by omega, z⟩⟩
def HT (M : Nat) (h : Int → Nat) (T S : Nat → Int) (z : Nat) : Prop := (∀ j : Nat, j < M → 0 ≤ T j ∧ T j ≤ (z : Int)) ∧ sm (fun j => if T j = 0 then 0 else 1) M = (z : Int) ∧ (∀ i j : Nat, i < z → j < z → S i = S j → i = j) ∧ ∀ i : Nat, i < z → ∃ e : Nat, e < M ∧ T ((h (S i) + e) % M) = (i : Int) + 1 ∧ ∀ k : Nat, k < e → T ((h (S i) + k) % M) ≠ 0
/-- a code stands in the list -/
def inL (S : Nat → Int) (z : Nat) (x : Int) : Prop := ∃ i : Nat, i < z ∧ S i = x
section HT
variable {M z : Nat} {h : Int → Nat} {T S : Nat → Int}
theorem HT.empty (h0 : ∀ j : Nat, j < M → T j = 0) : HT M h T S 0 := by
  refine ⟨fun j hj => by rw [h0 j hj]; decide, ?_, fun i j a => absurd a (by omega), fun i a => absurd a (by omega)⟩
  exact sm_0 M (fun i hi => if_pos (h0 i hi))
theorem sm_full {f : Nat → Int} : ∀ n : Nat, (∀ i : Nat, i < n → f i = 1) → sm f n = (n : Int)
  | 0, _ => rfl
  | n + 1, hf => by
    have h1 := sm_full n (fun i hi => hf i (by omega))
    show sm f n + f n = _
    rw [h1, hf n (by omega)]
    omega
/-- a probe ends: at the code, or at an empty slot and the code stands nowhere -/
theorem HT.find (H : HT M h T S z) (hz : z < M) (x : Int) : ∃ d : Nat, d < M ∧ (∀ e : Nat, e < d → T ((h x + e) % M) ≠ 0 ∧ S (T ((h x + e) % M) - 1).toNat ≠ x) ∧ ((T ((h x + d) % M) = 0 ∧ ¬ inL S z x) ∨ (T ((h x + d) % M) ≠ 0 ∧ (T ((h x + d) % M) - 1).toNat < z ∧ S (T ((h x + d) % M) - 1).toNat = x)) := by
  obtain ⟨H1, H2, H3, H4⟩ := H
  have some0 : ∃ d : Nat, d < M ∧ T ((h x + d) % M) = 0 := by
    refine Classical.byContradiction (fun no => ?_)
    have all : ∀ j : Nat, j < M → T j ≠ 0 := fun j hj e => no ⟨(j + (M - h x % M)) % M, Nat.mod_lt _ (by omega), by
      have hm := Nat.mod_lt (h x) (show 0 < M by omega)
      have e2 : (h x + (j + (M - h x % M)) % M) % M = j := by
        rw [Nat.add_mod, Nat.mod_mod, ← Nat.add_mod]
        have e3 : h x + (j + (M - h x % M)) = j + M * (h x / M + 1) := by
          have := Nat.div_add_mod (h x) M
          rw [Nat.mul_add, Nat.mul_one]
          omega
        rw [e3, Nat.add_mul_mod_self_left]
        exact Nat.mod_eq_of_lt hj
      rw [e2]
      exact e⟩
    have := sm_full (f := fun j => if T j = 0 then 0 else 1) M (fun i hi => if_neg (all i hi))
    omega
  obtain ⟨d, hd, hP, hl⟩ := least (P := fun d => T ((h x + d) % M) = 0 ∨ S (T ((h x + d) % M) - 1).toNat = x) M (by
    obtain ⟨d, h1, h2⟩ := some0
    exact ⟨d, h1, Or.inl h2⟩)
  refine ⟨d, hd, fun e he => ⟨fun w => hl e he (Or.inl w), fun w => hl e he (Or.inr w)⟩, ?_⟩
  by_cases c : T ((h x + d) % M) = 0
  · refine Or.inl ⟨c, fun w => ?_⟩
    obtain ⟨i, hi, e⟩ := w
    obtain ⟨k, hk, e1, e2⟩ := H4 i hi
    rw [e] at e1 e2
    by_cases c1 : k < d
    · exact hl k c1 (Or.inr (by rw [e1, show ((i : Int) + 1 - 1).toNat = i by omega]; exact e))
    · by_cases c2 : d < k
      · exact e2 d c2 c
      · have : d = k := by omega
        rw [this, e1] at c
        omega
  · have hb := H1 ((h x + d) % M) (Nat.mod_lt _ (by omega))
    exact Or.inr ⟨c, by omega, hP.resolve_left c⟩
/-- what is put into the empty slot keeps the table -/
theorem HT.put (H : HT M h T S z) {x : Int} {d : Nat} (hd : d < M) (hn : ∀ e : Nat, e < d → T ((h x + e) % M) ≠ 0) (h0 : T ((h x + d) % M) = 0) (hx : ¬ inL S z x) : HT M h (upA T ((h x + d) % M) ((z : Int) + 1)) (upA S z x) (z + 1) := by
  obtain ⟨H1, H2, H3, H4⟩ := H
  have hk : (h x + d) % M < M := Nat.mod_lt _ (by omega)
  generalize hs : (h x + d) % M = k at *
  refine ⟨fun j hj => ?_, ?_, fun i j hi hj e => ?_, fun i hi => ?_⟩
  · by_cases c : j = k
    · rw [c, upA_s]; omega
    · rw [upA_n c]
      have := H1 j hj
      omega
  · have e : sm (fun j => if upA T k ((z : Int) + 1) j = 0 then 0 else 1) M = sm (fun j => (if T j = 0 then 0 else 1) + (if j = k then 1 else 0)) M := sm_cg M (fun j hj => by
      by_cases c : j = k
      · show (if upA T k ((z : Int) + 1) j = 0 then (0 : Int) else 1) = (if T j = 0 then 0 else 1) + (if j = k then 1 else 0)
        rw [c, upA_s, if_neg (by omega), if_pos h0, if_pos rfl]; rfl
      · show (if upA T k ((z : Int) + 1) j = 0 then (0 : Int) else 1) = (if T j = 0 then 0 else 1) + (if j = k then 1 else 0)
        rw [upA_n c, if_neg c]; omega)
    have e2 : sm (fun j => if j = k then (1 : Int) else 0) M = 1 := (sm_1 (k := k) M hk (fun i _ hi => if_neg hi)).trans (if_pos rfl)
    rw [e, sm_add, H2, e2]
    omega
  · by_cases ci : i = z
    · by_cases cj : j = z
      · omega
      · rw [ci, upA_s, upA_n cj] at e
        exact absurd ⟨j, by omega, e.symm⟩ hx
    · by_cases cj : j = z
      · rw [cj, upA_s, upA_n ci] at e
        exact absurd ⟨i, by omega, e⟩ hx
      · rw [upA_n ci, upA_n cj] at e
        exact H3 i j (by omega) (by omega) e
  · by_cases ci : i = z
    · rw [ci, upA_s]
      refine ⟨d, hd, by rw [hs, upA_s], fun e he => ?_⟩
      by_cases c : (h x + e) % M = k
      · rw [c, upA_s]; omega
      · rw [upA_n c]; exact hn e he
    · rw [upA_n ci]
      obtain ⟨e, h1, h2, h3⟩ := H4 i (by omega)
      refine ⟨e, h1, ?_, fun k' hk' => ?_⟩
      · by_cases c : (h (S i) + e) % M = k
        · rw [c] at h2
          omega
        · rw [upA_n c]; exact h2
      · by_cases c : (h (S i) + k') % M = k
        · rw [c, upA_s]; omega
        · rw [upA_n c]; exact h3 k' hk'
theorem inL.put {x y : Int} : inL (upA S z x) (z + 1) y ↔ inL S z y ∨ y = x := by
  constructor
  · intro w
    obtain ⟨i, hi, e⟩ := w
    by_cases c : i = z
    · rw [c, upA_s] at e; exact Or.inr e.symm
    · rw [upA_n c] at e; exact Or.inl ⟨i, by omega, e⟩
  · intro w
    rcases w with w | w
    · obtain ⟨i, hi, e⟩ := w
      exact ⟨i, by omega, by rw [upA_n (by omega)]; exact e⟩
    · exact ⟨z, by omega, by rw [upA_s]; exact w.symm⟩
end HT
