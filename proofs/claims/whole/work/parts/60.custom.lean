/-! the custom's pulls, told apart from the row that they lie in -/
def cuP (l : Ld) : Nat → Int := fun h => if thL l h then ftL l h else -1
def cmS (l : Ld) (h : Nat) (s : Int) : Int := if cuP l h = -1 then s else s + 1
def cmL (l : Ld) : Int := itr (cmS l) 0 (l 0 0).toNat 0
def cbL (l : Ld) : Int := itr (cbS l (cuP l)) 0 (l 0 1).toNat 0
/-- an hour of the custom: the land, what was drunk, how many pulled, how many ropes both pulled -/
def cuA (_ : Nat) (s : Ld × Int × Int × Int) : Ld × Int × Int × Int := ((goL (cuP s.1) s.1).1, s.2.1 + (goL (cuP s.1) s.1).2, s.2.2.1 + cmL s.1, s.2.2.2 + cbL s.1)
theorem itr_add {f : Nat → Int → Int} (hf : ∀ k x, f k x = x + f k 0) : ∀ (d k : Nat) (x : Int), itr f k d x = x + itr f k d 0
  | 0, k, x => by show x = x + 0; omega
  | d + 1, k, x => by
    show itr f (k + 1) d (f k x) = x + itr f (k + 1) d (f k 0)
    rw [itr_add hf d (k + 1) (f k x), itr_add hf d (k + 1) (f k 0), hf k x]
    omega
theorem cmS_add (l : Ld) (k : Nat) (x : Int) : cmS l k x = x + cmS l k 0 := by unfold cmS; split <;> omega
theorem cbS_add (l : Ld) (p : Nat → Int) (k : Nat) (x : Int) : cbS l p k x = x + cbS l p k 0 := by unfold cbS; split <;> omega
section CU
variable {l : Ld} {y p : Nat → Int}
theorem cbS_cg (hk : okL l) {q : Nat → Int} (h : ∀ k : Nat, (k : Int) < l 0 0 → p k = q k) (x : Int) : itr (cbS l p) 0 (l 0 1).toNat x = itr (cbS l q) 0 (l 0 1).toNat x := by
  have hz := hk.1
  refine itr_cg (P := fun _ _ => True) _ _ _ trivial (fun j s _ hj _ => ⟨?_, trivial⟩)
  have g1 := hk.2.2.2 (2 * j) (by omega)
  have g2 := hk.2.2.2 (2 * j + 1) (by omega)
  unfold cbS
  rw [h (l 10 (2 * j)).toNat (by omega), h (l 10 (2 * j + 1)).toNat (by omega)]
theorem mvL_cg' {q : Nat → Int} (hk : okL l) (h : ∀ k : Nat, (k : Int) < l 0 0 → p k = q k) : mvL p l = mvL q l := by
  have hz := hk.1
  refine itr_cg (P := fun _ s => okL s ∧ fxL l s) _ _ _ ⟨hk, fxL.rf⟩ (fun j s _ hj hi => ?_)
  have e1 := hi.2.1 1 (by omega)
  have e0 := hi.2.1 0 (by omega)
  have hr : (j : Int) < s 0 1 := by omega
  refine ⟨?_, mvS_ok _ hi.1 hr, hi.2.tr (mvS_fx _ _ _)⟩
  have hz' := hi.1.1
  have g1 := hi.1.2.2.2 (2 * j) (by omega)
  have g2 := hi.1.2.2.2 (2 * j + 1) (by omega)
  unfold mvS
  rw [h (s 10 (2 * j)).toNat (by omega), h (s 10 (2 * j + 1)).toNat (by omega)]
theorem goL_cg' {q : Nat → Int} (hk : okL l) (h : ∀ k : Nat, (k : Int) < l 0 0 → p k = q k) : goL p l = goL q l := by
  unfold goL
  rw [mvL_cg' hk h]
/-- the loop over the houses lays the custom's pulls -/
theorem cuQ_spec : ∀ (d k : Nat) (q : Ts), (∀ h : Nat, k ≤ h → h < k + d → q.2 h = -1) → (itr (inS l) k d q).1 7 = itr (cmS l) k d (q.1 7) ∧ (∀ j : Nat, j ≠ 7 → (itr (inS l) k d q).1 j = q.1 j) ∧ (∀ h : Nat, k ≤ h → h < k + d → (itr (inS l) k d q).2 h = cuP l h) ∧ (∀ h : Nat, h < k ∨ k + d ≤ h → (itr (inS l) k d q).2 h = q.2 h)
  | 0, k, q, _ => ⟨rfl, fun _ _ => rfl, fun h h1 h2 => absurd h2 (by omega), fun _ _ => rfl⟩
  | d + 1, k, q, hq => by
    have hs : (inS l k q).1 7 = cmS l k (q.1 7) ∧ (∀ j : Nat, j ≠ 7 → (inS l k q).1 j = q.1 j) ∧ (inS l k q).2 k = cuP l k ∧ (∀ h : Nat, h ≠ k → (inS l k q).2 h = q.2 h) := by
      unfold inS cmS cuP
      by_cases c1 : thL l k
      · by_cases c2 : ftL l k = -1
        · rw [if_neg (fun z => z.2 c2), if_pos c1, if_pos c2, c2]
          exact ⟨rfl, fun _ _ => rfl, hq k (by omega) (by omega), fun _ _ => rfl⟩
        · rw [if_pos ⟨c1, c2⟩, if_pos c1, if_neg c2]
          dsimp only
          exact ⟨upA_s, fun j hj => upA_n hj, upA_s, fun h hh => upA_n hh⟩
      · rw [if_neg (fun z => c1 z.1), if_neg c1, if_pos rfl]
        exact ⟨rfl, fun _ _ => rfl, hq k (by omega) (by omega), fun _ _ => rfl⟩
    obtain ⟨h1, h2, h3, h4⟩ := hs
    obtain ⟨i1, i2, i3, i4⟩ := cuQ_spec d (k + 1) (inS l k q) (fun h a1 a2 => by rw [h4 h (by omega)]; exact hq h (by omega) (by omega))
    refine ⟨?_, fun j hj => ?_, fun h a1 a2 => ?_, fun h a => ?_⟩
    · show (itr (inS l) (k + 1) d (inS l k q)).1 7 = itr (cmS l) (k + 1) d (cmS l k (q.1 7))
      rw [i1, h1]
    · show (itr (inS l) (k + 1) d (inS l k q)).1 j = _
      rw [i2 j hj, h2 j hj]
    · show (itr (inS l) (k + 1) d (inS l k q)).2 h = _
      by_cases e : h = k
      · subst e
        rw [i4 _ (by omega), h3]
      · exact i3 h (by omega) (by omega)
    · show (itr (inS l) (k + 1) d (inS l k q)).2 h = _
      rw [i4 h (by omega), h4 h (by omega)]
/-- the tally and the abstract hours go side by side -/
def cuR (s : Ld × Ts) (u : Ld × Int × Int × Int) : Prop := s.1 = u.1 ∧ s.2.1 3 = u.2.1 ∧ s.2.1 4 = u.2.2.1 ∧ s.2.1 5 = u.2.2.2 ∧ s.2.1 7 = 0 ∧ ∀ h : Nat, h < 10 → s.2.2 h = -1
theorem cuS_R {k : Nat} {s : Ld × Ts} {u : Ld × Int × Int × Int} (hk : okL s.1) (h : cuR s u) : cuR (cuS k s) (cuA k u) := by
  obtain ⟨l, y, p⟩ := s
  obtain ⟨l', d, m, b⟩ := u
  obtain ⟨e1, e3, e4, e5, e7, ep⟩ := h
  dsimp only at e1 e3 e4 e5 e7 ep hk
  subst e1
  have hz := hk.1
  obtain ⟨q1, q2, q3, q4⟩ := cuQ_spec (l := l) (l 0 0).toNat 0 (y, p) (fun h _ h2 => ep h (by omega))
  dsimp only at q1 q2 q3 q4
  have hcg : ∀ k : Nat, (k : Int) < l 0 0 → (cuQ l y p).2 k = cuP l k := fun k hk => q3 k (by omega) (by omega)
  have hg : goL (cuQ l y p).2 l = goL (cuP l) l := goL_cg' hk hcg
  have hb : itr (cbS l (cuQ l y p).2) 0 (l 0 1).toNat ((cuQ l y p).1 5) = b + cbL l := by
    rw [cbS_cg hk hcg, itr_add (cbS_add l (cuP l))]
    unfold cuQ
    rw [q2 5 (by omega), e5]
    rfl
  have h7 : (cuQ l y p).1 7 = cmL l := by
    unfold cuQ
    rw [q1, e7]
    rfl
  have h3 : (cuQ l y p).1 3 = d := by unfold cuQ; rw [q2 3 (by omega), e3]
  have h4 : (cuQ l y p).1 4 = m := by unfold cuQ; rw [q2 4 (by omega), e4]
  unfold cuS enS cuA
  dsimp only
  rw [hg]
  refine ⟨rfl, ?_, ?_, ?_, ?_, fun h hh => flR_lt hh⟩
  · show yE (cuY l (cuQ l y p)) (goL (cuP l) l).2 3 = d + (goL (cuP l) l).2
    rw [← h3]
    simp [yE, cuY, upA]
  · show yE (cuY l (cuQ l y p)) (goL (cuP l) l).2 4 = m + cmL l
    rw [← h4, ← h7]
    simp [yE, cuY, upA]
  · show yE (cuY l (cuQ l y p)) (goL (cuP l) l).2 5 = b + cbL l
    rw [← hb]
    simp [yE, cuY, upA]
  · show yE (cuY l (cuQ l y p)) (goL (cuP l) l).2 7 = 0
    simp [yE, upA]
theorem cuS_run (hk : okL l) (hh : -2147483648 ≤ l 0 2 ∧ l 0 2 < 2147483648) (b : Nat) : cuR (itr cuS 0 b (l, yB y, flR p 10 (-1))) (itr cuA 0 b (l, 0, 0, 0)) :=
  (itr_rel (step := cuS) (step' := cuA) (P := fun _ s u => okT s ∧ cuR s u) b 0 (l, yB y, flR p 10 (-1)) (l, 0, 0, 0) ⟨begin_ok hk hh, rfl, by simp [yB, upA], by simp [yB, upA], by simp [yB, upA], by simp [yB, upA], fun h hh => flR_lt hh⟩ (fun j s t _ _ hi => ⟨cuS_ok hi.1, cuS_R hi.1.1 hi.2⟩)).2
end CU
