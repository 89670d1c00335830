/-! how much a house has had, and how much an hour gives it -/
def hd (l : Ld) (h : Nat) : Int := l 5 h + l 6 h
/-- in an hour at most 32 buckets come up -/
def qnL (l : Ld) : Prop := ∀ h : Nat, (h : Int) < l 0 0 → 0 ≤ l 5 h + l 6 h ∧ l 5 h + l 6 h ≤ 32 * l 0 2
section GA
variable {l : Ld} {h : Nat}
theorem drS_hd (b h : Nat) (s : Ld × Int) : hd s.1 h ≤ hd (drS b s).1 h ∧ hd (drS b s).1 h ≤ hd s.1 h + 1 := by
  unfold drS hd
  split
  · split
    · dsimp only
      rw [up2_row (show (6 : Nat) ≠ 5 by decide), up2_row (show (6 : Nat) ≠ 12 by decide)]
      by_cases c : h = (s.1 10 b).toNat
      · rw [← c, up2_s]; omega
      · rw [up2_n (by omega), up2_row (show (5 : Nat) ≠ 12 by decide)]; omega
    · dsimp only
      rw [up2_row (show (5 : Nat) ≠ 6 by decide), up2_row (show (5 : Nat) ≠ 12 by decide)]
      by_cases c : h = (s.1 10 b).toNat
      · rw [← c, up2_s]; omega
      · rw [up2_n (by omega), up2_row (show (6 : Nat) ≠ 12 by decide)]; omega
  · omega
theorem goL_gn (hk : okL l) (p : Nat → Int) : hd l h ≤ hd (goL p l).1 h ∧ hd (goL p l).1 h ≤ hd l h + 32 := by
  have m1 : mvL p l 5 = l 5 ∧ mvL p l 6 = l 6 := by
    unfold mvL
    refine itr_inv (P := fun _ s => s 5 = l 5 ∧ s 6 = l 6) (l 0 1).toNat 0 l ⟨rfl, rfl⟩ (fun j s _ _ hi => ?_)
    unfold mvS
    split
    · rw [up2_row (by decide), up2_row (by decide)]; exact hi
    · exact hi
  have f1 : flL (mvL p l) 5 = mvL p l 5 ∧ flL (mvL p l) 6 = mvL p l 6 := by
    unfold flL
    refine itr_inv (P := fun _ s => s 5 = mvL p l 5 ∧ s 6 = mvL p l 6) _ 0 (mvL p l) ⟨rfl, rfl⟩ (fun j s _ _ hi => ?_)
    unfold flS
    split
    · rw [up2_row (by decide), up2_row (by decide), up2_row (by decide), up2_row (by decide)]; exact hi
    · exact hi
  have e : hd (flL (mvL p l)) h = hd l h := by
    unfold hd
    rw [f1.1, f1.2, m1.1, m1.2]
  have k0 := (flL_ok (mvL_ok p hk).1).1.1
  have dd : ∀ m : Ld, hd m h ≤ hd (drL m).1 h ∧ hd (drL m).1 h ≤ hd m h + ((0 + 2 * (m 0 1).toNat : Nat) : Int) := fun m => by
    have := itr_inv (step := drS) (P := fun k s => hd m h ≤ hd s.1 h ∧ hd s.1 h ≤ hd m h + ((k : Nat) : Int)) (2 * (m 0 1).toNat) 0 (m, 0) ⟨Int.le_refl _, by dsimp only; omega⟩ (fun j s _ _ hi => by
      have := drS_hd j h s
      have h2 := hi.2
      exact ⟨by omega, by omega⟩)
    exact this
  have d1 := dd (flL (mvL p l))
  have g : hd (goL p l).1 h = hd (drL (flL (mvL p l))).1 h := by
    unfold goL hd
    dsimp only
    split
    · rw [up2_row (by decide), up2_row (by decide)]
    · rfl
  rw [g]
  omega
end GA
section GQ
variable {l : Ld} {p : Nat → Int}
theorem qnL.u {k i : Nat} {x : Int} (h : qnL l) (hk : k ≠ 0 ∧ k ≠ 5 ∧ k ≠ 6) : qnL (up2 l k i x) := by
  unfold qnL at *
  rw [up2_row (fun e => hk.1 e.symm), up2_row (fun e => hk.2.1 e.symm), up2_row (fun e => hk.2.2 e.symm)]
  exact h
theorem qnL.go (h : qnL l) (hk : okL l) (h9 : l 0 2 < 9999) : qnL (goL p l).1 := fun q hq => by
  have g := goL_gn (h := q) hk p
  unfold hd at g
  rw [(goL_ok p hk).2.1 0 (by decide)] at hq
  have := h q hq
  rw [goL_hr, if_pos h9]
  omega
theorem cuA_q (b : Nat) (hk : okL l) (hq : qnL l) (hb : l 0 2 + b ≤ 9999) : qnL (itr cuA 0 b (l, 0, 0, 0)).1 := by
  have := itr_inv (step := cuA) (P := fun k u => okL u.1 ∧ u.1 0 2 = l 0 2 + (k : Int) ∧ qnL u.1) b 0 (l, 0, 0, 0) ⟨hk, by show l 0 2 = l 0 2 + ((0 : Nat) : Int); omega, hq⟩ (fun j u _ hj hu => by
    obtain ⟨u1, u2, u3⟩ := hu
    refine ⟨(goL_ok _ u1).1, ?_, u3.go u1 (by omega)⟩
    show (goL (cuP u.1) u.1).1 0 2 = _
    rw [goL_hr, if_pos (by omega)]
    omega)
  exact this.2.2
end GQ
