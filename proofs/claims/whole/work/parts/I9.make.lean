/-! the class's search is made when it is first asked for -/
/-- what a making leaves as it was: cells up to N, and of the references all but field k of a -/
def EX (μ ν : Mem) (J K : Nat → Nat → Int) (N a k : Nat) : Prop := (∀ b : Nat, b ≤ N → mS ν b = mS μ b) ∧ (∀ b : Nat, b ≤ N → K b = J b) ∧ ∀ b j : Nat, b ≤ N → ¬ (b = a ∧ j = k) → mA ν b j = mA μ b j
section MK
variable {μ : Mem} {J : Nat → Nat → Int} {N a k n C : Nat} {β : Type}
theorem mkA (hN : mN μ = N) (ha : a ≤ N) (h5 : (mS μ a).1 = C) {t : Nat} {x : Int} (hx : 0 ≤ x ∧ x < 100000) : ∃ (ν : Mem) (K : Nat → Nat → Int), (∀ (β : Type) (f : Mem → Option β), ((nwA (wi μ J) t x).bind fun p => (pA p.2 C a k p.1).bind f) = f (wi ν K)) ∧ mN ν = N + 1 ∧ mW ν = mW μ + x.toNat ∧ mS ν (N + 1) = (20 + t, x.toNat) ∧ mA ν a k = N + 1 ∧ EX μ ν J K N a k := by
  have e1 : nwA (wi μ J) t x = some (mN μ + 1, wi (nw μ (20 + t) x.toNat) (up1 J (mN μ + 1) (fun _ => 0))) := if_pos hx
  have s0 : ∀ b : Nat, b ≤ N → mS (nw μ (20 + t) x.toNat) b = mS μ b := fun b hb => by
    show up1 (mS μ) (mN μ + 1) (20 + t, x.toNat) b = mS μ b
    exact if_neg (by omega)
  have e2 : pA (wi (nw μ (20 + t) x.toNat) (up1 J (mN μ + 1) (fun _ => 0))) C a k (mN μ + 1) = some (wi (sA (nw μ (20 + t) x.toNat) a k (mN μ + 1)) (up1 J (mN μ + 1) (fun _ => 0))) := if_pos (by rw [wi_S, s0 a ha]; exact h5)
  refine ⟨sA (nw μ (20 + t) x.toNat) a k (mN μ + 1), up1 J (mN μ + 1) (fun _ => 0), ?_, ?_, rfl, ?_, ?_, s0, fun b hb => if_neg (by omega), fun b j hb hj => ?_⟩
  · intro β f
    rw [bnd e1]
    dsimp only
    rw [bnd e2]
  · show mN μ + 1 = N + 1
    omega
  · show up1 (mS μ) (mN μ + 1) (20 + t, x.toNat) (N + 1) = _
    exact if_pos (by omega)
  · show up2 (up1 (mA μ) (mN μ + 1) (fun _ => 0)) a k (mN μ + 1) a k = N + 1
    exact (if_pos ⟨rfl, rfl⟩).trans (by omega)
  · show up2 (up1 (mA μ) (mN μ + 1) (fun _ => 0)) a k (mN μ + 1) b j = mA μ b j
    exact (if_neg hj).trans (congrFun (if_neg (by omega)) j)
theorem mkS (hN : mN μ = N) (ha : a ≤ N) (h5 : (mS μ a).1 = 5) : ∃ (ν : Mem) (K : Nat → Nat → Int), (∀ (β : Type) (f : Mem → Option β), ((nwO (wi μ J) 7 4).bind fun p5 => if p5.1 = 0 then none else (mX6_init n p5.1 p5.2).bind fun p9 => (pA p9.2 5 a k p5.1).bind f) = f (wi ν K)) ∧ mN ν = N + 4 ∧ mW ν = mW μ + 10102 ∧ isSS ν (N + 1) ∧ mA ν a k = N + 1 ∧ EX μ ν J K N a k := by
  have e1 : nwO (wi μ J) 7 4 = some (mN μ + 1, wi (nw μ 7 4) (up1 J (mN μ + 1) (fun _ => 0))) := rfl
  have n1 : mN (nw μ 7 4) = N + 1 := by show mN μ + 1 = N + 1; omega
  have s1 : ∀ b : Nat, b ≤ N → mS (nw μ 7 4) b = mS μ b := fun b hb => if_neg (by omega)
  have s1' : mS (nw μ 7 4) (N + 1) = (7, 4) := if_pos (by omega)
  have a1 : ∀ b j : Nat, b ≤ N → mA (nw μ 7 4) b j = mA μ b j := fun b j hb => congrFun (if_neg (by omega)) j
  have j1 : ∀ b : Nat, b ≤ N → up1 J (mN μ + 1) (fun _ => 0) b = J b := fun b hb => if_neg (by omega)
  have w1 : mW (nw μ 7 4) = mW μ + 4 := rfl
  rw [show mN μ + 1 = N + 1 by omega] at j1 e1
  generalize nw μ 7 4 = μ1 at n1 s1 s1' a1 w1 e1
  generalize up1 J (N + 1) (fun _ => 0) = J1 at j1 e1
  obtain ⟨μ2, J2, e2, n2, w2, s2, f2, x2a, x2b, x2c⟩ := mkA (J := J1) (k := 1) (C := 7) (t := 3) (x := 3001) n1 (Nat.le_refl _) (by rw [s1']) (by decide)
  obtain ⟨μ3, J3, e3, n3, w3, s3, f3, x3a, x3b, x3c⟩ := mkA (μ := μ2) (J := J2) (a := N + 1) (k := 2) (C := 7) (t := 0) (x := 3001) n2 (by omega) (by rw [x2a _ (Nat.le_refl _), s1']) (by decide)
  obtain ⟨μ4, J4, e4, n4, w4, s4, f4, x4a, x4b, x4c⟩ := mkA (μ := μ3) (J := J3) (a := N + 1) (k := 3) (C := 7) (t := 0) (x := 4096) n3 (by omega) (by rw [x3a _ (by omega), x2a _ (Nat.le_refl _), s1']) (by decide)
  have ei : mX6_init n (N + 1) (wi μ1 J1) = some ((), wi μ4 J4) := by
    unfold mX6_init
    rw [show ∀ {ρ : Type} {X : Option ρ}, inv (wi μ1 J1) 7 (N + 1) X = X from fun {ρ X} => if_pos (by rw [wi_S, s1'])]
    exact (e2 _ _).trans ((e3 _ _).trans (e4 _ _))
  have sa : mS μ4 a = mS μ a := by rw [x4a a (by omega), x3a a (by omega), x2a a (by omega), s1 a ha]
  have e5 : pA (wi μ4 J4) 5 a k (N + 1) = some (wi (sA μ4 a k (N + 1)) J4) := if_pos (by rw [wi_S, sa]; exact h5)
  refine ⟨sA μ4 a k (N + 1), J4, fun β f => ?_, ?_, ?_, ?_, ?_, fun b hb => ?_, fun b hb => ?_, fun b j hb hj => ?_⟩
  · rw [bnd e1]
    dsimp only
    rw [if_neg (by omega), bnd ei]
    dsimp only
    rw [bnd e5]
  · show mN μ4 = _
    omega
  · show mW μ4 = _
    omega
  · have nm : ∀ j : Nat, mA (sA μ4 a k (N + 1)) (N + 1) j = mA μ4 (N + 1) j := fun j => if_neg (by omega)
    refine ⟨?_, ⟨?_, ?_, ?_⟩, ?_, ?_, ?_⟩
    · show mS μ4 (N + 1) = _
      rw [x4a _ (by omega), x3a _ (by omega), x2a _ (Nat.le_refl _), s1']
    · rw [nm, x4c _ _ (by omega) (by omega), x3c _ _ (by omega) (by omega), f2]
    · rw [nm, x4c _ _ (by omega) (by omega), f3]
    · rw [nm, f4]
    · show mS μ4 (N + 1 + 1) = _
      rw [x4a _ (by omega), x3a _ (by omega), s2, show (3001 : Int).toNat = 3001 by decide]
    · show mS μ4 (N + 1 + 2) = _
      rw [x4a _ (by omega)]
      rw [show (3001 : Int).toNat = 3001 by decide] at s3
      exact s3
    · rw [show (4096 : Int).toNat = 4096 by decide] at s4
      exact s4
  · exact if_pos ⟨rfl, rfl⟩
  · show mS μ4 b = _
    rw [x4a _ (by omega), x3a _ (by omega), x2a _ (by omega), s1 b hb]
  · rw [x4b _ (by omega), x3b _ (by omega), x2b _ (by omega), j1 b hb]
  · have : mA (sA μ4 a k (N + 1)) b j = mA μ4 b j := if_neg hj
    rw [this, x4c _ _ (by omega) (by omega), x3c _ _ (by omega) (by omega), x2c _ _ (by omega) (by omega), a1 b j hb]
end MK
