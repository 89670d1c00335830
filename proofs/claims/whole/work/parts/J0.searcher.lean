/-! the class's search: made once -/
/-- what a making leaves of the class and the reference -/
def SM (μ ν : Mem) (c : Nat) : Prop := (∀ b : Nat, b < c + 215 → mS ν b = mS μ b) ∧ ∀ b j : Nat, b < c + 215 → ¬ (b = c ∧ j = 11) → mA ν b j = mA μ b j
theorem SM.rf {μ : Mem} {c : Nat} : SM μ μ c := ⟨fun _ _ => rfl, fun _ _ _ _ => rfl⟩
theorem SM.tr {μ ν ρ : Mem} {c : Nat} (h1 : SM μ ν c) (h2 : SM ν ρ c) : SM μ ρ c := ⟨fun b hb => (h2.1 b hb).trans (h1.1 b hb), fun b j hb hj => (h2.2 b j hb hj).trans (h1.2 b j hb hj)⟩
section SEA
variable {μ : Mem} {J : Nat → Nat → Int} {c n : Nat}
/-- what the makings from here on leave alone: fields of a below k -/
def EXr (μ ν : Mem) (J K : Nat → Nat → Int) (N a k : Nat) : Prop := (∀ b : Nat, b ≤ N → mS ν b = mS μ b) ∧ (∀ b : Nat, b ≤ N → K b = J b) ∧ ∀ b j : Nat, b ≤ N → (b = a → j < k) → mA ν b j = mA μ b j
theorem EX.r {ν : Mem} {K : Nat → Nat → Int} {N a k : Nat} (h : EX μ ν J K N a k) : EXr μ ν J K N a k := ⟨h.1, h.2.1, fun b j hb hj => h.2.2 b j hb (fun w => by have := hj w.1; omega)⟩
theorem EXr.tr {ν ρ : Mem} {K M : Nat → Nat → Int} {N N' a k k' : Nat} (h1 : EXr μ ν J K N a k) (h2 : EXr ν ρ K M N' a k') (hN : N ≤ N') (hk : k ≤ k') : EXr μ ρ J M N a k := ⟨fun b hb => (h2.1 b (Nat.le_trans hb hN)).trans (h1.1 b hb), fun b hb => (h2.2.1 b (Nat.le_trans hb hN)).trans (h1.2.1 b hb), fun b j hb hj => (h2.2.2 b j (Nat.le_trans hb hN) (fun e => Nat.lt_of_lt_of_le (hj e) hk)).trans (h1.2.2 b j hb hj)⟩
theorem isSS.ex {ν : Mem} {K : Nat → Nat → Int} {N a k q : Nat} (h : EXr μ ν J K N a k) (hq : q + 3 ≤ N) (ha : q ≠ a) (hS : isSS μ q) : isSS ν q := by
  unfold isSS at *
  rw [h.1 q (by omega), h.1 (q + 1) (by omega), h.1 (q + 2) (by omega), h.1 (q + 3) (by omega), h.2.2 q 1 (by omega) (fun e => absurd e ha), h.2.2 q 2 (by omega) (fun e => absurd e ha), h.2.2 q 3 (by omega) (fun e => absurd e ha)]
  exact hS
theorem init_eq {a : Nat} (h5 : mS μ a = (5, 14)) (hN : mN μ = a) (x : Nat) : ∃ (ν : Mem) (K : Nat → Nat → Int), mX4_init n a x (wi μ J) = some ((), wi ν K) ∧ mN ν = a + 14 ∧ mW ν = mW μ + 20315 ∧ isSS ν (a + 1) ∧ isSS ν (a + 5) ∧ (mA ν a 0 = a + 1 ∧ mA ν a 1 = a + 5 ∧ mA ν a 2 = a + 9 ∧ mA ν a 4 = a + 10 ∧ mA ν a 5 = a + 11 ∧ mA ν a 7 = a + 12 ∧ mA ν a 8 = a + 13 ∧ mA ν a 9 = a + 14 ∧ mA ν a 10 = x) ∧ (mS ν (a + 9) = (20, 3) ∧ mS ν (a + 10) = (20, 40) ∧ mS ν (a + 11) = (20, 40) ∧ mS ν (a + 12) = (20, 12) ∧ mS ν (a + 13) = (20, 12) ∧ mS ν (a + 14) = (20, 4)) ∧ (∀ b : Nat, b ≤ a → mS ν b = mS μ b) ∧ (∀ b : Nat, b ≤ a → K b = J b) ∧ ∀ b j : Nat, b < a → mA ν b j = mA μ b j := by
  have k5 : (mS μ a).1 = 5 := by rw [h5]
  obtain ⟨μ1, J1, e1, n1, w1, s1, f1, x1⟩ := mkS (n := n) (J := J) (k := 0) hN (Nat.le_refl _) k5
  have t1 : (mS μ1 a).1 = 5 := by rw [x1.1 a (Nat.le_refl _)]; exact k5
  obtain ⟨μ2, J2, e2, n2, w2, s2, f2, x2⟩ := mkS (n := n) (J := J1) (a := a) (k := 1) n1 (Nat.le_add_right a 4) t1
  have n2 : mN μ2 = a + 8 := n2
  have t2 : (mS μ2 a).1 = 5 := by rw [x2.1 a (Nat.le_add_right a 4)]; exact t1
  obtain ⟨μ3, J3, e3, n3, w3, s3, f3, x3⟩ := mkA (J := J2) (a := a) (k := 2) (C := 5) (t := 0) (x := 3) n2 (Nat.le_add_right a 8) t2 (by decide)
  have n3 : mN μ3 = a + 9 := n3
  have t3 : (mS μ3 a).1 = 5 := by rw [x3.1 a (Nat.le_add_right a 8)]; exact t2
  obtain ⟨μ4, J4, e4, n4, w4, s4, f4, x4⟩ := mkA (J := J3) (a := a) (k := 4) (C := 5) (t := 0) (x := 40) n3 (Nat.le_add_right a 9) t3 (by decide)
  have n4 : mN μ4 = a + 10 := n4
  have t4 : (mS μ4 a).1 = 5 := by rw [x4.1 a (Nat.le_add_right a 9)]; exact t3
  obtain ⟨μ5, J5, e5, n5, w5, s5, f5, x5⟩ := mkA (J := J4) (a := a) (k := 5) (C := 5) (t := 0) (x := 40) n4 (Nat.le_add_right a 10) t4 (by decide)
  have n5 : mN μ5 = a + 11 := n5
  have t5 : (mS μ5 a).1 = 5 := by rw [x5.1 a (Nat.le_add_right a 10)]; exact t4
  obtain ⟨μ6, J6, e6, n6, w6, s6, f6, x6⟩ := mkA (J := J5) (a := a) (k := 7) (C := 5) (t := 0) (x := 12) n5 (Nat.le_add_right a 11) t5 (by decide)
  have n6 : mN μ6 = a + 12 := n6
  have t6 : (mS μ6 a).1 = 5 := by rw [x6.1 a (Nat.le_add_right a 11)]; exact t5
  obtain ⟨μ7, J7, e7, n7, w7, s7, f7, x7⟩ := mkA (J := J6) (a := a) (k := 8) (C := 5) (t := 0) (x := 12) n6 (Nat.le_add_right a 12) t6 (by decide)
  have n7 : mN μ7 = a + 13 := n7
  have t7 : (mS μ7 a).1 = 5 := by rw [x7.1 a (Nat.le_add_right a 12)]; exact t6
  obtain ⟨μ8, J8, e8, n8, w8, s8, f8, x8⟩ := mkA (J := J7) (a := a) (k := 9) (C := 5) (t := 0) (x := 4) n7 (Nat.le_add_right a 13) t7 (by decide)
  have n8 : mN μ8 = a + 14 := n8
  have t8 : (mS μ8 a).1 = 5 := by rw [x8.1 a (Nat.le_add_right a 13)]; exact t7
  have e9 : pA (wi μ8 J8) 5 a 10 x = some (wi (sA μ8 a 10 x) J8) := if_pos t8
  have r9 : EXr μ8 (sA μ8 a 10 x) J8 J8 (a + 14) a 10 := ⟨fun _ _ => rfl, fun _ _ => rfl, fun b j _ hj => if_neg (fun w => by have := hj w.1; omega)⟩
  have r8 := x8.r.tr r9 (Nat.le_add_right _ 1) (by decide)
  have r7 := x7.r.tr r8 (Nat.le_add_right _ 1) (by decide)
  have r6 := x6.r.tr r7 (Nat.le_add_right _ 1) (by decide)
  have r5 := x5.r.tr r6 (Nat.le_add_right _ 1) (by decide)
  have r4 := x4.r.tr r5 (Nat.le_add_right _ 1) (by decide)
  have r3 := x3.r.tr r4 (Nat.le_add_right _ 1) (by decide)
  have r2 := x2.r.tr r3 (Nat.le_add_right _ 4) (by decide)
  have r1 := x1.r.tr r2 (Nat.le_add_right _ 4) (by decide)
  have run : mX4_init n a x (wi μ J) = some ((), wi (sA μ8 a 10 x) J8) := by
    unfold mX4_init
    rw [show ∀ {ρ : Type} {X : Option ρ}, inv (wi μ J) 5 a X = X from fun {ρ X} => if_pos (by rw [wi_S, h5])]
    refine (e1 _ _).trans ((e2 _ _).trans ((e3 _ _).trans ((e4 _ _).trans ((e5 _ _).trans ((e6 _ _).trans ((e7 _ _).trans ((e8 _ _).trans ?_)))))))
    rw [bnd e9]
  have wW : mW (sA μ8 a 10 x) = mW μ + 20315 := by
    show mW μ8 = _
    clear run e1 e2 e3 e4 e5 e6 e7 e8 e9 r1 r2 r3 r4 r5 r6 r7 r8 r9 x1 x2 x3 x4 x5 x6 x7 x8 t1 t2 t3 t4 t5 t6 t7 t8 s1 s2 s3 s4 s5 s6 s7 s8 f1 f2 f3 f4 f5 f6 f7 f8 n1 n2 n3 n4 n5 n6 n7 n8
    omega
  clear e1 e2 e3 e4 e5 e6 e7 e8 e9 x1 x2 x3 x4 x5 x6 x7 x8 t1 t2 t3 t4 t5 t6 t7 t8 w1 w2 w3 w4 w5 w6 w7 w8
  refine ⟨sA μ8 a 10 x, J8, run, n8, wW, s1.ex r2 (Nat.le_refl _) (by omega), s2.ex r3 (Nat.le_refl _) (by omega), ⟨?_, ?_, ?_, ?_, ?_, ?_, ?_, ?_, if_pos ⟨rfl, rfl⟩⟩, ⟨?_, ?_, ?_, ?_, ?_, s8⟩, r1.1, r1.2.1, fun b j hb => r1.2.2 b j (Nat.le_of_lt hb) (fun e => by omega)⟩
  · exact (r2.2.2 a 0 (Nat.le_add_right _ _) (fun _ => by decide)).trans f1
  · exact (r3.2.2 a 1 (Nat.le_add_right _ _) (fun _ => by decide)).trans f2
  · exact (r4.2.2 a 2 (Nat.le_add_right _ _) (fun _ => by decide)).trans f3
  · exact (r5.2.2 a 4 (Nat.le_add_right _ _) (fun _ => by decide)).trans f4
  · exact (r6.2.2 a 5 (Nat.le_add_right _ _) (fun _ => by decide)).trans f5
  · exact (r7.2.2 a 7 (Nat.le_add_right _ _) (fun _ => by decide)).trans f6
  · exact (r8.2.2 a 8 (Nat.le_add_right _ _) (fun _ => by decide)).trans f7
  · exact (r9.2.2 a 9 (Nat.le_add_right _ _) (fun _ => by decide)).trans f8
  · exact (r4.1 (a + 9) (Nat.le_refl _)).trans s3
  · exact (r5.1 (a + 10) (Nat.le_refl _)).trans s4
  · exact (r6.1 (a + 11) (Nat.le_refl _)).trans s5
  · exact (r7.1 (a + 12) (Nat.le_refl _)).trans s6
  · exact (r8.1 (a + 13) (Nat.le_refl _)).trans s7
theorem searcher_s (μ : Mem) : mX10_searcher n c μ = ((gA μ 11 c 11).bind fun x1 => if x1 = 0 then (nwO μ 5 14).bind fun p8 => (gA p8.2 11 c 1).bind fun x13 => if p8.1 = 0 then none else (mX4_init n p8.1 x13 p8.2).bind fun p16 => (pA p16.2 11 c 11 p8.1).bind fun μ19 => (gA μ19 11 c 11).bind fun x23 => some (x23, μ19) else (gA μ 11 c 11).bind fun x23 => some (x23, μ)) := rfl
/-- how the search stands: not made yet, or made -/
def hasS (μ : Mem) (c : Nat) : Prop := (mA μ c 11 = 0 ∧ mN μ = c + 214) ∨ (mA μ c 11 = c + 215 ∧ isSe μ (c + 215) c ∧ mN μ = c + 229)
theorem searcher_eq (hC : isC μ c) (hs : hasS μ c) : ∃ (ν : Mem) (K : Nat → Nat → Int), mX10_searcher n c (wi μ J) = some (c + 215, wi ν K) ∧ SM μ ν c ∧ mA ν c 11 = c + 215 ∧ isSe ν (c + 215) c ∧ mN ν = c + 229 ∧ (mW ν = mW μ ∧ mN μ = c + 229 ∨ mW ν = mW μ + 20329 ∧ mN μ = c + 214) ∧ ∀ b : Nat, b < c + 215 → K b = J b := by
  have g11 : ∀ {ν : Mem} {K : Nat → Nat → Int}, (mS ν c).1 = 11 → gA (wi ν K) 11 c 11 = some (mA ν c 11) := fun {ν K} h => if_pos h
  rw [searcher_s, bnd (g11 hC.k)]
  rcases hs with ⟨h0, hN⟩ | ⟨h0, hE, hN⟩
  · rw [if_pos h0]
    have e1 : nwO (wi μ J) 5 14 = some (mN μ + 1, wi (nw μ 5 14) (up1 J (mN μ + 1) (fun _ => 0))) := rfl
    rw [hN] at e1
    have s1 : ∀ b : Nat, b < c + 215 → mS (nw μ 5 14) b = mS μ b := fun b hb => if_neg (by omega)
    have s1' : mS (nw μ 5 14) (c + 215) = (5, 14) := if_pos (by omega)
    have a1 : ∀ b j : Nat, b < c + 215 → mA (nw μ 5 14) b j = mA μ b j := fun b j hb => congrFun (if_neg (by omega)) j
    have j1 : ∀ b : Nat, b < c + 215 → up1 J (c + 214 + 1) (fun _ => 0) b = J b := fun b hb => if_neg (by omega)
    have n1 : mN (nw μ 5 14) = c + 215 := by show mN μ + 1 = _; omega
    have w1 : mW (nw μ 5 14) = mW μ + 14 := rfl
    rw [bnd e1]
    dsimp only
    generalize nw μ 5 14 = μ1 at s1 s1' a1 n1 w1 ⊢
    generalize up1 J (c + 214 + 1) (fun _ => 0) = J1 at j1 ⊢
    have g1 : gA (wi μ1 J1) 11 c 1 = some (c + 3) := by
      have : gA (wi μ1 J1) 11 c 1 = some (mA μ1 c 1) := if_pos (by rw [wi_S, s1 c (by omega)]; exact hC.k)
      rw [this, a1 c 1 (by omega), hC.2.1.2.1]
    rw [bnd g1, if_neg (by omega), show c + 214 + 1 = c + 215 by omega]
    obtain ⟨ν, K, e2, n2, w2, ss1, ss5, mm, ms, p2, q2, r2⟩ := init_eq (n := n) (J := J1) s1' n1 (c + 3)
    rw [bnd e2]
    dsimp only
    have kc : (mS ν c).1 = 11 := by rw [p2 c (by omega), s1 c (by omega)]; exact hC.k
    have e3 : pA (wi ν K) 11 c 11 (c + 215) = some (wi (sA ν c 11 (c + 215)) K) := if_pos kc
    rw [bnd e3, bnd (g11 (ν := sA ν c 11 (c + 215)) kc)]
    have m3 : ∀ b j : Nat, ¬ (b = c ∧ j = 11) → mA (sA ν c 11 (c + 215)) b j = mA ν b j := fun b j h => if_neg h
    have m3' : mA (sA ν c 11 (c + 215)) c 11 = c + 215 := if_pos ⟨rfl, rfl⟩
    refine ⟨sA ν c 11 (c + 215), K, by rw [m3'], ⟨fun b hb => ?_, fun b j hb hj => ?_⟩, m3', ?_, by show mN ν = _; omega, Or.inr ⟨by show mW ν = _; omega, hN⟩, fun b hb => ?_⟩
    · show mS ν b = _
      rw [p2 b (by omega), s1 b hb]
    · rw [m3 b j hj, r2 b j (by omega), a1 b j hb]
    · refine ⟨?_, ?_, ms, ?_, ?_, Or.inl ⟨?_, ?_⟩⟩
      · show mS ν (c + 215) = _
        rw [p2 _ (Nat.le_refl _)]; exact s1'
      · rw [m3 _ _ (by omega), m3 _ _ (by omega), m3 _ _ (by omega), m3 _ _ (by omega), m3 _ _ (by omega), m3 _ _ (by omega), m3 _ _ (by omega)]
        exact mm.2.2
      · unfold isSS at *
        rw [m3 _ _ (by omega), m3 _ _ (by omega), m3 _ _ (by omega)]
        exact ss1
      · unfold isSS at *
        rw [m3 _ _ (by omega), m3 _ _ (by omega), m3 _ _ (by omega)]
        exact ss5
      · rw [m3 _ _ (by omega)]; exact mm.1
      · rw [m3 _ _ (by omega)]; exact mm.2.1
    · rw [q2 b (by omega), j1 b hb]
  · rw [if_neg (by omega), bnd (g11 hC.k), h0]
    exact ⟨μ, J, rfl, SM.rf, h0, hE, hN, Or.inl ⟨rfl, hN⟩, fun _ _ => rfl⟩
end SEA
