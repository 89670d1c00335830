/-! the class's search: the list of choices -/
def envS (J : Nat → Nat → Int) (a c : Nat) (l : Ld) (o : Nat) (ro : Nat → Nat) : Prop := (∀ k : Nat, k ≤ 12 → k ≠ 9 → ld J (c + 3) k = l k) ∧ J a 3 = (o : Int) ∧ ∀ k : Nat, k < o → J (a + 9) k = ((ro k : Nat) : Int)
def LC (J K : Nat → Nat → Int) (a z z1 : Nat) (Q : Int) (X : Nat → Prop) : Prop := ((∀ b : Nat, b ≠ a → b ≠ a + 10 → b ≠ a + 11 → K b = J b) ∧ (∀ j : Nat, j ≠ 6 → K a j = J a j) ∧ K a 6 = (z1 : Int)) ∧ (z ≤ z1 ∧ ∀ j : Nat, j < z → K (a + 10) j = J (a + 10) j ∧ K (a + 11) j = J (a + 11) j) ∧ (∀ j : Nat, z ≤ j → j < z1 → ∃ w : Nat, X w ∧ K (a + 10) j = (w : Int) ∧ K (a + 11) j = Q) ∧ ∀ w : Nat, X w → ∃ j : Nat, z ≤ j ∧ j < z1 ∧ K (a + 10) j = (w : Int)
def lfS (n a : Nat) (self : Nat × Int × Int × Int → Mem → Option (Unit × Mem)) (i w q : Int) (nx70 : Int → Mem → Option (Unit × Mem)) (v70 : Int) : (Int → Mem → Option (Unit × Mem)) → Int → Mem → Option (Unit × Mem) := fun nx86 v86 μ86 => if lt32 v86 2 then (gA μ86 5 a 10).bind fun x93 => (gA μ86 2 x93 15).bind fun x96 => (gA μ86 5 a 2).bind fun x101 => (ldI μ86 0 x101 v70).bind fun x106 => (ldI μ86 0 x96 ((2 * x106) + v86)).bind fun x111 => if eq32 x111 i then (inv μ86 5 a (self (a, (i + 1), (oOr w (oShl 1 ((2 * v70) + v86))), (q - 1)) μ86)).bind fun p134 => nx86 (v86 + 1) p134.2 else nx86 (v86 + 1) μ86 else nx70 (v70 + 1) μ86
def lfK (n a : Nat) (self : Nat × Int × Int × Int → Mem → Option (Unit × Mem)) (i w q : Int) : (Int → Mem → Option (Unit × Mem)) → Int → Mem → Option (Unit × Mem) := fun nx70 v70 μ70 => (gI μ70 5 a 3).bind fun x73 => if lt32 v70 x73 then if lt32 0 q then lp (lfS n a self i w q nx70 v70) n 0 μ70 else some ((), μ70) else some ((), μ70)
def lfE (n a : Nat) (w q : Int) (μ : Mem) : Option (Unit × Mem) := if eq32 q 0 then (gI μ 5 a 6).bind fun x16 => if lt32 x16 40 then (gA μ 5 a 4).bind fun x25 => (gI μ 5 a 6).bind fun x29 => (stI μ 0 x25 x29 w).bind fun μ33 => (gA μ33 5 a 5).bind fun x35 => (gI μ33 5 a 6).bind fun x39 => (mJ6_bitCount_0f7a4 n w μ33).bind fun p43 => (stI p43.2 0 x35 x39 p43.1).bind fun μ46 => (gI μ46 5 a 6).bind fun x49 => (pI μ46 5 a 6 (x49 + 1)).bind fun μ54 => some ((), μ54) else some ((), μ) else some ((), μ)
theorem listFrom_s {n a : Nat} {self : Nat × Int × Int × Int → Mem → Option (Unit × Mem)} {i w q : Int} (μ : Mem) : bX4_listFrom n self (a, i, w, q) μ = ((gA μ 5 a 10).bind fun x2 => (gI μ 2 x2 0).bind fun x5 => if lt32 i x5 then (inv μ 5 a (self (a, (i + 1), w, q) μ)).bind fun p64 => lp (lfK n a self i w q) n 0 p64.2 else lfE n a w q μ) := rfl
section LI
variable {μ : Mem} {J K M : Nat → Nat → Int} {a c n o H R i z z1 z2 : Nat} {ro : Nat → Nat} {l : Ld} {Q : Int} {X Y : Nat → Prop}
theorem LC.tr (h1 : LC J K a z z1 Q X) (h2 : LC K M a z1 z2 Q Y) : LC J M a z z2 Q (fun w => X w ∨ Y w) := by
  obtain ⟨⟨a1, a2, a3⟩, ⟨a4, a5⟩, a6, a7⟩ := h1
  obtain ⟨⟨b1, b2, b3⟩, ⟨b4, b5⟩, b6, b7⟩ := h2
  refine ⟨⟨fun b x y z => (b1 b x y z).trans (a1 b x y z), fun j hj => (b2 j hj).trans (a2 j hj), b3⟩, ⟨by omega, fun j hj => ⟨(b5 j (by omega)).1.trans (a5 j hj).1, (b5 j (by omega)).2.trans (a5 j hj).2⟩⟩, fun j j1 j2 => ?_, fun w hw => ?_⟩
  · by_cases c : j < z1
    · obtain ⟨w, q1, q2, q3⟩ := a6 j j1 c
      exact ⟨w, Or.inl q1, (b5 j c).1.trans q2, (b5 j c).2.trans q3⟩
    · obtain ⟨w, q1, q2, q3⟩ := b6 j (by omega) j2
      exact ⟨w, Or.inr q1, q2, q3⟩
  · rcases hw with hw | hw
    · obtain ⟨j, q1, q2, q3⟩ := a7 w hw
      exact ⟨j, q1, by omega, (b5 j q2).1.trans q3⟩
    · obtain ⟨j, q1, q2, q3⟩ := b7 w hw
      exact ⟨j, by omega, q2, q3⟩
theorem LC.iff (h1 : LC J K a z z1 Q X) (e : ∀ w : Nat, X w ↔ Y w) : LC J K a z z1 Q Y := by
  have : X = Y := funext fun w => propext (e w)
  rw [← this]
  exact h1
theorem LC.none (hz : J a 6 = (z : Int)) (hX : ∀ w : Nat, ¬ X w) : LC J J a z z Q X := ⟨⟨fun _ _ _ _ => rfl, fun _ _ => rfl, hz⟩, ⟨Nat.le_refl _, fun _ _ => ⟨rfl, rfl⟩⟩, fun j a b => absurd a (by omega), fun w hw => absurd hw (hX w)⟩
theorem LC.env (h : LC J K a z z1 Q X) (ha : c + 15 < a) (hJ : envS J a c l o ro) : envS K a c l o ro := ⟨fun k hk k9 => (h.1.1 (c + 3 + k) (by omega) (by omega) (by omega)).trans (hJ.1 k hk k9), (h.1.2.1 3 (by decide)).trans hJ.2.1, fun k hk => by rw [h.1.1 (a + 9) (by omega) (by omega) (by omega)]; exact hJ.2.2 k hk⟩
theorem dg_add (e : Nat → Nat) (i : Nat) : ∀ (d t f : Nat), dg e i t (d + f) = dg e i t d + dg e i (t + d) f
  | 0, t, f => by
    show dg e i t (0 + f) = 0 + dg e i (t + 0) f
    rw [Nat.zero_add, Nat.zero_add, Nat.add_zero]
  | d + 1, t, f => by
    rw [show d + 1 + f = (d + f) + 1 by omega]
    show (if e t = i then 1 else 0) + dg e i (t + 1) (d + f) = (if e t = i then 1 else 0) + dg e i (t + 1) d + dg e i (t + (d + 1)) f
    rw [dg_add e i d (t + 1) f, show t + 1 + d = t + (d + 1) by omega]
    omega
theorem lfE_w (hE : isSe μ a c) {v q : Nat} (hv : v < 64) (hz : J a 6 = (z : Int)) (h40 : z + nn (fun i => dg (en l ro) i 0 (2 * o)) H 0 q ≤ 40) (hq : q ≤ 4) (hQ : ((pcN v + q : Nat) : Int) = Q) (hk : okL l) (hH : (H : Int) = l 0 0) (op : opn l o ro R) : ∃ K : Nat → Nat → Int, lfE n a (v : Int) (q : Int) (wi μ J) = some ((), wi μ K) ∧ LC J K a z (z + nn (fun i => dg (en l ro) i 0 (2 * o)) H 0 q) Q (ext l o H ro v H q) := by
  unfold lfE
  cases q with
  | succ q =>
    rw [i_eq_f (by omega)]
    exact ⟨J, rfl, LC.none hz (fun w hw => by have := ((ext_H hk hH op hv).mp hw).1; omega)⟩
  | zero =>
    have h41 : z + 1 ≤ 40 := h40
    have e1 : up2 J (a + 10) z (v : Int) a 6 = (z : Int) := by rw [up2_row (by omega)]; exact hz
    have e2 : up2 (up2 J (a + 10) z (v : Int)) (a + 11) z ((pcN v : Nat) : Int) a 6 = (z : Int) := by rw [up2_row (by omega)]; exact e1
    rw [i_eq_t (x := ((0 : Nat) : Int)) (y := 0) rfl, bE_gI hE, hz, i_lt_t (by omega), bE_g4 hE, bE_gI hE, hz, bE_st10 hE (by omega) (by omega), Int.toNat_natCast, bE_g5 hE, bE_gI hE, e1, bitCount_w (by omega)]
    dsimp only
    rw [bE_st11 hE (by omega) (by omega), Int.toNat_natCast, bE_gI hE, e2, bE_pI hE]
    refine ⟨_, rfl, ⟨fun b b1 b2 b3 => by rw [up2_row b1, up2_row b3, up2_row b2], fun j hj => by rw [up2_n (by omega), up2_row (by omega), up2_row (by omega)], by rw [up2_s]; rfl⟩, ⟨by omega, fun j hj => ⟨?_, ?_⟩⟩, fun j j1 j2 => ?_, fun w hw => ?_⟩
    · rw [up2_row (by omega), up2_row (by omega), up2_n (by omega)]
    · rw [up2_row (by omega), up2_n (by omega), up2_row (by omega)]
    · have j2' : j < z + 1 := j2
      have ej : j = z := by omega
      subst ej
      refine ⟨v, (ext_H hk hH op hv).mpr ⟨rfl, rfl⟩, ?_, ?_⟩
      · rw [up2_row (by omega), up2_row (by omega), up2_s]
      · rw [up2_row (by omega), up2_s, ← hQ]; rfl
    · obtain ⟨-, rfl⟩ := (ext_H hk hH op hv).mp hw
      exact ⟨z, Nat.le_refl _, by show z < z + 1; omega, by rw [up2_row (by omega), up2_row (by omega), up2_s]⟩
end LI
