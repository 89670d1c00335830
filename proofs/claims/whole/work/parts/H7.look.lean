/-! the class's search: fields of a code -/
theorem oAnd_m {x w : Nat} (hw : w ≤ 30) : oAnd (x : Int) ((2 ^ w - 1 : Nat) : Int) = ((x % 2 ^ w : Nat) : Int) := by
  have p : 2 ^ w ≤ 2 ^ 30 := Nat.pow_le_pow_right (by decide) hw
  have p1 : 0 < 2 ^ w := Nat.two_pow_pos w
  have m := Nat.mod_lt x p1
  have e : (Int32.ofInt (x : Int) &&& Int32.ofInt ((2 ^ w - 1 : Nat) : Int)).toBitVec.toNat = x % 2 ^ w := by
    rw [Int32.toBitVec_and, bvn, bvn, BitVec.toNat_and, bvt (x := 2 ^ w - 1) (by omega), BitVec.toNat_ofNat, Nat.and_two_pow_sub_one_eq_mod]
    exact Nat.mod_mod_of_dvd _ (Nat.pow_dvd_pow 2 (by omega))
  unfold oAnd
  show (Int32.ofInt (x : Int) &&& Int32.ofInt ((2 ^ w - 1 : Nat) : Int)).toBitVec.toInt = _
  rw [bvi (by rw [e]; omega), e]
/-- what a code holds -/
def cdX (X : Nat) (D F S : Nat → Int) (g : Int) : Prop := X < 281474976710656 ∧ (∀ k : Nat, k < 3 → ((X / 2 ^ (4 * k) % 2 ^ 4 : Nat) : Int) = D k) ∧ (∀ t : Nat, t < 6 → ((X / 2 ^ (12 + t) % 2 : Nat) : Int) = F t) ∧ X / 2 ^ 12 % 2 ^ 6 = pF (fun k => (F k).toNat) 3 ∧ (∀ k : Nat, k < 4 → ((X / 2 ^ (18 + 7 * k) % 2 ^ 7 : Nat) : Int) = S k) ∧ ((X / 2 ^ 46 : Nat) : Int) = g
theorem xDp {A Y a0 a1 a2 : Nat} (h0 : a0 < 16) (h1 : a1 < 16) (h2 : a2 < 16) (e : A = a0 + 16 * a1 + 256 * a2) : (A + 4096 * Y) / 1 % 16 = a0 ∧ (A + 4096 * Y) / 16 % 16 = a1 ∧ (A + 4096 * Y) / 256 % 16 = a2 := by omega
theorem xFl {A Y b0 b1 b2 b3 b4 b5 : Nat} (hA : A < 4096) (h0 : b0 < 2) (h1 : b1 < 2) (h2 : b2 < 2) (h3 : b3 < 2) (h4 : b4 < 2) (h5 : b5 < 2) : (A + 4096 * (b0 + 2 * b1 + 4 * b2 + 8 * b3 + 16 * b4 + 32 * b5 + 64 * Y)) / 4096 % 2 = b0 ∧ (A + 4096 * (b0 + 2 * b1 + 4 * b2 + 8 * b3 + 16 * b4 + 32 * b5 + 64 * Y)) / 8192 % 2 = b1 ∧ (A + 4096 * (b0 + 2 * b1 + 4 * b2 + 8 * b3 + 16 * b4 + 32 * b5 + 64 * Y)) / 16384 % 2 = b2 ∧ (A + 4096 * (b0 + 2 * b1 + 4 * b2 + 8 * b3 + 16 * b4 + 32 * b5 + 64 * Y)) / 32768 % 2 = b3 ∧ (A + 4096 * (b0 + 2 * b1 + 4 * b2 + 8 * b3 + 16 * b4 + 32 * b5 + 64 * Y)) / 65536 % 2 = b4 ∧ (A + 4096 * (b0 + 2 * b1 + 4 * b2 + 8 * b3 + 16 * b4 + 32 * b5 + 64 * Y)) / 131072 % 2 = b5 ∧ (A + 4096 * (b0 + 2 * b1 + 4 * b2 + 8 * b3 + 16 * b4 + 32 * b5 + 64 * Y)) / 4096 % 64 = b0 + 2 * b1 + 4 * b2 + 8 * b3 + 16 * b4 + 32 * b5 := by
  refine ⟨?_, ?_, ?_, ?_, ?_, ?_, ?_⟩ <;> omega
theorem xSt {A s0 s1 s2 s3 g : Nat} (hA : A < 262144) (h0 : s0 < 128) (h1 : s1 < 128) (h2 : s2 < 128) (h3 : s3 < 128) : (A + 262144 * (s0 + 128 * s1 + 16384 * s2 + 2097152 * s3 + 268435456 * g)) / 262144 % 128 = s0 ∧ (A + 262144 * (s0 + 128 * s1 + 16384 * s2 + 2097152 * s3 + 268435456 * g)) / 33554432 % 128 = s1 ∧ (A + 262144 * (s0 + 128 * s1 + 16384 * s2 + 2097152 * s3 + 268435456 * g)) / 4294967296 % 128 = s2 ∧ (A + 262144 * (s0 + 128 * s1 + 16384 * s2 + 2097152 * s3 + 268435456 * g)) / 549755813888 % 128 = s3 ∧ (A + 262144 * (s0 + 128 * s1 + 16384 * s2 + 2097152 * s3 + 268435456 * g)) / 70368744177664 = g := by
  refine ⟨?_, ?_, ?_, ?_, ?_⟩ <;> omega
theorem cd_x {D F S : Nat → Int} {g : Int} (h : rgF D F S g) : ∃ X : Nat, cdF D F S g = (X : Int) ∧ cdX X D F S g := by
  have b01 : ∀ b : Nat, 0 ≤ F b ∧ (F b).toNat < 2 := fun b => by have := h.2.1 b; omega
  have d9 : ∀ k : Nat, (D k).toNat < 16 := fun k => by have := h.1 k; omega
  have s9 : ∀ k : Nat, (S k).toNat < 128 := fun k => by have := h.2.2.1 k; omega
  have eD := pD_3 (fun k => (D k).toNat)
  have eF := pF_3 (fun k => (F k).toNat)
  have eS := pS_4 (fun k => (S k).toNat)
  have lD := pD_lt (f := fun k => (D k).toNat) d9 3
  have lF := pF_lt (f := fun k => (F k).toNat) (fun b => (b01 b).2) 3
  have hg := h.2.2.2
  have iD : ∀ k : Nat, (((D k).toNat : Nat) : Int) = D k := fun k => i2n (h.1 k).1
  have iF : ∀ k : Nat, (((F k).toNat : Nat) : Int) = F k := fun k => i2n (b01 k).1
  have iS : ∀ k : Nat, (((S k).toNat : Nat) : Int) = S k := fun k => i2n (h.2.2.1 k).1
  refine ⟨_, cdF_n h, ?_⟩
  have D' := xDp (Y := pF (fun k => (F k).toNat) 3 + 64 * pS (fun k => (S k).toNat) 4 + 17179869184 * g.toNat) (d9 0) (d9 1) (d9 2) eD
  have F' := xFl (A := pD (fun k => (D k).toNat) 3) (Y := pS (fun k => (S k).toNat) 4 + 268435456 * g.toNat) (by omega) (b01 0).2 (b01 1).2 (b01 2).2 (b01 3).2 (b01 4).2 (b01 5).2
  have S' := xSt (A := pD (fun k => (D k).toNat) 3 + 4096 * pF (fun k => (F k).toNat) 3) (g := g.toNat) (by omega) (s9 0) (s9 1) (s9 2) (s9 3)
  rw [← eF] at F'
  rw [← eS] at S'
  have q0 := s9 0
  have q1 := s9 1
  have q2 := s9 2
  have q3 := s9 3
  have lS : pS (fun k => (S k).toNat) 4 < 268435456 := by rw [eS]; omega
  generalize hX : pD (fun k => (D k).toNat) 3 + 4096 * pF (fun k => (F k).toNat) 3 + 262144 * pS (fun k => (S k).toNat) 4 + 70368744177664 * g.toNat = X
  rw [show pD (fun k => (D k).toNat) 3 + 4096 * (pF (fun k => (F k).toNat) 3 + 64 * pS (fun k => (S k).toNat) 4 + 17179869184 * g.toNat) = X by omega] at D'
  rw [show pD (fun k => (D k).toNat) 3 + 4096 * (pF (fun k => (F k).toNat) 3 + 64 * (pS (fun k => (S k).toNat) 4 + 268435456 * g.toNat)) = X by omega] at F'
  rw [show pD (fun k => (D k).toNat) 3 + 4096 * pF (fun k => (F k).toNat) 3 + 262144 * (pS (fun k => (S k).toNat) 4 + 268435456 * g.toNat) = X by omega] at S'
  refine ⟨by omega, fun k hk => ?_, fun t ht => ?_, F'.2.2.2.2.2.2, fun k hk => ?_, ?_⟩
  · have : k = 0 ∨ k = 1 ∨ k = 2 := by omega
    rcases this with rfl | rfl | rfl
    · exact (congrArg Nat.cast D'.1).trans (iD 0)
    · exact (congrArg Nat.cast D'.2.1).trans (iD 1)
    · exact (congrArg Nat.cast D'.2.2).trans (iD 2)
  · have : t = 0 ∨ t = 1 ∨ t = 2 ∨ t = 3 ∨ t = 4 ∨ t = 5 := by omega
    rcases this with rfl | rfl | rfl | rfl | rfl | rfl
    · exact (congrArg Nat.cast F'.1).trans (iF 0)
    · exact (congrArg Nat.cast F'.2.1).trans (iF 1)
    · exact (congrArg Nat.cast F'.2.2.1).trans (iF 2)
    · exact (congrArg Nat.cast F'.2.2.2.1).trans (iF 3)
    · exact (congrArg Nat.cast F'.2.2.2.2.1).trans (iF 4)
    · exact (congrArg Nat.cast F'.2.2.2.2.2.1).trans (iF 5)
  · have : k = 0 ∨ k = 1 ∨ k = 2 ∨ k = 3 := by omega
    rcases this with rfl | rfl | rfl | rfl
    · exact (congrArg Nat.cast S'.1).trans (iS 0)
    · exact (congrArg Nat.cast S'.2.1).trans (iS 1)
    · exact (congrArg Nat.cast S'.2.2.1).trans (iS 2)
    · exact (congrArg Nat.cast S'.2.2.2.1).trans (iS 3)
  · exact (congrArg Nat.cast S'.2.2.2.2).trans (i2n hg.1)
