/-! the codes of a state, of both programs -/
theorem or_fld {x v p w : Nat} (h : x / 2 ^ p % 2 ^ w = 0) (hv : v < 2 ^ w) : x ||| v * 2 ^ p = x + v * 2 ^ p := by
  have e1 : x / 2 ^ p = 2 ^ w * (x / 2 ^ p / 2 ^ w) := by
    have := Nat.div_add_mod (x / 2 ^ p) (2 ^ w)
    omega
  have m1 : (x ||| v * 2 ^ p) % 2 ^ p = x % 2 ^ p := by
    rw [Nat.or_mod_two_pow, Nat.mul_mod_left, Nat.or_zero]
  have d1 : (x ||| v * 2 ^ p) / 2 ^ p = x / 2 ^ p + v := by
    rw [Nat.or_div_two_pow, Nat.mul_div_cancel _ (Nat.two_pow_pos p), e1, ← Nat.two_pow_add_eq_or_of_lt hv]
  have a1 := Nat.div_add_mod (x ||| v * 2 ^ p) (2 ^ p)
  have a2 := Nat.div_add_mod x (2 ^ p)
  rw [d1, m1, Nat.mul_add, Nat.mul_comm (2 ^ p) v] at a1
  omega
/-- the fields of a state within a land: depths and full buckets of the open ropes, stocks -/
def fD (o : Nat) (ro : Nat → Nat) (L : Ld) (k : Nat) : Int := if k < o then L 8 (ro k) else 0
def fF (o : Nat) (ro : Nat → Nat) (L : Ld) (b : Nat) : Int := if b < 2 * o then L 12 (2 * ro (b / 2) + b % 2) else 0
def fS (H : Nat) (L : Ld) (h : Nat) : Int := if h < H then L 3 h else 0
def rgF (D F S : Nat → Int) (g : Int) : Prop := (∀ k : Nat, 0 ≤ D k ∧ D k ≤ 9) ∧ (∀ b : Nat, F b = 0 ∨ F b = 1) ∧ (∀ h : Nat, 0 ≤ S h ∧ S h ≤ 99) ∧ 0 ≤ g ∧ g ≤ 3
def cdF (D F S : Nat → Int) (g : Int) : Int := D 0 + 16 * D 1 + 256 * D 2 + 4096 * (F 0 + 2 * F 1 + 4 * F 2 + 8 * F 3 + 16 * F 4 + 32 * F 5) + 262144 * (S 0 + 128 * S 1 + 16384 * S 2 + 2097152 * S 3) + 70368744177664 * g
def rpF' (D F : Nat → Int) : Nat → Int
  | 0 => 0
  | k + 1 => 64 * rpF' D F k + 4 * D k + 2 * F (2 * k) + F (2 * k + 1)
def rhF (v : Int) (S : Nat → Int) : Nat → Int
  | 0 => v
  | h + 1 => 128 * rhF v S h + S h
def cdM (o H : Nat) (D F S : Nat → Int) (g : Int) : Int := 4 * rhF (rpF' D F o) S H + g
def eqF (o H : Nat) (D F S : Nat → Int) (g : Int) (D' F' S' : Nat → Int) (g' : Int) : Prop := (∀ k : Nat, k < o → D k = D' k) ∧ (∀ b : Nat, b < 2 * o → F b = F' b) ∧ (∀ h : Nat, h < H → S h = S' h) ∧ g = g'
section CD
variable {o H : Nat} {D F S D' F' S' : Nat → Int} {g g' v v' : Int}
theorem rp_nn (h : rgF D F S g) : ∀ k : Nat, 0 ≤ rpF' D F k ∧ rpF' D F k < 64 ^ k
  | 0 => by
    show (0 : Int) ≤ 0 ∧ (0 : Int) < 64 ^ 0
    decide
  | k + 1 => by
    have i := rp_nn h k
    have d := h.1 k
    have f0 := h.2.1 (2 * k)
    have f1 := h.2.1 (2 * k + 1)
    rw [Int.pow_succ]
    show 0 ≤ 64 * rpF' D F k + 4 * D k + 2 * F (2 * k) + F (2 * k + 1) ∧ 64 * rpF' D F k + 4 * D k + 2 * F (2 * k) + F (2 * k + 1) < 64 ^ k * 64
    omega
theorem rp_inj (h : rgF D F S g) (h' : rgF D' F' S' g') : ∀ k : Nat, rpF' D F k = rpF' D' F' k → (∀ j : Nat, j < k → D j = D' j) ∧ ∀ b : Nat, b < 2 * k → F b = F' b
  | 0, _ => ⟨fun j hj => absurd hj (by omega), fun b hb => absurd hb (by omega)⟩
  | k + 1, e => by
    have e' : 64 * rpF' D F k + 4 * D k + 2 * F (2 * k) + F (2 * k + 1) = 64 * rpF' D' F' k + 4 * D' k + 2 * F' (2 * k) + F' (2 * k + 1) := e
    have d := h.1 k
    have f0 := h.2.1 (2 * k)
    have f1 := h.2.1 (2 * k + 1)
    have d' := h'.1 k
    have f0' := h'.2.1 (2 * k)
    have f1' := h'.2.1 (2 * k + 1)
    obtain ⟨i1, i2⟩ := rp_inj h h' k (by omega)
    refine ⟨fun j hj => ?_, fun b hb => ?_⟩
    · by_cases c : j = k
      · rw [c]; omega
      · exact i1 j (by omega)
    · by_cases c0 : b = 2 * k
      · rw [c0]; omega
      · by_cases c1 : b = 2 * k + 1
        · rw [c1]; omega
        · exact i2 b (by omega)
theorem rh_inj (h : rgF D F S g) (h' : rgF D' F' S' g') : ∀ k : Nat, rhF v S k = rhF v' S' k → v = v' ∧ ∀ j : Nat, j < k → S j = S' j
  | 0, e => ⟨e, fun j hj => absurd hj (by omega)⟩
  | k + 1, e => by
    have e' : 128 * rhF v S k + S k = 128 * rhF v' S' k + S' k := e
    have s := h.2.2.1 k
    have s' := h'.2.2.1 k
    obtain ⟨i1, i2⟩ := rh_inj h h' k (by omega)
    refine ⟨i1, fun j hj => ?_⟩
    by_cases c : j = k
    · rw [c]; omega
    · exact i2 j (by omega)
theorem rp_cg : ∀ k : Nat, (∀ j : Nat, j < k → D j = D' j) → (∀ b : Nat, b < 2 * k → F b = F' b) → rpF' D F k = rpF' D' F' k
  | 0, _, _ => rfl
  | k + 1, h1, h2 => by
    show 64 * rpF' D F k + 4 * D k + 2 * F (2 * k) + F (2 * k + 1) = 64 * rpF' D' F' k + 4 * D' k + 2 * F' (2 * k) + F' (2 * k + 1)
    rw [rp_cg k (fun j hj => h1 j (by omega)) (fun b hb => h2 b (by omega)), h1 k (by omega), h2 (2 * k) (by omega), h2 (2 * k + 1) (by omega)]
theorem rh_cg : ∀ k : Nat, (∀ j : Nat, j < k → S j = S' j) → rhF v S k = rhF v S' k
  | 0, _ => rfl
  | k + 1, h1 => by
    show 128 * rhF v S k + S k = 128 * rhF v S' k + S' k
    rw [rh_cg k (fun j hj => h1 j (by omega)), h1 k (by omega)]
theorem cdM_iff (h : rgF D F S g) (h' : rgF D' F' S' g') : cdM o H D F S g = cdM o H D' F' S' g' ↔ eqF o H D F S g D' F' S' g' := by
  constructor
  · intro e
    unfold cdM at e
    have hg := h.2.2.2
    have hg' := h'.2.2.2
    obtain ⟨e1, e2⟩ := rh_inj h h' H (show rhF (rpF' D F o) S H = rhF (rpF' D' F' o) S' H by omega)
    obtain ⟨e3, e4⟩ := rp_inj h h' o e1
    exact ⟨e3, e4, e2, by omega⟩
  · intro e
    unfold cdM
    rw [rp_cg o e.1 e.2.1, rh_cg H e.2.2.1, e.2.2.2]
theorem cdF_iff (h : rgF D F S g) (h' : rgF D' F' S' g') (ho : o ≤ 3) (hH : H ≤ 4) (z1 : ∀ k : Nat, ¬ k < o → D k = D' k) (z2 : ∀ b : Nat, ¬ b < 2 * o → F b = F' b) (z3 : ∀ j : Nat, ¬ j < H → S j = S' j) : cdF D F S g = cdF D' F' S' g' ↔ eqF o H D F S g D' F' S' g' := by
  constructor
  · intro e
    unfold cdF at e
    have d0 := h.1 0
    have d1 := h.1 1
    have d2 := h.1 2
    have d0' := h'.1 0
    have d1' := h'.1 1
    have d2' := h'.1 2
    have f0 := h.2.1 0
    have f1 := h.2.1 1
    have f2 := h.2.1 2
    have f3 := h.2.1 3
    have f4 := h.2.1 4
    have f5 := h.2.1 5
    have f0' := h'.2.1 0
    have f1' := h'.2.1 1
    have f2' := h'.2.1 2
    have f3' := h'.2.1 3
    have f4' := h'.2.1 4
    have f5' := h'.2.1 5
    have s0 := h.2.2.1 0
    have s1 := h.2.2.1 1
    have s2 := h.2.2.1 2
    have s3 := h.2.2.1 3
    have s0' := h'.2.2.1 0
    have s1' := h'.2.2.1 1
    have s2' := h'.2.2.1 2
    have s3' := h'.2.2.1 3
    have b01 : ∀ {x : Int}, x = 0 ∨ x = 1 → 0 ≤ x ∧ x ≤ 1 := fun w => by omega
    replace f0 := b01 f0
    replace f1 := b01 f1
    replace f2 := b01 f2
    replace f3 := b01 f3
    replace f4 := b01 f4
    replace f5 := b01 f5
    replace f0' := b01 f0'
    replace f1' := b01 f1'
    replace f2' := b01 f2'
    replace f3' := b01 f3'
    replace f4' := b01 f4'
    replace f5' := b01 f5'
    have q0 : D 0 = D' 0 := by omega
    have q1 : D 1 = D' 1 := by omega
    have q2 : D 2 = D' 2 := by omega
    have p0 : F 0 = F' 0 := by omega
    have p1 : F 1 = F' 1 := by omega
    have p2 : F 2 = F' 2 := by omega
    have p3 : F 3 = F' 3 := by omega
    have p4 : F 4 = F' 4 := by omega
    have p5 : F 5 = F' 5 := by omega
    have t0 : S 0 = S' 0 := by omega
    have t1 : S 1 = S' 1 := by omega
    have t2 : S 2 = S' 2 := by omega
    have t3 : S 3 = S' 3 := by omega
    refine ⟨fun k hk => ?_, fun b hb => ?_, fun j hj => ?_, by omega⟩
    · have : k = 0 ∨ k = 1 ∨ k = 2 := by omega
      rcases this with rfl | rfl | rfl <;> assumption
    · have : b = 0 ∨ b = 1 ∨ b = 2 ∨ b = 3 ∨ b = 4 ∨ b = 5 := by omega
      rcases this with rfl | rfl | rfl | rfl | rfl | rfl <;> assumption
    · have : j = 0 ∨ j = 1 ∨ j = 2 ∨ j = 3 := by omega
      rcases this with rfl | rfl | rfl | rfl <;> assumption
  · intro e
    have eD : ∀ k : Nat, D k = D' k := fun k => if c : k < o then e.1 k c else z1 k c
    have eF : ∀ k : Nat, F k = F' k := fun k => if c : k < 2 * o then e.2.1 k c else z2 k c
    have eS : ∀ k : Nat, S k = S' k := fun k => if c : k < H then e.2.2.1 k c else z3 k c
    unfold cdF
    rw [eD 0, eD 1, eD 2, eF 0, eF 1, eF 2, eF 3, eF 4, eF 5, eS 0, eS 1, eS 2, eS 3, e.2.2.2]
/-- one code tells the other -/
theorem cd_iff {ro : Nat → Nat} {L L' : Ld} (h : rgF (fD o ro L) (fF o ro L) (fS H L) g) (h' : rgF (fD o ro L') (fF o ro L') (fS H L') g') (ho : o ≤ 3) (hH : H ≤ 4) : cdF (fD o ro L) (fF o ro L) (fS H L) g = cdF (fD o ro L') (fF o ro L') (fS H L') g' ↔ cdM o H (fD o ro L) (fF o ro L) (fS H L) g = cdM o H (fD o ro L') (fF o ro L') (fS H L') g' := by
  rw [cdM_iff h h', cdF_iff h h' ho hH (fun k c => by unfold fD; rw [if_neg c, if_neg c]) (fun k c => by unfold fF; rw [if_neg c, if_neg c]) (fun k c => by unfold fS; rw [if_neg c, if_neg c])]
end CD
/-- as many of one kind as of the other -/
theorem inj_le : ∀ (z w : Nat) (f : Nat → Nat), (∀ i : Nat, i < z → f i < w) → (∀ i j : Nat, i < z → j < z → f i = f j → i = j) → z ≤ w
  | 0, w, _, _, _ => by omega
  | z + 1, 0, f, h1, _ => absurd (h1 0 (by omega)) (by omega)
  | z + 1, w + 1, f, h1, h2 => by
    have := inj_le z w (fun i => if f i = w then f z else f i) (fun i hi => by
      have a := h1 i (by omega)
      have b := h1 z (by omega)
      by_cases c : f i = w
      · show (if f i = w then f z else f i) < w
        rw [if_pos c]
        have : f z ≠ w := fun e => by
          have := h2 i z (by omega) (by omega) (by omega)
          omega
        omega
      · show (if f i = w then f z else f i) < w
        rw [if_neg c]; omega) (fun i j hi hj e => by
      have e' : (if f i = w then f z else f i) = (if f j = w then f z else f j) := e
      by_cases ci : f i = w
      · by_cases cj : f j = w
        · exact h2 i j (by omega) (by omega) (by omega)
        · rw [if_pos ci, if_neg cj] at e'
          have := h2 z j (by omega) (by omega) e'
          omega
      · by_cases cj : f j = w
        · rw [if_neg ci, if_pos cj] at e'
          have := h2 i z (by omega) (by omega) e'
          omega
        · rw [if_neg ci, if_neg cj] at e'
          exact h2 i j (by omega) (by omega) e')
    omega
