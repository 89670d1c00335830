/-! sets of houses as bits -/
def isMk (x : Int) (S : Nat → Prop) : Prop := ∃ m : Nat, x = (m : Int) ∧ m < 1024 ∧ ∀ k : Nat, m.testBit k = true ↔ S k
theorem isMk.lt {x : Int} {S : Nat → Prop} (h : isMk x S) : 0 ≤ x ∧ x < 1024 := by
  obtain ⟨m, rfl, h1, -⟩ := h
  omega
theorem isMk.cg {x : Int} {S T : Nat → Prop} (h : isMk x S) (e : ∀ k : Nat, S k ↔ T k) : isMk x T := by
  obtain ⟨m, rfl, h1, h2⟩ := h
  exact ⟨m, rfl, h1, fun k => (h2 k).trans (e k)⟩
theorem isMk.k10 {x : Int} {S : Nat → Prop} (h : isMk x S) {k : Nat} (hk : S k) : k < 10 := by
  obtain ⟨m, rfl, h1, h2⟩ := h
  by_cases c : k < 10
  · exact c
  · have e : m.testBit k = false := Nat.testBit_lt_two_pow (Nat.lt_of_lt_of_le h1 (Nat.pow_le_pow_right (show 0 < 2 by decide) (show 10 ≤ k by omega)))
    rw [(h2 k).mpr hk] at e
    cases e
theorem mk_or {x y : Int} {S T : Nat → Prop} (h : isMk x S) (g : isMk y T) : isMk (oOr x y) (fun k => S k ∨ T k) := by
  obtain ⟨m, rfl, h1, h2⟩ := h
  obtain ⟨q, rfl, g1, g2⟩ := g
  refine ⟨m ||| q, oOr_n (by omega) (by omega), Nat.or_lt_two_pow (n := 10) h1 g1, fun k => ?_⟩
  rw [Nat.testBit_or, Bool.or_eq_true, h2, g2]
theorem mk_and {x y : Int} {S T : Nat → Prop} (h : isMk x S) (g : isMk y T) : isMk (oAnd x y) (fun k => S k ∧ T k) := by
  obtain ⟨m, rfl, h1, h2⟩ := h
  obtain ⟨q, rfl, g1, g2⟩ := g
  refine ⟨m &&& q, oAnd_n (by omega) (by omega), Nat.lt_of_le_of_lt Nat.and_le_left h1, fun k => ?_⟩
  rw [Nat.testBit_and, Bool.and_eq_true, h2, g2]
theorem mk_0 : isMk 0 (fun _ => False) := ⟨0, rfl, by decide, fun k => by rw [Nat.zero_testBit]; exact Iff.intro (fun z => Bool.noConfusion z) (fun z => False.elim z)⟩
theorem mk_1 {k : Nat} (hk : k < 10) : isMk (oShl 1 (k : Int)) (fun j => j = k) := by
  refine ⟨2 ^ k, oShl1 k (by omega), Nat.pow_lt_pow_right (by decide) hk, fun j => ?_⟩
  rw [Nat.testBit_two_pow]
  exact ⟨fun z => (decide_eq_true_iff.mp z).symm, fun z => decide_eq_true_iff.mpr z.symm⟩
theorem mk_ext {x y : Int} {S T : Nat → Prop} (h : isMk x S) (g : isMk y T) (e : ∀ k : Nat, S k ↔ T k) : x = y := by
  obtain ⟨m, rfl, h1, h2⟩ := h
  obtain ⟨q, rfl, g1, g2⟩ := g
  have : m = q := Nat.eq_of_testBit_eq (fun k => by
    have := ((h2 k).trans (e k)).trans (g2 k).symm
    exact Bool.eq_iff_iff.mpr this)
  rw [this]
theorem mk_inj {x : Int} {S T : Nat → Prop} (h : isMk x S) (g : isMk x T) (k : Nat) : S k ↔ T k := by
  obtain ⟨m, rfl, h1, h2⟩ := h
  obtain ⟨q, e, g1, g2⟩ := g
  have : m = q := by omega
  subst this
  exact (h2 k).symm.trans (g2 k)
theorem mk_bit {x : Int} {S : Nat → Prop} (h : isMk x S) {k : Nat} (hk : k < 31) : (S k ∧ oAnd (oShr x (k : Int)) 1 = 1) ∨ (¬ S k ∧ oAnd (oShr x (k : Int)) 1 = 0) := by
  obtain ⟨m, rfl, h1, h2⟩ := h
  rw [bit_iff (by omega) hk]
  have e := tb_iff m k
  rw [h2] at e
  by_cases c : S k
  · left
    refine ⟨c, ?_⟩
    rw [e.mp c]
    rfl
  · right
    refine ⟨c, ?_⟩
    have : m / 2 ^ k % 2 = 0 := by
      have l2 := Nat.mod_lt (m / 2 ^ k) (show 0 < 2 by decide)
      have n1 : ¬ m / 2 ^ k % 2 = 1 := fun z => c (e.mpr z)
      omega
    rw [this]
    rfl
theorem mk_z {x : Int} {S : Nat → Prop} (h : isMk x S) : x = 0 ↔ ∀ k : Nat, ¬ S k := by
  refine ⟨fun e k hk => ?_, fun e => ?_⟩
  · subst e
    exact (mk_inj h mk_0 k).mp hk
  · exact mk_ext h mk_0 (fun k => ⟨fun z => e k z, fun z => z.elim⟩)
/-! how many there are below N -/
noncomputable def cd : Nat → (Nat → Prop) → Nat
  | 0, _ => 0
  | N + 1, S => cd N S + @ite Nat (S N) (Classical.propDecidable _) 1 0
theorem cd_s (N : Nat) (S : Nat → Prop) : (S N → cd (N + 1) S = cd N S + 1) ∧ (¬ S N → cd (N + 1) S = cd N S) := by
  have e : cd (N + 1) S = cd N S + @ite Nat (S N) (Classical.propDecidable _) 1 0 := rfl
  exact ⟨fun h => by rw [e, if_pos h], fun h => by rw [e, if_neg h, Nat.add_zero]⟩
theorem cd_le (S : Nat → Prop) : ∀ N : Nat, cd N S ≤ N
  | 0 => Nat.le_refl _
  | N + 1 => by
    have ih := cd_le S N
    by_cases c : S N
    · rw [(cd_s N S).1 c]; omega
    · rw [(cd_s N S).2 c]; omega
theorem cd_mono {S T : Nat → Prop} : ∀ N : Nat, (∀ k : Nat, k < N → S k → T k) → cd N S ≤ cd N T
  | 0, _ => Nat.le_refl _
  | N + 1, h => by
    have ih := cd_mono N (fun k hk => h k (by omega))
    by_cases c : S N
    · rw [(cd_s N S).1 c, (cd_s N T).1 (h N (by omega) c)]
      omega
    · rw [(cd_s N S).2 c]
      by_cases c2 : T N
      · rw [(cd_s N T).1 c2]; omega
      · rw [(cd_s N T).2 c2]; exact ih
theorem cd_lt {S T : Nat → Prop} : ∀ N : Nat, (∀ k : Nat, k < N → S k → T k) → (∃ k : Nat, k < N ∧ T k ∧ ¬ S k) → cd N S < cd N T
  | 0, _, h => by obtain ⟨k, hk, -⟩ := h; omega
  | N + 1, h, g => by
    have m := cd_mono N (fun k hk => h k (by omega))
    obtain ⟨k, hk, h1, h2⟩ := g
    by_cases e : k = N
    · subst e
      rw [(cd_s k S).2 h2, (cd_s k T).1 h1]
      omega
    · have ih := cd_lt N (fun k hk => h k (by omega)) ⟨k, by omega, h1, h2⟩
      by_cases c : S N
      · rw [(cd_s N S).1 c, (cd_s N T).1 (h N (by omega) c)]
        omega
      · rw [(cd_s N S).2 c]
        by_cases c2 : T N
        · rw [(cd_s N T).1 c2]; omega
        · rw [(cd_s N T).2 c2]; exact ih
theorem cd_full {S : Nat → Prop} : ∀ N : Nat, N ≤ cd N S → ∀ k : Nat, k < N → S k
  | 0, _, k, hk => by omega
  | N + 1, h, k, hk => by
    have l := cd_le S N
    by_cases c : S N
    · rw [(cd_s N S).1 c] at h
      by_cases e : k = N
      · subst e; exact c
      · exact cd_full N (by omega) k (by omega)
    · rw [(cd_s N S).2 c] at h
      omega
/-! houses that have a rope in common -/
def adj (l : Ld) (w : Int) (a b : Nat) : Prop := ∃ r : Nat, (r : Int) < l 0 1 ∧ l 9 r = 0 ∧ (r : Int) ≠ w ∧ ((l 10 (2 * r) = a ∧ l 10 (2 * r + 1) = b) ∨ (l 10 (2 * r) = b ∧ l 10 (2 * r + 1) = a))
theorem adj.sym {l : Ld} {w : Int} {a b : Nat} (h : adj l w a b) : adj l w b a := by
  obtain ⟨r, h1, h2, h3, h4⟩ := h
  exact ⟨r, h1, h2, h3, h4.symm⟩
theorem adj.lt {l : Ld} {w : Int} {a b : Nat} (hk : okL l) (h : adj l w a b) : (a : Int) < l 0 0 ∧ (b : Int) < l 0 0 := by
  obtain ⟨r, h1, h2, h3, h4⟩ := h
  have e1 := hk.2.2.2 (2 * r) (by omega)
  have e2 := hk.2.2.2 (2 * r + 1) (by omega)
  omega
theorem adj.ne {l : Ld} {w : Int} {a b : Nat} (hk : okL l) (h : adj l w a b) : a ≠ b := by
  obtain ⟨r, h1, h2, h3, h4⟩ := h
  have e1 := (hk.2.2.1 r h1).2.2.2.2.2
  intro e
  subst e
  omega
/-- all that hangs together with a house -/
def rch (l : Ld) (w : Int) (h q : Nat) : Prop := ∀ C : Nat → Prop, (∀ a b : Nat, adj l w a b → C a → C b) → C h → C q
theorem rch.rf (l : Ld) (w : Int) (h : Nat) : rch l w h h := fun _ _ c => c
theorem rch.st {l : Ld} {w : Int} {h a b : Nat} (hr : rch l w h a) (e : adj l w a b) : rch l w h b := fun C hC c => hC a b e (hr C hC c)
/-- one step of nearness -/
def nrS (l : Ld) (w : Int) (S : Nat → Prop) : Nat → Prop := fun q => ∃ h : Nat, S h ∧ adj l w h q
def stS (l : Ld) (w : Int) (S : Nat → Prop) : Nat → Prop := fun q => S q ∨ nrS l w S q
def itS (l : Ld) (w : Int) (h : Nat) : Nat → Nat → Prop
  | 0 => fun q => q = h
  | i + 1 => stS l w (itS l w h i)
theorem itS_rch {l : Ld} {w : Int} {h : Nat} : ∀ (i q : Nat), itS l w h i q → rch l w h q
  | 0, q, e => by
    have e : q = h := e
    subst e; exact rch.rf l w q
  | i + 1, q, e => by
    rcases e with e | ⟨a, e1, e2⟩
    · exact itS_rch i q e
    · exact (itS_rch i a e1).st e2
def clsd (l : Ld) (w : Int) (S : Nat → Prop) : Prop := ∀ a b : Nat, adj l w a b → S a → S b
theorem itS_cl {l : Ld} {w : Int} (hk : okL l) {h : Nat} (hh : (h : Int) < l 0 0) : ∀ i : Nat, clsd l w (itS l w h i) ∨ i + 1 ≤ cd (l 0 0).toNat (itS l w h i)
  | 0 => Or.inr (by
    have : cd (l 0 0).toNat (fun _ => False) < cd (l 0 0).toNat (itS l w h 0) := cd_lt _ (fun _ _ z => z.elim) ⟨h, by omega, rfl, fun z => z⟩
    omega)
  | i + 1 => by
    by_cases c : clsd l w (itS l w h i)
    · left
      intro a b e ha
      rcases ha with ha | ⟨x, h1, h2⟩
      · exact Or.inl (c a b e ha)
      · exact Or.inl (c a b e (c x a h2 h1))
    · right
      rcases itS_cl hk hh i with z | z
      · exact absurd z c
      · have : ∃ a b : Nat, adj l w a b ∧ itS l w h i a ∧ ¬ itS l w h i b := by
          refine Classical.byContradiction fun hn => c (fun a b e ha => Classical.byContradiction fun hb => hn ⟨a, b, e, ha, hb⟩)
        obtain ⟨a, b, e, ha, hb⟩ := this
        have := cd_lt (S := itS l w h i) (T := itS l w h (i + 1)) (l 0 0).toNat (fun k _ z => Or.inl z) ⟨b, by have := e.lt hk; omega, Or.inr ⟨a, ha, e⟩, hb⟩
        omega
theorem itS_N {l : Ld} {w : Int} (hk : okL l) {h : Nat} (hh : (h : Int) < l 0 0) (q : Nat) : itS l w h (l 0 0).toNat q ↔ rch l w h q := by
  refine ⟨itS_rch _ q, fun e => ?_⟩
  have c : clsd l w (itS l w h (l 0 0).toNat) := by
    rcases itS_cl hk hh (w := w) (l 0 0).toNat with z | z
    · exact z
    · have := cd_le (itS l w h (l 0 0).toNat) (l 0 0).toNat
      omega
  have hm : ∀ i : Nat, itS l w h i h := fun i => by
    induction i with
    | zero => exact rfl
    | succ i ih => exact Or.inl ih
  exact e _ c (hm _)
