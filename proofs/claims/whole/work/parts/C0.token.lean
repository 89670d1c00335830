/-! tokens, told apart from both programs: B the bytes, z how many -/
abbrev blk (x : Int) : Prop := x = 10 ∨ x = 32
abbrev ltr (x : Int) : Prop := 97 ≤ x ∧ x ≤ 122
abbrev dgt (x : Int) : Prop := 48 ≤ x ∧ x ≤ 57
noncomputable def scn (P : Int → Prop) (B : Nat → Int) (z : Nat) : Nat → Nat → Nat
  | 0, p => p
  | f + 1, p => @ite Nat (p < z ∧ P (B p)) (Classical.propDecidable _) (scn P B z f (p + 1)) p
theorem scn_t {P : Int → Prop} {B : Nat → Int} {z p : Nat} (h : p < z) (g : P (B p)) : scn P B z (z - p) p = scn P B z (z - (p + 1)) (p + 1) := by
  rw [show z - p = (z - (p + 1)) + 1 by omega]
  exact if_pos ⟨h, g⟩
theorem scn_f {P : Int → Prop} {B : Nat → Int} {z p : Nat} (h : ¬ (p < z ∧ P (B p))) : scn P B z (z - p) p = p := by
  by_cases c : z - p = 0
  · rw [c]; rfl
  · rw [show z - p = (z - p - 1) + 1 by omega]
    exact if_neg h
theorem scn_ge {P : Int → Prop} {B : Nat → Int} {z : Nat} : ∀ (f p : Nat), p ≤ z → p ≤ scn P B z f p ∧ scn P B z f p ≤ z
  | 0, p, h => ⟨Nat.le_refl _, h⟩
  | f + 1, p, h => by
    show p ≤ @ite Nat (p < z ∧ P (B p)) (Classical.propDecidable _) (scn P B z f (p + 1)) p ∧ @ite Nat (p < z ∧ P (B p)) (Classical.propDecidable _) (scn P B z f (p + 1)) p ≤ z
    by_cases c : p < z ∧ P (B p)
    · rw [if_pos c]
      have := scn_ge (P := P) (B := B) (z := z) f (p + 1) (by omega)
      omega
    · rw [if_neg c]; omega
noncomputable def dgs (B : Nat → Int) (z s : Nat) : Nat → Nat → Int → Int
  | 0, _, v => v
  | f + 1, p, v => @ite Int (p < z ∧ dgt (B p)) (Classical.propDecidable _) (dgs B z s f (p + 1) (if p - s < 4 then 10 * v + B p - 48 else v)) v
theorem dgs_t {B : Nat → Int} {z s p : Nat} {v : Int} (h : p < z) (g : dgt (B p)) : dgs B z s (z - p) p v = dgs B z s (z - (p + 1)) (p + 1) (if p - s < 4 then 10 * v + B p - 48 else v) := by
  rw [show z - p = (z - (p + 1)) + 1 by omega]
  exact if_pos ⟨h, g⟩
theorem dgs_f {B : Nat → Int} {z s p : Nat} {v : Int} (h : ¬ (p < z ∧ dgt (B p))) : dgs B z s (z - p) p v = v := by
  by_cases c : z - p = 0
  · rw [c]; rfl
  · rw [show z - p = (z - p - 1) + 1 by omega]
    exact if_neg h
/-- the k-th text's sign at a place -/
def chI (k i : Nat) : Int := ((kB.getD k []).getD i 0).toInt
def lnK (k : Nat) : Nat := kL.getD k 0
def mtc (B : Nat → Int) (s e k : Nat) : Prop := e = s + lnK k ∧ ∀ i : Nat, i < lnK k → B (s + i) = chI k i
noncomputable def kwF (B : Nat → Int) (s e : Nat) : Nat → Nat → Nat
  | j, 0 => j
  | j, d + 1 => @ite Nat (mtc B s e j) (Classical.propDecidable _) j (kwF B s e (j + 1) d)
noncomputable def tS (B : Nat → Int) (z p : Nat) : Nat := scn blk B z (z - p) p
noncomputable def tE (B : Nat → Int) (z p : Nat) : Nat := if tS B z p < z then (if ltr (B (tS B z p)) then scn ltr B z (z - tS B z p) (tS B z p) else if dgt (B (tS B z p)) then scn dgt B z (z - tS B z p) (tS B z p) else tS B z p + 1) else tS B z p
noncomputable def tK (B : Nat → Int) (z p : Nat) : Nat := if tS B z p < z then (if ltr (B (tS B z p)) then kwF B (tS B z p) (tE B z p) 0 10 else if dgt (B (tS B z p)) then (if 4 < tE B z p - tS B z p then 14 else 11) else if B (tS B z p) = 59 then 12 else 14) else 13
noncomputable def tV (B : Nat → Int) (z p : Nat) : Int := dgs B z (tS B z p) (z - tS B z p) (tS B z p) 0
theorem kwF_le {B : Nat → Int} {s e : Nat} : ∀ (d j : Nat), j ≤ kwF B s e j d ∧ kwF B s e j d ≤ j + d
  | 0, j => ⟨Nat.le_refl _, Nat.le_refl _⟩
  | d + 1, j => by
    show j ≤ @ite Nat (mtc B s e j) (Classical.propDecidable _) j (kwF B s e (j + 1) d) ∧ @ite Nat (mtc B s e j) (Classical.propDecidable _) j (kwF B s e (j + 1) d) ≤ j + (d + 1)
    by_cases c : mtc B s e j
    · rw [if_pos c]; omega
    · rw [if_neg c]
      have := kwF_le (B := B) (s := s) (e := e) d (j + 1)
      omega
theorem kw_dist : ∀ j : Nat, j < 10 → ∀ k : Nat, k < 10 → lnK j = lnK k → (∀ i : Nat, i < lnK j → chI j i = chI k i) → j = k := by decide +kernel
theorem mtc_fn {B : Nat → Int} {s e j k : Nat} (hj : j < 10) (hk : k < 10) (h1 : mtc B s e j) (h2 : mtc B s e k) : j = k := by
  have el : lnK j = lnK k := by have := h1.1; have := h2.1; omega
  exact kw_dist j hj k hk el (fun i hi => by rw [← h1.2 i hi, h2.2 i (by omega)])
/-- the word is the k-th just where it matches -/
theorem kwF_iff {B : Nat → Int} {s e k : Nat} (hk : k < 10) : kwF B s e 0 10 = k ↔ mtc B s e k := by
  have gen : ∀ (d j : Nat), j + d = 10 → (kwF B s e j d = k → k < 10 → mtc B s e k) ∧ (j ≤ k → mtc B s e k → kwF B s e j d = k) := by
    intro d
    induction d with
    | zero => intro j hj; exact ⟨fun z _ => by have z : j = k := z; omega, fun z _ => by omega⟩
    | succ d ih =>
      intro j hj
      by_cases c : mtc B s e j
      · have e1 : kwF B s e j (d + 1) = j := if_pos c
        rw [e1]
        exact ⟨fun z _ => by rw [← z]; exact c, fun _ z => mtc_fn (by omega) hk c z⟩
      · have e1 : kwF B s e j (d + 1) = kwF B s e (j + 1) d := if_neg c
        rw [e1]
        refine ⟨(ih (j + 1) (by omega)).1, fun z w => (ih (j + 1) (by omega)).2 ?_ w⟩
        by_cases ej : j = k
        · subst ej; exact absurd w c
        · omega
  exact ⟨fun z => (gen 10 0 rfl).1 z hk, fun z => (gen 10 0 rfl).2 (by omega) z⟩
theorem tS_rg {B : Nat → Int} {z p : Nat} (hp : p ≤ z) : p ≤ tS B z p ∧ tS B z p ≤ z := scn_ge _ p hp
theorem tE_rg {B : Nat → Int} {z p : Nat} (hp : p ≤ z) : tS B z p ≤ tE B z p ∧ tE B z p ≤ z ∧ (tS B z p < z → tS B z p < tE B z p) := by
  have h := tS_rg (B := B) hp
  unfold tE
  by_cases c : tS B z p < z
  · rw [if_pos c]
    by_cases c2 : ltr (B (tS B z p))
    · rw [if_pos c2, scn_t c c2]
      have := scn_ge (P := ltr) (B := B) (z := z) (z - (tS B z p + 1)) (tS B z p + 1) (by omega)
      omega
    · rw [if_neg c2]
      by_cases c3 : dgt (B (tS B z p))
      · rw [if_pos c3, scn_t c c3]
        have := scn_ge (P := dgt) (B := B) (z := z) (z - (tS B z p + 1)) (tS B z p + 1) (by omega)
        omega
      · rw [if_neg c3]; omega
  · rw [if_neg c]; omega
theorem dgs_rg {B : Nat → Int} {z s : Nat} : ∀ (f p : Nat) (v : Int), s ≤ p → (0 ≤ v ∧ v ≤ 9999 ∧ (p - s = 0 → v = 0) ∧ (p - s = 1 → v ≤ 9) ∧ (p - s = 2 → v ≤ 99) ∧ (p - s = 3 → v ≤ 999)) → 0 ≤ dgs B z s f p v ∧ dgs B z s f p v ≤ 9999
  | 0, p, v, _, h => ⟨h.1, h.2.1⟩
  | f + 1, p, v, hs, h => by
    show 0 ≤ @ite Int (p < z ∧ dgt (B p)) (Classical.propDecidable _) (dgs B z s f (p + 1) (if p - s < 4 then 10 * v + B p - 48 else v)) v ∧ @ite Int (p < z ∧ dgt (B p)) (Classical.propDecidable _) (dgs B z s f (p + 1) (if p - s < 4 then 10 * v + B p - 48 else v)) v ≤ 9999
    by_cases c : p < z ∧ dgt (B p)
    · rw [if_pos c]
      have g := c.2
      refine dgs_rg f (p + 1) _ (by omega) ?_
      by_cases c4 : p - s < 4
      · rw [if_pos c4]; omega
      · rw [if_neg c4]; omega
    · rw [if_neg c]; exact ⟨h.1, h.2.1⟩
theorem tV_rg (B : Nat → Int) (z p : Nat) : 0 ≤ tV B z p ∧ tV B z p ≤ 9999 := dgs_rg _ _ _ (Nat.le_refl _) ⟨by omega, by omega, fun _ => rfl, by omega, by omega, by omega⟩
theorem tK_le (B : Nat → Int) (z p : Nat) : tK B z p ≤ 14 := by
  unfold tK
  split
  · split
    · have := kwF_le (B := B) (s := tS B z p) (e := tE B z p) 10 0
      omega
    · split
      · split <;> omega
      · split <;> omega
  · omega
/-- the class's kinds -/
def ck (k : Nat) : Int := if k = 13 then 0 else if k ≤ 10 then 1 else if k = 11 then 2 else if k = 12 then 3 else 4
