/-! a Land at a: its object and the twelve rows behind it -/
def lSh (k : Nat) : Nat × Nat := if k < 7 then (20, 10) else if k < 9 then (20, 16) else if k = 9 then (22, 16) else if k < 12 then (20, 32) else (22, 32)
def isL (μ : Mem) (a : Nat) : Prop := mS μ a = (2, 18) ∧ (∀ k : Nat, k < 13 → mA μ a (k + 5) = a + k) ∧ ∀ k : Nat, k < 13 → 0 < k → mS μ (a + k) = lSh k
theorem isL.k {μ : Mem} {a : Nat} (h : isL μ a) : (mS μ a).1 = 2 := by rw [h.1]
theorem L_gI {μ : Mem} {I : Nat → Nat → Int} {a k : Nat} (h : isL μ a) : gI (wi μ I) 2 a k = some (I a k) := e_gI h.k
theorem L_pI {μ : Mem} {I : Nat → Nat → Int} {a k : Nat} {x : Int} (h : isL μ a) : pI (wi μ I) 2 a k x = some (wi μ (up2 I a k x)) := e_pI h.k
theorem L_inv {ρ : Type} {μ : Mem} {I : Nat → Nat → Int} {a : Nat} {f : Option ρ} (h : isL μ a) : inv (wi μ I) 2 a f = f := e_inv h.k
theorem L_g6 {μ : Mem} {I : Nat → Nat → Int} {a : Nat} (h : isL μ a) : gA (wi μ I) 2 a 6 = some (a + 1) := by rw [e_gA h.k]; exact congrArg some (h.2.1 1 (by decide))
theorem L_s1 {μ : Mem} {a : Nat} (h : isL μ a) : mS μ (a + 1) = (20, 10) := h.2.2 1 (by decide) (by decide)
theorem L_ld1 {μ : Mem} {I : Nat → Nat → Int} {a : Nat} {i : Int} (h : isL μ a) (h0 : 0 ≤ i) (h1 : i < 10) : ldI (wi μ I) 0 (a + 1) i = some (I (a + 1) i.toNat) := e_ldI (L_s1 h) h0 (by omega) (by omega)
theorem L_st1 {μ : Mem} {I : Nat → Nat → Int} {a : Nat} {i x : Int} (h : isL μ a) (h0 : 0 ≤ i) (h1 : i < 10) : stI (wi μ I) 0 (a + 1) i x = some (wi μ (up2 I (a + 1) i.toNat x)) := e_stI (L_s1 h) h0 (by omega) (by omega)
theorem L_g7 {μ : Mem} {I : Nat → Nat → Int} {a : Nat} (h : isL μ a) : gA (wi μ I) 2 a 7 = some (a + 2) := by rw [e_gA h.k]; exact congrArg some (h.2.1 2 (by decide))
theorem L_s2 {μ : Mem} {a : Nat} (h : isL μ a) : mS μ (a + 2) = (20, 10) := h.2.2 2 (by decide) (by decide)
theorem L_ld2 {μ : Mem} {I : Nat → Nat → Int} {a : Nat} {i : Int} (h : isL μ a) (h0 : 0 ≤ i) (h1 : i < 10) : ldI (wi μ I) 0 (a + 2) i = some (I (a + 2) i.toNat) := e_ldI (L_s2 h) h0 (by omega) (by omega)
theorem L_st2 {μ : Mem} {I : Nat → Nat → Int} {a : Nat} {i x : Int} (h : isL μ a) (h0 : 0 ≤ i) (h1 : i < 10) : stI (wi μ I) 0 (a + 2) i x = some (wi μ (up2 I (a + 2) i.toNat x)) := e_stI (L_s2 h) h0 (by omega) (by omega)
theorem L_g8 {μ : Mem} {I : Nat → Nat → Int} {a : Nat} (h : isL μ a) : gA (wi μ I) 2 a 8 = some (a + 3) := by rw [e_gA h.k]; exact congrArg some (h.2.1 3 (by decide))
theorem L_s3 {μ : Mem} {a : Nat} (h : isL μ a) : mS μ (a + 3) = (20, 10) := h.2.2 3 (by decide) (by decide)
theorem L_ld3 {μ : Mem} {I : Nat → Nat → Int} {a : Nat} {i : Int} (h : isL μ a) (h0 : 0 ≤ i) (h1 : i < 10) : ldI (wi μ I) 0 (a + 3) i = some (I (a + 3) i.toNat) := e_ldI (L_s3 h) h0 (by omega) (by omega)
theorem L_st3 {μ : Mem} {I : Nat → Nat → Int} {a : Nat} {i x : Int} (h : isL μ a) (h0 : 0 ≤ i) (h1 : i < 10) : stI (wi μ I) 0 (a + 3) i x = some (wi μ (up2 I (a + 3) i.toNat x)) := e_stI (L_s3 h) h0 (by omega) (by omega)
theorem L_g9 {μ : Mem} {I : Nat → Nat → Int} {a : Nat} (h : isL μ a) : gA (wi μ I) 2 a 9 = some (a + 4) := by rw [e_gA h.k]; exact congrArg some (h.2.1 4 (by decide))
theorem L_s4 {μ : Mem} {a : Nat} (h : isL μ a) : mS μ (a + 4) = (20, 10) := h.2.2 4 (by decide) (by decide)
theorem L_ld4 {μ : Mem} {I : Nat → Nat → Int} {a : Nat} {i : Int} (h : isL μ a) (h0 : 0 ≤ i) (h1 : i < 10) : ldI (wi μ I) 0 (a + 4) i = some (I (a + 4) i.toNat) := e_ldI (L_s4 h) h0 (by omega) (by omega)
theorem L_st4 {μ : Mem} {I : Nat → Nat → Int} {a : Nat} {i x : Int} (h : isL μ a) (h0 : 0 ≤ i) (h1 : i < 10) : stI (wi μ I) 0 (a + 4) i x = some (wi μ (up2 I (a + 4) i.toNat x)) := e_stI (L_s4 h) h0 (by omega) (by omega)
theorem L_g10 {μ : Mem} {I : Nat → Nat → Int} {a : Nat} (h : isL μ a) : gA (wi μ I) 2 a 10 = some (a + 5) := by rw [e_gA h.k]; exact congrArg some (h.2.1 5 (by decide))
theorem L_s5 {μ : Mem} {a : Nat} (h : isL μ a) : mS μ (a + 5) = (20, 10) := h.2.2 5 (by decide) (by decide)
theorem L_ld5 {μ : Mem} {I : Nat → Nat → Int} {a : Nat} {i : Int} (h : isL μ a) (h0 : 0 ≤ i) (h1 : i < 10) : ldI (wi μ I) 0 (a + 5) i = some (I (a + 5) i.toNat) := e_ldI (L_s5 h) h0 (by omega) (by omega)
theorem L_st5 {μ : Mem} {I : Nat → Nat → Int} {a : Nat} {i x : Int} (h : isL μ a) (h0 : 0 ≤ i) (h1 : i < 10) : stI (wi μ I) 0 (a + 5) i x = some (wi μ (up2 I (a + 5) i.toNat x)) := e_stI (L_s5 h) h0 (by omega) (by omega)
theorem L_g11 {μ : Mem} {I : Nat → Nat → Int} {a : Nat} (h : isL μ a) : gA (wi μ I) 2 a 11 = some (a + 6) := by rw [e_gA h.k]; exact congrArg some (h.2.1 6 (by decide))
theorem L_s6 {μ : Mem} {a : Nat} (h : isL μ a) : mS μ (a + 6) = (20, 10) := h.2.2 6 (by decide) (by decide)
theorem L_ld6 {μ : Mem} {I : Nat → Nat → Int} {a : Nat} {i : Int} (h : isL μ a) (h0 : 0 ≤ i) (h1 : i < 10) : ldI (wi μ I) 0 (a + 6) i = some (I (a + 6) i.toNat) := e_ldI (L_s6 h) h0 (by omega) (by omega)
theorem L_st6 {μ : Mem} {I : Nat → Nat → Int} {a : Nat} {i x : Int} (h : isL μ a) (h0 : 0 ≤ i) (h1 : i < 10) : stI (wi μ I) 0 (a + 6) i x = some (wi μ (up2 I (a + 6) i.toNat x)) := e_stI (L_s6 h) h0 (by omega) (by omega)
theorem L_g12 {μ : Mem} {I : Nat → Nat → Int} {a : Nat} (h : isL μ a) : gA (wi μ I) 2 a 12 = some (a + 7) := by rw [e_gA h.k]; exact congrArg some (h.2.1 7 (by decide))
theorem L_s7 {μ : Mem} {a : Nat} (h : isL μ a) : mS μ (a + 7) = (20, 16) := h.2.2 7 (by decide) (by decide)
theorem L_ld7 {μ : Mem} {I : Nat → Nat → Int} {a : Nat} {i : Int} (h : isL μ a) (h0 : 0 ≤ i) (h1 : i < 16) : ldI (wi μ I) 0 (a + 7) i = some (I (a + 7) i.toNat) := e_ldI (L_s7 h) h0 (by omega) (by omega)
theorem L_st7 {μ : Mem} {I : Nat → Nat → Int} {a : Nat} {i x : Int} (h : isL μ a) (h0 : 0 ≤ i) (h1 : i < 16) : stI (wi μ I) 0 (a + 7) i x = some (wi μ (up2 I (a + 7) i.toNat x)) := e_stI (L_s7 h) h0 (by omega) (by omega)
theorem L_g13 {μ : Mem} {I : Nat → Nat → Int} {a : Nat} (h : isL μ a) : gA (wi μ I) 2 a 13 = some (a + 8) := by rw [e_gA h.k]; exact congrArg some (h.2.1 8 (by decide))
theorem L_s8 {μ : Mem} {a : Nat} (h : isL μ a) : mS μ (a + 8) = (20, 16) := h.2.2 8 (by decide) (by decide)
theorem L_ld8 {μ : Mem} {I : Nat → Nat → Int} {a : Nat} {i : Int} (h : isL μ a) (h0 : 0 ≤ i) (h1 : i < 16) : ldI (wi μ I) 0 (a + 8) i = some (I (a + 8) i.toNat) := e_ldI (L_s8 h) h0 (by omega) (by omega)
theorem L_st8 {μ : Mem} {I : Nat → Nat → Int} {a : Nat} {i x : Int} (h : isL μ a) (h0 : 0 ≤ i) (h1 : i < 16) : stI (wi μ I) 0 (a + 8) i x = some (wi μ (up2 I (a + 8) i.toNat x)) := e_stI (L_s8 h) h0 (by omega) (by omega)
theorem L_g14 {μ : Mem} {I : Nat → Nat → Int} {a : Nat} (h : isL μ a) : gA (wi μ I) 2 a 14 = some (a + 9) := by rw [e_gA h.k]; exact congrArg some (h.2.1 9 (by decide))
theorem L_s9 {μ : Mem} {a : Nat} (h : isL μ a) : mS μ (a + 9) = (22, 16) := h.2.2 9 (by decide) (by decide)
theorem L_ld9 {μ : Mem} {I : Nat → Nat → Int} {a : Nat} {i : Int} (h : isL μ a) (h0 : 0 ≤ i) (h1 : i < 16) : ldI (wi μ I) 2 (a + 9) i = some (I (a + 9) i.toNat) := e_ldI (L_s9 h) h0 (by omega) (by omega)
theorem L_st9 {μ : Mem} {I : Nat → Nat → Int} {a : Nat} {i x : Int} (h : isL μ a) (h0 : 0 ≤ i) (h1 : i < 16) (hx : x = 0 ∨ x = 1) : stZ (wi μ I) (a + 9) i x = some (wi μ (up2 I (a + 9) i.toNat x)) := e_stZ (L_s9 h) h0 (by omega) (by omega) hx
theorem L_g15 {μ : Mem} {I : Nat → Nat → Int} {a : Nat} (h : isL μ a) : gA (wi μ I) 2 a 15 = some (a + 10) := by rw [e_gA h.k]; exact congrArg some (h.2.1 10 (by decide))
theorem L_s10 {μ : Mem} {a : Nat} (h : isL μ a) : mS μ (a + 10) = (20, 32) := h.2.2 10 (by decide) (by decide)
theorem L_ld10 {μ : Mem} {I : Nat → Nat → Int} {a : Nat} {i : Int} (h : isL μ a) (h0 : 0 ≤ i) (h1 : i < 32) : ldI (wi μ I) 0 (a + 10) i = some (I (a + 10) i.toNat) := e_ldI (L_s10 h) h0 (by omega) (by omega)
theorem L_st10 {μ : Mem} {I : Nat → Nat → Int} {a : Nat} {i x : Int} (h : isL μ a) (h0 : 0 ≤ i) (h1 : i < 32) : stI (wi μ I) 0 (a + 10) i x = some (wi μ (up2 I (a + 10) i.toNat x)) := e_stI (L_s10 h) h0 (by omega) (by omega)
theorem L_g16 {μ : Mem} {I : Nat → Nat → Int} {a : Nat} (h : isL μ a) : gA (wi μ I) 2 a 16 = some (a + 11) := by rw [e_gA h.k]; exact congrArg some (h.2.1 11 (by decide))
theorem L_s11 {μ : Mem} {a : Nat} (h : isL μ a) : mS μ (a + 11) = (20, 32) := h.2.2 11 (by decide) (by decide)
theorem L_ld11 {μ : Mem} {I : Nat → Nat → Int} {a : Nat} {i : Int} (h : isL μ a) (h0 : 0 ≤ i) (h1 : i < 32) : ldI (wi μ I) 0 (a + 11) i = some (I (a + 11) i.toNat) := e_ldI (L_s11 h) h0 (by omega) (by omega)
theorem L_st11 {μ : Mem} {I : Nat → Nat → Int} {a : Nat} {i x : Int} (h : isL μ a) (h0 : 0 ≤ i) (h1 : i < 32) : stI (wi μ I) 0 (a + 11) i x = some (wi μ (up2 I (a + 11) i.toNat x)) := e_stI (L_s11 h) h0 (by omega) (by omega)
theorem L_g17 {μ : Mem} {I : Nat → Nat → Int} {a : Nat} (h : isL μ a) : gA (wi μ I) 2 a 17 = some (a + 12) := by rw [e_gA h.k]; exact congrArg some (h.2.1 12 (by decide))
theorem L_s12 {μ : Mem} {a : Nat} (h : isL μ a) : mS μ (a + 12) = (22, 32) := h.2.2 12 (by decide) (by decide)
theorem L_ld12 {μ : Mem} {I : Nat → Nat → Int} {a : Nat} {i : Int} (h : isL μ a) (h0 : 0 ≤ i) (h1 : i < 32) : ldI (wi μ I) 2 (a + 12) i = some (I (a + 12) i.toNat) := e_ldI (L_s12 h) h0 (by omega) (by omega)
theorem L_st12 {μ : Mem} {I : Nat → Nat → Int} {a : Nat} {i x : Int} (h : isL μ a) (h0 : 0 ≤ i) (h1 : i < 32) (hx : x = 0 ∨ x = 1) : stZ (wi μ I) (a + 12) i x = some (wi μ (up2 I (a + 12) i.toNat x)) := e_stZ (L_s12 h) h0 (by omega) (by omega) hx
/-! its contents, as a table by row and place: row 0 holds the scalars -/
abbrev Ld : Type := Nat → Nat → Int
def wl (I : Nat → Nat → Int) (a : Nat) (l : Ld) : Nat → Nat → Int := fun b i => if a ≤ b ∧ b ≤ a + 12 then l (b - a) i else I b i
def ld (I : Nat → Nat → Int) (a : Nat) : Ld := fun k i => I (a + k) i
theorem wl_ld (I : Nat → Nat → Int) (a : Nat) : wl I a (ld I a) = I := by
  funext b i
  unfold wl ld
  by_cases h : a ≤ b ∧ b ≤ a + 12
  · rw [if_pos h, show a + (b - a) = b by omega]
  · rw [if_neg h]
theorem wl_at {I : Nat → Nat → Int} {a : Nat} {l : Ld} {k : Nat} (h : k ≤ 12) (i : Nat) : wl I a l (a + k) i = l k i := by
  unfold wl
  rw [if_pos (by omega), show a + k - a = k by omega]
theorem wl_0 {I : Nat → Nat → Int} {a : Nat} {l : Ld} (i : Nat) : wl I a l a i = l 0 i := wl_at (k := 0) (by decide) i
theorem wl_out {I : Nat → Nat → Int} {a : Nat} {l : Ld} {b : Nat} (h : b < a ∨ a + 12 < b) : wl I a l b = I b := by
  funext i
  unfold wl
  rw [if_neg (by omega)]
def upL (l : Ld) (k i : Nat) (x : Int) : Ld := up2 l k i x
theorem wl_up {I : Nat → Nat → Int} {a : Nat} {l : Ld} {k i : Nat} {x : Int} (h : k ≤ 12) : up2 (wl I a l) (a + k) i x = wl I a (up2 l k i x) := by
  funext b j
  unfold up2 wl
  by_cases hb : a ≤ b ∧ b ≤ a + 12
  · rw [if_pos hb, if_pos hb]
    show _ = if b - a = k ∧ j = i then x else l (b - a) j
    by_cases e : b = a + k ∧ j = i
    · rw [if_pos e, if_pos (by omega)]
    · rw [if_neg e, if_neg (by omega)]
  · rw [if_neg hb, if_neg hb, if_neg (by omega)]
theorem wl_up0 {I : Nat → Nat → Int} {a : Nat} {l : Ld} {i : Nat} {x : Int} : up2 (wl I a l) a i x = wl I a (up2 l 0 i x) := wl_up (k := 0) (by decide)
theorem wl_wl {I : Nat → Nat → Int} {a : Nat} {l m : Ld} : wl (wl I a l) a m = wl I a m := by
  funext b i
  unfold wl
  split <;> rfl
theorem up2_s {α : Type} {f : Nat → Nat → α} {a k : Nat} {x : α} : up2 f a k x a k = x := if_pos ⟨rfl, rfl⟩
theorem up2_n {α : Type} {f : Nat → Nat → α} {a k b j : Nat} {x : α} (h : ¬ (b = a ∧ j = k)) : up2 f a k x b j = f b j := if_neg h
/-! the bounds of a land's numbers -/
def okL (l : Ld) : Prop := (0 ≤ l 0 0 ∧ l 0 0 ≤ 10 ∧ 0 ≤ l 0 1 ∧ l 0 1 ≤ 16 ∧ 1 ≤ l 0 3 ∧ l 0 3 ≤ 9 ∧ 1 ≤ l 0 4 ∧ l 0 4 ≤ 40) ∧
  (∀ h : Nat, (h : Int) < l 0 0 → 0 ≤ l 1 h ∧ l 1 h ≤ 20 ∧ 1 ≤ l 2 h ∧ l 2 h ≤ 9 ∧ 0 ≤ l 3 h ∧ l 3 h ≤ 99 ∧ 0 ≤ l 4 h ∧ l 4 h ≤ 4095) ∧
  (∀ r : Nat, (r : Int) < l 0 1 → 2 ≤ l 7 r ∧ l 7 r ≤ 9 ∧ 0 ≤ l 8 r ∧ l 8 r ≤ l 7 r ∧ (l 9 r = 0 ∨ l 9 r = 1) ∧ l 10 (2 * r) ≠ l 10 (2 * r + 1)) ∧
  (∀ b : Nat, (b : Int) < 2 * l 0 1 → 0 ≤ l 10 b ∧ l 10 b < l 0 0 ∧ 0 ≤ l 11 b ∧ l 11 b ≤ 9 ∧ (l 12 b = 0 ∨ l 12 b = 1))
section LL
variable {μ : Mem} {I : Nat → Nat → Int} {a n : Nat} {l : Ld}
theorem hasHouse_eq (h : isL μ a) (hk : okL l) {b : Int} (hb : -2147483648 ≤ b ∧ b < 2147483648) : mX1_hasHouse n a b (wi μ (wl I a l)) = some (bi (0 ≤ b ∧ b < l 0 0), wi μ (wl I a l)) := by
  have h0 := hk.1
  unfold mX1_hasHouse
  simp (disch := omega) only [lt32_iff, L_gI h, wl_0, Option.bind_some]
  by_cases c1 : b < 0
  · rw [if_pos c1, bi_f (by omega)]; rfl
  · rw [if_neg c1]
    by_cases c2 : b < l 0 0
    · rw [if_pos c2, bi_t (by omega)]; rfl
    · rw [if_neg c2, bi_f (by omega)]; rfl
theorem hasRope_eq (h : isL μ a) (hk : okL l) {b : Int} (hb : -2147483648 ≤ b ∧ b < 2147483648) : mX1_hasRope n a b (wi μ (wl I a l)) = some (bi (0 ≤ b ∧ b < l 0 1), wi μ (wl I a l)) := by
  have h0 := hk.1
  unfold mX1_hasRope
  simp (disch := omega) only [lt32_iff, L_gI h, wl_0, Option.bind_some]
  by_cases c1 : b < 0
  · rw [if_pos c1, bi_f (by omega)]; rfl
  · rw [if_neg c1]
    by_cases c2 : b < l 0 1
    · rw [if_pos c2, bi_t (by omega)]; rfl
    · rw [if_neg c2, bi_f (by omega)]; rfl
/-- the rope hangs at the house -/
abbrev hgP (l : Ld) (r h : Int) : Prop := (0 ≤ h ∧ h < l 0 0) ∧ (0 ≤ r ∧ r < l 0 1) ∧ (l 10 (2 * r).toNat = h ∨ l 10 (2 * r + 1).toNat = h)
theorem hangs_eq (h : isL μ a) (hk : okL l) {r b : Int} (hr : -2147483648 ≤ r ∧ r < 2147483648) (hb : -2147483648 ≤ b ∧ b < 2147483648) : mX1_hangs n a r b (wi μ (wl I a l)) = some (bi (hgP l r b), wi μ (wl I a l)) := by
  have h0 := hk.1
  unfold mX1_hangs
  simp (disch := omega) only [L_inv h, hasHouse_eq h hk hb, hasRope_eq h hk hr, Option.bind_some, eq32_bi]
  by_cases c1 : 0 ≤ b ∧ b < l 0 0
  · rw [if_neg (not_not_intro c1)]
    by_cases c2 : 0 ≤ r ∧ r < l 0 1
    · rw [if_neg (not_not_intro c2)]
      have e1 := hk.2.2.2 (2 * r).toNat (by omega)
      have e2 := hk.2.2.2 (2 * r + 1).toNat (by omega)
      simp (disch := omega) only [L_g15 h, L_ld10 h, Option.bind_some, wl_at, eq32_iff]
      by_cases c3 : l 10 (2 * r).toNat = b
      · rw [if_pos c3, bi_t ⟨c1, c2, Or.inl c3⟩]; rfl
      · rw [if_neg c3]
        by_cases c4 : l 10 (2 * r + 1).toNat = b
        · rw [if_pos c4, bi_t ⟨c1, c2, Or.inr c4⟩]; rfl
        · rw [if_neg c4, bi_f (fun z => z.2.2.elim c3 c4)]; rfl
    · rw [if_pos c2, bi_f (fun z => c2 z.2.1)]; rfl
  · rw [if_pos c1, bi_f (fun z => c1 z.1)]; rfl
theorem tn2 (r : Nat) : (2 * (r : Int)).toNat = 2 * r := by omega
theorem tn3 (r : Nat) : (2 * (r : Int) + 1).toNat = 2 * r + 1 := by omega
theorem tnd (b : Nat) : ((b : Int) / 2).toNat = b / 2 := by omega
theorem hangsOpen_eq (h : isL μ a) (hk : okL l) {r b : Int} (hr : -2147483648 ≤ r ∧ r < 2147483648) (hb : -2147483648 ≤ b ∧ b < 2147483648) : mX1_hangsOpen n a r b (wi μ (wl I a l)) = some (bi (hgP l r b ∧ l 9 r.toNat = 0), wi μ (wl I a l)) := by
  have h0 := hk.1
  unfold mX1_hangsOpen
  simp (disch := omega) only [L_inv h, hangs_eq h hk hr hb, Option.bind_some, eq32_bi]
  by_cases c : hgP l r b
  · have c2 := c.2.1
    have e1 := hk.2.2.1 r.toNat (by omega)
    rw [if_neg (not_not_intro c)]
    simp (disch := omega) only [L_g14 h, L_ld9 h, Option.bind_some, wl_at, eq32_iff]
    by_cases c3 : l 9 r.toNat = 0
    · rw [if_pos c3, bi_t ⟨c, c3⟩]; rfl
    · rw [if_neg c3, bi_f (fun z => c3 z.2)]; rfl
  · rw [if_pos c, bi_f (fun z => c z.1)]; rfl
def wtE (l : Ld) (b : Nat) : Int := 2 + l 11 b
def wtL (l : Ld) (b : Nat) : Int := 2 + l 11 b + (if l 12 b = 0 then 0 else l 0 3)
theorem emptyWeight_eq (h : isL μ a) {i : Int} (h0 : 0 ≤ i) (h1 : i < 32) : mX1_emptyWeight n a i (wi μ (wl I a l)) = some (2 + l 11 i.toNat, wi μ (wl I a l)) := by
  unfold mX1_emptyWeight
  simp (disch := omega) only [L_g16 h, L_ld11 h, Option.bind_some, wl_at]
theorem weight_eq (h : isL μ a) (hk : okL l) {i : Int} (h0 : 0 ≤ i) (h1 : i < 2 * l 0 1) : mX1_weight n a i (wi μ (wl I a l)) = some (wtL l i.toNat, wi μ (wl I a l)) := by
  have hz := hk.1
  have e1 := hk.2.2.2 i.toNat (by omega)
  unfold mX1_weight wtL
  simp (disch := omega) only [L_inv h, emptyWeight_eq h, L_g17 h, L_ld12 h, L_gI h, Option.bind_some, wl_at, wl_0, eq32_iff]
  split <;> rfl
theorem wt_range (hk : okL l) {b : Nat} (h1 : (b : Int) < 2 * l 0 1) : 2 ≤ wtL l b ∧ wtL l b ≤ 20 := by
  have hz := hk.1
  have e1 := hk.2.2.2 b h1
  unfold wtL
  split <;> omega
def dpL (l : Ld) (b : Nat) : Int := if b % 2 = 0 then l 8 (b / 2) else l 7 (b / 2) - l 8 (b / 2)
theorem depthOf_eq (h : isL μ a) (hk : okL l) {b : Nat} (h1 : (b : Int) < 2 * l 0 1) : mX1_depthOf n a (b : Int) (wi μ (wl I a l)) = some (dpL l b, wi μ (wl I a l)) := by
  have hz := hk.1
  have e1 := hk.2.2.1 (b / 2) (by omega)
  unfold mX1_depthOf dpL
  simp (disch := omega) only [oRem_of, oDiv_of, eq32_iff, L_g12 h, L_g13 h, L_ld7 h, L_ld8 h, Option.bind_some, wl_at, tnd]
  by_cases c : b % 2 = 0
  · rw [if_pos (by omega), if_pos c]
  · rw [if_neg (by omega), if_neg c]
theorem dp_range (hk : okL l) {b : Nat} (h1 : (b : Int) < 2 * l 0 1) : 0 ≤ dpL l b ∧ dpL l b ≤ 9 := by
  have e1 := hk.2.2.1 (b / 2) (by omega)
  unfold dpL
  split <;> omega
theorem mMin_of {x y : Int} (h1 : -2147483648 ≤ x) (h2 : x < 2147483648) (h3 : -2147483648 ≤ y) (h4 : y < 2147483648) : mMin x y = min x y := by
  unfold mMin lt32
  simp only [lt32_iff h3 h4 h1 h2]
  split <;> omega
theorem mMax_of {x y : Int} (h1 : -2147483648 ≤ x) (h2 : x < 2147483648) (h3 : -2147483648 ≤ y) (h4 : y < 2147483648) : mMax x y = max x y := by
  unfold mMax lt32
  simp only [lt32_iff h1 h2 h3 h4]
  split <;> omega
theorem mAbs_of {x : Int} (h1 : -2147483648 < x) (h2 : x < 2147483648) : mAbs x = max x (-x) := by
  unfold mAbs le32
  simp only [le32_iff (show (-2147483648 : Int) ≤ 0 by omega) (show (0 : Int) < 2147483648 by omega) (show -2147483648 ≤ x by omega) h2]
  split <;> omega
/-- what pulls add to a rope's lean; x, y: whether its first, its second house pulls -/
def plL (l : Ld) (r : Nat) (x y : Int) : Int := (if y = 0 then 0 else l 1 (l 10 (2 * r + 1)).toNat) - (if x = 0 then 0 else l 1 (l 10 (2 * r)).toNat)
theorem pullLean_eq (h : isL μ a) (hk : okL l) {r : Nat} (h1 : (r : Int) < l 0 1) {x y : Int} (hx : x = 0 ∨ x = 1) (hy : y = 0 ∨ y = 1) : mX1_pullLean n a (r : Int) x y (wi μ (wl I a l)) = some (plL l r x y, wi μ (wl I a l)) := by
  have hz := hk.1
  have e1 := hk.2.2.2 (2 * r) (by omega)
  have e2 := hk.2.2.2 (2 * r + 1) (by omega)
  unfold mX1_pullLean plL jn
  simp (disch := omega) only [eq32_iff, L_g6 h, L_g15 h, L_ld10 h, tn2, tn3, L_ld1 h, Option.bind_some, wl_at]
  rcases hx with rfl | rfl <;> rcases hy with rfl | rfl <;> simp
theorem pl_range (hk : okL l) {r : Nat} (h1 : (r : Int) < l 0 1) (x y : Int) : -20 ≤ plL l r x y ∧ plL l r x y ≤ 20 := by
  have e1 := hk.2.2.2 (2 * r) (by omega)
  have e2 := hk.2.2.2 (2 * r + 1) (by omega)
  have e3 := hk.2.1 (l 10 (2 * r)).toNat (by omega)
  have e4 := hk.2.1 (l 10 (2 * r + 1)).toNat (by omega)
  unfold plL
  split <;> split <;> omega
/-- the depth that comes of a depth and a lean -/
def dfL (l : Ld) (r : Nat) (d e : Int) : Int := if 0 < e then min (d + (if max e (-e) < l 0 4 then 1 else l 7 r)) (l 7 r) else if e < 0 then max (d - (if max e (-e) < l 0 4 then 1 else l 7 r)) 0 else d
theorem depthFrom_eq (h : isL μ a) (hk : okL l) {r : Nat} (h1 : (r : Int) < l 0 1) {d e : Int} (hd : 0 ≤ d ∧ d ≤ 15) (he : -1000 ≤ e ∧ e ≤ 1000) : mX1_depthFrom n a (r : Int) d e (wi μ (wl I a l)) = some (dfL l r d e, wi μ (wl I a l)) := by
  have hz := hk.1
  have e1 := hk.2.2.1 r h1
  unfold mX1_depthFrom dfL jn
  simp (disch := omega) only [L_gI h, wl_0, Option.bind_some, L_g12 h, L_ld7 h, wl_at, mAbs_of, lt32_iff, Int.toNat_natCast]
  by_cases c : max e (-e) < l 0 4
  · simp (disch := omega) only [if_pos c, mMin_of, mMax_of]
    split <;> (try split) <;> rfl
  · simp (disch := omega) only [if_neg c, mMin_of, mMax_of]
    split <;> (try split) <;> rfl
theorem df_range (hk : okL l) {r : Nat} (h1 : (r : Int) < l 0 1) {d e : Int} (hd : 0 ≤ d ∧ d ≤ l 7 r) : 0 ≤ dfL l r d e ∧ dfL l r d e ≤ l 7 r := by
  have e1 := hk.2.2.1 r h1
  unfold dfL
  split
  · split <;> omega
  · split
    · split <;> omega
    · omega
def dbL (l : Ld) (r : Nat) (x y : Int) : Int := dfL l r (l 8 r) (wtL l (2 * r) - wtL l (2 * r + 1) + plL l r x y)
theorem depthBehind_eq (h : isL μ a) (hk : okL l) {r : Nat} (h1 : (r : Int) < l 0 1) {x y : Int} (hx : x = 0 ∨ x = 1) (hy : y = 0 ∨ y = 1) : mX1_depthBehind n a (r : Int) x y (wi μ (wl I a l)) = some (dbL l r x y, wi μ (wl I a l)) := by
  have hz := hk.1
  have e1 := hk.2.2.1 r h1
  have e2 := wt_range hk (b := 2 * r) (by omega)
  have e3 := wt_range hk (b := 2 * r + 1) (by omega)
  have e4 := pl_range hk h1 x y
  unfold mX1_depthBehind dbL
  simp (disch := omega) only [L_inv h, weight_eq h hk, Option.bind_some, tn2, tn3, L_g13 h, L_ld8 h, wl_at, Int.toNat_natCast, pullLean_eq h hk h1 hx hy, depthFrom_eq h hk h1]
theorem db_range (hk : okL l) {r : Nat} (h1 : (r : Int) < l 0 1) (x y : Int) : 0 ≤ dbL l r x y ∧ dbL l r x y ≤ l 7 r := by
  have e1 := hk.2.2.1 r h1
  exact df_range hk h1 ⟨by omega, by omega⟩
/-- a house thirsts now -/
abbrev thL (l : Ld) (h : Nat) : Prop := eq32 (oAnd (oShr (l 4 h) (oRem (l 0 2) 12)) 1) 1
theorem thirstsNow_eq (h : isL μ a) {i : Int} (h0 : 0 ≤ i) (h1 : i < 10) : mX1_thirstsNow n a i (wi μ (wl I a l)) = some (bi (thL l i.toNat), wi μ (wl I a l)) := by
  unfold mX1_thirstsNow
  simp (disch := omega) only [L_g9 h, L_ld4 h, L_gI h, Option.bind_some, wl_at, wl_0]
  by_cases c : thL l i.toNat
  · rw [if_pos c, bi_t c]; rfl
  · rw [if_neg c, bi_f c]; rfl
end LL
