/-! who pulls, told as bits; how many ways there are -/
def en (l : Ld) (ro : Nat → Nat) (t : Nat) : Nat := (l 10 (2 * ro (t / 2) + t % 2)).toNat
def ext (l : Ld) (o H : Nat) (ro : Nat → Nat) (v i q w : Nat) : Prop := ∃ p : Nat → Int, (∀ j : Nat, i ≤ j → j < H → chc l o ro j (p j)) ∧ cn p i (H - i) = (q : Int) ∧ w < 64 ∧ ∀ t : Nat, t < 6 → (w.testBit t = true ↔ v.testBit t = true ∨ (t < 2 * o ∧ i ≤ en l ro t ∧ p (en l ro t) = ((ro (t / 2) : Nat) : Int)))
def whoB (l : Ld) (o : Nat) (ro : Nat → Nat) (p : Nat → Int) (w : Nat) : Prop := w < 64 ∧ ∀ t : Nat, t < 6 → (w.testBit t = true ↔ t < 2 * o ∧ p (en l ro t) = ((ro (t / 2) : Nat) : Int))
theorem tb_ext {v w : Nat} (hv : v < 64) (hw : w < 64) (h : ∀ t : Nat, t < 6 → (w.testBit t = true ↔ v.testBit t = true)) : w = v := by
  refine Nat.eq_of_testBit_eq (fun t => ?_)
  by_cases c : t < 6
  · have q := h t c
    cases hx : w.testBit t <;> cases hy : v.testBit t <;> simp_all
  · have p : 2 ^ 6 ≤ 2 ^ t := Nat.pow_le_pow_right (by decide) (by omega)
    rw [Nat.testBit_lt_two_pow (by omega), Nat.testBit_lt_two_pow (by omega)]
theorem pc_or : ∀ v : Nat, v < 64 → ∀ t : Nat, t < 6 → v.testBit t = false → pcN (v ||| 2 ^ t) = pcN v + 1 ∧ v ||| 2 ^ t < 64 := by decide +kernel
theorem tb_or {v t s : Nat} : (v ||| 2 ^ t).testBit s = true ↔ v.testBit s = true ∨ s = t := by
  rw [Nat.testBit_or, Nat.testBit_two_pow, Bool.or_eq_true, decide_eq_true_iff]
  exact ⟨fun h => h.imp id Eq.symm, fun h => h.imp id Eq.symm⟩
theorem cn_up {p : Nat → Int} {i : Nat} {x : Int} : ∀ (d j : Nat), i < j → cn (upA p i x) j d = cn p j d
  | 0, _, _ => rfl
  | d + 1, j, h => by
    show (if upA p i x j = -1 then 0 else 1) + cn (upA p i x) (j + 1) d = (if p j = -1 then 0 else 1) + cn p (j + 1) d
    rw [cn_up d (j + 1) (by omega), upA_n (by omega)]
section EX
variable {l : Ld} {o H R : Nat} {ro : Nat → Nat} {v i q w : Nat}
theorem en_lt (hk : okL l) (hH : (H : Int) = l 0 0) (op : opn l o ro R) {t : Nat} (ht : t < 2 * o) : en l ro t < H ∧ l 10 (2 * ro (t / 2) + t % 2) = ((en l ro t : Nat) : Int) := by
  have a := (op.2.1 (t / 2) (by omega)).1
  have b := op.1
  have := hk.2.2.2 (2 * ro (t / 2) + t % 2) (by omega)
  unfold en
  omega
theorem ro_inj (op : opn l o ro R) {j k : Nat} (hj : j < o) (hk : k < o) (e : ro j = ro k) : j = k := by
  by_cases c : j < k
  · have := op.2.2.1 j k c hk
    omega
  · by_cases c' : k < j
    · have := op.2.2.1 k j c' hj
      omega
    · omega
theorem en_ne (hk : okL l) (op : opn l o ro R) {t s : Nat} (ht : t < 2 * o) (hs : s < 2 * o) (e : en l ro t = en l ro s) (h2 : t / 2 = s / 2) : t = s := by
  have a := (op.2.1 (t / 2) (by omega)).1
  have b := op.1
  have d := (hk.2.2.1 (ro (t / 2)) (by omega)).2.2.2.2.2
  have x := hk.2.2.2 (2 * ro (t / 2) + t % 2) (by omega)
  have y := hk.2.2.2 (2 * ro (t / 2) + s % 2) (by omega)
  by_cases c : t % 2 = s % 2
  · omega
  · exfalso
    unfold en at e
    rw [← h2] at e
    rcases Nat.mod_two_eq_zero_or_one t with zt | zt
    · have zs : s % 2 = 1 := by omega
      rw [zt, zs] at e
      rw [zt] at x
      rw [zs] at y
      simp only [Nat.add_zero] at e x
      omega
    · have zs : s % 2 = 0 := by omega
      rw [zt, zs] at e
      rw [zt] at x
      rw [zs] at y
      simp only [Nat.add_zero] at e y
      omega
theorem chc_t (hk : okL l) (hH : (H : Int) = l 0 0) (op : opn l o ro R) {j : Nat} {x : Int} : chc l o ro j x ↔ x = -1 ∨ ∃ t : Nat, t < 2 * o ∧ en l ro t = j ∧ x = ((ro (t / 2) : Nat) : Int) := by
  unfold chc
  constructor
  · intro h
    rcases h with h | ⟨k, k1, k2, k3⟩
    · exact Or.inl h
    · rcases k3 with k3 | k3
      · refine Or.inr ⟨2 * k, by omega, ?_, by rw [show 2 * k / 2 = k by omega]; exact k2⟩
        unfold en
        rw [show 2 * k / 2 = k by omega, show 2 * k % 2 = 0 by omega, Nat.add_zero, k3]
        omega
      · refine Or.inr ⟨2 * k + 1, by omega, ?_, by rw [show (2 * k + 1) / 2 = k by omega]; exact k2⟩
        unfold en
        rw [show (2 * k + 1) / 2 = k by omega, show (2 * k + 1) % 2 = 1 by omega, k3]
        omega
  · intro h
    rcases h with h | ⟨t, t1, t2, t3⟩
    · exact Or.inl h
    · refine Or.inr ⟨t / 2, by omega, t3, ?_⟩
      have e := (en_lt hk hH op t1).2
      rw [t2] at e
      rcases Nat.mod_two_eq_zero_or_one t with z | z
      · rw [z] at e; exact Or.inl e
      · rw [z] at e; exact Or.inr e
theorem ext_H (hk : okL l) (hH : (H : Int) = l 0 0) (op : opn l o ro R) (hv : v < 64) : ext l o H ro v H q w ↔ q = 0 ∧ w = v := by
  constructor
  · intro h
    obtain ⟨p, -, h2, h3, h4⟩ := h
    rw [Nat.sub_self] at h2
    have h2' : (0 : Int) = (q : Int) := h2
    refine ⟨by omega, tb_ext hv h3 (fun t ht => (h4 t ht).trans ⟨fun z => ?_, fun z => Or.inl z⟩)⟩
    rcases z with z | ⟨z1, z2, -⟩
    · exact z
    · have := (en_lt hk hH op z1).1
      omega
  · intro h
    obtain ⟨rfl, rfl⟩ := h
    refine ⟨fun _ => -1, fun j a b => absurd a (by omega), by rw [Nat.sub_self]; rfl, hv, fun t ht => ⟨fun z => Or.inl z, fun z => ?_⟩⟩
    rcases z with z | ⟨z1, z2, -⟩
    · exact z
    · have := (en_lt hk hH op z1).1
      omega
theorem ext_st (hk : okL l) (hH : (H : Int) = l 0 0) (op : opn l o ro R) (ho : o ≤ 3) (hi : i < H) : ext l o H ro v i q w ↔ ext l o H ro v (i + 1) q w ∨ ∃ q' : Nat, q = q' + 1 ∧ ∃ t : Nat, t < 2 * o ∧ en l ro t = i ∧ ext l o H ro (v ||| 2 ^ t) (i + 1) q' w := by
  have eH : H - i = (H - (i + 1)) + 1 := by omega
  constructor
  · intro h
    obtain ⟨p, h1, h2, h3, h4⟩ := h
    rw [eH] at h2
    have h2' : (if p i = -1 then 0 else 1) + cn p (i + 1) (H - (i + 1)) = (q : Int) := h2
    rcases (chc_t hk hH op).mp (h1 i (Nat.le_refl _) hi) with c | ⟨t, t1, t2, t3⟩
    · rw [if_pos c] at h2'
      refine Or.inl ⟨p, fun j a b => h1 j (by omega) b, by omega, h3, fun s hs => (h4 s hs).trans ⟨fun z => ?_, fun z => ?_⟩⟩
      · rcases z with z | ⟨z1, z2, z3⟩
        · exact Or.inl z
        · refine Or.inr ⟨z1, ?_, z3⟩
          by_cases e : en l ro s = i
          · rw [e, c] at z3; omega
          · omega
      · rcases z with z | ⟨z1, z2, z3⟩
        · exact Or.inl z
        · exact Or.inr ⟨z1, by omega, z3⟩
    · rw [if_neg (by omega)] at h2'
      have := cn_rg p (H - (i + 1)) (i + 1)
      refine Or.inr ⟨q - 1, by omega, t, t1, t2, p, fun j a b => h1 j (by omega) b, by omega, h3, fun s hs => (h4 s hs).trans ⟨fun z => ?_, fun z => ?_⟩⟩
      · rcases z with z | ⟨z1, z2, z3⟩
        · exact Or.inl (tb_or.mpr (Or.inl z))
        · by_cases e : en l ro s = i
          · rw [e, t3] at z3
            have e2 := ro_inj op (j := t / 2) (k := s / 2) (by omega) (by omega) (by omega)
            exact Or.inl (tb_or.mpr (Or.inr (en_ne hk op t1 z1 (by omega) e2).symm))
          · exact Or.inr ⟨z1, by omega, z3⟩
      · rcases z with z | ⟨z1, z2, z3⟩
        · rcases tb_or.mp z with z | z
          · exact Or.inl z
          · subst z
            exact Or.inr ⟨t1, by omega, by rw [t2]; exact t3⟩
        · exact Or.inr ⟨z1, by omega, z3⟩
  · intro h
    rcases h with ⟨p, h1, h2, h3, h4⟩ | ⟨q', rfl, t, t1, t2, p, h1, h2, h3, h4⟩
    · refine ⟨upA p i (-1), fun j a b => ?_, ?_, h3, fun s hs => (h4 s hs).trans ⟨fun z => ?_, fun z => ?_⟩⟩
      · by_cases e : j = i
        · rw [e, upA_s]; exact Or.inl rfl
        · rw [upA_n e]; exact h1 j (by omega) b
      · rw [eH]
        show (if upA p i (-1) i = -1 then 0 else 1) + cn (upA p i (-1)) (i + 1) (H - (i + 1)) = _
        rw [upA_s, if_pos rfl, cn_up _ _ (by omega), h2]; omega
      · rcases z with z | ⟨z1, z2, z3⟩
        · exact Or.inl z
        · exact Or.inr ⟨z1, by omega, by rw [upA_n (by omega)]; exact z3⟩
      · rcases z with z | ⟨z1, z2, z3⟩
        · exact Or.inl z
        · by_cases e : en l ro s = i
          · rw [e, upA_s] at z3; omega
          · rw [upA_n e] at z3
            exact Or.inr ⟨z1, by omega, z3⟩
    · refine ⟨upA p i ((ro (t / 2) : Nat) : Int), fun j a b => ?_, ?_, h3, fun s hs => (h4 s hs).trans ⟨fun z => ?_, fun z => ?_⟩⟩
      · by_cases e : j = i
        · rw [e, upA_s]; exact (chc_t hk hH op).mpr (Or.inr ⟨t, t1, t2, rfl⟩)
        · rw [upA_n e]; exact h1 j (by omega) b
      · rw [eH]
        show (if upA p i ((ro (t / 2) : Nat) : Int) i = -1 then 0 else 1) + cn (upA p i ((ro (t / 2) : Nat) : Int)) (i + 1) (H - (i + 1)) = _
        rw [upA_s, if_neg (by omega), cn_up _ _ (by omega), h2]; omega
      · rcases z with z | ⟨z1, z2, z3⟩
        · rcases tb_or.mp z with z | z
          · exact Or.inl z
          · subst z
            exact Or.inr ⟨t1, by omega, by rw [t2, upA_s]⟩
        · exact Or.inr ⟨z1, by omega, by rw [upA_n (by omega)]; exact z3⟩
      · rcases z with z | ⟨z1, z2, z3⟩
        · exact Or.inl (tb_or.mpr (Or.inl z))
        · by_cases e : en l ro s = i
          · rw [e, upA_s] at z3
            have e2 := ro_inj op (j := t / 2) (k := s / 2) (by omega) (by omega) (by omega)
            exact Or.inl (tb_or.mpr (Or.inr (en_ne hk op t1 z1 (by omega) e2).symm))
          · rw [upA_n e] at z3
            exact Or.inr ⟨z1, by omega, z3⟩
theorem ext_0 (ho : o ≤ 3) : ext l o H ro 0 0 q w ↔ ∃ p : Nat → Int, vP l o H ro p ∧ cn p 0 H = (q : Int) ∧ whoB l o ro p w := by
  constructor
  · intro h
    obtain ⟨p, h1, h2, h3, h4⟩ := h
    refine ⟨p, fun j hj => h1 j (by omega) hj, h2, h3, fun t ht => (h4 t ht).trans ⟨fun z => ?_, fun z => ?_⟩⟩
    · rcases z with z | z
      · simp at z
      · exact ⟨z.1, z.2.2⟩
    · exact Or.inr ⟨z.1, by omega, z.2⟩
  · intro h
    obtain ⟨p, h1, h2, h3, h4⟩ := h
    refine ⟨p, fun j _ hj => h1 j hj, h2, h3, fun t ht => (h4 t ht).trans ⟨fun z => ?_, fun z => ?_⟩⟩
    · exact Or.inr ⟨z.1, by omega, z.2⟩
    · rcases z with z | z
      · simp at z
      · exact ⟨z.1, z.2.2⟩
end EX
/-! how many ways there are to pull -/
def dg (e : Nat → Nat) (i : Nat) : Nat → Nat → Nat
  | _, 0 => 0
  | t, d + 1 => (if e t = i then 1 else 0) + dg e i (t + 1) d
def nn (D : Nat → Nat) : Nat → Nat → Nat → Nat
  | _, 0, 0 => 1
  | _, 0, _ + 1 => 0
  | i, d + 1, 0 => nn D (i + 1) d 0
  | i, d + 1, q + 1 => nn D (i + 1) d (q + 1) + D i * nn D (i + 1) d q
theorem nn_4 (D : Nat → Nat) : nn D 0 4 0 + nn D 0 4 1 + nn D 0 4 2 + nn D 0 4 3 + nn D 0 4 4 = (1 + D 0) * (1 + D 1) * (1 + D 2) * (1 + D 3) := by
  simp only [nn]
  simp only [Nat.mul_add, Nat.add_mul, Nat.mul_one, Nat.one_mul, Nat.mul_zero, Nat.add_zero, Nat.zero_add]
  ac_rfl
theorem nn_3 (D : Nat → Nat) : nn D 0 3 0 + nn D 0 3 1 + nn D 0 3 2 + nn D 0 3 3 = (1 + D 0) * (1 + D 1) * (1 + D 2) := by
  simp only [nn]
  simp only [Nat.mul_add, Nat.add_mul, Nat.mul_one, Nat.one_mul, Nat.mul_zero, Nat.add_zero, Nat.zero_add]
  ac_rfl
theorem nn_2 (D : Nat → Nat) : nn D 0 2 0 + nn D 0 2 1 + nn D 0 2 2 = (1 + D 0) * (1 + D 1) := by
  simp only [nn]
  simp only [Nat.mul_add, Nat.add_mul, Nat.mul_one, Nat.one_mul, Nat.mul_zero, Nat.add_zero, Nat.zero_add]
  ac_rfl
theorem pr36 : ∀ a : Nat, a < 7 → ∀ b : Nat, b < 7 → ∀ c : Nat, c < 7 → ∀ d : Nat, d < 7 → a + b + c + d ≤ 6 → (1 + a) * (1 + b) * (1 + c) * (1 + d) ≤ 36 := by decide +kernel
theorem dg_sum (e : Nat → Nat) : ∀ (d t : Nat), dg e 0 t d + dg e 1 t d + dg e 2 t d + dg e 3 t d ≤ d
  | 0, _ => Nat.le_refl _
  | d + 1, t => by
    have := dg_sum e d (t + 1)
    show ((if e t = 0 then 1 else 0) + dg e 0 (t + 1) d) + ((if e t = 1 then 1 else 0) + dg e 1 (t + 1) d) + ((if e t = 2 then 1 else 0) + dg e 2 (t + 1) d) + ((if e t = 3 then 1 else 0) + dg e 3 (t + 1) d) ≤ d + 1
    split <;> split <;> split <;> split <;> omega
/-- how many there are of up to q pulls -/
def ns (D : Nat → Nat) (H : Nat) : Nat → Nat
  | 0 => nn D 0 H 0
  | q + 1 => ns D H q + nn D 0 H (q + 1)
theorem ns_le {e : Nat → Nat} {o H : Nat} (ho : o ≤ 3) (hH : H ≤ 4) : ns (fun i => dg e i 0 (2 * o)) H H ≤ 36 := by
  have s := dg_sum e (2 * o) 0
  have p := pr36 (dg e 0 0 (2 * o)) (by omega) (dg e 1 0 (2 * o)) (by omega) (dg e 2 0 (2 * o)) (by omega) (dg e 3 0 (2 * o)) (by omega) (by omega)
  have p3 := pr36 (dg e 0 0 (2 * o)) (by omega) (dg e 1 0 (2 * o)) (by omega) (dg e 2 0 (2 * o)) (by omega) 0 (by omega) (by omega)
  have p2 := pr36 (dg e 0 0 (2 * o)) (by omega) (dg e 1 0 (2 * o)) (by omega) 0 (by omega) 0 (by omega) (by omega)
  have : H = 0 ∨ H = 1 ∨ H = 2 ∨ H = 3 ∨ H = 4 := by omega
  rcases this with rfl | rfl | rfl | rfl | rfl
  · show 1 ≤ 36
    decide
  · show nn (fun i => dg e i 0 (2 * o)) 0 1 0 + nn (fun i => dg e i 0 (2 * o)) 0 1 1 ≤ 36
    simp only [nn]
    omega
  · have h := nn_2 (fun i => dg e i 0 (2 * o))
    show nn (fun i => dg e i 0 (2 * o)) 0 2 0 + nn (fun i => dg e i 0 (2 * o)) 0 2 1 + nn (fun i => dg e i 0 (2 * o)) 0 2 2 ≤ 36
    rw [h]
    simp only [Nat.add_zero, Nat.mul_one] at p2
    exact p2
  · have h := nn_3 (fun i => dg e i 0 (2 * o))
    show nn (fun i => dg e i 0 (2 * o)) 0 3 0 + nn (fun i => dg e i 0 (2 * o)) 0 3 1 + nn (fun i => dg e i 0 (2 * o)) 0 3 2 + nn (fun i => dg e i 0 (2 * o)) 0 3 3 ≤ 36
    rw [h]
    simp only [Nat.add_zero, Nat.mul_one] at p3
    exact p3
  · have h := nn_4 (fun i => dg e i 0 (2 * o))
    show nn (fun i => dg e i 0 (2 * o)) 0 4 0 + nn (fun i => dg e i 0 (2 * o)) 0 4 1 + nn (fun i => dg e i 0 (2 * o)) 0 4 2 + nn (fun i => dg e i 0 (2 * o)) 0 4 3 + nn (fun i => dg e i 0 (2 * o)) 0 4 4 ≤ 36
    rw [h]
    exact p
