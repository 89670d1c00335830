/-! the reference's search alone; alone of both -/
section AL
variable {μ : Mem} {I J : Nat → Nat → Int} {c m n q N : Nat} {s L0 : Ld} {β : Type}
def svR (b a : Nat → Int) (k : Nat) : Nat → Int := fun j => if 220 * k ≤ j ∧ j < 220 * k + 220 then a (j - 220 * k) else b j
def rsR (b a : Nat → Int) (k : Nat) : Nat → Int := fun j => if j < 220 then b (220 * k + j) else a j
theorem sv_loop (h : isM μ m) {k : Nat} (hk : k < 8) (hn : 20000 ≤ n) {F : Mem → Option (Unit × Mem)} : lp (fun nx74 (v74 : Int) (μ74 : Mem) =>
    if lt32 v74 220 then
      (gA μ74 12 m 34).bind fun x83 =>
      (gA μ74 12 m 1).bind fun x95 =>
      (ldI μ74 0 x95 v74).bind fun x100 =>
      (stI μ74 0 x83 ((220 * (k : Int)) + v74) x100).bind fun μ101 =>
      nx74 (v74 + 1) μ101
    else
    F μ74) n 0 (wi μ (wm I m s)) = F (wi μ (wm I m (up1 s 16 (svR (s 16) (s 1) k)))) := by
  refine lp_ind (fun d (v : Int) ν => ∃ (t : Nat → Int) (w : Nat), ν = wi μ (wm I m (up1 s 16 t)) ∧ v = (w : Int) ∧ w + d = 220 ∧ ∀ j : Nat, t j = if 220 * k ≤ j ∧ j < 220 * k + w then s 1 (j - 220 * k) else s 16 j) (fun X => X = F (wi μ (wm I m (up1 s 16 (svR (s 16) (s 1) k))))) (fun d v ν nx hP hnx => ?_) n 220 _ _ (by omega) ⟨s 16, 0, by rw [up1_id], rfl, by omega, fun j => by rw [if_neg (by omega)]⟩
  obtain ⟨t, w, rfl, rfl, h1, h2⟩ := hP
  have u1 : up1 s 16 t 1 = s 1 := up1_o (by decide)
  cases d with
  | zero =>
    simp (disch := omega) only [↓i_lt_t, ↓i_lt_f, ↓i_eq_t, ↓i_eq_f, ↓i_bi_t, ↓i_bi_f, ↓i_some]
    have et : t = svR (s 16) (s 1) k := funext fun j => by
      rw [h2 j, show w = 220 by omega]
      rfl
    rw [et]
  | succ d =>
    simp (disch := omega) only [↓i_lt_t, ↓i_lt_f, ↓i_eq_t, ↓i_eq_f, ↓i_bi_t, ↓i_bi_f, ↓i_some, ↓bM_gI h, ↓bM_pI h, ↓bM_inv h, ↓bM_g1 h, ↓bM_g2 h, ↓bM_g3 h, ↓bM_g4 h, ↓bM_g15 h, ↓bM_g16 h, ↓bM_g22 h, ↓bM_g23 h, ↓bM_g24 h, ↓bM_g25 h, ↓bM_g28 h, ↓bM_g29 h, ↓bM_g30 h, ↓bM_g32 h, ↓bM_g33 h, ↓bM_g34 h, ↓bM_g36 h, ↓bM_g37 h, ↓bM_g41 h, ↓bM_g42 h, ↓bM_g43 h, ↓bM_ld1 h, ↓bM_ld2 h, ↓bM_ld3 h, ↓bM_ld4 h, ↓bM_ld5 h, ↓bM_ld6 h, ↓bM_ld7 h, ↓bM_ld8 h, ↓bM_ld9 h, ↓bM_ld10 h, ↓bM_ld11 h, ↓bM_ld12 h, ↓bM_ld13 h, ↓bM_ld14 h, ↓bM_ld15 h, ↓bM_ld16 h, ↓bM_ld17 h, ↓bM_ld18 h, ↓bM_ld19 h, ↓bM_ld20 h, ↓bM_ld21 h, ↓bM_st1 h, ↓bM_st2 h, ↓bM_st3 h, ↓bM_st4 h, ↓bM_st5 h, ↓bM_st6 h, ↓bM_st7 h, ↓bM_st8 h, ↓bM_st9 h, ↓bM_st10 h, ↓bM_st11 h, ↓bM_st12 h, ↓bM_st13 h, ↓bM_st14 h, ↓bM_st15 h, ↓bM_st16 h, ↓bM_st17 h, ↓bM_st18 h, ↓bM_st19 h, ↓bM_st20 h, ↓bM_st21 h, Int.toNat_add, Int.toNat_mul, Int.toNat_natCast, Int.reduceToNat, Nat.reduceAdd, Nat.reduceMul, u1, up21]
    refine hnx d _ _ (by omega) ⟨_, w + 1, rfl, rfl, by omega, fun j => ?_⟩
    by_cases e : j = 220 * k + w
    · rw [e, upA_s, if_pos (by omega), show 220 * k + w - 220 * k = w by omega]
    · rw [upA_n e, h2 j]
      by_cases e2 : 220 * k ≤ j ∧ j < 220 * k + w
      · rw [if_pos e2, if_pos (by omega)]
      · rw [if_neg e2, if_neg (by omega)]
theorem rs_loop (h : isM μ m) {k : Nat} (hk : k < 8) (hn : 20000 ≤ n) {F : Mem → Option (Unit × Mem)} : lp (fun nx153 (v153 : Int) (μ153 : Mem) =>
    if lt32 v153 220 then
      (gA μ153 12 m 1).bind fun x162 =>
      (gA μ153 12 m 34).bind fun x168 =>
      (ldI μ153 0 x168 ((220 * (k : Int)) + v153)).bind fun x179 =>
      (stI μ153 0 x162 v153 x179).bind fun μ180 =>
      nx153 (v153 + 1) μ180
    else
    F μ153) n 0 (wi μ (wm I m s)) = F (wi μ (wm I m (up1 s 1 (rsR (s 16) (s 1) k)))) := by
  refine lp_ind (fun d (v : Int) ν => ∃ (t : Nat → Int) (w : Nat), ν = wi μ (wm I m (up1 s 1 t)) ∧ v = (w : Int) ∧ w + d = 220 ∧ ∀ j : Nat, t j = if j < w then s 16 (220 * k + j) else s 1 j) (fun X => X = F (wi μ (wm I m (up1 s 1 (rsR (s 16) (s 1) k))))) (fun d v ν nx hP hnx => ?_) n 220 _ _ (by omega) ⟨s 1, 0, by rw [up1_id], rfl, by omega, fun j => by rw [if_neg (by omega)]⟩
  obtain ⟨t, w, rfl, rfl, h1, h2⟩ := hP
  have u16 : up1 s 1 t 16 = s 16 := up1_o (by decide)
  cases d with
  | zero =>
    simp (disch := omega) only [↓i_lt_t, ↓i_lt_f, ↓i_eq_t, ↓i_eq_f, ↓i_bi_t, ↓i_bi_f, ↓i_some]
    have et : t = rsR (s 16) (s 1) k := funext fun j => by
      rw [h2 j, show w = 220 by omega]
      rfl
    rw [et]
  | succ d =>
    simp (disch := omega) only [↓i_lt_t, ↓i_lt_f, ↓i_eq_t, ↓i_eq_f, ↓i_bi_t, ↓i_bi_f, ↓i_some, ↓bM_gI h, ↓bM_pI h, ↓bM_inv h, ↓bM_g1 h, ↓bM_g2 h, ↓bM_g3 h, ↓bM_g4 h, ↓bM_g15 h, ↓bM_g16 h, ↓bM_g22 h, ↓bM_g23 h, ↓bM_g24 h, ↓bM_g25 h, ↓bM_g28 h, ↓bM_g29 h, ↓bM_g30 h, ↓bM_g32 h, ↓bM_g33 h, ↓bM_g34 h, ↓bM_g36 h, ↓bM_g37 h, ↓bM_g41 h, ↓bM_g42 h, ↓bM_g43 h, ↓bM_ld1 h, ↓bM_ld2 h, ↓bM_ld3 h, ↓bM_ld4 h, ↓bM_ld5 h, ↓bM_ld6 h, ↓bM_ld7 h, ↓bM_ld8 h, ↓bM_ld9 h, ↓bM_ld10 h, ↓bM_ld11 h, ↓bM_ld12 h, ↓bM_ld13 h, ↓bM_ld14 h, ↓bM_ld15 h, ↓bM_ld16 h, ↓bM_ld17 h, ↓bM_ld18 h, ↓bM_ld19 h, ↓bM_ld20 h, ↓bM_ld21 h, ↓bM_st1 h, ↓bM_st2 h, ↓bM_st3 h, ↓bM_st4 h, ↓bM_st5 h, ↓bM_st6 h, ↓bM_st7 h, ↓bM_st8 h, ↓bM_st9 h, ↓bM_st10 h, ↓bM_st11 h, ↓bM_st12 h, ↓bM_st13 h, ↓bM_st14 h, ↓bM_st15 h, ↓bM_st16 h, ↓bM_st17 h, ↓bM_st18 h, ↓bM_st19 h, ↓bM_st20 h, ↓bM_st21 h, Int.toNat_add, Int.toNat_mul, Int.toNat_natCast, Int.reduceToNat, Nat.reduceAdd, Nat.reduceMul, u16, up21]
    refine hnx d _ _ (by omega) ⟨_, w + 1, rfl, rfl, by omega, fun j => ?_⟩
    by_cases e : j = w
    · rw [e, upA_s, if_pos (by omega)]
    · rw [upA_n e, h2 j]
      by_cases e2 : j < w
      · rw [if_pos e2, if_pos (by omega)]
      · rw [if_neg e2, if_neg (by omega)]
/-- what the search alone leaves as it was -/
def FrA (s s' : Ld) (k : Nat) : Prop := (∀ a : Nat, a ≠ 0 → a ≠ 5 → a ≠ 14 → a ≠ 15 → a ≠ 16 → a ≠ 1 → s' a = s a) ∧ (∀ j : Nat, j ≠ 35 → s' 0 j = s 0 j) ∧ (∀ j : Nat, 220 ≤ j → s' 1 j = s 1 j) ∧ ∀ j : Nat, j < 220 * k → s' 16 j = s 16 j
theorem FrA.tr {s t u : Ld} {k : Nat} (h1 : FrA s t k) (h2 : FrA t u k) : FrA s u k := ⟨fun a b d e f g i => (h2.1 a b d e f g i).trans (h1.1 a b d e f g i), fun j a => (h2.2.1 j a).trans (h1.2.1 j a), fun j a => (h2.2.2.1 j a).trans (h1.2.2.1 j a), fun j a => (h2.2.2.2 j a).trans (h1.2.2.2 j a)⟩
theorem FrA.mo {s t : Ld} {k k' : Nat} (h : FrA s t k) (hk : k' ≤ k) : FrA s t k' := ⟨h.1, h.2.1, h.2.2.1, fun j hj => h.2.2.2 j (by omega)⟩
def raS (s : Ld) (N k : Nat) (row : Nat → Int) (M : Am) : Prop := s 0 35 = M.1 ∧ (∀ j : Nat, j < N → s 15 j = M.2 j) ∧ (∀ j : Nat, j < k → s 14 j = row j) ∧ (-200 ≤ M.1 ∧ M.1 ≤ 200)
theorem alone_m (h : isM μ m) (h0 : okL L0) (hq : (q : Int) < L0 0 0) (hN : N ≤ 7) (hn : 20000 ≤ n) : ∀ (d D k : Nat) (s L : Ld) (row : Nat → Int) (M : Am), d < D → k + d = N → LR L (s 1) → okA L0 L q → raS s N k row M → ∃ s' : Ld, lp (bX11_pullsAlone n) D (m, (k : Int), (N : Int), (q : Int), hd L0 q) (wi μ (wm I m s)) = some ((), wi μ (wm I m s')) ∧ FrA s s' k ∧ s' 1 = s 1 ∧ raS s' N k row (aF q (hd L0 q) (L0 0 1).toNat d k L row M) := by
  have hz0 := h0.1
  intro d
  induction d with
  | zero =>
    intro D k s L row M hD e hl hA hM
    obtain ⟨D, rfl⟩ : ∃ D' : Nat, D = D' + 1 := ⟨D - 1, by omega⟩
    have ek : k = N := by omega
    subst ek
    show ∃ s' : Ld, bX11_pullsAlone n (lp (bX11_pullsAlone n) D) (m, (k : Int), (k : Int), (q : Int), hd L0 q) (wi μ (wm I m s)) = some ((), wi μ (wm I m s')) ∧ _
    have gg := hA.g h0 hq
    obtain ⟨okL', fxL', -, -⟩ := hA
    have e0L : L 0 0 = L0 0 0 := fxL'.1 0 (by decide)
    obtain ⟨m1, m2, m3, m4⟩ := id hM
    have e46 : s 1 (46 + q) = hd L q := (hl.2.1 q (by omega)).2.2.2.2
    unfold bX11_pullsAlone
    dsimp only
    by_cases c : M.1 < hd L q - hd L0 q
    · have ha : aF q (hd L0 q) (L0 0 1).toNat 0 k L row M = (hd L q - hd L0 q, row) := if_pos c
      rw [ha]
      simp (disch := omega) only [↓i_lt_t, ↓i_lt_f, ↓i_eq_t, ↓i_eq_f, ↓i_bi_t, ↓i_bi_f, ↓i_some, ↓bM_gI h, ↓bM_pI h, ↓bM_inv h, ↓bM_g1 h, ↓bM_g2 h, ↓bM_g3 h, ↓bM_g4 h, ↓bM_g15 h, ↓bM_g16 h, ↓bM_g22 h, ↓bM_g23 h, ↓bM_g24 h, ↓bM_g25 h, ↓bM_g28 h, ↓bM_g29 h, ↓bM_g30 h, ↓bM_g32 h, ↓bM_g33 h, ↓bM_g34 h, ↓bM_g36 h, ↓bM_g37 h, ↓bM_g41 h, ↓bM_g42 h, ↓bM_g43 h, ↓bM_ld1 h, ↓bM_ld2 h, ↓bM_ld3 h, ↓bM_ld4 h, ↓bM_ld5 h, ↓bM_ld6 h, ↓bM_ld7 h, ↓bM_ld8 h, ↓bM_ld9 h, ↓bM_ld10 h, ↓bM_ld11 h, ↓bM_ld12 h, ↓bM_ld13 h, ↓bM_ld14 h, ↓bM_ld15 h, ↓bM_ld16 h, ↓bM_ld17 h, ↓bM_ld18 h, ↓bM_ld19 h, ↓bM_ld20 h, ↓bM_ld21 h, ↓bM_st1 h, ↓bM_st2 h, ↓bM_st3 h, ↓bM_st4 h, ↓bM_st5 h, ↓bM_st6 h, ↓bM_st7 h, ↓bM_st8 h, ↓bM_st9 h, ↓bM_st10 h, ↓bM_st11 h, ↓bM_st12 h, ↓bM_st13 h, ↓bM_st14 h, ↓bM_st15 h, ↓bM_st16 h, ↓bM_st17 h, ↓bM_st18 h, ↓bM_st19 h, ↓bM_st20 h, ↓bM_st21 h, Int.toNat_add, Int.toNat_mul, Int.toNat_natCast, Int.reduceToNat, Nat.reduceAdd, Nat.reduceMul, e46, m1]
      refine lp_ind (fun e (v : Int) ν => ∃ (t : Ld) (w : Nat), ν = wi μ (wm I m t) ∧ v = (w : Int) ∧ w + e = k ∧ FrA s t k ∧ t 1 = s 1 ∧ t 0 35 = hd L q - hd L0 q ∧ t 14 = s 14 ∧ ∀ j : Nat, j < w → t 15 j = row j) (fun X => ∃ s' : Ld, X = some ((), wi μ (wm I m s')) ∧ FrA s s' k ∧ s' 1 = s 1 ∧ raS s' k k row (hd L q - hd L0 q, row)) (fun e v ν nx hP hnx => ?_) n k _ _ (by omega) ⟨_, 0, rfl, rfl, by omega, ⟨fun a a0 _ _ _ _ _ => up2_row a0, fun j hj => up2_n (by omega), fun j _ => by rw [up2_row (by decide)], fun j _ => by rw [up2_row (by decide)]⟩, up2_row (by decide), up2_s, up2_row (by decide), fun j hj => by omega⟩
      obtain ⟨t, w, rfl, rfl, h1, ft, t1, t35, t14, t15⟩ := hP
      cases e with
      | zero =>
        have ew : w = k := by omega
        subst ew
        simp (disch := omega) only [↓i_lt_t, ↓i_lt_f, ↓i_eq_t, ↓i_eq_f, ↓i_bi_t, ↓i_bi_f, ↓i_some]
        exact ⟨t, rfl, ft, t1, t35, t15, fun j hj => by rw [t14]; exact m3 j hj, by dsimp only; omega⟩
      | succ e =>
        have e14 : t 14 w = row w := by rw [t14]; exact m3 w (by omega)
        simp (disch := omega) only [↓i_lt_t, ↓i_lt_f, ↓i_eq_t, ↓i_eq_f, ↓i_bi_t, ↓i_bi_f, ↓i_some, ↓bM_gI h, ↓bM_pI h, ↓bM_inv h, ↓bM_g1 h, ↓bM_g2 h, ↓bM_g3 h, ↓bM_g4 h, ↓bM_g15 h, ↓bM_g16 h, ↓bM_g22 h, ↓bM_g23 h, ↓bM_g24 h, ↓bM_g25 h, ↓bM_g28 h, ↓bM_g29 h, ↓bM_g30 h, ↓bM_g32 h, ↓bM_g33 h, ↓bM_g34 h, ↓bM_g36 h, ↓bM_g37 h, ↓bM_g41 h, ↓bM_g42 h, ↓bM_g43 h, ↓bM_ld1 h, ↓bM_ld2 h, ↓bM_ld3 h, ↓bM_ld4 h, ↓bM_ld5 h, ↓bM_ld6 h, ↓bM_ld7 h, ↓bM_ld8 h, ↓bM_ld9 h, ↓bM_ld10 h, ↓bM_ld11 h, ↓bM_ld12 h, ↓bM_ld13 h, ↓bM_ld14 h, ↓bM_ld15 h, ↓bM_ld16 h, ↓bM_ld17 h, ↓bM_ld18 h, ↓bM_ld19 h, ↓bM_ld20 h, ↓bM_ld21 h, ↓bM_st1 h, ↓bM_st2 h, ↓bM_st3 h, ↓bM_st4 h, ↓bM_st5 h, ↓bM_st6 h, ↓bM_st7 h, ↓bM_st8 h, ↓bM_st9 h, ↓bM_st10 h, ↓bM_st11 h, ↓bM_st12 h, ↓bM_st13 h, ↓bM_st14 h, ↓bM_st15 h, ↓bM_st16 h, ↓bM_st17 h, ↓bM_st18 h, ↓bM_st19 h, ↓bM_st20 h, ↓bM_st21 h, Int.toNat_add, Int.toNat_mul, Int.toNat_natCast, Int.reduceToNat, Nat.reduceAdd, Nat.reduceMul, e14]
        refine hnx e _ _ (by omega) ⟨_, w + 1, rfl, rfl, by omega, ft.tr ⟨fun a _ _ _ a15 _ _ => up2_row a15, fun j _ => by rw [up2_row (by decide)], fun j _ => by rw [up2_row (by decide)], fun j _ => by rw [up2_row (by decide)]⟩, by rw [up2_row (by decide)]; exact t1, by rw [up2_row (by decide)]; exact t35, by rw [up2_row (by decide)]; exact t14, fun j hj => ?_⟩
        by_cases ej : j = w
        · rw [ej, up2_s]
        · rw [up2_n (by omega)]; exact t15 j (by omega)
    · have ha : aF q (hd L0 q) (L0 0 1).toNat 0 k L row M = M := if_neg c
      rw [ha]
      simp (disch := omega) only [↓i_lt_t, ↓i_lt_f, ↓i_eq_t, ↓i_eq_f, ↓i_bi_t, ↓i_bi_f, ↓i_some, ↓bM_gI h, ↓bM_pI h, ↓bM_inv h, ↓bM_g1 h, ↓bM_g2 h, ↓bM_g3 h, ↓bM_g4 h, ↓bM_g15 h, ↓bM_g16 h, ↓bM_g22 h, ↓bM_g23 h, ↓bM_g24 h, ↓bM_g25 h, ↓bM_g28 h, ↓bM_g29 h, ↓bM_g30 h, ↓bM_g32 h, ↓bM_g33 h, ↓bM_g34 h, ↓bM_g36 h, ↓bM_g37 h, ↓bM_g41 h, ↓bM_g42 h, ↓bM_g43 h, ↓bM_ld1 h, ↓bM_ld2 h, ↓bM_ld3 h, ↓bM_ld4 h, ↓bM_ld5 h, ↓bM_ld6 h, ↓bM_ld7 h, ↓bM_ld8 h, ↓bM_ld9 h, ↓bM_ld10 h, ↓bM_ld11 h, ↓bM_ld12 h, ↓bM_ld13 h, ↓bM_ld14 h, ↓bM_ld15 h, ↓bM_ld16 h, ↓bM_ld17 h, ↓bM_ld18 h, ↓bM_ld19 h, ↓bM_ld20 h, ↓bM_ld21 h, ↓bM_st1 h, ↓bM_st2 h, ↓bM_st3 h, ↓bM_st4 h, ↓bM_st5 h, ↓bM_st6 h, ↓bM_st7 h, ↓bM_st8 h, ↓bM_st9 h, ↓bM_st10 h, ↓bM_st11 h, ↓bM_st12 h, ↓bM_st13 h, ↓bM_st14 h, ↓bM_st15 h, ↓bM_st16 h, ↓bM_st17 h, ↓bM_st18 h, ↓bM_st19 h, ↓bM_st20 h, ↓bM_st21 h, Int.toNat_add, Int.toNat_mul, Int.toNat_natCast, Int.reduceToNat, Nat.reduceAdd, Nat.reduceMul, e46, m1]
      exact ⟨s, rfl, ⟨fun _ _ _ _ _ _ _ => rfl, fun _ _ => rfl, fun _ _ => rfl, fun _ _ => rfl⟩, rfl, hM⟩
  | succ d ih =>
    intro D k s L row M hD e hl hA hM
    obtain ⟨D, rfl⟩ : ∃ D' : Nat, D = D' + 1 := ⟨D - 1, by omega⟩
    show ∃ s' : Ld, bX11_pullsAlone n (lp (bX11_pullsAlone n) D) (m, (k : Int), (N : Int), (q : Int), hd L0 q) (wi μ (wm I m s)) = some ((), wi μ (wm I m s')) ∧ _
    have ih' := ih D
    generalize lp (bX11_pullsAlone n) D = self at ih' ⊢
    have okA' := id hA
    obtain ⟨okL', fxL', hrL', -⟩ := okA'
    have e1L : L 0 1 = L0 0 1 := fxL'.1 1 (by decide)
    have e0L : L 0 0 = L0 0 0 := fxL'.1 0 (by decide)
    unfold bX11_pullsAlone
    dsimp only
    rw [i_eq_f (by omega), sv_loop h (by omega) hn]
    generalize hs1 : up1 s 16 (svR (s 16) (s 1) k) = s1
    have f1 : FrA s s1 k := ⟨fun a _ _ _ _ a16 _ => by rw [← hs1, up1_o a16], fun j _ => by rw [← hs1, up1_o (by decide)], fun j _ => by rw [← hs1, up1_o (by decide)], fun j hj => by
      rw [← hs1, up1_s]
      exact if_neg (by omega)⟩
    have s11 : s1 1 = s 1 := by rw [← hs1, up1_o (by decide)]
    have s16 : ∀ j : Nat, j < 220 → s1 16 (220 * k + j) = s 1 j := fun j hj => by
      rw [← hs1, up1_s]
      unfold svR
      rw [if_pos (by omega), show 220 * k + j - 220 * k = j by omega]
    have M1' : raS s1 N k row M := by
      obtain ⟨m1, m2, m3, m4⟩ := hM
      refine ⟨?_, fun j hj => ?_, fun j hj => ?_, m4⟩
      · rw [← hs1, up1_o (by decide)]; exact m1
      · rw [← hs1, up1_o (by decide)]; exact m2 j hj
      · rw [← hs1, up1_o (by decide)]; exact m3 j hj
    generalize hst : (fun (i : Nat) (M : Am) => @ite Am (awL L q i) (Classical.propDecidable _) (aF q (hd L0 q) (L0 0 1).toNat d (k + 1) (goL (pl1 q ((i : Int) - 1)) L).1 (upA row k ((i : Int) - 1)) M) M) = stp
    have eA : aF q (hd L0 q) (L0 0 1).toNat (d + 1) k L row M = itr stp 0 ((L0 0 1).toNat + 1) M := by rw [← hst]; rfl
    rw [eA]
    refine lp_ind (fun e (v : Int) ν => ∃ (t : Ld) (i : Nat) (M1 : Am), ν = wi μ (wm I m t) ∧ v = (i : Int) - 1 ∧ i + e = (L0 0 1).toNat + 1 ∧ FrA s t k ∧ (∀ j : Nat, j < 220 → t 16 (220 * k + j) = s 1 j) ∧ t 1 1 = L0 0 1 ∧ (∃ L' : Ld, okL L' ∧ LR L' (t 1) ∧ fxL L L') ∧ raS t N k row M1 ∧ itr stp i e M1 = itr stp 0 ((L0 0 1).toNat + 1) M) (fun X => ∃ s' : Ld, X = some ((), wi μ (wm I m s')) ∧ FrA s s' k ∧ s' 1 = s 1 ∧ raS s' N k row (itr stp 0 ((L0 0 1).toNat + 1) M)) (fun e v ν nx hP hnx => ?_) n ((L0 0 1).toNat + 1) _ _ (by omega) ⟨s1, 0, M, rfl, rfl, by omega, f1, s16, by rw [s11]; exact hl.1.2.1.trans e1L, ⟨L, okL', by rw [s11]; exact hl, fxL.rf⟩, M1', rfl⟩
    obtain ⟨t, i, M1, rfl, rfl, h1, ft, t16, t11, ⟨L', okl', lrl', fxl'⟩, hM1, hV⟩ := hP
    have rs1 : rsR (t 16) (t 1) k = s 1 := funext fun j => by
      unfold rsR
      by_cases hj : j < 220
      · rw [if_pos hj]; exact t16 j hj
      · rw [if_neg hj]; exact ft.2.2.1 j (by omega)
    cases e with
    | zero =>
      have hV' : M1 = itr stp 0 ((L0 0 1).toNat + 1) M := hV
      rw [bM_g1 h, bM_ld1 h (by omega) (by omega), show t 1 (1 : Int).toNat = L0 0 1 from t11, i_lt_f (by omega), rs_loop h (by omega) hn, rs1, ← hV']
      obtain ⟨m1, m2, m3, m4⟩ := hM1
      exact ⟨_, rfl, ft.tr ⟨fun a _ _ _ _ _ a1 => up1_o a1, fun j _ => by rw [up1_o (by decide)], fun j hj => by rw [up1_s]; exact (ft.2.2.1 j hj).symm, fun j _ => by rw [up1_o (by decide)]⟩, up1_s, by rw [up1_o (by decide)]; exact m1, fun j hj => by rw [up1_o (by decide)]; exact m2 j hj, fun j hj => by rw [up1_o (by decide)]; exact m3 j hj, m4⟩
    | succ e =>
      have hV' : itr stp (i + 1) e (stp i M1) = itr stp 0 ((L0 0 1).toNat + 1) M := hV
      -- one pull
      have go : awL L q i → ∃ s' : Ld, lp (fun nx153 (v153 : Int) (μ153 : Mem) =>
          if lt32 v153 220 then
            (gA μ153 12 m 1).bind fun x162 =>
            (gA μ153 12 m 34).bind fun x168 =>
            (ldI μ153 0 x168 ((220 * (k : Int)) + v153)).bind fun x179 =>
            (stI μ153 0 x162 v153 x179).bind fun μ180 =>
            nx153 (v153 + 1) μ180
          else
          (inv μ153 12 m (mX11_nobody n m μ153)).bind fun p188 =>
          (gA p188.2 12 m 15).bind fun x192 =>
          (stI p188.2 0 x192 (q : Int) ((i : Int) - 1)).bind fun μ198 =>
          (gA μ198 12 m 32).bind fun x200 =>
          (stI μ198 0 x200 (k : Int) ((i : Int) - 1)).bind fun μ206 =>
          (inv μ206 12 m (mX11_goes n m μ206)).bind fun p208 =>
          (inv p208.2 12 m (self (m, ((k : Int) + 1), (N : Int), (q : Int), hd L0 q) p208.2)).bind fun p220 =>
          nx (((i : Int) - 1) + 1) p220.2) n 0 (wi μ (wm I m t)) = some ((), wi μ (wm I m s')) ∧ FrA s s' k ∧ s' 1 = s 1 ∧ raS s' N k row (itr stp 0 ((L0 0 1).toNat + 1) M) := by
        intro ca
        have es : stp i M1 = aF q (hd L0 q) (L0 0 1).toNat d (k + 1) (goL (pl1 q ((i : Int) - 1)) L).1 (upA row k ((i : Int) - 1)) M1 := by
          rw [← hst]
          exact if_pos ca
        rw [es] at hV'
        rw [rs_loop h (by omega) hn, rs1, bM_inv h]
        obtain ⟨p0, hp0, e0⟩ := nobody_eq (n := n) (I := I) (s := up1 t 1 (s 1)) h (by omega)
        rw [bnd e0]
        dsimp only
        rw [bM_g15 h, bM_st5 h (by omega) (by omega), bM_g32 h, bM_st14 h (by omega) (by omega), Int.toNat_natCast, Int.toNat_natCast, bM_inv h]
        generalize hu : up2 (up2 (up1 (up1 t 1 (s 1)) 5 p0) 5 q ((i : Int) - 1)) 14 k ((i : Int) - 1) = u
        have u1 : u 1 = s 1 := by rw [← hu, up2_row (by decide), up2_row (by decide), up1_o (by decide), up1_s]
        have u5 : ∀ j : Nat, j < 10 → u 5 j = pl1 q ((i : Int) - 1) j := fun j hj => by
          unfold pl1
          rw [← hu, up2_row (by decide)]
          by_cases ej : j = q
          · rw [ej, up2_s, upA_s]
          · rw [up2_n (by omega), upA_n ej, up1_s, hp0 j hj]
        have u5r : ∀ j : Nat, j < 10 → -2147483648 ≤ u 5 j ∧ u 5 j < 2147483648 := fun j hj => by
          rw [u5 j hj]
          unfold pl1
          by_cases ej : j = q
          · rw [ej, upA_s]; omega
          · rw [upA_n ej]; omega
        have fu : FrA t u k := ⟨fun a _ a5 a14 _ _ a1 => by rw [← hu, up2_row a14, up2_row a5, up1_o a5, up1_o a1], fun j _ => by rw [← hu, up2_row (by decide), up2_row (by decide), up1_o (by decide), up1_o (by decide)], fun j hj => by rw [u1]; exact (ft.2.2.1 j hj).symm, fun j _ => by rw [← hu, up2_row (by decide), up2_row (by decide), up1_o (by decide), up1_o (by decide)]⟩
        have u16 : u 16 = t 16 := by rw [← hu, up2_row (by decide), up2_row (by decide), up1_o (by decide), up1_o (by decide)]
        obtain ⟨A, eg, l2, -, -, k2⟩ := goes_eq (n := n) (I := I) (s := u) (l := L) h (by rw [u1]; exact hl) okL' u5r (by omega)
        rw [goL_cg okL' u5] at eg l2
        have oA := hA.go hq (pl1 q ((i : Int) - 1))
        have u0 : u 0 = t 0 := by rw [← hu, up2_row (by decide), up2_row (by decide), up1_o (by decide), up1_o (by decide)]
        have u15 : u 15 = t 15 := by rw [← hu, up2_row (by decide), up2_row (by decide), up1_o (by decide), up1_o (by decide)]
        have u14 : ∀ j : Nat, j < k + 1 → u 14 j = upA row k ((i : Int) - 1) j := fun j hj => by
          rw [← hu]
          by_cases ej : j = k
          · rw [ej, up2_s, upA_s]
          · rw [up2_n (by omega), upA_n ej, up2_row (by decide), up1_o (by decide), up1_o (by decide)]
            exact hM1.2.2.1 j (by omega)
        obtain ⟨s3, e3, f3, o3, r3⟩ := ih' (k + 1) (up1 u 1 A) (goL (pl1 q ((i : Int) - 1)) L).1 (upA row k ((i : Int) - 1)) M1 (by omega) (by omega) (by rw [up1_s]; exact l2) oA ⟨by rw [up1_o (by decide), u0]; exact hM1.1, fun j hj => by rw [up1_o (by decide), u15]; exact hM1.2.1 j hj, fun j hj => by rw [up1_o (by decide)]; exact u14 j hj, hM1.2.2.2⟩
        rw [show (((k + 1 : Nat)) : Int) = (k : Int) + 1 from rfl] at e3
        rw [bnd eg]
        dsimp only
        rw [bM_inv h, bnd e3]
        dsimp only
        have fg : FrA u (up1 u 1 A) (k + 1) := ⟨fun a _ _ _ _ _ a1 => up1_o a1, fun j _ => by rw [up1_o (by decide)], fun j hj => by rw [up1_s]; exact k2 j hj, fun j _ => by rw [up1_o (by decide)]⟩
        have f4 : FrA u s3 (k + 1) := fg.tr f3
        have oA1 := oA.2.1
        refine hnx e _ _ (by omega) ⟨s3, i + 1, _, rfl, by omega, by omega, ft.tr (fu.tr (f4.mo (by omega))), fun j hj => ?_, ?_, ⟨(goL (pl1 q ((i : Int) - 1)) L).1, oA.1, by rw [o3, up1_s]; exact l2, (goL_ok _ okL').2⟩, ⟨r3.1, r3.2.1, fun j hj => by rw [r3.2.2.1 j (by omega), upA_n (by omega)], r3.2.2.2⟩, hV'⟩
        · rw [f4.2.2.2 _ (by omega), u16]; exact t16 j hj
        · rw [o3, up1_s]
          exact l2.1.2.1.trans (oA1.1 1 (by decide))
      rw [bM_g1 h, bM_ld1 h (by omega) (by omega), show t 1 (1 : Int).toNat = L0 0 1 from t11, i_lt_t (by omega)]
      by_cases c0 : i = 0
      · subst c0
        have g := go (Or.inl rfl)
        simp only [jn]
        rw [i_eq_t (by omega)]
        exact g
      · obtain ⟨r, rfl⟩ : ∃ r : Nat, i = r + 1 := ⟨i - 1, by omega⟩
        have er : ((r + 1 : Nat) : Int) - 1 = (r : Int) := by omega
        have e1' : L' 0 1 = L0 0 1 := (fxl'.1 1 (by decide)).trans e1L
        have hr : (r : Int) < L' 0 1 := by omega
        have e10 : L' 10 = L 10 := fxl'.2.2.2.2.2.2.1
        have e9 : L' 9 = L 9 := fxl'.2.2.2.2.2.1
        rw [er] at go
        rw [er]
        simp only [jn]
        rw [i_eq_f (by omega), bM_inv h, isEnd_w h lrl' okl' (by omega) hr, e10]
        dsimp only
        by_cases ce : L 10 (2 * r) = (q : Int) ∨ L 10 (2 * r + 1) = (q : Int)
        · rw [i_bi_t ce, bM_inv h, mhangs_w h lrl' okl' hr, e9]
          dsimp only
          by_cases c9 : L 9 r = 0
          · have g := go (Or.inr ⟨by rw [Nat.add_sub_cancel]; exact ce, by rw [Nat.add_sub_cancel]; exact c9⟩)
            rw [i_bi_t c9]
            exact g
          · have es : stp (r + 1) M1 = M1 := by
              rw [← hst]
              exact if_neg (fun w => w.elim (fun w => by omega) (fun w => c9 (by have := w.2; rw [Nat.add_sub_cancel] at this; exact this)))
            rw [es] at hV'
            rw [i_bi_f c9]
            exact hnx e _ _ (by omega) ⟨t, r + 1 + 1, M1, rfl, by omega, by omega, ft, t16, t11, ⟨L', okl', lrl', fxl'⟩, hM1, hV'⟩
        · have es : stp (r + 1) M1 = M1 := by
            rw [← hst]
            exact if_neg (fun w => w.elim (fun w => by omega) (fun w => ce (by have := w.1; rw [Nat.add_sub_cancel] at this; exact this)))
          rw [es] at hV'
          rw [i_bi_f ce]
          exact hnx e _ _ (by omega) ⟨t, r + 1 + 1, M1, rfl, by omega, by omega, ft, t16, t11, ⟨L', okl', lrl', fxl'⟩, hM1, hV'⟩
end AL
