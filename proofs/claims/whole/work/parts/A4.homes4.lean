/-! the reference's orders; dwellings of both -/
section HQ
variable {μ : Mem} {I J : Nat → Nat → Int} {c m n N R : Nat} {s l : Ld} {β : Type}
/-- the best so far, as the reference holds it -/
def rmS (s : Ld) (N : Nat) (B : Bs) : Prop := (B.1 = 193 ∧ s 0 38 = -1) ∨ (B.1 = s 0 38 ∧ (0 ≤ B.1 ∧ B.1 ≤ 100000) ∧ s 0 39 = B.2.1 ∧ (0 ≤ B.2.1 ∧ B.2.1 ≤ 7) ∧ ∀ j : Nat, j < N → s 18 j = B.2.2 j)
/-- the clash of all ropes is at most twelve a rope -/
theorem toK_12 {l : Ld} (hk : okL l) {N : Nat} (hN : l 0 0 = (N : Int)) (o : Nat → Int) : ∀ k : Nat, (k : Int) ≤ l 0 1 → toK l k o N ≤ 12 * k
  | 0, h => by
    rw [← toK_all hk hN o 0 h]
    show (0 : Int) ≤ 12 * ((0 : Nat) : Int)
    omega
  | k + 1, h => by
    have h1 := toK_12 hk hN o k (by omega)
    have h2 := (pcT_rg l (o (l 10 (2 * k)).toNat) (o (l 10 (2 * k + 1)).toNat)).2
    rw [toK_s hk hN o (by omega)]
    split <;> omega
/-- what the orders leave alone -/
def FrO (s s' : Ld) : Prop := (∀ k : Nat, k ≠ 0 → k ≠ 17 → k ≠ 18 → s' k = s k) ∧ ∀ j : Nat, j ≠ 38 → j ≠ 39 → s' 0 j = s 0 j
theorem FrO.tr {s t u : Ld} (h1 : FrO s t) (h2 : FrO t u) : FrO s u := ⟨fun k a b d => (h2.1 k a b d).trans (h1.1 k a b d), fun j a b => (h2.2 j a b).trans (h1.2 j a b)⟩
theorem clashes_o (h : isM μ m) (hl : LR l (s 1)) (hk : okL l) (hN : l 0 0 = (N : Int)) (hN7 : N ≤ 7) {o : Nat → Int} (ho : ∀ j : Nat, j < N → s 17 j = o j ∧ 0 ≤ o j ∧ o j < N) (hn : 20000 ≤ n) : mX11_clashes n m 1 (wi μ (wm I m s)) = some (toK l (l 0 1).toNat o N, wi μ (wm I m s)) := by
  have hz := hk.1
  have a1 : s 1 1 = l 0 1 := hl.1.2.1
  rw [← toK_all hk hN o (l 0 1).toNat (by omega)]
  unfold mX11_clashes
  refine lp_ind (fun d (v : Int × Int) ν => ∃ r : Nat, ν = wi μ (wm I m s) ∧ v.2 = (r : Int) ∧ (r : Int) + d = l 0 1 ∧ itr (clO l o) r d v.1 = itr (clO l o) 0 (l 0 1).toNat 0) (fun X => X = some (itr (clO l o) 0 (l 0 1).toNat 0, wi μ (wm I m s))) (fun d v ν nx hP hnx => ?_) n (l 0 1).toNat _ _ (by omega) ⟨0, rfl, rfl, by omega, rfl⟩
  obtain ⟨r, rfl, e2, h1, hV⟩ := hP
  obtain ⟨x, kk⟩ := v
  dsimp only at e2 hV
  subst e2
  cases d with
  | zero =>
    have hV' : x = _ := hV
    simp (disch := omega) only [↓i_lt_t, ↓i_lt_f, ↓i_eq_t, ↓i_eq_f, ↓i_bi_t, ↓i_bi_f, ↓i_some, ↓bM_gI h, ↓bM_pI h, ↓bM_inv h, ↓bM_g1 h, ↓bM_g2 h, ↓bM_g3 h, ↓bM_g4 h, ↓bM_g15 h, ↓bM_g16 h, ↓bM_g22 h, ↓bM_g23 h, ↓bM_g24 h, ↓bM_g25 h, ↓bM_g28 h, ↓bM_g29 h, ↓bM_g30 h, ↓bM_g32 h, ↓bM_g33 h, ↓bM_g34 h, ↓bM_g36 h, ↓bM_g37 h, ↓bM_g41 h, ↓bM_g42 h, ↓bM_g43 h, ↓bM_ld1 h, ↓bM_ld2 h, ↓bM_ld3 h, ↓bM_ld4 h, ↓bM_ld5 h, ↓bM_ld6 h, ↓bM_ld7 h, ↓bM_ld8 h, ↓bM_ld9 h, ↓bM_ld10 h, ↓bM_ld11 h, ↓bM_ld12 h, ↓bM_ld13 h, ↓bM_ld14 h, ↓bM_ld15 h, ↓bM_ld16 h, ↓bM_ld17 h, ↓bM_ld18 h, ↓bM_ld19 h, ↓bM_ld20 h, ↓bM_ld21 h, ↓bM_st1 h, ↓bM_st2 h, ↓bM_st3 h, ↓bM_st4 h, ↓bM_st5 h, ↓bM_st6 h, ↓bM_st7 h, ↓bM_st8 h, ↓bM_st9 h, ↓bM_st10 h, ↓bM_st11 h, ↓bM_st12 h, ↓bM_st13 h, ↓bM_st14 h, ↓bM_st15 h, ↓bM_st16 h, ↓bM_st17 h, ↓bM_st18 h, ↓bM_st19 h, ↓bM_st20 h, ↓bM_st21 h, Int.toNat_add, Int.toNat_mul, Int.toNat_natCast, Int.reduceToNat, Nat.reduceAdd, Nat.reduceMul, a1]
    rw [hV']
  | succ d =>
    have hr : (r : Int) < l 0 1 := by omega
    obtain ⟨k1, k2, -⟩ := hl.2.2 r hr
    have g1 := hk.2.2.2 (2 * r) (by omega)
    have g2 := hk.2.2.2 (2 * r + 1) (by omega)
    obtain ⟨p, hp⟩ : ∃ p : Nat, l 10 (2 * r) = (p : Int) := ⟨(l 10 (2 * r)).toNat, by omega⟩
    obtain ⟨q, hq⟩ : ∃ q : Nat, l 10 (2 * r + 1) = (q : Int) := ⟨(l 10 (2 * r + 1)).toNat, by omega⟩
    rw [hp] at k1 g1
    rw [hq] at k2 g2
    have hV' : itr (clO l o) (r + 1) d (clO l o r x) = _ := hV
    unfold clO at hV'
    by_cases c9 : l 9 r = 0
    · rw [if_pos c9, hp, hq, Int.toNat_natCast, Int.toNat_natCast] at hV'
      have op := ho p (by omega)
      have oq := ho q (by omega)
      obtain ⟨x1, hx1⟩ : ∃ x1 : Nat, o p = (x1 : Int) := ⟨(o p).toNat, by omega⟩
      obtain ⟨y1, hy1⟩ : ∃ y1 : Nat, o q = (y1 : Int) := ⟨(o q).toNat, by omega⟩
      rw [hx1] at op hV'
      rw [hy1] at oq hV'
      unfold pcT at hV'
      rw [Int.toNat_natCast, Int.toNat_natCast] at hV'
      simp (disch := omega) only [↓i_lt_t, ↓i_lt_f, ↓i_eq_t, ↓i_eq_f, ↓i_bi_t, ↓i_bi_f, ↓i_some, ↓bM_gI h, ↓bM_pI h, ↓bM_inv h, ↓bM_g1 h, ↓bM_g2 h, ↓bM_g3 h, ↓bM_g4 h, ↓bM_g15 h, ↓bM_g16 h, ↓bM_g22 h, ↓bM_g23 h, ↓bM_g24 h, ↓bM_g25 h, ↓bM_g28 h, ↓bM_g29 h, ↓bM_g30 h, ↓bM_g32 h, ↓bM_g33 h, ↓bM_g34 h, ↓bM_g36 h, ↓bM_g37 h, ↓bM_g41 h, ↓bM_g42 h, ↓bM_g43 h, ↓bM_ld1 h, ↓bM_ld2 h, ↓bM_ld3 h, ↓bM_ld4 h, ↓bM_ld5 h, ↓bM_ld6 h, ↓bM_ld7 h, ↓bM_ld8 h, ↓bM_ld9 h, ↓bM_ld10 h, ↓bM_ld11 h, ↓bM_ld12 h, ↓bM_ld13 h, ↓bM_ld14 h, ↓bM_ld15 h, ↓bM_ld16 h, ↓bM_ld17 h, ↓bM_ld18 h, ↓bM_ld19 h, ↓bM_ld20 h, ↓bM_ld21 h, ↓bM_st1 h, ↓bM_st2 h, ↓bM_st3 h, ↓bM_st4 h, ↓bM_st5 h, ↓bM_st6 h, ↓bM_st7 h, ↓bM_st8 h, ↓bM_st9 h, ↓bM_st10 h, ↓bM_st11 h, ↓bM_st12 h, ↓bM_st13 h, ↓bM_st14 h, ↓bM_st15 h, ↓bM_st16 h, ↓bM_st17 h, ↓bM_st18 h, ↓bM_st19 h, ↓bM_st20 h, ↓bM_st21 h, Int.toNat_add, Int.toNat_mul, Int.toNat_natCast, Int.reduceToNat, Nat.reduceAdd, Nat.reduceMul, a1, k1, k2, ↓mhangs_w h hl hk, op.1, oq.1, ↓clashOf_w h hl hk]
      exact hnx d _ _ (by omega) ⟨r + 1, rfl, rfl, by omega, hV'⟩
    · rw [if_neg c9] at hV'
      simp (disch := omega) only [↓i_lt_t, ↓i_lt_f, ↓i_eq_t, ↓i_eq_f, ↓i_bi_t, ↓i_bi_f, ↓i_some, ↓bM_gI h, ↓bM_pI h, ↓bM_inv h, ↓bM_g1 h, ↓bM_g2 h, ↓bM_g3 h, ↓bM_g4 h, ↓bM_g15 h, ↓bM_g16 h, ↓bM_g22 h, ↓bM_g23 h, ↓bM_g24 h, ↓bM_g25 h, ↓bM_g28 h, ↓bM_g29 h, ↓bM_g30 h, ↓bM_g32 h, ↓bM_g33 h, ↓bM_g34 h, ↓bM_g36 h, ↓bM_g37 h, ↓bM_g41 h, ↓bM_g42 h, ↓bM_g43 h, ↓bM_ld1 h, ↓bM_ld2 h, ↓bM_ld3 h, ↓bM_ld4 h, ↓bM_ld5 h, ↓bM_ld6 h, ↓bM_ld7 h, ↓bM_ld8 h, ↓bM_ld9 h, ↓bM_ld10 h, ↓bM_ld11 h, ↓bM_ld12 h, ↓bM_ld13 h, ↓bM_ld14 h, ↓bM_ld15 h, ↓bM_ld16 h, ↓bM_ld17 h, ↓bM_ld18 h, ↓bM_ld19 h, ↓bM_ld20 h, ↓bM_ld21 h, ↓bM_st1 h, ↓bM_st2 h, ↓bM_st3 h, ↓bM_st4 h, ↓bM_st5 h, ↓bM_st6 h, ↓bM_st7 h, ↓bM_st8 h, ↓bM_st9 h, ↓bM_st10 h, ↓bM_st11 h, ↓bM_st12 h, ↓bM_st13 h, ↓bM_st14 h, ↓bM_st15 h, ↓bM_st16 h, ↓bM_st17 h, ↓bM_st18 h, ↓bM_st19 h, ↓bM_st20 h, ↓bM_st21 h, Int.toNat_add, Int.toNat_mul, Int.toNat_natCast, Int.reduceToNat, Nat.reduceAdd, Nat.reduceMul, a1, k1, k2, ↓mhangs_w h hl hk]
      exact hnx d _ _ (by omega) ⟨r + 1, rfl, rfl, by omega, hV'⟩
theorem orders_m (h : isM μ m) (hk : okL l) (hN : l 0 0 = (N : Int)) (hN7 : N ≤ 7) (hn : 20000 ≤ n) : ∀ (d D q : Nat) (s : Ld) (o : Nat → Int) (k x : Int) (B : Bs), d < D → q + d = N → LR l (s 1) → (∀ j : Nat, j < q → s 17 j = o j ∧ 0 ≤ o j ∧ o j < N) → isMk x (tkn o q) → rmS s N B → (0 ≤ k ∧ k ≤ q) → ∃ s' : Ld, lp (bX11_orders n) D (m, (q : Int), x, k) (wi μ (wm I m s)) = some ((), wi μ (wm I m s')) ∧ FrO s s' ∧ (∀ j : Nat, j < q → s' 17 j = o j) ∧ rmS s' N (hF l (l 0 1).toNat N d q o k B) := by
  have hz := hk.1
  intro d
  induction d with
  | zero =>
    intro D q s o k x B hD e hl ho hx hB hkr
    obtain ⟨D, rfl⟩ : ∃ D' : Nat, D = D' + 1 := ⟨D - 1, by omega⟩
    have eh : q = N := by omega
    subst eh
    show ∃ s' : Ld, bX11_orders n (lp (bX11_orders n) D) (m, (q : Int), x, k) (wi μ (wm I m s)) = some ((), wi μ (wm I m s')) ∧ _
    have a0 : s 1 0 = (q : Int) := hl.1.1.trans hN
    have cl := clashes_o (n := n) (I := I) h hl hk hN hN7 ho hn
    have tr := toK_rg (l := l) (R := (l 0 1).toNat) (by omega) o q (by omega)
    have t12 := toK_12 hk hN o (l 0 1).toNat (by omega)
    unfold bX11_orders
    dsimp only
    have fin : ∃ s' : Ld, ((pI (wi μ (wm I m s)) 12 m 38 (toK l (l 0 1).toNat o q)).bind fun μ55 =>
        (pI μ55 12 m 39 k).bind fun μ60 =>
        lp (fun nx66 (v66 : Int) (μ66 : Mem) =>
        if lt32 v66 (q : Int) then
          (gA μ66 12 m 37).bind fun x73 =>
          (gA μ66 12 m 36).bind fun x79 =>
          (ldI μ66 0 x79 v66).bind fun x84 =>
          (stI μ66 0 x73 v66 x84).bind fun μ85 =>
          nx66 (v66 + 1) μ85
        else
        some ((), μ66)) n 0 μ60) = some ((), wi μ (wm I m s')) ∧ FrO s s' ∧ (∀ j : Nat, j < q → s' 17 j = o j) ∧ rmS s' q (toK l (l 0 1).toNat o q, k, o) := by
      rw [bM_pI h, bM_pI h]
      refine lp_ind (fun e (v : Int) ν => ∃ (t : Ld) (w : Nat), ν = wi μ (wm I m t) ∧ v = (w : Int) ∧ w + e = q ∧ FrO s t ∧ t 17 = s 17 ∧ t 0 38 = toK l (l 0 1).toNat o q ∧ t 0 39 = k ∧ ∀ j : Nat, j < w → t 18 j = o j) (fun X => ∃ s' : Ld, X = some ((), wi μ (wm I m s')) ∧ FrO s s' ∧ (∀ j : Nat, j < q → s' 17 j = o j) ∧ rmS s' q (toK l (l 0 1).toNat o q, k, o)) (fun e v ν nx hP hnx => ?_) n q _ _ (by omega) ⟨_, 0, rfl, rfl, by omega, ⟨fun a a0 _ _ => by rw [up2_row a0, up2_row a0], fun j j1 j2 => by rw [up2_n (by omega), up2_n (by omega)]⟩, by rw [up2_row (by decide), up2_row (by decide)], by rw [up2_n (by decide), up2_s], up2_s, fun j hj => by omega⟩
      obtain ⟨t, w, rfl, rfl, h1, ft, t17, t38, t39, t18⟩ := hP
      cases e with
      | zero =>
        have ew : w = q := by omega
        subst ew
        simp (disch := omega) only [↓i_lt_t, ↓i_lt_f, ↓i_eq_t, ↓i_eq_f, ↓i_bi_t, ↓i_bi_f, ↓i_some]
        exact ⟨t, rfl, ft, fun j hj => by rw [t17]; exact (ho j hj).1, Or.inr ⟨t38.symm, by dsimp only; omega, t39, by dsimp only; omega, t18⟩⟩
      | succ e =>
        have e17 : t 17 w = o w := by rw [t17]; exact (ho w (by omega)).1
        simp (disch := omega) only [↓i_lt_t, ↓i_lt_f, ↓i_eq_t, ↓i_eq_f, ↓i_bi_t, ↓i_bi_f, ↓i_some, ↓bM_gI h, ↓bM_pI h, ↓bM_inv h, ↓bM_g1 h, ↓bM_g2 h, ↓bM_g3 h, ↓bM_g4 h, ↓bM_g15 h, ↓bM_g16 h, ↓bM_g22 h, ↓bM_g23 h, ↓bM_g24 h, ↓bM_g25 h, ↓bM_g28 h, ↓bM_g29 h, ↓bM_g30 h, ↓bM_g32 h, ↓bM_g33 h, ↓bM_g34 h, ↓bM_g36 h, ↓bM_g37 h, ↓bM_g41 h, ↓bM_g42 h, ↓bM_g43 h, ↓bM_ld1 h, ↓bM_ld2 h, ↓bM_ld3 h, ↓bM_ld4 h, ↓bM_ld5 h, ↓bM_ld6 h, ↓bM_ld7 h, ↓bM_ld8 h, ↓bM_ld9 h, ↓bM_ld10 h, ↓bM_ld11 h, ↓bM_ld12 h, ↓bM_ld13 h, ↓bM_ld14 h, ↓bM_ld15 h, ↓bM_ld16 h, ↓bM_ld17 h, ↓bM_ld18 h, ↓bM_ld19 h, ↓bM_ld20 h, ↓bM_ld21 h, ↓bM_st1 h, ↓bM_st2 h, ↓bM_st3 h, ↓bM_st4 h, ↓bM_st5 h, ↓bM_st6 h, ↓bM_st7 h, ↓bM_st8 h, ↓bM_st9 h, ↓bM_st10 h, ↓bM_st11 h, ↓bM_st12 h, ↓bM_st13 h, ↓bM_st14 h, ↓bM_st15 h, ↓bM_st16 h, ↓bM_st17 h, ↓bM_st18 h, ↓bM_st19 h, ↓bM_st20 h, ↓bM_st21 h, Int.toNat_add, Int.toNat_mul, Int.toNat_natCast, Int.reduceToNat, Nat.reduceAdd, Nat.reduceMul, e17]
        refine hnx e _ _ (by omega) ⟨_, w + 1, rfl, rfl, by omega, ⟨fun a a0 a17 a18 => by rw [up2_row a18]; exact ft.1 a a0 a17 a18, fun j j1 j2 => by rw [up2_row (by decide)]; exact ft.2 j j1 j2⟩, by rw [up2_row (by decide)]; exact t17, by rw [up2_row (by decide)]; exact t38, by rw [up2_row (by decide)]; exact t39, fun j hj => ?_⟩
        by_cases ej : j = w
        · rw [ej, up2_s]
        · rw [up2_n (by omega)]; exact t18 j (by omega)
    by_cases cb : btr (toK l (l 0 1).toNat o q) k B
    · have hf : hF l (l 0 1).toNat q 0 q o k B = (toK l (l 0 1).toNat o q, k, o) := if_pos cb
      rw [hf]
      obtain ⟨s', es, rest⟩ := fin
      refine ⟨s', ?_, rest⟩
      rw [← es, bM_g1 h, bM_ld1 h (by omega) (by omega), show s 1 (0 : Int).toNat = (q : Int) from a0, i_eq_t rfl, bM_inv h, bnd cl, bM_gI h]
      simp only [jn]
      unfold btr at cb
      rcases hB with ⟨b1, b2⟩ | ⟨b1, b2, b3, b4, -⟩
      · rw [i_eq_t b2]
      · rw [i_eq_f (by omega), bM_gI h, i_lt_f (by omega), bM_gI h]
        by_cases c2 : toK l (l 0 1).toNat o q = s 0 38
        · rw [i_eq_t c2, bM_gI h, i_lt_t (by omega)]
        · rw [i_eq_f (by omega)]
    · have hf : hF l (l 0 1).toNat q 0 q o k B = B := if_neg cb
      rw [hf]
      refine ⟨s, ?_, ⟨fun _ _ _ _ => rfl, fun _ _ _ => rfl⟩, fun j hj => (ho j hj).1, hB⟩
      rw [bM_g1 h, bM_ld1 h (by omega) (by omega), show s 1 (0 : Int).toNat = (q : Int) from a0, i_eq_t rfl, bM_inv h, bnd cl, bM_gI h]
      simp only [jn]
      unfold btr at cb
      rcases hB with ⟨b1, b2⟩ | ⟨b1, b2, b3, b4, -⟩
      · omega
      · rw [i_eq_f (by omega), bM_gI h]
        by_cases c1 : s 0 38 < toK l (l 0 1).toNat o q
        · rw [i_lt_t (by omega)]
        · rw [i_lt_f (by omega), bM_gI h, i_eq_t (by omega), bM_gI h, i_lt_f (by omega)]
  | succ d ih =>
    intro D q s o k x B hD e hl ho hx hB hkr
    obtain ⟨D, rfl⟩ : ∃ D' : Nat, D = D' + 1 := ⟨D - 1, by omega⟩
    show ∃ s' : Ld, bX11_orders n (lp (bX11_orders n) D) (m, (q : Int), x, k) (wi μ (wm I m s)) = some ((), wi μ (wm I m s')) ∧ _
    have a0 : s 1 0 = (N : Int) := hl.1.1.trans hN
    have ih' := ih D
    generalize lp (bX11_orders n) D = self at ih' ⊢
    unfold bX11_orders
    dsimp only
    rw [bM_g1 h, bM_ld1 h (by omega) (by omega), show s 1 (0 : Int).toNat = (N : Int) from a0, i_eq_f (by omega)]
    refine lp_ind (fun e (v : Int) ν => ∃ (t : Ld) (w : Nat) (B' : Bs), ν = wi μ (wm I m t) ∧ v = (w : Int) ∧ w + e = N ∧ FrO s t ∧ (∀ j : Nat, j < q → t 17 j = o j) ∧ rmS t N B' ∧ itr (fun w B => @ite Bs (tkn o q w) (Classical.propDecidable _) B (hF l (l 0 1).toNat N d (q + 1) (upA o q (w : Int)) (if w = q then k else k + 1) B)) w e B' = hF l (l 0 1).toNat N (d + 1) q o k B) (fun X => ∃ s' : Ld, X = some ((), wi μ (wm I m s')) ∧ FrO s s' ∧ (∀ j : Nat, j < q → s' 17 j = o j) ∧ rmS s' N (hF l (l 0 1).toNat N (d + 1) q o k B)) (fun e v ν nx hP hnx => ?_) n N _ _ (by omega) ⟨s, 0, B, rfl, rfl, by omega, ⟨fun _ _ _ _ => rfl, fun _ _ _ => rfl⟩, fun j hj => (ho j hj).1, hB, rfl⟩
    obtain ⟨t, w, B1, rfl, rfl, h1, ft, o1, s1, hV⟩ := hP
    have t1 : t 1 = s 1 := ft.1 1 (by decide) (by decide) (by decide)
    have t0 : t 1 0 = (N : Int) := by rw [t1]; exact a0
    cases e with
    | zero =>
      have hV' : B1 = hF l (l 0 1).toNat N (d + 1) q o k B := hV
      simp (disch := omega) only [↓i_lt_t, ↓i_lt_f, ↓i_eq_t, ↓i_eq_f, ↓i_bi_t, ↓i_bi_f, ↓i_some, ↓bM_gI h, ↓bM_pI h, ↓bM_inv h, ↓bM_g1 h, ↓bM_g2 h, ↓bM_g3 h, ↓bM_g4 h, ↓bM_g15 h, ↓bM_g16 h, ↓bM_g22 h, ↓bM_g23 h, ↓bM_g24 h, ↓bM_g25 h, ↓bM_g28 h, ↓bM_g29 h, ↓bM_g30 h, ↓bM_g32 h, ↓bM_g33 h, ↓bM_g34 h, ↓bM_g36 h, ↓bM_g37 h, ↓bM_g41 h, ↓bM_g42 h, ↓bM_g43 h, ↓bM_ld1 h, ↓bM_ld2 h, ↓bM_ld3 h, ↓bM_ld4 h, ↓bM_ld5 h, ↓bM_ld6 h, ↓bM_ld7 h, ↓bM_ld8 h, ↓bM_ld9 h, ↓bM_ld10 h, ↓bM_ld11 h, ↓bM_ld12 h, ↓bM_ld13 h, ↓bM_ld14 h, ↓bM_ld15 h, ↓bM_ld16 h, ↓bM_ld17 h, ↓bM_ld18 h, ↓bM_ld19 h, ↓bM_ld20 h, ↓bM_ld21 h, ↓bM_st1 h, ↓bM_st2 h, ↓bM_st3 h, ↓bM_st4 h, ↓bM_st5 h, ↓bM_st6 h, ↓bM_st7 h, ↓bM_st8 h, ↓bM_st9 h, ↓bM_st10 h, ↓bM_st11 h, ↓bM_st12 h, ↓bM_st13 h, ↓bM_st14 h, ↓bM_st15 h, ↓bM_st16 h, ↓bM_st17 h, ↓bM_st18 h, ↓bM_st19 h, ↓bM_st20 h, ↓bM_st21 h, Int.toNat_add, Int.toNat_mul, Int.toNat_natCast, Int.reduceToNat, Nat.reduceAdd, Nat.reduceMul, t0]
      rw [← hV']
      exact ⟨t, rfl, ft, o1, s1⟩
    | succ e =>
      have hV' : itr (fun w B => @ite Bs (tkn o q w) (Classical.propDecidable _) B (hF l (l 0 1).toNat N d (q + 1) (upA o q (w : Int)) (if w = q then k else k + 1) B)) (w + 1) e (@ite Bs (tkn o q w) (Classical.propDecidable _) B1 (hF l (l 0 1).toNat N d (q + 1) (upA o q (w : Int)) (if w = q then k else k + 1) B1)) = hF l (l 0 1).toNat N (d + 1) q o k B := hV
      by_cases ct : tkn o q w
      · rw [if_pos ct] at hV'
        simp (disch := omega) only [↓i_lt_t, ↓i_lt_f, ↓i_eq_t, ↓i_eq_f, ↓i_bi_t, ↓i_bi_f, ↓i_some, ↓bM_gI h, ↓bM_pI h, ↓bM_inv h, ↓bM_g1 h, ↓bM_g2 h, ↓bM_g3 h, ↓bM_g4 h, ↓bM_g15 h, ↓bM_g16 h, ↓bM_g22 h, ↓bM_g23 h, ↓bM_g24 h, ↓bM_g25 h, ↓bM_g28 h, ↓bM_g29 h, ↓bM_g30 h, ↓bM_g32 h, ↓bM_g33 h, ↓bM_g34 h, ↓bM_g36 h, ↓bM_g37 h, ↓bM_g41 h, ↓bM_g42 h, ↓bM_g43 h, ↓bM_ld1 h, ↓bM_ld2 h, ↓bM_ld3 h, ↓bM_ld4 h, ↓bM_ld5 h, ↓bM_ld6 h, ↓bM_ld7 h, ↓bM_ld8 h, ↓bM_ld9 h, ↓bM_ld10 h, ↓bM_ld11 h, ↓bM_ld12 h, ↓bM_ld13 h, ↓bM_ld14 h, ↓bM_ld15 h, ↓bM_ld16 h, ↓bM_ld17 h, ↓bM_ld18 h, ↓bM_ld19 h, ↓bM_ld20 h, ↓bM_ld21 h, ↓bM_st1 h, ↓bM_st2 h, ↓bM_st3 h, ↓bM_st4 h, ↓bM_st5 h, ↓bM_st6 h, ↓bM_st7 h, ↓bM_st8 h, ↓bM_st9 h, ↓bM_st10 h, ↓bM_st11 h, ↓bM_st12 h, ↓bM_st13 h, ↓bM_st14 h, ↓bM_st15 h, ↓bM_st16 h, ↓bM_st17 h, ↓bM_st18 h, ↓bM_st19 h, ↓bM_st20 h, ↓bM_st21 h, Int.toNat_add, Int.toNat_mul, Int.toNat_natCast, Int.reduceToNat, Nat.reduceAdd, Nat.reduceMul, t0, ↓isIn_w hx, ↓i_bc_t ct]
        exact hnx e _ _ (by omega) ⟨t, w + 1, B1, rfl, rfl, by omega, ft, o1, s1, hV'⟩
      · rw [if_neg ct] at hV'
        generalize hu : up2 t 17 q (w : Int) = u
        have fu : FrO t u := ⟨fun a a0 a17 a18 => by rw [← hu, up2_row a17], fun j _ _ => by rw [← hu, up2_row (by decide)]⟩
        have r2 : ∀ j : Nat, j ≤ q → u 17 j = upA o q (w : Int) j := fun j hj => by
          rw [← hu]
          by_cases ej : j = q
          · rw [ej, up2_s, upA_s]
          · rw [up2_n (by omega), upA_n ej, o1 j (by omega)]
        have s2 : rmS u N B1 := by
          have e0 : u 0 = t 0 := by rw [← hu, up2_row (by decide)]
          have e18 : u 18 = t 18 := by rw [← hu, up2_row (by decide)]
          unfold rmS
          rw [e0, e18]
          exact s1
        have hx2 : isMk (oOr x (oShl 1 (w : Int))) (tkn (upA o q (w : Int)) (q + 1)) := (mk_or hx (mk_1 (k := w) (by omega))).cg (fun k => by
          refine ⟨fun z => ?_, fun ⟨j, g1, g2⟩ => ?_⟩
          · rcases z with ⟨j, g1, g2⟩ | z
            · exact ⟨j, by omega, by rw [upA_n (by omega)]; exact g2⟩
            · exact ⟨q, by omega, by rw [upA_s, z]⟩
          · by_cases ej : j = q
            · subst ej
              rw [upA_s] at g2
              exact Or.inr (by omega)
            · rw [upA_n ej] at g2
              exact Or.inl ⟨j, by omega, g2⟩)
        obtain ⟨s3, e3, f3, o3, b3⟩ := ih' (q + 1) u (upA o q (w : Int)) (if w = q then k else k + 1) (oOr x (oShl 1 (w : Int))) B1 (by omega) (by omega) (by rw [fu.1 1 (by decide) (by decide) (by decide), t1]; exact hl) (fun j hj => ⟨r2 j (by omega), by
          by_cases ej : j = q
          · rw [ej, upA_s]; omega
          · rw [upA_n ej]; have := (ho j (by omega)).2; omega⟩) hx2 s2 (by split <;> omega)
        rw [show (((q + 1 : Nat)) : Int) = (q : Int) + 1 from rfl] at e3
        by_cases ew : w = q
        · rw [if_pos ew] at e3 b3 hV'
          simp (disch := omega) only [jn, ↓i_lt_t, ↓i_lt_f, ↓i_eq_t, ↓i_eq_f, ↓i_bi_t, ↓i_bi_f, ↓i_some, ↓bM_gI h, ↓bM_pI h, ↓bM_inv h, ↓bM_g1 h, ↓bM_g2 h, ↓bM_g3 h, ↓bM_g4 h, ↓bM_g15 h, ↓bM_g16 h, ↓bM_g22 h, ↓bM_g23 h, ↓bM_g24 h, ↓bM_g25 h, ↓bM_g28 h, ↓bM_g29 h, ↓bM_g30 h, ↓bM_g32 h, ↓bM_g33 h, ↓bM_g34 h, ↓bM_g36 h, ↓bM_g37 h, ↓bM_g41 h, ↓bM_g42 h, ↓bM_g43 h, ↓bM_ld1 h, ↓bM_ld2 h, ↓bM_ld3 h, ↓bM_ld4 h, ↓bM_ld5 h, ↓bM_ld6 h, ↓bM_ld7 h, ↓bM_ld8 h, ↓bM_ld9 h, ↓bM_ld10 h, ↓bM_ld11 h, ↓bM_ld12 h, ↓bM_ld13 h, ↓bM_ld14 h, ↓bM_ld15 h, ↓bM_ld16 h, ↓bM_ld17 h, ↓bM_ld18 h, ↓bM_ld19 h, ↓bM_ld20 h, ↓bM_ld21 h, ↓bM_st1 h, ↓bM_st2 h, ↓bM_st3 h, ↓bM_st4 h, ↓bM_st5 h, ↓bM_st6 h, ↓bM_st7 h, ↓bM_st8 h, ↓bM_st9 h, ↓bM_st10 h, ↓bM_st11 h, ↓bM_st12 h, ↓bM_st13 h, ↓bM_st14 h, ↓bM_st15 h, ↓bM_st16 h, ↓bM_st17 h, ↓bM_st18 h, ↓bM_st19 h, ↓bM_st20 h, ↓bM_st21 h, Int.toNat_add, Int.toNat_mul, Int.toNat_natCast, Int.reduceToNat, Nat.reduceAdd, Nat.reduceMul, t0, ↓isIn_w hx, ↓i_bc_f ct, hu, Int.add_zero, ↓bnd e3]
          exact hnx e _ _ (by omega) ⟨s3, w + 1, _, rfl, rfl, by omega, ft.tr (fu.tr f3), fun j hj => by rw [o3 j (by omega), upA_n (by omega)], b3, hV'⟩
        · rw [if_neg ew] at e3 b3 hV'
          simp (disch := omega) only [jn, ↓i_lt_t, ↓i_lt_f, ↓i_eq_t, ↓i_eq_f, ↓i_bi_t, ↓i_bi_f, ↓i_some, ↓bM_gI h, ↓bM_pI h, ↓bM_inv h, ↓bM_g1 h, ↓bM_g2 h, ↓bM_g3 h, ↓bM_g4 h, ↓bM_g15 h, ↓bM_g16 h, ↓bM_g22 h, ↓bM_g23 h, ↓bM_g24 h, ↓bM_g25 h, ↓bM_g28 h, ↓bM_g29 h, ↓bM_g30 h, ↓bM_g32 h, ↓bM_g33 h, ↓bM_g34 h, ↓bM_g36 h, ↓bM_g37 h, ↓bM_g41 h, ↓bM_g42 h, ↓bM_g43 h, ↓bM_ld1 h, ↓bM_ld2 h, ↓bM_ld3 h, ↓bM_ld4 h, ↓bM_ld5 h, ↓bM_ld6 h, ↓bM_ld7 h, ↓bM_ld8 h, ↓bM_ld9 h, ↓bM_ld10 h, ↓bM_ld11 h, ↓bM_ld12 h, ↓bM_ld13 h, ↓bM_ld14 h, ↓bM_ld15 h, ↓bM_ld16 h, ↓bM_ld17 h, ↓bM_ld18 h, ↓bM_ld19 h, ↓bM_ld20 h, ↓bM_ld21 h, ↓bM_st1 h, ↓bM_st2 h, ↓bM_st3 h, ↓bM_st4 h, ↓bM_st5 h, ↓bM_st6 h, ↓bM_st7 h, ↓bM_st8 h, ↓bM_st9 h, ↓bM_st10 h, ↓bM_st11 h, ↓bM_st12 h, ↓bM_st13 h, ↓bM_st14 h, ↓bM_st15 h, ↓bM_st16 h, ↓bM_st17 h, ↓bM_st18 h, ↓bM_st19 h, ↓bM_st20 h, ↓bM_st21 h, Int.toNat_add, Int.toNat_mul, Int.toNat_natCast, Int.reduceToNat, Nat.reduceAdd, Nat.reduceMul, t0, ↓isIn_w hx, ↓i_bc_f ct, hu, ↓bnd e3]
          exact hnx e _ _ (by omega) ⟨s3, w + 1, _, rfl, rfl, by omega, ft.tr (fu.tr f3), fun j hj => by rw [o3 j (by omega), upA_n (by omega)], b3, hV'⟩
theorem cd_add1 {S : Nat → Prop} {x : Nat} : ∀ N : Nat, cd N (fun k => S k ∨ k = x) ≤ cd N S + 1 ∧ (N ≤ x → cd N (fun k => S k ∨ k = x) = cd N S)
  | 0 => ⟨by show 0 ≤ 0 + 1; omega, fun _ => rfl⟩
  | N + 1 => by
    obtain ⟨h1, h2⟩ := cd_add1 (S := S) (x := x) N
    by_cases e : N = x
    · have h2' := h2 (by omega)
      refine ⟨?_, fun z => by omega⟩
      rw [(cd_s N (fun k => S k ∨ k = x)).1 (Or.inr e), h2']
      by_cases c : S N
      · rw [(cd_s N S).1 c]; omega
      · rw [(cd_s N S).2 c]; omega
    · by_cases c : S N
      · rw [(cd_s N (fun k => S k ∨ k = x)).1 (Or.inl c), (cd_s N S).1 c]
        exact ⟨by omega, fun z => by rw [h2 (by omega)]⟩
      · rw [(cd_s N (fun k => S k ∨ k = x)).2 (fun z => z.elim c e), (cd_s N S).2 c]
        exact ⟨h1, fun z => h2 (by omega)⟩
theorem cd_all {S : Nat → Prop} : ∀ N : Nat, (∀ k : Nat, k < N → S k) → cd N S = N
  | 0, _ => rfl
  | N + 1, h => by rw [(cd_s N S).1 (h N (by omega)), cd_all N (fun k hk => h k (by omega))]
theorem cd_tkn (o : Nat → Int) (N : Nat) : ∀ h : Nat, cd N (tkn o h) ≤ h
  | 0 => by
    have : cd N (tkn o 0) ≤ cd N (fun _ => False) := cd_mono N (fun k _ ⟨j, hj, _⟩ => by omega)
    have z : ∀ M : Nat, cd M (fun _ => False) = 0 := fun M => by
      induction M with
      | zero => rfl
      | succ M ih => rw [(cd_s M (fun _ => False)).2 (fun z => z), ih]
    rw [z] at this
    exact this
  | h + 1 => by
    have h1 := cd_tkn o N h
    have h2 := (cd_add1 (S := tkn o h) (x := (o h).toNat) N).1
    have h3 : cd N (tkn o (h + 1)) ≤ cd N (fun k => tkn o h k ∨ k = (o h).toNat) := cd_mono N (fun k _ ⟨j, g1, g2⟩ => by
      by_cases e : j = h
      · subst e; exact Or.inr (by omega)
      · exact Or.inl ⟨j, by omega, g2⟩)
    omega
theorem hF_le {R : Nat} : ∀ (d h : Nat) (o : Nat → Int) (k : Int) (B : Bs), (hF l R N d h o k B).1 ≤ B.1
  | 0, h, o, k, B => by
    show (@ite Bs (btr (toK l R o N) k B) (Classical.propDecidable _) (toK l R o N, k, o) B).1 ≤ B.1
    by_cases c : btr (toK l R o N) k B
    · rw [if_pos c]
      unfold btr at c
      dsimp only
      omega
    · rw [if_neg c]
      exact Int.le_refl _
  | d + 1, h, o, k, B => by
    have := itr_inv (step := fun w B => @ite Bs (tkn o h w) (Classical.propDecidable _) B (hF l R N d (h + 1) (upA o h (w : Int)) (if w = h then k else k + 1) B)) (P := fun _ (C : Bs) => C.1 ≤ B.1) N 0 B (Int.le_refl _) (fun j C _ _ hC => by
      try dsimp only
      by_cases c : tkn o h j
      · rw [if_pos c]; exact hC
      · rw [if_neg c]
        exact Int.le_trans (hF_le d (h + 1) _ _ C) hC)
    exact this
theorem hF_sm {R : Nat} (hb : ∀ o : Nat → Int, toK l R o N ≤ 192) : ∀ (d h : Nat) (o : Nat → Int) (k : Int) (B : Bs), h + d = N → (hF l R N d h o k B).1 ≤ 192
  | 0, h, o, k, B, e => by
    have tr := hb o
    show (@ite Bs (btr (toK l R o N) k B) (Classical.propDecidable _) (toK l R o N, k, o) B).1 ≤ 192
    by_cases c : btr (toK l R o N) k B
    · rw [if_pos c]
      dsimp only
      omega
    · rw [if_neg c]
      unfold btr at c
      omega
  | d + 1, h, o, k, B, e => by
    have ex : ∃ w : Nat, w < N ∧ ¬ tkn o h w := Classical.byContradiction fun hn => by
      have h1 := cd_all (S := tkn o h) N (fun k hk => Classical.byContradiction fun z => hn ⟨k, hk, z⟩)
      have h2 := cd_tkn o N h
      omega
    obtain ⟨w, hw, ht⟩ := ex
    have := itr_inv (step := fun w B => @ite Bs (tkn o h w) (Classical.propDecidable _) B (hF l R N d (h + 1) (upA o h (w : Int)) (if w = h then k else k + 1) B)) (P := fun j (C : Bs) => w < j → C.1 ≤ 192) N 0 B (fun z => by omega) (fun j C _ _ hC hj => by
      try dsimp only
      by_cases c : tkn o h j
      · rw [if_pos c]
        by_cases ej : w = j
        · subst ej; exact absurd c ht
        · exact hC (by omega)
      · rw [if_neg c]
        by_cases ej : w = j
        · exact hF_sm hb d (h + 1) _ _ C (by omega)
        · exact Int.le_trans (hF_le d (h + 1) _ _ C) (hC (by omega)))
    rw [Nat.zero_add] at this
    exact this hw
theorem both_dwellings (hC : isC μ c) (hM : isM μ (c + 193)) (hR : RelC c I) {b : Int} (hb : -2147483648 ≤ b ∧ b < 2147483648) (hn : 20000 ≤ n) : Both μ c I (mX10_dwellings n c b) (mX11_dwellings n (c + 193) b) := by
  obtain ⟨hk, lr, lq, h0, h9⟩ := id hR.1
  have hz := hk.1
  have hH := hC.here
  have hT := hC.ho
  have s1 := s1_of (I := I) (J := I) (c := c) rfl
  have lr' : LR (ld I (c + 3)) (up2 (ld I (c + 193)) 0 0 0 1) := by rw [s1]; exact lr
  have a0 : up2 (ld I (c + 193)) 0 0 0 1 0 = ld I (c + 3) 0 0 := lr'.1.1
  have ew := oI2l_of (x := 9 + ld I (c + 3) 0 0) (by omega) (by omega)
  obtain ⟨N, hN⟩ : ∃ N : Nat, ld I (c + 3) 0 0 = (N : Int) := ⟨(ld I (c + 3) 0 0).toNat, by omega⟩
  by_cases cx : (0 ≤ b ∧ b ≤ 1) ∨ (10 ≤ b ∧ b < 10 + ld I (c + 3) 0 0)
  · by_cases c7 : 7 < ld I (c + 3) 0 0
    · refine Both.q (v := -4) hR ?_ ?_
      · unfold mX10_dwellings
        rcases cx with cx | cx
        · by_cases b0 : b = 0
          · simp (disch := omega) only [jn, ↓i_lt_t, ↓i_lt_f, ↓i_eq_t, ↓i_eq_f, ↓i_bi_t, ↓i_bi_f, ↓i_some, ↓bC_g0 hC, ↓bC_g1 hC, ↓bC_g2 hC, ↓bC_g3 hC, ↓bC_g4 hC, ↓bC_g5 hC, ↓bC_g6 hC, ↓bC_g7 hC, ↓bC_g8 hC, ↓bC_g9 hC, ↓bC_g10 hC, ↓bC_inv hC, ↓bL_gI hH, ↓bL_inv hH, ↓bL_g6 hH, ↓bL_g7 hH, ↓bL_g8 hH, ↓bL_g9 hH, ↓bL_g10 hH, ↓bL_g11 hH, ↓bL_g12 hH, ↓bL_g13 hH, ↓bL_g14 hH, ↓bL_g15 hH, ↓bL_g16 hH, ↓bL_g17 hH, ↓bL_ld1 hH, ↓bL_ld2 hH, ↓bL_ld3 hH, ↓bL_ld4 hH, ↓bL_ld5 hH, ↓bL_ld6 hH, ↓bL_ld7 hH, ↓bL_ld8 hH, ↓bL_ld9 hH, ↓bL_ld10 hH, ↓bL_ld11 hH, ↓bL_ld12 hH, ↓bL_st1 hH, ↓bL_st2 hH, ↓bL_st3 hH, ↓bL_st4 hH, ↓bL_st5 hH, ↓bL_st6 hH, ↓bL_st7 hH, ↓bL_st8 hH, ↓bL_st9 hH, ↓bL_st10 hH, ↓bL_st11 hH, ↓bL_st12 hH]
          · simp (disch := omega) only [jn, ↓i_lt_t, ↓i_lt_f, ↓i_eq_t, ↓i_eq_f, ↓i_bi_t, ↓i_bi_f, ↓i_some, ↓bC_g0 hC, ↓bC_g1 hC, ↓bC_g2 hC, ↓bC_g3 hC, ↓bC_g4 hC, ↓bC_g5 hC, ↓bC_g6 hC, ↓bC_g7 hC, ↓bC_g8 hC, ↓bC_g9 hC, ↓bC_g10 hC, ↓bC_inv hC, ↓bL_gI hH, ↓bL_inv hH, ↓bL_g6 hH, ↓bL_g7 hH, ↓bL_g8 hH, ↓bL_g9 hH, ↓bL_g10 hH, ↓bL_g11 hH, ↓bL_g12 hH, ↓bL_g13 hH, ↓bL_g14 hH, ↓bL_g15 hH, ↓bL_g16 hH, ↓bL_g17 hH, ↓bL_ld1 hH, ↓bL_ld2 hH, ↓bL_ld3 hH, ↓bL_ld4 hH, ↓bL_ld5 hH, ↓bL_ld6 hH, ↓bL_ld7 hH, ↓bL_ld8 hH, ↓bL_ld9 hH, ↓bL_ld10 hH, ↓bL_ld11 hH, ↓bL_ld12 hH, ↓bL_st1 hH, ↓bL_st2 hH, ↓bL_st3 hH, ↓bL_st4 hH, ↓bL_st5 hH, ↓bL_st6 hH, ↓bL_st7 hH, ↓bL_st8 hH, ↓bL_st9 hH, ↓bL_st10 hH, ↓bL_st11 hH, ↓bL_st12 hH]
        · simp (disch := omega) only [jn, ↓i_lt_t, ↓i_lt_f, ↓i_eq_t, ↓i_eq_f, ↓i_bi_t, ↓i_bi_f, ↓i_some, ↓bC_g0 hC, ↓bC_g1 hC, ↓bC_g2 hC, ↓bC_g3 hC, ↓bC_g4 hC, ↓bC_g5 hC, ↓bC_g6 hC, ↓bC_g7 hC, ↓bC_g8 hC, ↓bC_g9 hC, ↓bC_g10 hC, ↓bC_inv hC, ↓bL_gI hH, ↓bL_inv hH, ↓bL_g6 hH, ↓bL_g7 hH, ↓bL_g8 hH, ↓bL_g9 hH, ↓bL_g10 hH, ↓bL_g11 hH, ↓bL_g12 hH, ↓bL_g13 hH, ↓bL_g14 hH, ↓bL_g15 hH, ↓bL_g16 hH, ↓bL_g17 hH, ↓bL_ld1 hH, ↓bL_ld2 hH, ↓bL_ld3 hH, ↓bL_ld4 hH, ↓bL_ld5 hH, ↓bL_ld6 hH, ↓bL_ld7 hH, ↓bL_ld8 hH, ↓bL_ld9 hH, ↓bL_ld10 hH, ↓bL_ld11 hH, ↓bL_ld12 hH, ↓bL_st1 hH, ↓bL_st2 hH, ↓bL_st3 hH, ↓bL_st4 hH, ↓bL_st5 hH, ↓bL_st6 hH, ↓bL_st7 hH, ↓bL_st8 hH, ↓bL_st9 hH, ↓bL_st10 hH, ↓bL_st11 hH, ↓bL_st12 hH, ↓hasHouse_w hH hk]
      · unfold mX11_dwellings
        rcases cx with cx | cx
        · simp (disch := omega) only [jn, ↓i_lt_t, ↓i_lt_f, ↓i_eq_t, ↓i_eq_f, ↓i_bi_t, ↓i_bi_f, ↓i_some, ↓bM_gI hM, ↓bM_pI hM, ↓bM_inv hM, ↓bM_g1 hM, ↓bM_g2 hM, ↓bM_g3 hM, ↓bM_g4 hM, ↓bM_g15 hM, ↓bM_g16 hM, ↓bM_g22 hM, ↓bM_g23 hM, ↓bM_g24 hM, ↓bM_g25 hM, ↓bM_g28 hM, ↓bM_g29 hM, ↓bM_g30 hM, ↓bM_g32 hM, ↓bM_g33 hM, ↓bM_g34 hM, ↓bM_g36 hM, ↓bM_g37 hM, ↓bM_g41 hM, ↓bM_g42 hM, ↓bM_g43 hM, ↓bM_ld1 hM, ↓bM_ld2 hM, ↓bM_ld3 hM, ↓bM_ld4 hM, ↓bM_ld5 hM, ↓bM_ld6 hM, ↓bM_ld7 hM, ↓bM_ld8 hM, ↓bM_ld9 hM, ↓bM_ld10 hM, ↓bM_ld11 hM, ↓bM_ld12 hM, ↓bM_ld13 hM, ↓bM_ld14 hM, ↓bM_ld15 hM, ↓bM_ld16 hM, ↓bM_ld17 hM, ↓bM_ld18 hM, ↓bM_ld19 hM, ↓bM_ld20 hM, ↓bM_ld21 hM, ↓bM_st1 hM, ↓bM_st2 hM, ↓bM_st3 hM, ↓bM_st4 hM, ↓bM_st5 hM, ↓bM_st6 hM, ↓bM_st7 hM, ↓bM_st8 hM, ↓bM_st9 hM, ↓bM_st10 hM, ↓bM_st11 hM, ↓bM_st12 hM, ↓bM_st13 hM, ↓bM_st14 hM, ↓bM_st15 hM, ↓bM_st16 hM, ↓bM_st17 hM, ↓bM_st18 hM, ↓bM_st19 hM, ↓bM_st20 hM, ↓bM_st21 hM, ↓within_w, Int.toNat_add, Int.toNat_mul, Int.toNat_natCast, Int.reduceToNat, Nat.reduceAdd, Nat.reduceMul, a0]
        · simp (disch := omega) only [jn, ↓i_lt_t, ↓i_lt_f, ↓i_eq_t, ↓i_eq_f, ↓i_bi_t, ↓i_bi_f, ↓i_some, ↓bM_gI hM, ↓bM_pI hM, ↓bM_inv hM, ↓bM_g1 hM, ↓bM_g2 hM, ↓bM_g3 hM, ↓bM_g4 hM, ↓bM_g15 hM, ↓bM_g16 hM, ↓bM_g22 hM, ↓bM_g23 hM, ↓bM_g24 hM, ↓bM_g25 hM, ↓bM_g28 hM, ↓bM_g29 hM, ↓bM_g30 hM, ↓bM_g32 hM, ↓bM_g33 hM, ↓bM_g34 hM, ↓bM_g36 hM, ↓bM_g37 hM, ↓bM_g41 hM, ↓bM_g42 hM, ↓bM_g43 hM, ↓bM_ld1 hM, ↓bM_ld2 hM, ↓bM_ld3 hM, ↓bM_ld4 hM, ↓bM_ld5 hM, ↓bM_ld6 hM, ↓bM_ld7 hM, ↓bM_ld8 hM, ↓bM_ld9 hM, ↓bM_ld10 hM, ↓bM_ld11 hM, ↓bM_ld12 hM, ↓bM_ld13 hM, ↓bM_ld14 hM, ↓bM_ld15 hM, ↓bM_ld16 hM, ↓bM_ld17 hM, ↓bM_ld18 hM, ↓bM_ld19 hM, ↓bM_ld20 hM, ↓bM_ld21 hM, ↓bM_st1 hM, ↓bM_st2 hM, ↓bM_st3 hM, ↓bM_st4 hM, ↓bM_st5 hM, ↓bM_st6 hM, ↓bM_st7 hM, ↓bM_st8 hM, ↓bM_st9 hM, ↓bM_st10 hM, ↓bM_st11 hM, ↓bM_st12 hM, ↓bM_st13 hM, ↓bM_st14 hM, ↓bM_st15 hM, ↓bM_st16 hM, ↓bM_st17 hM, ↓bM_st18 hM, ↓bM_st19 hM, ↓bM_st20 hM, ↓bM_st21 hM, ↓within_w, Int.toNat_add, Int.toNat_mul, Int.toNat_natCast, Int.reduceToNat, Nat.reduceAdd, Nat.reduceMul, a0, ew]
    · have hN7 : N ≤ 7 := by omega
      -- the class settles
      have mm : mMin (ld I (c + 3) 0 0) 7 = (N : Int) := by rw [mMin_of (by omega) (by omega) (by omega) (by omega)]; omega
      have l0 : ∀ k : Nat, k ≤ 12 → ld (up2 I (c + 145) 5 (N : Int)) (c + 3) k = ld I (c + 3) k := fun k hk => up2_row (by omega)
      obtain ⟨G, e1, oG, cG⟩ := countRopes_eq (n := n) (J := up2 I (c + 145) 5 (N : Int)) (a := c + 3) (t := c + 145) hH hT (by omega) (hk.cg l0) (by rw [l0 0 (by decide)]; exact hN) hN7 up2_s hn
      have oG' : ∀ b : Nat, ¬ (c + 145 ≤ b ∧ b ≤ c + 155) → G b = I b := fun b hb => (oG b (by omega)).trans (up2_row (by omega))
      have lG : ∀ k : Nat, k ≤ 12 → ld G (c + 3) k = ld I (c + 3) k := fun k hk => oG' _ (by omega)
      have g5 : G (c + 145) 5 = (N : Int) := by rw [oG _ (by omega), up2_s]
      generalize hK : up2 (up2 G (c + 145) 0 193) (c + 145) 1 0 = K
      have oK : ∀ b : Nat, b ≠ c + 145 → K b = G b := fun b hb => by rw [← hK, up2_row hb, up2_row hb]
      have lK : ∀ k : Nat, k ≤ 12 → ld K (c + 3) k = ld I (c + 3) k := fun k hk => (oK _ (by omega)).trans (lG k hk)
      have cK : cmP (ld K (c + 3)) K (c + 145) N (ld I (c + 3) 0 1).toNat := fun x y hx hy => by
        rw [oK (c + 145 + 4 + x) (by omega), cG x y hx hy]
        unfold cmN rb1 rbw
        rw [l0 9 (by decide), l0 10 (by decide), l0 0 (by decide), lK 9 (by decide), lK 10 (by decide)]
      obtain ⟨K', e2, f2, -, hm2, -⟩ := place_eq (n := n) (G := K) (a := c + 3) (t := c + 145) (N := N) (R := (ld I (c + 3) 0 1).toNat) hH hT (by omega) (hk.cg lK) (by rw [lK 0 (by decide)]; exact hN) hN7 (by omega) (by rw [← hK, up2_n (by omega), up2_n (by omega)]; exact g5) cK hn N 12 0 K (fun _ => 0) 0 0 (193, 0, K (c + 145 + 1)) (by omega) (by omega) ⟨fun _ _ _ _ => rfl, fun _ _ => rfl⟩ (fun j hj => by omega) (mk_0.cg (fun k => ⟨fun z => z.elim, fun ⟨j, hj, _⟩ => by omega⟩)) ⟨by rw [← hK, up2_n (by omega), up2_s], by rw [← hK, up2_s], fun _ _ => rfl⟩ ⟨⟨by dsimp only; omega, by dsimp only; omega⟩, by dsimp only; omega, by dsimp only; omega⟩ ⟨by omega, by omega⟩
      have e2' : mX0_place n (c + 145) (c + 3) 0 0 0 0 (wi μ K) = some ((), wi μ K') := e2
      have es : mX0_settle n (c + 145) (c + 3) (wi μ I) = some ((), wi μ K') := by
        unfold mX0_settle
        simp (disch := omega) only [↓bL_gI hH, ↓bL_inv hH, ↓bL_g6 hH, ↓bL_g7 hH, ↓bL_g8 hH, ↓bL_g9 hH, ↓bL_g10 hH, ↓bL_g11 hH, ↓bL_g12 hH, ↓bL_g13 hH, ↓bL_g14 hH, ↓bL_g15 hH, ↓bL_g16 hH, ↓bL_g17 hH, ↓bL_ld1 hH, ↓bL_ld2 hH, ↓bL_ld3 hH, ↓bL_ld4 hH, ↓bL_ld5 hH, ↓bL_ld6 hH, ↓bL_ld7 hH, ↓bL_ld8 hH, ↓bL_ld9 hH, ↓bL_ld10 hH, ↓bL_ld11 hH, ↓bL_ld12 hH, ↓bL_st1 hH, ↓bL_st2 hH, ↓bL_st3 hH, ↓bL_st4 hH, ↓bL_st5 hH, ↓bL_st6 hH, ↓bL_st7 hH, ↓bL_st8 hH, ↓bL_st9 hH, ↓bL_st10 hH, ↓bL_st11 hH, ↓bL_st12 hH, mm, ↓bh_pI hT, ↓bh_inv hT, ↓bnd e1, hK, ↓bnd e2']
      have cJ : CF c I K' := fun b hb => by
        unfold tmp at hb
        rw [f2.1 b (by omega) (by omega) (by omega), oK b (by omega), oG' b (by omega)]
      have jr : ld K' (c + 193) = ld I (c + 193) := funext fun k => by
        show K' (c + 193 + k) = _
        rw [f2.1 _ (by omega) (by omega) (by omega), oK _ (by omega), oG' _ (by omega)]
        rfl
      have lrK : LR (ld K (c + 3)) (I (c + 193 + 1)) := (RLl.cg lK hR.1).2.1
      have ekr : (ld K (c + 3) 0 1).toNat = (ld I (c + 3) 0 1).toNat := by rw [lK 0 (by decide)]
      have t12 : ∀ o : Nat → Int, toK (ld K (c + 3)) (ld I (c + 3) 0 1).toNat o N ≤ 192 := fun o => by
        have := toK_12 (l := ld K (c + 3)) (hk.cg lK) (N := N) (by rw [lK 0 (by decide)]; exact hN) o (ld I (c + 3) 0 1).toNat (by rw [lK 0 (by decide)]; omega)
        omega
      have hsm := hF_sm (l := ld K (c + 3)) (N := N) (R := (ld I (c + 3) 0 1).toNat) t12 N 0 (fun _ => 0) 0 (193, 0, K (c + 145 + 1)) (by omega)
      have u1 : up2 (up2 (ld I (c + 193)) 0 0 0) 0 38 (-1) 1 = I (c + 193 + 1) := by rw [up2_row (by decide)]; exact s1
      obtain ⟨s', e3, f3, -, hB⟩ := orders_m (n := n) (I := K') (m := c + 193) (l := ld K (c + 3)) hM (hk.cg lK) (by rw [lK 0 (by decide)]; exact hN) hN7 hn N 12 0 (up2 (up2 (ld I (c + 193)) 0 0 0) 0 38 (-1)) (fun _ => 0) 0 0 (193, 0, K (c + 145 + 1)) (by omega) (by omega) (by rw [u1]; exact lrK) (fun j hj => by omega) (mk_0.cg (fun k => ⟨fun z => z.elim, fun ⟨j, hj, _⟩ => by omega⟩)) (Or.inl ⟨rfl, up2_s⟩) ⟨by omega, by omega⟩
      have e3' : mX11_orders n (c + 193) 0 0 0 (wi μ (wm K' (c + 193) (up2 (up2 (ld I (c + 193)) 0 0 0) 0 38 (-1)))) = some ((), wi μ (wm K' (c + 193) s')) := e3
      rw [ekr] at hB
      generalize hF (ld K (c + 3)) (ld I (c + 3) 0 1).toNat N N 0 (fun _ => 0) 0 (193, 0, K (c + 145 + 1)) = B at hm2 hsm hB
      have hB' : B.1 = s' 0 38 ∧ s' 0 39 = B.2.1 ∧ ∀ j : Nat, j < N → s' 18 j = B.2.2 j := by
        rcases hB with ⟨z, -⟩ | ⟨z1, -, z2, -, z3⟩
        · omega
        · exact ⟨z1, z2, z3⟩
      obtain ⟨p38, p39, p18⟩ := hB'
      obtain ⟨q0, q1, q2⟩ := hm2
      have el := ldwm (μ := μ) K' (c + 193)
      rw [jr] at el
      refine Both.mk (J := K') (v := if b = 0 then B.1 else if b = 1 then B.2.1 else B.2.2 (b - 10).toNat) (s' := s') hR cJ.h ?_ ?_ ?_ ?_
      · unfold mX10_dwellings
        rcases cx with cx | cx
        · by_cases b0 : b = 0
          · simp (disch := omega) only [jn, ↓i_lt_t, ↓i_lt_f, ↓i_eq_t, ↓i_eq_f, ↓i_bi_t, ↓i_bi_f, ↓i_some, ↓bC_g0 hC, ↓bC_g1 hC, ↓bC_g2 hC, ↓bC_g3 hC, ↓bC_g4 hC, ↓bC_g5 hC, ↓bC_g6 hC, ↓bC_g7 hC, ↓bC_g8 hC, ↓bC_g9 hC, ↓bC_g10 hC, ↓bC_inv hC, ↓bL_gI hH, ↓bL_inv hH, ↓bL_g6 hH, ↓bL_g7 hH, ↓bL_g8 hH, ↓bL_g9 hH, ↓bL_g10 hH, ↓bL_g11 hH, ↓bL_g12 hH, ↓bL_g13 hH, ↓bL_g14 hH, ↓bL_g15 hH, ↓bL_g16 hH, ↓bL_g17 hH, ↓bL_ld1 hH, ↓bL_ld2 hH, ↓bL_ld3 hH, ↓bL_ld4 hH, ↓bL_ld5 hH, ↓bL_ld6 hH, ↓bL_ld7 hH, ↓bL_ld8 hH, ↓bL_ld9 hH, ↓bL_ld10 hH, ↓bL_ld11 hH, ↓bL_ld12 hH, ↓bL_st1 hH, ↓bL_st2 hH, ↓bL_st3 hH, ↓bL_st4 hH, ↓bL_st5 hH, ↓bL_st6 hH, ↓bL_st7 hH, ↓bL_st8 hH, ↓bL_st9 hH, ↓bL_st10 hH, ↓bL_st11 hH, ↓bL_st12 hH, ↓bh_inv hT, ↓bnd es, ↓bh_gI hT, q0, if_pos b0]
          · simp (disch := omega) only [jn, ↓i_lt_t, ↓i_lt_f, ↓i_eq_t, ↓i_eq_f, ↓i_bi_t, ↓i_bi_f, ↓i_some, ↓bC_g0 hC, ↓bC_g1 hC, ↓bC_g2 hC, ↓bC_g3 hC, ↓bC_g4 hC, ↓bC_g5 hC, ↓bC_g6 hC, ↓bC_g7 hC, ↓bC_g8 hC, ↓bC_g9 hC, ↓bC_g10 hC, ↓bC_inv hC, ↓bL_gI hH, ↓bL_inv hH, ↓bL_g6 hH, ↓bL_g7 hH, ↓bL_g8 hH, ↓bL_g9 hH, ↓bL_g10 hH, ↓bL_g11 hH, ↓bL_g12 hH, ↓bL_g13 hH, ↓bL_g14 hH, ↓bL_g15 hH, ↓bL_g16 hH, ↓bL_g17 hH, ↓bL_ld1 hH, ↓bL_ld2 hH, ↓bL_ld3 hH, ↓bL_ld4 hH, ↓bL_ld5 hH, ↓bL_ld6 hH, ↓bL_ld7 hH, ↓bL_ld8 hH, ↓bL_ld9 hH, ↓bL_ld10 hH, ↓bL_ld11 hH, ↓bL_ld12 hH, ↓bL_st1 hH, ↓bL_st2 hH, ↓bL_st3 hH, ↓bL_st4 hH, ↓bL_st5 hH, ↓bL_st6 hH, ↓bL_st7 hH, ↓bL_st8 hH, ↓bL_st9 hH, ↓bL_st10 hH, ↓bL_st11 hH, ↓bL_st12 hH, ↓bh_inv hT, ↓bnd es, ↓bh_gI hT, q1, if_neg b0, if_pos (show b = 1 by omega)]
        · have q2' := q2 (b - 10).toNat (by omega)
          simp (disch := omega) only [jn, ↓i_lt_t, ↓i_lt_f, ↓i_eq_t, ↓i_eq_f, ↓i_bi_t, ↓i_bi_f, ↓i_some, ↓bC_g0 hC, ↓bC_g1 hC, ↓bC_g2 hC, ↓bC_g3 hC, ↓bC_g4 hC, ↓bC_g5 hC, ↓bC_g6 hC, ↓bC_g7 hC, ↓bC_g8 hC, ↓bC_g9 hC, ↓bC_g10 hC, ↓bC_inv hC, ↓bL_gI hH, ↓bL_inv hH, ↓bL_g6 hH, ↓bL_g7 hH, ↓bL_g8 hH, ↓bL_g9 hH, ↓bL_g10 hH, ↓bL_g11 hH, ↓bL_g12 hH, ↓bL_g13 hH, ↓bL_g14 hH, ↓bL_g15 hH, ↓bL_g16 hH, ↓bL_g17 hH, ↓bL_ld1 hH, ↓bL_ld2 hH, ↓bL_ld3 hH, ↓bL_ld4 hH, ↓bL_ld5 hH, ↓bL_ld6 hH, ↓bL_ld7 hH, ↓bL_ld8 hH, ↓bL_ld9 hH, ↓bL_ld10 hH, ↓bL_ld11 hH, ↓bL_ld12 hH, ↓bL_st1 hH, ↓bL_st2 hH, ↓bL_st3 hH, ↓bL_st4 hH, ↓bL_st5 hH, ↓bL_st6 hH, ↓bL_st7 hH, ↓bL_st8 hH, ↓bL_st9 hH, ↓bL_st10 hH, ↓bL_st11 hH, ↓bL_st12 hH, ↓hasHouse_w hH hk, ↓bh_inv hT, ↓bnd es, ↓bh_g2 hT, ↓bh_ld1 hT, q2', if_neg (show ¬ b = 0 by omega), if_neg (show ¬ b = 1 by omega)]
      · rw [← el]
        unfold mX11_dwellings
        rcases cx with cx | cx
        · by_cases b0 : b = 0
          · simp (disch := omega) only [jn, ↓i_lt_t, ↓i_lt_f, ↓i_eq_t, ↓i_eq_f, ↓i_bi_t, ↓i_bi_f, ↓i_some, ↓bM_gI hM, ↓bM_pI hM, ↓bM_inv hM, ↓bM_g1 hM, ↓bM_g2 hM, ↓bM_g3 hM, ↓bM_g4 hM, ↓bM_g15 hM, ↓bM_g16 hM, ↓bM_g22 hM, ↓bM_g23 hM, ↓bM_g24 hM, ↓bM_g25 hM, ↓bM_g28 hM, ↓bM_g29 hM, ↓bM_g30 hM, ↓bM_g32 hM, ↓bM_g33 hM, ↓bM_g34 hM, ↓bM_g36 hM, ↓bM_g37 hM, ↓bM_g41 hM, ↓bM_g42 hM, ↓bM_g43 hM, ↓bM_ld1 hM, ↓bM_ld2 hM, ↓bM_ld3 hM, ↓bM_ld4 hM, ↓bM_ld5 hM, ↓bM_ld6 hM, ↓bM_ld7 hM, ↓bM_ld8 hM, ↓bM_ld9 hM, ↓bM_ld10 hM, ↓bM_ld11 hM, ↓bM_ld12 hM, ↓bM_ld13 hM, ↓bM_ld14 hM, ↓bM_ld15 hM, ↓bM_ld16 hM, ↓bM_ld17 hM, ↓bM_ld18 hM, ↓bM_ld19 hM, ↓bM_ld20 hM, ↓bM_ld21 hM, ↓bM_st1 hM, ↓bM_st2 hM, ↓bM_st3 hM, ↓bM_st4 hM, ↓bM_st5 hM, ↓bM_st6 hM, ↓bM_st7 hM, ↓bM_st8 hM, ↓bM_st9 hM, ↓bM_st10 hM, ↓bM_st11 hM, ↓bM_st12 hM, ↓bM_st13 hM, ↓bM_st14 hM, ↓bM_st15 hM, ↓bM_st16 hM, ↓bM_st17 hM, ↓bM_st18 hM, ↓bM_st19 hM, ↓bM_st20 hM, ↓bM_st21 hM, ↓within_w, Int.toNat_add, Int.toNat_mul, Int.toNat_natCast, Int.reduceToNat, Nat.reduceAdd, Nat.reduceMul, a0, ↓bnd e3', if_pos b0, ← p38]
          · simp (disch := omega) only [jn, ↓i_lt_t, ↓i_lt_f, ↓i_eq_t, ↓i_eq_f, ↓i_bi_t, ↓i_bi_f, ↓i_some, ↓bM_gI hM, ↓bM_pI hM, ↓bM_inv hM, ↓bM_g1 hM, ↓bM_g2 hM, ↓bM_g3 hM, ↓bM_g4 hM, ↓bM_g15 hM, ↓bM_g16 hM, ↓bM_g22 hM, ↓bM_g23 hM, ↓bM_g24 hM, ↓bM_g25 hM, ↓bM_g28 hM, ↓bM_g29 hM, ↓bM_g30 hM, ↓bM_g32 hM, ↓bM_g33 hM, ↓bM_g34 hM, ↓bM_g36 hM, ↓bM_g37 hM, ↓bM_g41 hM, ↓bM_g42 hM, ↓bM_g43 hM, ↓bM_ld1 hM, ↓bM_ld2 hM, ↓bM_ld3 hM, ↓bM_ld4 hM, ↓bM_ld5 hM, ↓bM_ld6 hM, ↓bM_ld7 hM, ↓bM_ld8 hM, ↓bM_ld9 hM, ↓bM_ld10 hM, ↓bM_ld11 hM, ↓bM_ld12 hM, ↓bM_ld13 hM, ↓bM_ld14 hM, ↓bM_ld15 hM, ↓bM_ld16 hM, ↓bM_ld17 hM, ↓bM_ld18 hM, ↓bM_ld19 hM, ↓bM_ld20 hM, ↓bM_ld21 hM, ↓bM_st1 hM, ↓bM_st2 hM, ↓bM_st3 hM, ↓bM_st4 hM, ↓bM_st5 hM, ↓bM_st6 hM, ↓bM_st7 hM, ↓bM_st8 hM, ↓bM_st9 hM, ↓bM_st10 hM, ↓bM_st11 hM, ↓bM_st12 hM, ↓bM_st13 hM, ↓bM_st14 hM, ↓bM_st15 hM, ↓bM_st16 hM, ↓bM_st17 hM, ↓bM_st18 hM, ↓bM_st19 hM, ↓bM_st20 hM, ↓bM_st21 hM, ↓within_w, Int.toNat_add, Int.toNat_mul, Int.toNat_natCast, Int.reduceToNat, Nat.reduceAdd, Nat.reduceMul, a0, ↓bnd e3', if_neg b0, if_pos (show b = 1 by omega), p39]
        · have p18' := p18 (b - 10).toNat (by omega)
          simp (disch := omega) only [jn, ↓i_lt_t, ↓i_lt_f, ↓i_eq_t, ↓i_eq_f, ↓i_bi_t, ↓i_bi_f, ↓i_some, ↓bM_gI hM, ↓bM_pI hM, ↓bM_inv hM, ↓bM_g1 hM, ↓bM_g2 hM, ↓bM_g3 hM, ↓bM_g4 hM, ↓bM_g15 hM, ↓bM_g16 hM, ↓bM_g22 hM, ↓bM_g23 hM, ↓bM_g24 hM, ↓bM_g25 hM, ↓bM_g28 hM, ↓bM_g29 hM, ↓bM_g30 hM, ↓bM_g32 hM, ↓bM_g33 hM, ↓bM_g34 hM, ↓bM_g36 hM, ↓bM_g37 hM, ↓bM_g41 hM, ↓bM_g42 hM, ↓bM_g43 hM, ↓bM_ld1 hM, ↓bM_ld2 hM, ↓bM_ld3 hM, ↓bM_ld4 hM, ↓bM_ld5 hM, ↓bM_ld6 hM, ↓bM_ld7 hM, ↓bM_ld8 hM, ↓bM_ld9 hM, ↓bM_ld10 hM, ↓bM_ld11 hM, ↓bM_ld12 hM, ↓bM_ld13 hM, ↓bM_ld14 hM, ↓bM_ld15 hM, ↓bM_ld16 hM, ↓bM_ld17 hM, ↓bM_ld18 hM, ↓bM_ld19 hM, ↓bM_ld20 hM, ↓bM_ld21 hM, ↓bM_st1 hM, ↓bM_st2 hM, ↓bM_st3 hM, ↓bM_st4 hM, ↓bM_st5 hM, ↓bM_st6 hM, ↓bM_st7 hM, ↓bM_st8 hM, ↓bM_st9 hM, ↓bM_st10 hM, ↓bM_st11 hM, ↓bM_st12 hM, ↓bM_st13 hM, ↓bM_st14 hM, ↓bM_st15 hM, ↓bM_st16 hM, ↓bM_st17 hM, ↓bM_st18 hM, ↓bM_st19 hM, ↓bM_st20 hM, ↓bM_st21 hM, ↓within_w, Int.toNat_add, Int.toNat_mul, Int.toNat_natCast, Int.reduceToNat, Nat.reduceAdd, Nat.reduceMul, a0, ew, ↓bnd e3', p18', if_neg (show ¬ b = 0 by omega), if_neg (show ¬ b = 1 by omega)]
      · have g : ∀ k : Nat, k ≠ 0 → k ≠ 17 → k ≠ 18 → s' k = ld I (c + 193) k := fun k n0 n1 n2 => by rw [f3.1 k n0 n1 n2, up2_row n0, up2_row n0]
        rw [jr]
        refine ⟨⟨g 2 (by decide) (by decide) (by decide), g 3 (by decide) (by decide) (by decide), g 19 (by decide) (by decide) (by decide), g 20 (by decide) (by decide) (by decide), g 21 (by decide) (by decide) (by decide)⟩, fun j j0 j1 => ?_, fun j _ => by rw [g 1 (by decide) (by decide) (by decide)]⟩
        rw [f3.2 j (by omega) (by omega), up2_n (by omega), up2_n (by omega)]
      · rw [f3.1 1 (by decide) (by decide) (by decide), u1]
        exact hR.1.cg (fun k hk => cJ _ (by unfold tmp; omega))
  · refine Both.q (v := -2) hR ?_ ?_
    · unfold mX10_dwellings
      by_cases b1 : b < 10
      · simp (disch := omega) only [jn, ↓i_lt_t, ↓i_lt_f, ↓i_eq_t, ↓i_eq_f, ↓i_bi_t, ↓i_bi_f, ↓i_some, ↓bC_g0 hC, ↓bC_g1 hC, ↓bC_g2 hC, ↓bC_g3 hC, ↓bC_g4 hC, ↓bC_g5 hC, ↓bC_g6 hC, ↓bC_g7 hC, ↓bC_g8 hC, ↓bC_g9 hC, ↓bC_g10 hC, ↓bC_inv hC]
      · simp (disch := omega) only [jn, ↓i_lt_t, ↓i_lt_f, ↓i_eq_t, ↓i_eq_f, ↓i_bi_t, ↓i_bi_f, ↓i_some, ↓bC_g0 hC, ↓bC_g1 hC, ↓bC_g2 hC, ↓bC_g3 hC, ↓bC_g4 hC, ↓bC_g5 hC, ↓bC_g6 hC, ↓bC_g7 hC, ↓bC_g8 hC, ↓bC_g9 hC, ↓bC_g10 hC, ↓bC_inv hC, ↓bL_gI hH, ↓bL_inv hH, ↓bL_g6 hH, ↓bL_g7 hH, ↓bL_g8 hH, ↓bL_g9 hH, ↓bL_g10 hH, ↓bL_g11 hH, ↓bL_g12 hH, ↓bL_g13 hH, ↓bL_g14 hH, ↓bL_g15 hH, ↓bL_g16 hH, ↓bL_g17 hH, ↓bL_ld1 hH, ↓bL_ld2 hH, ↓bL_ld3 hH, ↓bL_ld4 hH, ↓bL_ld5 hH, ↓bL_ld6 hH, ↓bL_ld7 hH, ↓bL_ld8 hH, ↓bL_ld9 hH, ↓bL_ld10 hH, ↓bL_ld11 hH, ↓bL_ld12 hH, ↓bL_st1 hH, ↓bL_st2 hH, ↓bL_st3 hH, ↓bL_st4 hH, ↓bL_st5 hH, ↓bL_st6 hH, ↓bL_st7 hH, ↓bL_st8 hH, ↓bL_st9 hH, ↓bL_st10 hH, ↓bL_st11 hH, ↓bL_st12 hH, ↓hasHouse_w hH hk]
    · unfold mX11_dwellings
      simp (disch := omega) only [jn, ↓i_lt_t, ↓i_lt_f, ↓i_eq_t, ↓i_eq_f, ↓i_bi_t, ↓i_bi_f, ↓i_some, ↓bM_gI hM, ↓bM_pI hM, ↓bM_inv hM, ↓bM_g1 hM, ↓bM_g2 hM, ↓bM_g3 hM, ↓bM_g4 hM, ↓bM_g15 hM, ↓bM_g16 hM, ↓bM_g22 hM, ↓bM_g23 hM, ↓bM_g24 hM, ↓bM_g25 hM, ↓bM_g28 hM, ↓bM_g29 hM, ↓bM_g30 hM, ↓bM_g32 hM, ↓bM_g33 hM, ↓bM_g34 hM, ↓bM_g36 hM, ↓bM_g37 hM, ↓bM_g41 hM, ↓bM_g42 hM, ↓bM_g43 hM, ↓bM_ld1 hM, ↓bM_ld2 hM, ↓bM_ld3 hM, ↓bM_ld4 hM, ↓bM_ld5 hM, ↓bM_ld6 hM, ↓bM_ld7 hM, ↓bM_ld8 hM, ↓bM_ld9 hM, ↓bM_ld10 hM, ↓bM_ld11 hM, ↓bM_ld12 hM, ↓bM_ld13 hM, ↓bM_ld14 hM, ↓bM_ld15 hM, ↓bM_ld16 hM, ↓bM_ld17 hM, ↓bM_ld18 hM, ↓bM_ld19 hM, ↓bM_ld20 hM, ↓bM_ld21 hM, ↓bM_st1 hM, ↓bM_st2 hM, ↓bM_st3 hM, ↓bM_st4 hM, ↓bM_st5 hM, ↓bM_st6 hM, ↓bM_st7 hM, ↓bM_st8 hM, ↓bM_st9 hM, ↓bM_st10 hM, ↓bM_st11 hM, ↓bM_st12 hM, ↓bM_st13 hM, ↓bM_st14 hM, ↓bM_st15 hM, ↓bM_st16 hM, ↓bM_st17 hM, ↓bM_st18 hM, ↓bM_st19 hM, ↓bM_st20 hM, ↓bM_st21 hM, ↓within_w, Int.toNat_add, Int.toNat_mul, Int.toNat_natCast, Int.reduceToNat, Nat.reduceAdd, Nat.reduceMul, a0, ew]
end HQ
