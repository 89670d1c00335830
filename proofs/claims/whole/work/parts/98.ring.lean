/-! ring -/
def isD (l : Ld) (w : Int) (a b i : Nat) : Prop := itS l w a i b ∧ ∀ j : Nat, j < i → ¬ itS l w a j b
theorem isD_ex {l : Ld} {w : Int} {a b : Nat} : ∀ i : Nat, itS l w a i b → ∃ j : Nat, j ≤ i ∧ isD l w a b j
  | 0, h => ⟨0, Nat.le_refl _, h, fun j hj => by omega⟩
  | i + 1, h => by
    by_cases c : ∃ j : Nat, j ≤ i ∧ itS l w a j b
    · obtain ⟨j, h1, h2⟩ := c
      obtain ⟨k, h3, h4⟩ := isD_ex j h2
      exact ⟨k, by omega, h4⟩
    · exact ⟨i + 1, Nat.le_refl _, h, fun j hj hh => c ⟨j, by omega, hh⟩⟩
theorem isD_fn {l : Ld} {w : Int} {a b i j : Nat} (h1 : isD l w a b i) (h2 : isD l w a b j) : i = j := by
  rcases Nat.lt_trichotomy i j with z | z | z
  · exact absurd h1.1 (h2.2 i z)
  · exact z
  · exact absurd h2.1 (h1.2 j z)
/-- how far it is from a house to another one -/
def isW (l : Ld) (w : Int) (a b : Nat) (v : Int) : Prop := (v = -1 ∧ ¬ rch l w a b) ∨ ∃ i : Nat, (i : Int) ≤ l 0 0 ∧ v = (i : Int) ∧ isD l w a b i
theorem isW_fn {l : Ld} {w : Int} {a b : Nat} {v u : Int} (h1 : isW l w a b v) (h2 : isW l w a b u) : v = u := by
  rcases h1 with ⟨rfl, n1⟩ | ⟨i, -, rfl, d1⟩ <;> rcases h2 with ⟨rfl, n2⟩ | ⟨j, -, rfl, d2⟩
  · rfl
  · exact absurd (itS_rch _ _ d2.1) n1
  · exact absurd (itS_rch _ _ d1.1) n2
  · rw [isD_fn d1 d2]
theorem isW_ex {l : Ld} {w : Int} (hk : okL l) {a b : Nat} (ha : (a : Int) < l 0 0) : ∃ v : Int, isW l w a b v := by
  by_cases c : rch l w a b
  · obtain ⟨j, h1, h2⟩ := isD_ex _ ((itS_N hk ha b).mpr c)
    exact ⟨j, Or.inr ⟨j, by omega, rfl, h2⟩⟩
  · exact ⟨-1, Or.inl ⟨rfl, c⟩⟩
noncomputable def wyV (l : Ld) (r : Nat) : Int := @dite Int (∃ v : Int, isW l (r : Int) (l 10 (2 * r)).toNat (l 10 (2 * r + 1)).toNat v) (Classical.propDecidable _) (fun h => Classical.choose h) (fun _ => -1)
theorem wyV_eq {l : Ld} {r : Nat} {v : Int} (h : isW l (r : Int) (l 10 (2 * r)).toNat (l 10 (2 * r + 1)).toNat v) : wyV l r = v := by
  have he : ∃ v : Int, isW l (r : Int) (l 10 (2 * r)).toNat (l 10 (2 * r + 1)).toNat v := ⟨v, h⟩
  have e : wyV l r = Classical.choose he := dif_pos he
  rw [e]
  exact isW_fn (Classical.choose_spec he) h
noncomputable def rgS (l : Ld) (r : Nat) (F : Int) : Int := if l 9 r = 0 then (if wyV l r = -1 then F else if F = -1 then wyV l r + 1 else if wyV l r + 1 < F then wyV l r + 1 else F) else F
section RG
variable {μ : Mem} {I J : Nat → Nat → Int} {c m n t : Nat} {s l : Ld} {w : Int} {β : Type}
theorem steps_eq (hT : isTi μ t) (hJ : tsP l w J t) (hk : okL l) {a b : Nat} (ha : (a : Int) < l 0 0) (hb : b < 10) (hn : 20000 ≤ n) : ∃ v : Int, isW l w a b v ∧ mX9_steps n t (a : Int) (b : Int) (wi μ J) = some (v, wi μ J) := by
  have hz := hk.1
  unfold mX9_steps
  refine lp_ind (fun d (v : Int × Int) ν => ∃ k : Nat, ν = wi μ J ∧ v.2 = (k : Int) ∧ (k : Int) + d = l 0 0 + 1 ∧ isMk v.1 (itS l w a k) ∧ ∀ j : Nat, j < k → ¬ itS l w a j b) (fun X => ∃ v : Int, isW l w a b v ∧ X = some (v, wi μ J)) (fun d v ν nx hP hnx => ?_) n ((l 0 0).toNat + 1) _ _ (by omega) ⟨0, rfl, rfl, by omega, mk_1 (by omega), fun j hj => by omega⟩
  obtain ⟨k, rfl, e2, h1, h2, h3⟩ := hP
  obtain ⟨x, kk⟩ := v
  dsimp only at e2 h2
  subst e2
  cases d with
  | zero =>
    simp (disch := omega) only [↓i_lt_t, ↓i_lt_f, ↓i_eq_t, ↓i_eq_f, ↓i_bi_t, ↓i_bi_f, ↓i_some, ↓bt_gI hT, hJ.1]
    exact ⟨-1, Or.inl ⟨rfl, fun z => h3 (l 0 0).toNat (by omega) ((itS_N hk ha b).mpr z)⟩, rfl⟩
  | succ d =>
    by_cases cb : itS l w a k b
    · simp (disch := omega) only [↓i_lt_t, ↓i_lt_f, ↓i_eq_t, ↓i_eq_f, ↓i_bi_t, ↓i_bi_f, ↓i_some, ↓bt_gI hT, hJ.1, ↓i_mk_t h2 (show b < 31 by omega) cb]
      exact ⟨k, Or.inr ⟨k, by omega, rfl, cb, h3⟩, rfl⟩
    · obtain ⟨u, hu, eu⟩ := nearAny_eq (n := n) hT hJ hk h2 hn
      simp (disch := omega) only [↓i_lt_t, ↓i_lt_f, ↓i_eq_t, ↓i_eq_f, ↓i_bi_t, ↓i_bi_f, ↓i_some, ↓bt_gI hT, hJ.1, ↓i_mk_f h2 (show b < 31 by omega) cb, ↓bt_inv hT, ↓bnd eu]
      refine hnx d _ _ (by omega) ⟨k + 1, rfl, by show (k : Int) + 1 = _; omega, by omega, mk_or h2 hu, fun j hj => ?_⟩
      by_cases e : j = k
      · subst e; exact cb
      · exact h3 j (by omega)
/-- far: what is known of the ways -/
def farI (l : Ld) (w : Int) (a : Nat) (F : Nat → Int) (j : Nat) : Prop := (∀ q : Nat, q < 10 → 0 ≤ F q ∧ F q ≤ 99 ∧ (F q < 99 → itS l w a (F q).toNat q)) ∧ ∀ i q : Nat, i ≤ j → q < 10 → itS l w a i q → F q ≤ i
theorem far_dn {F : Nat → Int} {j x : Nat} {a : Nat} {v : Int} (h : farI l w a F j) (h0 : 0 ≤ v) (h1 : v < F x) (hx : x < 10) (h2 : itS l w a v.toNat x) : farI l w a (upA F x v) j := by
  refine ⟨fun q hq => ?_, fun i q hi hq z => ?_⟩
  · by_cases e : q = x
    · subst e
      rw [upA_s]
      have := h.1 q hq
      exact ⟨h0, by omega, fun _ => h2⟩
    · rw [upA_n e]; exact h.1 q hq
  · by_cases e : q = x
    · subst e
      rw [upA_s]
      have := h.2 i q hi hq z
      omega
    · rw [upA_n e]; exact h.2 i q hi hq z
theorem wayBut_m (h : isM μ m) (hl : LR l (s 1)) (hk : okL l) {a b : Nat} (ha : (a : Int) < l 0 0) (hb : (b : Int) < l 0 0) (hw : -2147483648 ≤ w ∧ w < 2147483648) (hn : 20000 ≤ n) {v : Int} (hv : isW l w a b v) : ∃ F : Nat → Int, mX11_wayBut n m (a : Int) (b : Int) w (wi μ (wm I m s)) = some (if v = -1 then 99 else v, wi μ (wm I m (up1 s 7 F))) := by
  have hz := hk.1
  have a0 : s 1 0 = l 0 0 := hl.1.1
  have a1 : s 1 1 = l 0 1 := hl.1.2.1
  have u1 : ∀ F : Nat → Int, up1 s 7 F 1 = s 1 := fun F => up1_o (by decide)
  have u7 : ∀ F : Nat → Int, up1 s 7 F 7 = F := fun F => up1_s
  have lrF : ∀ F : Nat → Int, LR l (up1 s 7 F 1) := fun F => by rw [u1]; exact hl
  unfold mX11_wayBut
  refine lp_ind (fun d (v : Int) ν => ∃ (F : Nat → Int) (k : Nat), ν = wi μ (wm I m (up1 s 7 F)) ∧ v = (k : Int) ∧ k + d = 10 ∧ ∀ q : Nat, q < k → F q = if q = a then 0 else 99) (fun X => ∃ F : Nat → Int, X = some (if v = -1 then 99 else v, wi μ (wm I m (up1 s 7 F)))) (fun d z ν nx hP hnx => ?_) n 10 _ _ (by omega) ⟨s 7, 0, by rw [up1_id], rfl, by omega, fun q hq => by omega⟩
  obtain ⟨F, k, rfl, rfl, h1, h2⟩ := hP
  cases d with
  | succ d =>
    by_cases e : k = a
    · simp (disch := omega) only [jn, ↓i_lt_t, ↓i_lt_f, ↓i_eq_t, ↓i_eq_f, ↓i_bi_t, ↓i_bi_f, ↓i_some, ↓bM_gI h, ↓bM_pI h, ↓bM_inv h, ↓bM_g1 h, ↓bM_g2 h, ↓bM_g3 h, ↓bM_g4 h, ↓bM_g15 h, ↓bM_g16 h, ↓bM_g22 h, ↓bM_g23 h, ↓bM_g24 h, ↓bM_g25 h, ↓bM_g28 h, ↓bM_g29 h, ↓bM_g30 h, ↓bM_g32 h, ↓bM_g33 h, ↓bM_g34 h, ↓bM_g36 h, ↓bM_g37 h, ↓bM_g41 h, ↓bM_g42 h, ↓bM_g43 h, ↓bM_ld1 h, ↓bM_ld2 h, ↓bM_ld3 h, ↓bM_ld4 h, ↓bM_ld5 h, ↓bM_ld6 h, ↓bM_ld7 h, ↓bM_ld8 h, ↓bM_ld9 h, ↓bM_ld10 h, ↓bM_ld11 h, ↓bM_ld12 h, ↓bM_ld13 h, ↓bM_ld14 h, ↓bM_ld15 h, ↓bM_ld16 h, ↓bM_ld17 h, ↓bM_ld18 h, ↓bM_ld19 h, ↓bM_ld20 h, ↓bM_ld21 h, ↓bM_st1 h, ↓bM_st2 h, ↓bM_st3 h, ↓bM_st4 h, ↓bM_st5 h, ↓bM_st6 h, ↓bM_st7 h, ↓bM_st8 h, ↓bM_st9 h, ↓bM_st10 h, ↓bM_st11 h, ↓bM_st12 h, ↓bM_st13 h, ↓bM_st14 h, ↓bM_st15 h, ↓bM_st16 h, ↓bM_st17 h, ↓bM_st18 h, ↓bM_st19 h, ↓bM_st20 h, ↓bM_st21 h, Int.toNat_add, Int.toNat_mul, Int.toNat_natCast, Int.reduceToNat, Nat.reduceAdd, Nat.reduceMul, up21]
      refine hnx d _ _ (by omega) ⟨_, k + 1, rfl, rfl, by omega, fun q hq => ?_⟩
      by_cases e2 : q = k
      · rw [e2, upA_s, if_pos e]
      · rw [upA_n e2, h2 q (by omega)]
    · simp (disch := omega) only [jn, ↓i_lt_t, ↓i_lt_f, ↓i_eq_t, ↓i_eq_f, ↓i_bi_t, ↓i_bi_f, ↓i_some, ↓bM_gI h, ↓bM_pI h, ↓bM_inv h, ↓bM_g1 h, ↓bM_g2 h, ↓bM_g3 h, ↓bM_g4 h, ↓bM_g15 h, ↓bM_g16 h, ↓bM_g22 h, ↓bM_g23 h, ↓bM_g24 h, ↓bM_g25 h, ↓bM_g28 h, ↓bM_g29 h, ↓bM_g30 h, ↓bM_g32 h, ↓bM_g33 h, ↓bM_g34 h, ↓bM_g36 h, ↓bM_g37 h, ↓bM_g41 h, ↓bM_g42 h, ↓bM_g43 h, ↓bM_ld1 h, ↓bM_ld2 h, ↓bM_ld3 h, ↓bM_ld4 h, ↓bM_ld5 h, ↓bM_ld6 h, ↓bM_ld7 h, ↓bM_ld8 h, ↓bM_ld9 h, ↓bM_ld10 h, ↓bM_ld11 h, ↓bM_ld12 h, ↓bM_ld13 h, ↓bM_ld14 h, ↓bM_ld15 h, ↓bM_ld16 h, ↓bM_ld17 h, ↓bM_ld18 h, ↓bM_ld19 h, ↓bM_ld20 h, ↓bM_ld21 h, ↓bM_st1 h, ↓bM_st2 h, ↓bM_st3 h, ↓bM_st4 h, ↓bM_st5 h, ↓bM_st6 h, ↓bM_st7 h, ↓bM_st8 h, ↓bM_st9 h, ↓bM_st10 h, ↓bM_st11 h, ↓bM_st12 h, ↓bM_st13 h, ↓bM_st14 h, ↓bM_st15 h, ↓bM_st16 h, ↓bM_st17 h, ↓bM_st18 h, ↓bM_st19 h, ↓bM_st20 h, ↓bM_st21 h, Int.toNat_add, Int.toNat_mul, Int.toNat_natCast, Int.reduceToNat, Nat.reduceAdd, Nat.reduceMul, up21]
      refine hnx d _ _ (by omega) ⟨_, k + 1, rfl, rfl, by omega, fun q hq => ?_⟩
      by_cases e2 : q = k
      · rw [e2, upA_s, if_neg e]
      · rw [upA_n e2, h2 q (by omega)]
  | zero =>
    have f0 : farI l w a F 0 := by
      refine ⟨fun q hq => ?_, fun i q hi hq z => ?_⟩
      · rw [h2 q (by omega)]
        by_cases e : q = a
        · subst e; rw [if_pos rfl]; exact ⟨by omega, by omega, fun _ => rfl⟩
        · rw [if_neg e]; exact ⟨by omega, by omega, fun z => by omega⟩
      · have ei : i = 0 := by omega
        subst ei
        have e : q = a := z
        rw [h2 q (by omega), if_pos e]
        omega
    simp (disch := omega) only [↓i_lt_t, ↓i_lt_f, ↓i_eq_t, ↓i_eq_f, ↓i_bi_t, ↓i_bi_f, ↓i_some]
    refine lp_ind (fun d (z : Int) ν => ∃ (F : Nat → Int) (k : Nat), ν = wi μ (wm I m (up1 s 7 F)) ∧ z = (k : Int) ∧ (k : Int) + d = l 0 0 ∧ farI l w a F k) (fun X => ∃ F : Nat → Int, X = some (if v = -1 then 99 else v, wi μ (wm I m (up1 s 7 F)))) (fun d z ν nx2 hP hnx2 => ?_) n (l 0 0).toNat _ _ (by omega) ⟨F, 0, rfl, rfl, by omega, f0⟩
    obtain ⟨F, k, rfl, rfl, h1, hF⟩ := hP
    have e0 : up1 s 7 F 1 0 = l 0 0 := by rw [u1]; exact a0
    cases d with
    | zero =>
      simp (disch := omega) only [↓i_lt_t, ↓i_lt_f, ↓i_eq_t, ↓i_eq_f, ↓i_bi_t, ↓i_bi_f, ↓i_some, ↓bM_gI h, ↓bM_pI h, ↓bM_inv h, ↓bM_g1 h, ↓bM_g2 h, ↓bM_g3 h, ↓bM_g4 h, ↓bM_g15 h, ↓bM_g16 h, ↓bM_g22 h, ↓bM_g23 h, ↓bM_g24 h, ↓bM_g25 h, ↓bM_g28 h, ↓bM_g29 h, ↓bM_g30 h, ↓bM_g32 h, ↓bM_g33 h, ↓bM_g34 h, ↓bM_g36 h, ↓bM_g37 h, ↓bM_g41 h, ↓bM_g42 h, ↓bM_g43 h, ↓bM_ld1 h, ↓bM_ld2 h, ↓bM_ld3 h, ↓bM_ld4 h, ↓bM_ld5 h, ↓bM_ld6 h, ↓bM_ld7 h, ↓bM_ld8 h, ↓bM_ld9 h, ↓bM_ld10 h, ↓bM_ld11 h, ↓bM_ld12 h, ↓bM_ld13 h, ↓bM_ld14 h, ↓bM_ld15 h, ↓bM_ld16 h, ↓bM_ld17 h, ↓bM_ld18 h, ↓bM_ld19 h, ↓bM_ld20 h, ↓bM_ld21 h, ↓bM_st1 h, ↓bM_st2 h, ↓bM_st3 h, ↓bM_st4 h, ↓bM_st5 h, ↓bM_st6 h, ↓bM_st7 h, ↓bM_st8 h, ↓bM_st9 h, ↓bM_st10 h, ↓bM_st11 h, ↓bM_st12 h, ↓bM_st13 h, ↓bM_st14 h, ↓bM_st15 h, ↓bM_st16 h, ↓bM_st17 h, ↓bM_st18 h, ↓bM_st19 h, ↓bM_st20 h, ↓bM_st21 h, Int.toNat_add, Int.toNat_mul, Int.toNat_natCast, Int.reduceToNat, Nat.reduceAdd, Nat.reduceMul, e0, u7]
      have fb := hF.1 b (by omega)
      have ev : F b = if v = -1 then 99 else v := by
        rcases hv with ⟨rfl, nr⟩ | ⟨i, hi, rfl, hd⟩
        · rw [if_pos rfl]
          by_cases z : F b < 99
          · exact absurd (itS_rch _ _ (fb.2.2 z)) nr
          · omega
        · rw [if_neg (by omega)]
          have l1 := hF.2 i b (by omega) (by omega) hd.1
          have l2 : ¬ (F b).toNat < i := fun z => hd.2 _ z (fb.2.2 (by omega))
          omega
      exact ⟨F, by rw [ev]⟩
    | succ d =>
      simp (disch := omega) only [↓i_lt_t, ↓i_lt_f, ↓i_eq_t, ↓i_eq_f, ↓i_bi_t, ↓i_bi_f, ↓i_some, ↓bM_gI h, ↓bM_pI h, ↓bM_inv h, ↓bM_g1 h, ↓bM_g2 h, ↓bM_g3 h, ↓bM_g4 h, ↓bM_g15 h, ↓bM_g16 h, ↓bM_g22 h, ↓bM_g23 h, ↓bM_g24 h, ↓bM_g25 h, ↓bM_g28 h, ↓bM_g29 h, ↓bM_g30 h, ↓bM_g32 h, ↓bM_g33 h, ↓bM_g34 h, ↓bM_g36 h, ↓bM_g37 h, ↓bM_g41 h, ↓bM_g42 h, ↓bM_g43 h, ↓bM_ld1 h, ↓bM_ld2 h, ↓bM_ld3 h, ↓bM_ld4 h, ↓bM_ld5 h, ↓bM_ld6 h, ↓bM_ld7 h, ↓bM_ld8 h, ↓bM_ld9 h, ↓bM_ld10 h, ↓bM_ld11 h, ↓bM_ld12 h, ↓bM_ld13 h, ↓bM_ld14 h, ↓bM_ld15 h, ↓bM_ld16 h, ↓bM_ld17 h, ↓bM_ld18 h, ↓bM_ld19 h, ↓bM_ld20 h, ↓bM_ld21 h, ↓bM_st1 h, ↓bM_st2 h, ↓bM_st3 h, ↓bM_st4 h, ↓bM_st5 h, ↓bM_st6 h, ↓bM_st7 h, ↓bM_st8 h, ↓bM_st9 h, ↓bM_st10 h, ↓bM_st11 h, ↓bM_st12 h, ↓bM_st13 h, ↓bM_st14 h, ↓bM_st15 h, ↓bM_st16 h, ↓bM_st17 h, ↓bM_st18 h, ↓bM_st19 h, ↓bM_st20 h, ↓bM_st21 h, Int.toNat_add, Int.toNat_mul, Int.toNat_natCast, Int.reduceToNat, Nat.reduceAdd, Nat.reduceMul, e0]
      refine lp_ind (fun f (z : Int) ν => ∃ (G : Nat → Int) (r : Nat), ν = wi μ (wm I m (up1 s 7 G)) ∧ z = (r : Int) ∧ (r : Int) + f = l 0 1 ∧ farI l w a G k ∧ ∀ x y : Nat, adjK l w r x y → itS l w a k x → G y ≤ k + 1) (fun X => ∃ F : Nat → Int, X = some (if v = -1 then 99 else v, wi μ (wm I m (up1 s 7 F)))) (fun f z ν nx3 hP hnx3 => ?_) n (l 0 1).toNat _ _ (by omega) ⟨F, 0, rfl, rfl, by omega, hF, fun x y ⟨r, hr, _⟩ => by omega⟩
      obtain ⟨G, r, rfl, rfl, h3, hG, hB⟩ := hP
      have e1 : up1 s 7 G 1 1 = l 0 1 := by rw [u1]; exact a1
      cases f with
      | zero =>
        simp (disch := omega) only [↓i_lt_t, ↓i_lt_f, ↓i_eq_t, ↓i_eq_f, ↓i_bi_t, ↓i_bi_f, ↓i_some, ↓bM_gI h, ↓bM_pI h, ↓bM_inv h, ↓bM_g1 h, ↓bM_g2 h, ↓bM_g3 h, ↓bM_g4 h, ↓bM_g15 h, ↓bM_g16 h, ↓bM_g22 h, ↓bM_g23 h, ↓bM_g24 h, ↓bM_g25 h, ↓bM_g28 h, ↓bM_g29 h, ↓bM_g30 h, ↓bM_g32 h, ↓bM_g33 h, ↓bM_g34 h, ↓bM_g36 h, ↓bM_g37 h, ↓bM_g41 h, ↓bM_g42 h, ↓bM_g43 h, ↓bM_ld1 h, ↓bM_ld2 h, ↓bM_ld3 h, ↓bM_ld4 h, ↓bM_ld5 h, ↓bM_ld6 h, ↓bM_ld7 h, ↓bM_ld8 h, ↓bM_ld9 h, ↓bM_ld10 h, ↓bM_ld11 h, ↓bM_ld12 h, ↓bM_ld13 h, ↓bM_ld14 h, ↓bM_ld15 h, ↓bM_ld16 h, ↓bM_ld17 h, ↓bM_ld18 h, ↓bM_ld19 h, ↓bM_ld20 h, ↓bM_ld21 h, ↓bM_st1 h, ↓bM_st2 h, ↓bM_st3 h, ↓bM_st4 h, ↓bM_st5 h, ↓bM_st6 h, ↓bM_st7 h, ↓bM_st8 h, ↓bM_st9 h, ↓bM_st10 h, ↓bM_st11 h, ↓bM_st12 h, ↓bM_st13 h, ↓bM_st14 h, ↓bM_st15 h, ↓bM_st16 h, ↓bM_st17 h, ↓bM_st18 h, ↓bM_st19 h, ↓bM_st20 h, ↓bM_st21 h, Int.toNat_add, Int.toNat_mul, Int.toNat_natCast, Int.reduceToNat, Nat.reduceAdd, Nat.reduceMul, e1]
        refine hnx2 d _ _ (by omega) ⟨G, k + 1, rfl, rfl, by omega, hG.1, fun i q hi hq z => ?_⟩
        by_cases ei : i ≤ k
        · exact hG.2 i q ei hq z
        · have ei : i = k + 1 := by omega
          subst ei
          rcases z with z | ⟨x, z1, r', g1, g2⟩
          · have := hG.2 k q (Nat.le_refl _) hq z
            omega
          · have := hB x q ⟨r', by omega, g2⟩ z1
            omega
      | succ f =>
        have hr : (r : Int) < l 0 1 := by omega
        obtain ⟨k1, k2, -⟩ := (lrF G).2.2 r hr
        have g1 := hk.2.2.2 (2 * r) (by omega)
        have g2 := hk.2.2.2 (2 * r + 1) (by omega)
        by_cases cw : (r : Int) = w
        · simp (disch := omega) only [↓i_lt_t, ↓i_lt_f, ↓i_eq_t, ↓i_eq_f, ↓i_bi_t, ↓i_bi_f, ↓i_some, ↓bM_gI h, ↓bM_pI h, ↓bM_inv h, ↓bM_g1 h, ↓bM_g2 h, ↓bM_g3 h, ↓bM_g4 h, ↓bM_g15 h, ↓bM_g16 h, ↓bM_g22 h, ↓bM_g23 h, ↓bM_g24 h, ↓bM_g25 h, ↓bM_g28 h, ↓bM_g29 h, ↓bM_g30 h, ↓bM_g32 h, ↓bM_g33 h, ↓bM_g34 h, ↓bM_g36 h, ↓bM_g37 h, ↓bM_g41 h, ↓bM_g42 h, ↓bM_g43 h, ↓bM_ld1 h, ↓bM_ld2 h, ↓bM_ld3 h, ↓bM_ld4 h, ↓bM_ld5 h, ↓bM_ld6 h, ↓bM_ld7 h, ↓bM_ld8 h, ↓bM_ld9 h, ↓bM_ld10 h, ↓bM_ld11 h, ↓bM_ld12 h, ↓bM_ld13 h, ↓bM_ld14 h, ↓bM_ld15 h, ↓bM_ld16 h, ↓bM_ld17 h, ↓bM_ld18 h, ↓bM_ld19 h, ↓bM_ld20 h, ↓bM_ld21 h, ↓bM_st1 h, ↓bM_st2 h, ↓bM_st3 h, ↓bM_st4 h, ↓bM_st5 h, ↓bM_st6 h, ↓bM_st7 h, ↓bM_st8 h, ↓bM_st9 h, ↓bM_st10 h, ↓bM_st11 h, ↓bM_st12 h, ↓bM_st13 h, ↓bM_st14 h, ↓bM_st15 h, ↓bM_st16 h, ↓bM_st17 h, ↓bM_st18 h, ↓bM_st19 h, ↓bM_st20 h, ↓bM_st21 h, Int.toNat_add, Int.toNat_mul, Int.toNat_natCast, Int.reduceToNat, Nat.reduceAdd, Nat.reduceMul, e1]
          refine hnx3 f _ _ (by omega) ⟨G, r + 1, rfl, rfl, by omega, hG, fun x y hxy => ?_⟩
          rw [adjK_s] at hxy
          exact hxy.elim (hB x y) (fun z => absurd cw z.2.1)
        · by_cases c9 : l 9 r = 0
          · obtain ⟨x, hx⟩ : ∃ x : Nat, l 10 (2 * r) = (x : Int) := ⟨(l 10 (2 * r)).toNat, by omega⟩
            obtain ⟨y, hy⟩ : ∃ y : Nat, l 10 (2 * r + 1) = (y : Int) := ⟨(l 10 (2 * r + 1)).toNat, by omega⟩
            have hne := (hk.2.2.1 r hr).2.2.2.2.2
            rw [hx, hy] at hne
            rw [hx] at k1 g1
            rw [hy] at k2 g2
            have nxy : x ≠ y := fun e => hne (by rw [e])
            have hxy : adj l w x y := ⟨r, hr, c9, cw, Or.inl ⟨hx, hy⟩⟩
            have fx := hG.1 x (by omega)
            have fy := hG.1 y (by omega)
            -- behind the second test
            have second : ∀ H : Nat → Int, farI l w a H k → H x = G x → H y ≤ G y → H y ≤ G x + 1 → (∀ q : Nat, q ≠ y → H q = G q) → ∃ F : Nat → Int, ((gA (wi μ (wm I m (up1 s 7 H))) 12 m 22).bind fun x141 =>
                (ldI (wi μ (wm I m (up1 s 7 H))) 0 x141 (y : Int)).bind fun x146 =>
                (gA (wi μ (wm I m (up1 s 7 H))) 12 m 22).bind fun x150 =>
                (ldI (wi μ (wm I m (up1 s 7 H))) 0 x150 (x : Int)).bind fun x155 =>
                if lt32 (x146 + 1) x155 then
                  (gA (wi μ (wm I m (up1 s 7 H))) 12 m 22).bind fun x160 =>
                  (gA (wi μ (wm I m (up1 s 7 H))) 12 m 22).bind fun x166 =>
                  (ldI (wi μ (wm I m (up1 s 7 H))) 0 x166 (y : Int)).bind fun x171 =>
                  (stI (wi μ (wm I m (up1 s 7 H))) 0 x160 (x : Int) (x171 + 1)).bind fun μ174 =>
                  nx3 ((r : Int) + 1) μ174
                else
                nx3 ((r : Int) + 1) (wi μ (wm I m (up1 s 7 H)))) = some (if v = -1 then 99 else v, wi μ (wm I m (up1 s 7 F))) := by
              intro H hH e1 e2 e3 e4
              have hx' := hH.1 x (by omega)
              have hy' := hH.1 y (by omega)
              have old : ∀ p q : Nat, adjK l w r p q → itS l w a k p → H q ≤ k + 1 := fun p q g1 g2 => by
                have := hB p q g1 g2
                by_cases e : q = y
                · subst e; omega
                · rw [e4 q e]; exact this
              by_cases c2 : H y + 1 < H x
              · simp (disch := omega) only [↓i_lt_t, ↓i_lt_f, ↓i_eq_t, ↓i_eq_f, ↓i_bi_t, ↓i_bi_f, ↓i_some, ↓bM_gI h, ↓bM_pI h, ↓bM_inv h, ↓bM_g1 h, ↓bM_g2 h, ↓bM_g3 h, ↓bM_g4 h, ↓bM_g15 h, ↓bM_g16 h, ↓bM_g22 h, ↓bM_g23 h, ↓bM_g24 h, ↓bM_g25 h, ↓bM_g28 h, ↓bM_g29 h, ↓bM_g30 h, ↓bM_g32 h, ↓bM_g33 h, ↓bM_g34 h, ↓bM_g36 h, ↓bM_g37 h, ↓bM_g41 h, ↓bM_g42 h, ↓bM_g43 h, ↓bM_ld1 h, ↓bM_ld2 h, ↓bM_ld3 h, ↓bM_ld4 h, ↓bM_ld5 h, ↓bM_ld6 h, ↓bM_ld7 h, ↓bM_ld8 h, ↓bM_ld9 h, ↓bM_ld10 h, ↓bM_ld11 h, ↓bM_ld12 h, ↓bM_ld13 h, ↓bM_ld14 h, ↓bM_ld15 h, ↓bM_ld16 h, ↓bM_ld17 h, ↓bM_ld18 h, ↓bM_ld19 h, ↓bM_ld20 h, ↓bM_ld21 h, ↓bM_st1 h, ↓bM_st2 h, ↓bM_st3 h, ↓bM_st4 h, ↓bM_st5 h, ↓bM_st6 h, ↓bM_st7 h, ↓bM_st8 h, ↓bM_st9 h, ↓bM_st10 h, ↓bM_st11 h, ↓bM_st12 h, ↓bM_st13 h, ↓bM_st14 h, ↓bM_st15 h, ↓bM_st16 h, ↓bM_st17 h, ↓bM_st18 h, ↓bM_st19 h, ↓bM_st20 h, ↓bM_st21 h, Int.toNat_add, Int.toNat_mul, Int.toNat_natCast, Int.reduceToNat, Nat.reduceAdd, Nat.reduceMul, u7, up21]
                have hy99 : itS l w a (H y).toNat y := hy'.2.2 (by omega)
                refine hnx3 f _ _ (by omega) ⟨_, r + 1, rfl, rfl, by omega, far_dn hH (by omega) c2 (by omega) (by rw [show (H y + 1).toNat = (H y).toNat + 1 by omega]; exact Or.inr ⟨y, hy99, hxy.sym⟩), fun p q hpq hp => ?_⟩
                rw [adjK_s, hx, hy] at hpq
                by_cases eq : q = x
                · subst eq
                  rw [upA_s]
                  rcases hpq with z | ⟨-, -, ⟨z1, z2⟩ | ⟨z1, z2⟩⟩
                  · have := old p q z hp; omega
                  · omega
                  · obtain rfl : y = p := by omega
                    have := hH.2 k y (Nat.le_refl _) (by omega) hp
                    omega
                · rw [upA_n eq]
                  rcases hpq with z | ⟨-, -, ⟨z1, z2⟩ | ⟨z1, z2⟩⟩
                  · exact old p q z hp
                  · obtain rfl : x = p := by omega
                    obtain rfl : y = q := by omega
                    have := hG.2 k x (Nat.le_refl _) (by omega) hp
                    omega
                  · omega
              · simp (disch := omega) only [↓i_lt_t, ↓i_lt_f, ↓i_eq_t, ↓i_eq_f, ↓i_bi_t, ↓i_bi_f, ↓i_some, ↓bM_gI h, ↓bM_pI h, ↓bM_inv h, ↓bM_g1 h, ↓bM_g2 h, ↓bM_g3 h, ↓bM_g4 h, ↓bM_g15 h, ↓bM_g16 h, ↓bM_g22 h, ↓bM_g23 h, ↓bM_g24 h, ↓bM_g25 h, ↓bM_g28 h, ↓bM_g29 h, ↓bM_g30 h, ↓bM_g32 h, ↓bM_g33 h, ↓bM_g34 h, ↓bM_g36 h, ↓bM_g37 h, ↓bM_g41 h, ↓bM_g42 h, ↓bM_g43 h, ↓bM_ld1 h, ↓bM_ld2 h, ↓bM_ld3 h, ↓bM_ld4 h, ↓bM_ld5 h, ↓bM_ld6 h, ↓bM_ld7 h, ↓bM_ld8 h, ↓bM_ld9 h, ↓bM_ld10 h, ↓bM_ld11 h, ↓bM_ld12 h, ↓bM_ld13 h, ↓bM_ld14 h, ↓bM_ld15 h, ↓bM_ld16 h, ↓bM_ld17 h, ↓bM_ld18 h, ↓bM_ld19 h, ↓bM_ld20 h, ↓bM_ld21 h, ↓bM_st1 h, ↓bM_st2 h, ↓bM_st3 h, ↓bM_st4 h, ↓bM_st5 h, ↓bM_st6 h, ↓bM_st7 h, ↓bM_st8 h, ↓bM_st9 h, ↓bM_st10 h, ↓bM_st11 h, ↓bM_st12 h, ↓bM_st13 h, ↓bM_st14 h, ↓bM_st15 h, ↓bM_st16 h, ↓bM_st17 h, ↓bM_st18 h, ↓bM_st19 h, ↓bM_st20 h, ↓bM_st21 h, Int.toNat_add, Int.toNat_mul, Int.toNat_natCast, Int.reduceToNat, Nat.reduceAdd, Nat.reduceMul, u7]
                refine hnx3 f _ _ (by omega) ⟨H, r + 1, rfl, rfl, by omega, hH, fun p q hpq hp => ?_⟩
                rw [adjK_s, hx, hy] at hpq
                rcases hpq with z | ⟨-, -, ⟨z1, z2⟩ | ⟨z1, z2⟩⟩
                · exact old p q z hp
                · obtain rfl : x = p := by omega
                  obtain rfl : y = q := by omega
                  have := hG.2 k x (Nat.le_refl _) (by omega) hp
                  omega
                · obtain rfl : x = q := by omega
                  obtain rfl : y = p := by omega
                  have := hH.2 k y (Nat.le_refl _) (by omega) hp
                  omega
            by_cases c1 : G x + 1 < G y
            · have hx99 : itS l w a (G x).toNat x := fx.2.2 (by omega)
              have sec := second (upA G y (G x + 1)) (far_dn hG (by omega) c1 (by omega) (by rw [show (G x + 1).toNat = (G x).toNat + 1 by omega]; exact Or.inr ⟨x, hx99, hxy⟩)) (upA_n nxy) (by rw [upA_s]; omega) (by rw [upA_s]; omega) (fun q hq => upA_n hq)
              simp (disch := omega) only [jn, ↓i_lt_t, ↓i_lt_f, ↓i_eq_t, ↓i_eq_f, ↓i_bi_t, ↓i_bi_f, ↓i_some, ↓bM_gI h, ↓bM_pI h, ↓bM_inv h, ↓bM_g1 h, ↓bM_g2 h, ↓bM_g3 h, ↓bM_g4 h, ↓bM_g15 h, ↓bM_g16 h, ↓bM_g22 h, ↓bM_g23 h, ↓bM_g24 h, ↓bM_g25 h, ↓bM_g28 h, ↓bM_g29 h, ↓bM_g30 h, ↓bM_g32 h, ↓bM_g33 h, ↓bM_g34 h, ↓bM_g36 h, ↓bM_g37 h, ↓bM_g41 h, ↓bM_g42 h, ↓bM_g43 h, ↓bM_ld1 h, ↓bM_ld2 h, ↓bM_ld3 h, ↓bM_ld4 h, ↓bM_ld5 h, ↓bM_ld6 h, ↓bM_ld7 h, ↓bM_ld8 h, ↓bM_ld9 h, ↓bM_ld10 h, ↓bM_ld11 h, ↓bM_ld12 h, ↓bM_ld13 h, ↓bM_ld14 h, ↓bM_ld15 h, ↓bM_ld16 h, ↓bM_ld17 h, ↓bM_ld18 h, ↓bM_ld19 h, ↓bM_ld20 h, ↓bM_ld21 h, ↓bM_st1 h, ↓bM_st2 h, ↓bM_st3 h, ↓bM_st4 h, ↓bM_st5 h, ↓bM_st6 h, ↓bM_st7 h, ↓bM_st8 h, ↓bM_st9 h, ↓bM_st10 h, ↓bM_st11 h, ↓bM_st12 h, ↓bM_st13 h, ↓bM_st14 h, ↓bM_st15 h, ↓bM_st16 h, ↓bM_st17 h, ↓bM_st18 h, ↓bM_st19 h, ↓bM_st20 h, ↓bM_st21 h, Int.toNat_add, Int.toNat_mul, Int.toNat_natCast, Int.reduceToNat, Nat.reduceAdd, Nat.reduceMul, e1, ↓mhangs_w h (lrF G) hk, k1, k2, u7, up21] at sec ⊢
              exact sec
            · have sec := second G hG rfl (by omega) (by omega) (fun q _ => rfl)
              simp (disch := omega) only [jn, ↓i_lt_t, ↓i_lt_f, ↓i_eq_t, ↓i_eq_f, ↓i_bi_t, ↓i_bi_f, ↓i_some, ↓bM_gI h, ↓bM_pI h, ↓bM_inv h, ↓bM_g1 h, ↓bM_g2 h, ↓bM_g3 h, ↓bM_g4 h, ↓bM_g15 h, ↓bM_g16 h, ↓bM_g22 h, ↓bM_g23 h, ↓bM_g24 h, ↓bM_g25 h, ↓bM_g28 h, ↓bM_g29 h, ↓bM_g30 h, ↓bM_g32 h, ↓bM_g33 h, ↓bM_g34 h, ↓bM_g36 h, ↓bM_g37 h, ↓bM_g41 h, ↓bM_g42 h, ↓bM_g43 h, ↓bM_ld1 h, ↓bM_ld2 h, ↓bM_ld3 h, ↓bM_ld4 h, ↓bM_ld5 h, ↓bM_ld6 h, ↓bM_ld7 h, ↓bM_ld8 h, ↓bM_ld9 h, ↓bM_ld10 h, ↓bM_ld11 h, ↓bM_ld12 h, ↓bM_ld13 h, ↓bM_ld14 h, ↓bM_ld15 h, ↓bM_ld16 h, ↓bM_ld17 h, ↓bM_ld18 h, ↓bM_ld19 h, ↓bM_ld20 h, ↓bM_ld21 h, ↓bM_st1 h, ↓bM_st2 h, ↓bM_st3 h, ↓bM_st4 h, ↓bM_st5 h, ↓bM_st6 h, ↓bM_st7 h, ↓bM_st8 h, ↓bM_st9 h, ↓bM_st10 h, ↓bM_st11 h, ↓bM_st12 h, ↓bM_st13 h, ↓bM_st14 h, ↓bM_st15 h, ↓bM_st16 h, ↓bM_st17 h, ↓bM_st18 h, ↓bM_st19 h, ↓bM_st20 h, ↓bM_st21 h, Int.toNat_add, Int.toNat_mul, Int.toNat_natCast, Int.reduceToNat, Nat.reduceAdd, Nat.reduceMul, e1, ↓mhangs_w h (lrF G) hk, k1, k2, u7, up21] at sec ⊢
              exact sec
          · simp (disch := omega) only [↓i_lt_t, ↓i_lt_f, ↓i_eq_t, ↓i_eq_f, ↓i_bi_t, ↓i_bi_f, ↓i_some, ↓bM_gI h, ↓bM_pI h, ↓bM_inv h, ↓bM_g1 h, ↓bM_g2 h, ↓bM_g3 h, ↓bM_g4 h, ↓bM_g15 h, ↓bM_g16 h, ↓bM_g22 h, ↓bM_g23 h, ↓bM_g24 h, ↓bM_g25 h, ↓bM_g28 h, ↓bM_g29 h, ↓bM_g30 h, ↓bM_g32 h, ↓bM_g33 h, ↓bM_g34 h, ↓bM_g36 h, ↓bM_g37 h, ↓bM_g41 h, ↓bM_g42 h, ↓bM_g43 h, ↓bM_ld1 h, ↓bM_ld2 h, ↓bM_ld3 h, ↓bM_ld4 h, ↓bM_ld5 h, ↓bM_ld6 h, ↓bM_ld7 h, ↓bM_ld8 h, ↓bM_ld9 h, ↓bM_ld10 h, ↓bM_ld11 h, ↓bM_ld12 h, ↓bM_ld13 h, ↓bM_ld14 h, ↓bM_ld15 h, ↓bM_ld16 h, ↓bM_ld17 h, ↓bM_ld18 h, ↓bM_ld19 h, ↓bM_ld20 h, ↓bM_ld21 h, ↓bM_st1 h, ↓bM_st2 h, ↓bM_st3 h, ↓bM_st4 h, ↓bM_st5 h, ↓bM_st6 h, ↓bM_st7 h, ↓bM_st8 h, ↓bM_st9 h, ↓bM_st10 h, ↓bM_st11 h, ↓bM_st12 h, ↓bM_st13 h, ↓bM_st14 h, ↓bM_st15 h, ↓bM_st16 h, ↓bM_st17 h, ↓bM_st18 h, ↓bM_st19 h, ↓bM_st20 h, ↓bM_st21 h, Int.toNat_add, Int.toNat_mul, Int.toNat_natCast, Int.reduceToNat, Nat.reduceAdd, Nat.reduceMul, e1, ↓mhangs_w h (lrF G) hk]
            refine hnx3 f _ _ (by omega) ⟨G, r + 1, rfl, rfl, by omega, hG, fun x y hxy => ?_⟩
            rw [adjK_s] at hxy
            exact hxy.elim (hB x y) (fun z => absurd z.1 c9)
end RG
