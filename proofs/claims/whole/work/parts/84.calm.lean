/-! calm -/
theorem ldwl {I : Nat → Nat → Int} {a k i : Nat} {l : Ld} (h : k ≤ 12) : ld (wl I a l) a k i = l k i := wl_at h i
theorem goL_fx0 {l : Ld} (hk : okL l) (p : Nat → Int) {j : Nat} (hj : j ≠ 2) : (goL p l).1 0 j = l 0 j := (goL_ok p hk).2.1 j hj
theorem goL_h9 {l : Ld} (p : Nat → Int) (h : 0 ≤ l 0 2 ∧ l 0 2 ≤ 9999) : 0 ≤ (goL p l).1 0 2 ∧ (goL p l).1 0 2 ≤ 9999 := by
  rw [goL_hr]
  split <;> omega
/-- a trial of the reference is taken back -/
theorem again {s0 s : Ld} (h : Fr (up1 s0 6 (cpR 220 (s0 6) (s0 1))) s) : FrW s0 (up1 s 1 (cpR 220 (s 1) (s 6))) ∧ up1 s 1 (cpR 220 (s 1) (s 6)) 1 = s0 1 := by
  obtain ⟨h1, h2, h3⟩ := h
  have e6 : s 6 = cpR 220 (s0 6) (s0 1) := (h1 6 (by decide) (by decide) (by decide)).trans up1_s
  have e1 : up1 s 1 (cpR 220 (s 1) (s 6)) 1 = s0 1 := by
    rw [up1_s, e6]
    funext j
    unfold cpR
    by_cases hj : j < 220
    · rw [if_pos hj, if_pos hj]
    · rw [if_neg hj, h3 j (by omega), up1_o (by decide)]
  have g : ∀ a : Nat, a ≠ 0 → a ≠ 1 → a ≠ 5 → a ≠ 6 → up1 s 1 (cpR 220 (s 1) (s 6)) a = s0 a := fun a n0 n1 n5 n6 => by rw [up1_o n1, h1 a n0 n1 n5, up1_o n6]
  refine ⟨⟨⟨g 2 (by decide) (by decide) (by decide) (by decide), g 3 (by decide) (by decide) (by decide) (by decide), g 19 (by decide) (by decide) (by decide) (by decide), g 20 (by decide) (by decide) (by decide) (by decide), g 21 (by decide) (by decide) (by decide) (by decide)⟩, fun j j0 j1 => ?_, fun j _ => congrFun e1 j⟩, e1⟩
  rw [up1_o (by decide), h2 j j0 j1, up1_o (by decide)]
section CA
variable {μ : Mem} {I : Nat → Nat → Int} {c m n : Nat} {s l : Ld} {β : Type}
theorem keeps_w (h : isM μ m) (hn : 1000 ≤ n) {f : Unit × Mem → Option β} : (mX11_keeps n m (wi μ (wm I m s))).bind f = f ((), wi μ (wm I m (up1 s 6 (cpR 220 (s 6) (s 1))))) := bnd (keeps_eq h hn) f
theorem isAgain_w (h : isM μ m) (hn : 1000 ≤ n) {f : Unit × Mem → Option β} : (mX11_isAgain n m (wi μ (wm I m s))).bind f = f ((), wi μ (wm I m (up1 s 1 (cpR 220 (s 1) (s 6))))) := bnd (isAgain_eq h hn) f
theorem resting_e2 (h : isM μ m) (hl : LR l (s 1)) (hk : okL l) (hn : 100 ≤ n) : ∃ p : Nat → Int, (∀ k : Nat, k < 10 → p k = -1) ∧ mX11_resting n m (wi μ (wm I m s)) = some (rsL l, wi μ (wm I m (up1 s 5 p))) := by
  have hz := hk.1
  obtain ⟨p0, hp0, e0⟩ := nobody_eq (n := n) (I := I) (s := s) h hn
  have u1 : (up1 s 5 p0) 1 = s 1 := up1_o (by decide)
  have u5 : (up1 s 5 p0) 5 = p0 := up1_s
  refine ⟨p0, hp0, ?_⟩
  have a1 : ldI (wi μ (wm I m (up1 s 5 p0))) 0 (m + 1) 1 = some (l 0 1) := by rw [M_ld1 h (by omega) (by omega), wm_at (by omega), u1]; exact congrArg some hl.1.2.1
  unfold mX11_resting rsL
  rw [M_inv h, e0, Option.bind_some]
  refine lp_run (fun k (x : Int) => (x, (k : Int))) (fun _ _ => wi μ (wm I m (up1 s 5 p0))) (rsS l) (l 0 1).toNat (fun x => some (x, wi μ (wm I m (up1 s 5 p0)))) (fun _ x => -2147483648 ≤ x ∧ x < 2147483648) (fun k x nx hlt hi => ⟨?_, ?_⟩) (fun x nx hi => ?_) (l 0 1).toNat 0 0 n (by omega) (by omega) ⟨by omega, by omega⟩
  · unfold rsS setB
    split
    · exact oOr_range _ _
    · exact hi
  · have hr : (k : Int) < l 0 1 := by omega
    have g := hk.2.2.1 k hr
    have g1 := hk.2.2.2 (2 * k) (by omega)
    have g2 := hk.2.2.2 (2 * k + 1) (by omega)
    have dt := depthThen_eq (n := n) (I := I) (s := up1 s 5 p0) (l := l) h (by rw [u1]; exact hl) hk (by rw [u5]; intro j hj; rw [hp0 j hj]; omega) hr
    have e8 : ldI (wi μ (wm I m (up1 s 5 p0))) 0 (m + 1) (124 + (k : Int)) = some (l 8 k) := by rw [M_ld1 h (by omega) (by omega), wm_at (by omega), t124, u1, (hl.2.2 k hr).2.2.2.1]
    have ev : mvS p0 k l 8 k = if l 9 k = 0 then dbL l k 0 0 else l 8 k := by
      unfold mvS
      by_cases c9 : l 9 k = 0
      · rw [if_pos c9, if_pos c9, up2_s, hp0 _ (by omega), hp0 _ (by omega), bi_f (by omega)]
      · rw [if_neg c9, if_neg c9]
    have gdb := db_range hk hr 0 0
    rw [u5, ev] at dt
    try dsimp only
    rw [M_g1 h, Option.bind_some, a1, Option.bind_some, if_pos (show lt32 (k : Int) (l 0 1) from (lt32_iff (by omega) (by omega) (by omega) (by omega)).mpr (by omega)), M_inv h, dt, Option.bind_some]
    try dsimp only
    rw [M_g1 h, Option.bind_some, e8, Option.bind_some]
    unfold jn rsS setB
    try dsimp only
    by_cases c9 : l 9 k = 0
    · rw [if_pos c9]
      by_cases c2 : dbL l k 0 0 = l 8 k
      · rw [if_pos ((eq32_iff (by omega) (by omega) (by omega) (by omega)).mpr c2), if_pos (Or.inr c2)]
        rfl
      · rw [if_neg (fun z => c2 ((eq32_iff (by omega) (by omega) (by omega) (by omega)).mp z)), if_neg (fun z => z.elim (fun w => w c9) c2), oOr_0 hi]
        rfl
    · rw [if_neg c9, if_pos rfl, if_pos (Or.inl c9)]
      rfl
  · try dsimp only
    rw [M_g1 h, Option.bind_some, a1, Option.bind_some, if_neg (show ¬ lt32 ((l 0 1).toNat : Int) (l 0 1) from fun z => absurd ((lt32_iff (by omega) (by omega) (by omega) (by omega)).mp z) (by omega))]
def cmF (R : Int) : Nat → Int → Ld → Int
  | 0, _, _ => -1
  | d + 1, k, l => if eq32 (rsL l) (oShl 1 R - 1) then k else cmF R d (k + 1) (goL (fun _ => -1) l).1
theorem calm_c (hC : isC μ c) {m : Ld} (ht : mX1_takeAll n (c + 16) (c + 3) (wi μ I) = some ((), wi μ (wl I (c + 16) m))) (hk : okL m) (hh : 0 ≤ m 0 2 ∧ m 0 2 ≤ 9999) (hn : 20000 ≤ n) : ∃ J : Nat → Nat → Int, CF c I J ∧ mX10_calm n c (wi μ I) = some (cmF (m 0 1) 100 0 m, wi μ J) := by
  have hT := hC.trial
  have hY := hC.ty
  unfold mX10_calm
  simp (disch := omega) only [↓i_lt_t, ↓i_lt_f, ↓i_eq_t, ↓i_eq_f, ↓i_bi_t, ↓i_bi_f, ↓i_some, ↓bC_g0 hC, ↓bC_g1 hC, ↓bC_g2 hC, ↓bC_g3 hC, ↓bC_g4 hC, ↓bC_g5 hC, ↓bC_g6 hC, ↓bC_g7 hC, ↓bC_g8 hC, ↓bC_g9 hC, ↓bC_g10 hC, ↓bC_inv hC, ↓bL_gI hT, ↓bL_inv hT, ↓bL_g6 hT, ↓bL_g7 hT, ↓bL_g8 hT, ↓bL_g9 hT, ↓bL_g10 hT, ↓bL_g11 hT, ↓bL_g12 hT, ↓bL_g13 hT, ↓bL_g14 hT, ↓bL_g15 hT, ↓bL_g16 hT, ↓bL_g17 hT, ↓bL_ld1 hT, ↓bL_ld2 hT, ↓bL_ld3 hT, ↓bL_ld4 hT, ↓bL_ld5 hT, ↓bL_ld6 hT, ↓bL_ld7 hT, ↓bL_ld8 hT, ↓bL_ld9 hT, ↓bL_ld10 hT, ↓bL_ld11 hT, ↓bL_ld12 hT, ↓bL_st1 hT, ↓bL_st2 hT, ↓bL_st3 hT, ↓bL_st4 hT, ↓bL_st5 hT, ↓bL_st6 hT, ↓bL_st7 hT, ↓bL_st8 hT, ↓bL_st9 hT, ↓bL_st10 hT, ↓bL_st11 hT, ↓bL_st12 hT, ↓bnd ht]
  refine lp_ind (fun d (v : Int) ν => ∃ (y p : Nat → Int) (l : Ld), ν = wi μ (wl (wT I (c + 32) y p) (c + 16) l) ∧ v + d = 100 ∧ 0 ≤ v ∧ okL l ∧ (0 ≤ l 0 2 ∧ l 0 2 ≤ 9999) ∧ l 0 1 = m 0 1 ∧ cmF (m 0 1) d v l = cmF (m 0 1) 100 0 m) (fun X => ∃ J : Nat → Nat → Int, CF c I J ∧ X = some (cmF (m 0 1) 100 0 m, wi μ J)) (fun d v ν nx hp hnx => ?_) n 100 0 _ (by omega) ⟨I (c + 32), I (c + 32 + 1), m, by rw [wT_id], by omega, by omega, hk, hh, rfl, rfl⟩
  obtain ⟨y, p, l, rfl, h1, h2, ok, hr, hR, hV⟩ := hp
  have fin : CF c I (wl (wT I (c + 32) y p) (c + 16) l) := fun b hb => by
    unfold tmp at hb
    rw [wl_out (by omega), wT_o (by omega)]
  cases d with
  | zero =>
    have hV' : (-1 : Int) = cmF (m 0 1) 100 0 m := hV
    simp (disch := omega) only [↓i_lt_t, ↓i_lt_f, ↓i_eq_t, ↓i_eq_f, ↓i_bi_t, ↓i_bi_f, ↓i_some]
    exact ⟨_, fin, by rw [hV']⟩
  | succ d =>
    have rb := restBits_eq (n := n) (I := wT I (c + 32) y p) hT ok (by omega)
    have hV' : (if eq32 (rsL l) (oShl 1 (m 0 1) - 1) then v else cmF (m 0 1) d (v + 1) (goL (fun _ => -1) l).1) = cmF (m 0 1) 100 0 m := hV
    simp (disch := omega) only [↓i_lt_t, ↓i_lt_f, ↓i_eq_t, ↓i_eq_f, ↓i_bi_t, ↓i_bi_f, ↓i_some, ↓bC_g0 hC, ↓bC_g1 hC, ↓bC_g2 hC, ↓bC_g3 hC, ↓bC_g4 hC, ↓bC_g5 hC, ↓bC_g6 hC, ↓bC_g7 hC, ↓bC_g8 hC, ↓bC_g9 hC, ↓bC_g10 hC, ↓bC_inv hC, ↓bL_gI hT, ↓bL_inv hT, ↓bL_g6 hT, ↓bL_g7 hT, ↓bL_g8 hT, ↓bL_g9 hT, ↓bL_g10 hT, ↓bL_g11 hT, ↓bL_g12 hT, ↓bL_g13 hT, ↓bL_g14 hT, ↓bL_g15 hT, ↓bL_g16 hT, ↓bL_g17 hT, ↓bL_ld1 hT, ↓bL_ld2 hT, ↓bL_ld3 hT, ↓bL_ld4 hT, ↓bL_ld5 hT, ↓bL_ld6 hT, ↓bL_ld7 hT, ↓bL_ld8 hT, ↓bL_ld9 hT, ↓bL_ld10 hT, ↓bL_ld11 hT, ↓bL_ld12 hT, ↓bL_st1 hT, ↓bL_st2 hT, ↓bL_st3 hT, ↓bL_st4 hT, ↓bL_st5 hT, ↓bL_st6 hT, ↓bL_st7 hT, ↓bL_st8 hT, ↓bL_st9 hT, ↓bL_st10 hT, ↓bL_st11 hT, ↓bL_st12 hT, ↓bnd rb, ldwl, hR]
    by_cases e : eq32 (rsL l) (oShl 1 (m 0 1) - 1)
    · rw [if_pos e] at hV' ⊢
      exact ⟨_, fin, by rw [hV']⟩
    · rw [if_neg e] at hV' ⊢
      obtain ⟨y', p', e1, -⟩ := tdoHour (n := n) (I := I) (y := y) (p := p) hT hY (by omega) ok (by omega) (b := -1) (x := -1) (by omega) (by omega) hn
      rw [oneP_none] at e1
      rw [tinv hY]
      simp (disch := omega) only [↓bnd e1]
      exact hnx d _ _ (by omega) ⟨y', p', _, rfl, by omega, by omega, (goL_ok _ ok).1, goL_h9 _ hr, (goL_fx0 ok _ (by decide)).trans hR, hV'⟩
theorem calm_m (h : isM μ m) (hl : LR l (s 1)) (hk : okL l) (hn : 20000 ≤ n) : ∃ s' : Ld, FrW s s' ∧ s' 1 = s 1 ∧ mX11_calm n m (wi μ (wm I m s)) = some (cmF (l 0 1) 100 0 l, wi μ (wm I m s')) := by
  have hz := hk.1
  have r1 : up2 s 0 0 0 1 = s 1 := up2_row (by decide)
  have q1 : up1 (up2 s 0 0 0) 6 (cpR 220 (up2 s 0 0 0 6) (up2 s 0 0 0 1)) 1 = s 1 := (up1_o (by decide)).trans r1
  have f0 : FrW s (up2 s 0 0 0) := (Fr.f0 s (Or.inl rfl)).w
  unfold mX11_calm
  simp (disch := omega) only [↓i_lt_t, ↓i_lt_f, ↓i_eq_t, ↓i_eq_f, ↓i_bi_t, ↓i_bi_f, ↓i_some, ↓bM_gI h, ↓bM_pI h, ↓bM_inv h, ↓bM_g1 h, ↓bM_g2 h, ↓bM_g3 h, ↓bM_g4 h, ↓bM_g15 h, ↓bM_g16 h, ↓bM_g22 h, ↓bM_g23 h, ↓bM_g24 h, ↓bM_g25 h, ↓bM_g28 h, ↓bM_g29 h, ↓bM_g30 h, ↓bM_g32 h, ↓bM_g33 h, ↓bM_g34 h, ↓bM_g36 h, ↓bM_g37 h, ↓bM_g41 h, ↓bM_g42 h, ↓bM_g43 h, ↓bM_ld1 h, ↓bM_ld2 h, ↓bM_ld3 h, ↓bM_ld4 h, ↓bM_ld5 h, ↓bM_ld6 h, ↓bM_ld7 h, ↓bM_ld8 h, ↓bM_ld9 h, ↓bM_ld10 h, ↓bM_ld11 h, ↓bM_ld12 h, ↓bM_ld13 h, ↓bM_ld14 h, ↓bM_ld15 h, ↓bM_ld16 h, ↓bM_ld17 h, ↓bM_ld18 h, ↓bM_ld19 h, ↓bM_ld20 h, ↓bM_ld21 h, ↓bM_st1 h, ↓bM_st2 h, ↓bM_st3 h, ↓bM_st4 h, ↓bM_st5 h, ↓bM_st6 h, ↓bM_st7 h, ↓bM_st8 h, ↓bM_st9 h, ↓bM_st10 h, ↓bM_st11 h, ↓bM_st12 h, ↓bM_st13 h, ↓bM_st14 h, ↓bM_st15 h, ↓bM_st16 h, ↓bM_st17 h, ↓bM_st18 h, ↓bM_st19 h, ↓bM_st20 h, ↓bM_st21 h, ↓keeps_w h, Int.toNat_add, Int.toNat_mul, Int.toNat_natCast, Int.reduceToNat, Nat.reduceAdd, Nat.reduceMul, q1, hl.1.2.1]
  generalize hs1 : up1 (up2 s 0 0 0) 6 (cpR 220 (up2 s 0 0 0 6) (up2 s 0 0 0 1)) = s1 at q1
  have done : ∀ t : Ld, Fr s1 t → FrW s (up1 t 1 (cpR 220 (t 1) (t 6))) ∧ up1 t 1 (cpR 220 (t 1) (t 6)) 1 = s 1 := fun t ft => by
    rw [← hs1] at ft
    exact ⟨f0.tr (again ft).1, (again ft).2.trans r1⟩
  refine lp_ind (fun d (v : Int) ν => ∃ (t k : Ld), ν = wi μ (wm I m t) ∧ v + d = 100 ∧ 0 ≤ v ∧ Fr s1 t ∧ LR k (t 1) ∧ okL k ∧ k 0 1 = l 0 1 ∧ cmF (l 0 1) d v k = cmF (l 0 1) 100 0 l) (fun X => ∃ s' : Ld, FrW s s' ∧ s' 1 = s 1 ∧ X = some (cmF (l 0 1) 100 0 l, wi μ (wm I m s'))) (fun d v ν nx hp hnx => ?_) n 100 0 _ (by omega) ⟨s1, l, rfl, by omega, by omega, Fr.rf s1, by rw [q1]; exact hl, hk, rfl, rfl⟩
  obtain ⟨t, k, rfl, h1, h2, ft, lr, ok, hR, hV⟩ := hp
  cases d with
  | zero =>
    have hV' : (-1 : Int) = cmF (l 0 1) 100 0 l := hV
    simp (disch := omega) only [jn, ↓i_lt_t, ↓i_lt_f, ↓i_eq_t, ↓i_eq_f, ↓i_bi_t, ↓i_bi_f, ↓i_some, ↓bM_gI h, ↓bM_pI h, ↓bM_inv h, ↓bM_g1 h, ↓bM_g2 h, ↓bM_g3 h, ↓bM_g4 h, ↓bM_g15 h, ↓bM_g16 h, ↓bM_g22 h, ↓bM_g23 h, ↓bM_g24 h, ↓bM_g25 h, ↓bM_g28 h, ↓bM_g29 h, ↓bM_g30 h, ↓bM_g32 h, ↓bM_g33 h, ↓bM_g34 h, ↓bM_g36 h, ↓bM_g37 h, ↓bM_g41 h, ↓bM_g42 h, ↓bM_g43 h, ↓bM_ld1 h, ↓bM_ld2 h, ↓bM_ld3 h, ↓bM_ld4 h, ↓bM_ld5 h, ↓bM_ld6 h, ↓bM_ld7 h, ↓bM_ld8 h, ↓bM_ld9 h, ↓bM_ld10 h, ↓bM_ld11 h, ↓bM_ld12 h, ↓bM_ld13 h, ↓bM_ld14 h, ↓bM_ld15 h, ↓bM_ld16 h, ↓bM_ld17 h, ↓bM_ld18 h, ↓bM_ld19 h, ↓bM_ld20 h, ↓bM_ld21 h, ↓bM_st1 h, ↓bM_st2 h, ↓bM_st3 h, ↓bM_st4 h, ↓bM_st5 h, ↓bM_st6 h, ↓bM_st7 h, ↓bM_st8 h, ↓bM_st9 h, ↓bM_st10 h, ↓bM_st11 h, ↓bM_st12 h, ↓bM_st13 h, ↓bM_st14 h, ↓bM_st15 h, ↓bM_st16 h, ↓bM_st17 h, ↓bM_st18 h, ↓bM_st19 h, ↓bM_st20 h, ↓bM_st21 h, ↓isAgain_w h]
    exact ⟨_, (done t ft).1, (done t ft).2, by rw [hV']⟩
  | succ d =>
    obtain ⟨p, hp, e1⟩ := resting_e2 (n := n) (I := I) h lr ok (by omega)
    have hV' : (if eq32 (rsL k) (oShl 1 (l 0 1) - 1) then v else cmF (l 0 1) d (v + 1) (goL (fun _ => -1) k).1) = cmF (l 0 1) 100 0 l := hV
    have u1 : (up1 t 5 p) 1 = t 1 := up1_o (by decide)
    have u5 : (up1 t 5 p) 5 = p := up1_s
    simp (disch := omega) only [jn, ↓i_lt_t, ↓i_lt_f, ↓i_eq_t, ↓i_eq_f, ↓i_bi_t, ↓i_bi_f, ↓i_some, ↓bM_gI h, ↓bM_pI h, ↓bM_inv h, ↓bM_g1 h, ↓bM_g2 h, ↓bM_g3 h, ↓bM_g4 h, ↓bM_g15 h, ↓bM_g16 h, ↓bM_g22 h, ↓bM_g23 h, ↓bM_g24 h, ↓bM_g25 h, ↓bM_g28 h, ↓bM_g29 h, ↓bM_g30 h, ↓bM_g32 h, ↓bM_g33 h, ↓bM_g34 h, ↓bM_g36 h, ↓bM_g37 h, ↓bM_g41 h, ↓bM_g42 h, ↓bM_g43 h, ↓bM_ld1 h, ↓bM_ld2 h, ↓bM_ld3 h, ↓bM_ld4 h, ↓bM_ld5 h, ↓bM_ld6 h, ↓bM_ld7 h, ↓bM_ld8 h, ↓bM_ld9 h, ↓bM_ld10 h, ↓bM_ld11 h, ↓bM_ld12 h, ↓bM_ld13 h, ↓bM_ld14 h, ↓bM_ld15 h, ↓bM_ld16 h, ↓bM_ld17 h, ↓bM_ld18 h, ↓bM_ld19 h, ↓bM_ld20 h, ↓bM_ld21 h, ↓bM_st1 h, ↓bM_st2 h, ↓bM_st3 h, ↓bM_st4 h, ↓bM_st5 h, ↓bM_st6 h, ↓bM_st7 h, ↓bM_st8 h, ↓bM_st9 h, ↓bM_st10 h, ↓bM_st11 h, ↓bM_st12 h, ↓bM_st13 h, ↓bM_st14 h, ↓bM_st15 h, ↓bM_st16 h, ↓bM_st17 h, ↓bM_st18 h, ↓bM_st19 h, ↓bM_st20 h, ↓bM_st21 h, ↓bnd e1]
    by_cases e : eq32 (rsL k) (oShl 1 (l 0 1) - 1)
    · rw [if_pos e] at hV' ⊢
      simp (disch := omega) only [↓i_lt_t, ↓i_lt_f, ↓i_eq_t, ↓i_eq_f, ↓i_bi_t, ↓i_bi_f, ↓i_some, ↓bM_gI h, ↓bM_pI h, ↓bM_inv h, ↓bM_g1 h, ↓bM_g2 h, ↓bM_g3 h, ↓bM_g4 h, ↓bM_g15 h, ↓bM_g16 h, ↓bM_g22 h, ↓bM_g23 h, ↓bM_g24 h, ↓bM_g25 h, ↓bM_g28 h, ↓bM_g29 h, ↓bM_g30 h, ↓bM_g32 h, ↓bM_g33 h, ↓bM_g34 h, ↓bM_g36 h, ↓bM_g37 h, ↓bM_g41 h, ↓bM_g42 h, ↓bM_g43 h, ↓bM_ld1 h, ↓bM_ld2 h, ↓bM_ld3 h, ↓bM_ld4 h, ↓bM_ld5 h, ↓bM_ld6 h, ↓bM_ld7 h, ↓bM_ld8 h, ↓bM_ld9 h, ↓bM_ld10 h, ↓bM_ld11 h, ↓bM_ld12 h, ↓bM_ld13 h, ↓bM_ld14 h, ↓bM_ld15 h, ↓bM_ld16 h, ↓bM_ld17 h, ↓bM_ld18 h, ↓bM_ld19 h, ↓bM_ld20 h, ↓bM_ld21 h, ↓bM_st1 h, ↓bM_st2 h, ↓bM_st3 h, ↓bM_st4 h, ↓bM_st5 h, ↓bM_st6 h, ↓bM_st7 h, ↓bM_st8 h, ↓bM_st9 h, ↓bM_st10 h, ↓bM_st11 h, ↓bM_st12 h, ↓bM_st13 h, ↓bM_st14 h, ↓bM_st15 h, ↓bM_st16 h, ↓bM_st17 h, ↓bM_st18 h, ↓bM_st19 h, ↓bM_st20 h, ↓bM_st21 h, ↓isAgain_w h]
      have fp := ft.tr (Fr.p5 t p)
      exact ⟨_, (done _ fp).1, (done _ fp).2, by rw [hV']⟩
    · rw [if_neg e] at hV' ⊢
      obtain ⟨A, eg, l2, -, -, k2⟩ := goes_eq (n := n) (I := I) (s := up1 t 5 p) (l := k) h (by rw [u1]; exact lr) ok (by rw [u5]; intro j hj; rw [hp j hj]; omega) (by omega)
      have hcg : goL p k = goL (fun _ => -1) k := goL_cg ok hp
      rw [u5, hcg] at eg l2
      simp (disch := omega) only [↓i_lt_t, ↓i_lt_f, ↓i_eq_t, ↓i_eq_f, ↓i_bi_t, ↓i_bi_f, ↓i_some, ↓bM_gI h, ↓bM_pI h, ↓bM_inv h, ↓bM_g1 h, ↓bM_g2 h, ↓bM_g3 h, ↓bM_g4 h, ↓bM_g15 h, ↓bM_g16 h, ↓bM_g22 h, ↓bM_g23 h, ↓bM_g24 h, ↓bM_g25 h, ↓bM_g28 h, ↓bM_g29 h, ↓bM_g30 h, ↓bM_g32 h, ↓bM_g33 h, ↓bM_g34 h, ↓bM_g36 h, ↓bM_g37 h, ↓bM_g41 h, ↓bM_g42 h, ↓bM_g43 h, ↓bM_ld1 h, ↓bM_ld2 h, ↓bM_ld3 h, ↓bM_ld4 h, ↓bM_ld5 h, ↓bM_ld6 h, ↓bM_ld7 h, ↓bM_ld8 h, ↓bM_ld9 h, ↓bM_ld10 h, ↓bM_ld11 h, ↓bM_ld12 h, ↓bM_ld13 h, ↓bM_ld14 h, ↓bM_ld15 h, ↓bM_ld16 h, ↓bM_ld17 h, ↓bM_ld18 h, ↓bM_ld19 h, ↓bM_ld20 h, ↓bM_ld21 h, ↓bM_st1 h, ↓bM_st2 h, ↓bM_st3 h, ↓bM_st4 h, ↓bM_st5 h, ↓bM_st6 h, ↓bM_st7 h, ↓bM_st8 h, ↓bM_st9 h, ↓bM_st10 h, ↓bM_st11 h, ↓bM_st12 h, ↓bM_st13 h, ↓bM_st14 h, ↓bM_st15 h, ↓bM_st16 h, ↓bM_st17 h, ↓bM_st18 h, ↓bM_st19 h, ↓bM_st20 h, ↓bM_st21 h, ↓bnd eg]
      exact hnx d _ _ (by omega) ⟨_, (goL (fun _ => -1) k).1, rfl, by omega, by omega, ft.tr ((Fr.p5 t p).tr (Fr.w1 _ k2)), by rw [up1_s]; exact l2, (goL_ok _ ok).1, (goL_fx0 ok _ (by decide)).trans hR, hV'⟩
theorem both_calm (hC : isC μ c) (hM : isM μ (c + 193)) (hR : RelC c I) (hn : 20000 ≤ n) : Both μ c I (mX10_calm n c) (mX11_calm n (c + 193)) := by
  obtain ⟨m, ht, hm⟩ := takeAll_w (n := n) (I := I) (a := c + 16) (b := c + 3) hC.trial hC.here (by omega)
  have hl := hm.rl hR.1
  obtain ⟨J, hJ, e1⟩ := calm_c (n := n) hC ht hl.1 ⟨hl.2.2.2.1, hl.2.2.2.2.1⟩ hn
  have j1 : ld J (c + 193) 1 = I (c + 193 + 1) := hJ _ (by unfold tmp; omega)
  obtain ⟨s', fw, es, e2⟩ := calm_m (n := n) (I := J) (s := ld J (c + 193)) (l := m) hM (by rw [j1]; exact hl.2.1) hl.1 hn
  rw [ldwm] at e2
  refine Both.mk hR hJ.h e1 e2 fw ?_
  rw [es, j1]
  exact hR.1.cg (fun k hk => hJ _ (by unfold tmp; omega))
end CA
