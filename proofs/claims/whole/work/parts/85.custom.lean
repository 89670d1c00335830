/-! custom -/
section CU
variable {μ : Mem} {I : Nat → Nat → Int} {c m n : Nat} {s l : Ld} {β : Type}
theorem customRefusal_w (h : isC μ c) (hh : 0 ≤ I (c + 3) 2 ∧ I (c + 3) 2 ≤ 9999) {b : Int} (hb : -2147483648 ≤ b ∧ b < 2147483648) {f : Int × Mem → Option β} : (mX10_customRefusal n c b (wi μ I)).bind f = f (crF (I (c + 3) 2) b, wi μ I) := bnd (customRefusal_eq h hh hb) f
def sm5 (l : Ld) : Int := itr (smS l 5) 0 (l 0 0).toNat 0
def cuV (k : Ld) (u : Ld × Int × Int × Int) (x : Int) : Int := if x = 0 then u.2.1 else if x = 1 then sm5 u.1 - sm5 k else if x = 2 then u.2.2.1 else if x = 3 then u.2.2.2 else (u.1 5 (x - 10).toNat + u.1 6 (x - 10).toNat) - (k 5 (x - 10).toNat + k 6 (x - 10).toNat)
theorem sm5_cg {k l : Ld} (h : EqL l k) (hk : okL l) : sm5 l = sm5 k := by
  have hz := hk.1
  unfold sm5
  rw [h.z (by decide)]
  refine itr_cg (P := fun _ _ => True) _ _ _ trivial (fun j x _ hj _ => ⟨?_, trivial⟩)
  unfold smS
  rw [h 5 j (by decide) (by unfold lnL; rw [if_neg (by decide), if_pos (by decide)]; omega)]
theorem cuA_fx {l : Ld} (hk : okL l) (b : Nat) : okL (itr cuA 0 b (l, 0, 0, 0)).1 ∧ (itr cuA 0 b (l, 0, 0, 0)).1 0 0 = l 0 0 := by
  have := itr_inv (step := cuA) (P := fun _ u => okL u.1 ∧ u.1 0 0 = l 0 0) b 0 (l, 0, 0, 0) ⟨hk, rfl⟩ (fun j u _ _ hu => ⟨cuA_ok hu.1, (goL_fx0 hu.1 _ (by decide)).trans hu.2⟩)
  exact this
theorem allQuenched_w {a : Nat} (h : isL μ a) (hk : okL (ld I a)) (hn : 100 ≤ n) {f : Int × Mem → Option β} : (mX1_allQuenched n a (wi μ I)).bind f = f (sm5 (ld I a), wi μ I) := by
  have e := allQuenched_eq (n := n) (I := I) h hk hn
  rw [wiwl] at e
  exact bnd e f
theorem had_w {a : Nat} (h : isL μ a) {i : Int} (h0 : 0 ≤ i) (h1 : i < 10) {f : Int × Mem → Option β} : (mX1_had n a i (wi μ I)).bind f = f (ld I a 5 i.toNat + ld I a 6 i.toNat, wi μ I) := by
  have e := had_eq (n := n) (I := I) (l := ld I a) h h0 h1
  rw [wiwl] at e
  exact bnd e f
theorem custom_c (hC : isC μ c) (hk0 : okL (ld I (c + 3))) (hh0 : 0 ≤ I (c + 3) 2 ∧ I (c + 3) 2 ≤ 9999) {k : Ld} (ht : mX1_takeAll n (c + 16) (c + 3) (wi μ I) = some ((), wi μ (wl I (c + 16) k))) (hm : EqL (ld I (c + 3)) k) (hk : okL k) (hh : 0 ≤ k 0 2 ∧ k 0 2 ≤ 9999) {b x : Int} (hb : -2147483648 ≤ b ∧ b < 2147483648) (hc : crF (I (c + 3) 2) b = 0) (hx : (0 ≤ x ∧ x ≤ 3) ∨ (10 ≤ x ∧ x < 10 + k 0 0)) (hn : 20000 ≤ n) : ∃ J : Nat → Nat → Int, CF c I J ∧ mX10_custom n c b x (wi μ I) = some (cuV k (itr cuA 0 b.toNat (k, 0, 0, 0)) x, wi μ J) := by
  have hT := hC.trial
  have hY := hC.ty
  have hH := hC.here
  have hz := hk.1
  have hb1 : 1 ≤ b ∧ b ≤ 99 := by
    unfold crF at hc
    split at hc
    · omega
    · omega
  have hd := tdoCustom (n := n) (I := I) (t := c + 32) (a := c + 16) (y := I (c + 32)) (p := I (c + 32 + 1)) (l := k) hT hY (by omega) hk (by omega) (b := b) (by omega) hn rfl
  rw [wT_id] at hd
  have hr := cuS_run (l := k) (y := I (c + 32)) (p := I (c + 32 + 1)) hk (by omega) b.toNat
  have hf := cuA_fx hk b.toNat
  generalize itr cuS 0 b.toNat (k, yB (I (c + 32)), flR (I (c + 32 + 1)) 10 (-1)) = q at hd hr
  generalize itr cuA 0 b.toNat (k, 0, 0, 0) = u at hr hf ⊢
  obtain ⟨e1, e3, e4, e5, -⟩ := hr
  have oJ : CF c I (wl (wT I (c + 32) q.2.1 q.2.2) (c + 16) q.1) := fun b hb => by
    unfold tmp at hb
    rw [wl_out (by omega), wT_o (by omega)]
  have l3 : ld (wl (wT I (c + 32) q.2.1 q.2.2) (c + 16) q.1) (c + 3) = ld (wl (wT I (c + 32) q.2.1 q.2.2) (c + 16) q.1) (c + 3) := rfl
  have l3k : ∀ j : Nat, j ≤ 12 → ld (wl (wT I (c + 32) q.2.1 q.2.2) (c + 16) q.1) (c + 3) j = ld I (c + 3) j := fun j hj => oJ _ (by unfold tmp; omega)
  have l16 : ∀ j : Nat, j ≤ 12 → ld (wl (wT I (c + 32) q.2.1 q.2.2) (c + 16) q.1) (c + 16) j = u.1 j := fun j hj => (wl_row hj).trans (by rw [e1])
  have y32 : ∀ j : Nat, (wl (wT I (c + 32) q.2.1 q.2.2) (c + 16) q.1) (c + 32) j = q.2.1 j := fun j => by rw [wl_out (by omega), wT_y]
  generalize wl (wT I (c + 32) q.2.1 q.2.2) (c + 16) q.1 = J at hd oJ l3 l3k l16 y32
  have bt : ∀ (j : Nat) (f : Int → Option (Int × Mem)), (gI (wi μ J) 8 (c + 32) j).bind f = f (q.2.1 j) := fun j f => (bnd (e_gI hY.k) f).trans (by rw [y32])
  have bi8 : ∀ {ρ : Type} {K : Nat → Nat → Int} (X : Option ρ) (f : ρ → Option (Int × Mem)), (inv (wi μ K) 8 (c + 32) X).bind f = X.bind f := fun X f => by rw [tinv hY]
  refine ⟨J, oJ, ?_⟩
  have ok3 : okL (ld J (c + 3)) := hk0.cg l3k
  have ok16 : okL (ld J (c + 16)) := hf.1.cg l16
  have m3 : sm5 (ld J (c + 3)) = sm5 k := by
    rw [← sm5_cg hm hk0]
    unfold sm5 smS
    rw [l3k 0 (by decide), l3k 5 (by decide)]
  have m16 : sm5 (ld J (c + 16)) = sm5 u.1 := by
    unfold sm5 smS
    rw [l16 0 (by decide), l16 5 (by decide)]
  have hz0 : ld I (c + 3) 0 0 = k 0 0 := (hm.z (by decide)).symm
  unfold mX10_custom
  rcases hx with hx | hx
  · simp (disch := omega) only [jn, ↓i_lt_t, ↓i_lt_f, ↓i_eq_t, ↓i_eq_f, ↓i_bi_t, ↓i_bi_f, ↓i_some, ↓bC_g0 hC, ↓bC_g1 hC, ↓bC_g2 hC, ↓bC_g3 hC, ↓bC_g4 hC, ↓bC_g5 hC, ↓bC_g6 hC, ↓bC_g7 hC, ↓bC_g8 hC, ↓bC_g9 hC, ↓bC_g10 hC, ↓bC_inv hC, ↓customRefusal_w hC hh0 hb, hc, ↓bL_gI hT, ↓bL_inv hT, ↓bL_g6 hT, ↓bL_g7 hT, ↓bL_g8 hT, ↓bL_g9 hT, ↓bL_g10 hT, ↓bL_g11 hT, ↓bL_g12 hT, ↓bL_g13 hT, ↓bL_g14 hT, ↓bL_g15 hT, ↓bL_g16 hT, ↓bL_g17 hT, ↓bL_ld1 hT, ↓bL_ld2 hT, ↓bL_ld3 hT, ↓bL_ld4 hT, ↓bL_ld5 hT, ↓bL_ld6 hT, ↓bL_ld7 hT, ↓bL_ld8 hT, ↓bL_ld9 hT, ↓bL_ld10 hT, ↓bL_ld11 hT, ↓bL_ld12 hT, ↓bL_st1 hT, ↓bL_st2 hT, ↓bL_st3 hT, ↓bL_st4 hT, ↓bL_st5 hT, ↓bL_st6 hT, ↓bL_st7 hT, ↓bL_st8 hT, ↓bL_st9 hT, ↓bL_st10 hT, ↓bL_st11 hT, ↓bL_st12 hT, ↓bnd ht, ↓bi8, ↓bnd hd]
    unfold cuV
    by_cases x0 : x = 0
    · simp (disch := omega) only [↓i_lt_t, ↓i_lt_f, ↓i_eq_t, ↓i_eq_f, ↓i_bi_t, ↓i_bi_f, ↓i_some, if_pos x0, ↓bC_g0 hC, ↓bC_g1 hC, ↓bC_g2 hC, ↓bC_g3 hC, ↓bC_g4 hC, ↓bC_g5 hC, ↓bC_g6 hC, ↓bC_g7 hC, ↓bC_g8 hC, ↓bC_g9 hC, ↓bC_g10 hC, ↓bC_inv hC, ↓bt, e3]
    · by_cases x1 : x = 1
      · simp (disch := omega) only [↓i_lt_t, ↓i_lt_f, ↓i_eq_t, ↓i_eq_f, ↓i_bi_t, ↓i_bi_f, ↓i_some, if_neg x0, if_pos x1, ↓bC_g0 hC, ↓bC_g1 hC, ↓bC_g2 hC, ↓bC_g3 hC, ↓bC_g4 hC, ↓bC_g5 hC, ↓bC_g6 hC, ↓bC_g7 hC, ↓bC_g8 hC, ↓bC_g9 hC, ↓bC_g10 hC, ↓bC_inv hC, ↓bL_inv hT, ↓bL_inv hH, ↓allQuenched_w hT ok16, ↓allQuenched_w hH ok3, m3, m16]
      · by_cases x2 : x = 2
        · simp (disch := omega) only [↓i_lt_t, ↓i_lt_f, ↓i_eq_t, ↓i_eq_f, ↓i_bi_t, ↓i_bi_f, ↓i_some, if_neg x0, if_neg x1, if_pos x2, ↓bC_g0 hC, ↓bC_g1 hC, ↓bC_g2 hC, ↓bC_g3 hC, ↓bC_g4 hC, ↓bC_g5 hC, ↓bC_g6 hC, ↓bC_g7 hC, ↓bC_g8 hC, ↓bC_g9 hC, ↓bC_g10 hC, ↓bC_inv hC, ↓bt, e4]
        · simp (disch := omega) only [↓i_lt_t, ↓i_lt_f, ↓i_eq_t, ↓i_eq_f, ↓i_bi_t, ↓i_bi_f, ↓i_some, if_neg x0, if_neg x1, if_neg x2, if_pos (show x = 3 by omega), ↓bC_g0 hC, ↓bC_g1 hC, ↓bC_g2 hC, ↓bC_g3 hC, ↓bC_g4 hC, ↓bC_g5 hC, ↓bC_g6 hC, ↓bC_g7 hC, ↓bC_g8 hC, ↓bC_g9 hC, ↓bC_g10 hC, ↓bC_inv hC, ↓bt, e5]
  · simp (disch := omega) only [jn, ↓i_lt_t, ↓i_lt_f, ↓i_eq_t, ↓i_eq_f, ↓i_bi_t, ↓i_bi_f, ↓i_some, ↓bC_g0 hC, ↓bC_g1 hC, ↓bC_g2 hC, ↓bC_g3 hC, ↓bC_g4 hC, ↓bC_g5 hC, ↓bC_g6 hC, ↓bC_g7 hC, ↓bC_g8 hC, ↓bC_g9 hC, ↓bC_g10 hC, ↓bC_inv hC, ↓bL_inv hH, ↓hasHouse_w hH hk0, ↓customRefusal_w hC hh0 hb, hc, ↓bL_gI hT, ↓bL_inv hT, ↓bL_g6 hT, ↓bL_g7 hT, ↓bL_g8 hT, ↓bL_g9 hT, ↓bL_g10 hT, ↓bL_g11 hT, ↓bL_g12 hT, ↓bL_g13 hT, ↓bL_g14 hT, ↓bL_g15 hT, ↓bL_g16 hT, ↓bL_g17 hT, ↓bL_ld1 hT, ↓bL_ld2 hT, ↓bL_ld3 hT, ↓bL_ld4 hT, ↓bL_ld5 hT, ↓bL_ld6 hT, ↓bL_ld7 hT, ↓bL_ld8 hT, ↓bL_ld9 hT, ↓bL_ld10 hT, ↓bL_ld11 hT, ↓bL_ld12 hT, ↓bL_st1 hT, ↓bL_st2 hT, ↓bL_st3 hT, ↓bL_st4 hT, ↓bL_st5 hT, ↓bL_st6 hT, ↓bL_st7 hT, ↓bL_st8 hT, ↓bL_st9 hT, ↓bL_st10 hT, ↓bL_st11 hT, ↓bL_st12 hT, ↓bnd ht, ↓bi8, ↓bnd hd, ↓had_w hT, ↓had_w hH, l3k, l16]
    unfold cuV
    rw [if_neg (by omega), if_neg (by omega), if_neg (by omega), if_neg (by omega), ← hm 5 _ (by decide) (by unfold lnL; rw [if_neg (by decide), if_pos (by decide)]; omega), ← hm 6 _ (by decide) (by unfold lnL; rw [if_neg (by decide), if_pos (by decide)]; omega)]
theorem custom_m (h : isM μ m) (hl : RLl l (s 1)) {b x : Int} (hb : -2147483648 ≤ b ∧ b < 2147483648) (hc : crF (l 0 2) b = 0) (hx : (0 ≤ x ∧ x ≤ 3) ∨ (10 ≤ x ∧ x < 10 + l 0 0)) (hn : 20000 ≤ n) : ∃ s' : Ld, FrW s s' ∧ s' 1 = s 1 ∧ mX11_custom n m b x (wi μ (wm I m s)) = some (cuV l (itr cuA 0 b.toNat (l, 0, 0, 0)) x, wi μ (wm I m s')) := by
  obtain ⟨hk, lr, lq, h0, h9⟩ := hl
  have hz := hk.1
  have hb1 : (1 ≤ b ∧ b ≤ 99) ∧ l 0 2 + b ≤ 9999 := by
    unfold crF at hc
    split at hc
    · omega
    · split at hc <;> omega
  have r1 : up2 s 0 0 0 1 = s 1 := up2_row (by decide)
  have q1 : up1 (up2 s 0 0 0) 6 (cpR 220 (up2 s 0 0 0 6) (up2 s 0 0 0 1)) 1 = s 1 := (up1_o (by decide)).trans r1
  have f0 : FrW s (up2 s 0 0 0) := (Fr.f0 s (Or.inl rfl)).w
  have e2 : up2 s 0 0 0 1 2 = l 0 2 := by rw [r1]; exact lq.1
  have e0 : up2 s 0 0 0 1 0 = l 0 0 := by rw [r1]; exact lr.1.1
  have sm := fun (t k : Ld) (hr : LR k (t 1)) (hq : LRq k (t 1)) (ok : okL k) => sumOf_eq (n := n) (I := I) (s := t) (l := k) h hr ok (b := 56) (by omega) (by omega)
  have sme : ∀ (t k : Ld), LR k (t 1) → LRq k (t 1) → okL k → mX11_sumOf n m 56 (wi μ (wm I m t)) = some (sm5 k, wi μ (wm I m t)) := fun t k hr hq ok => by
    have e := sm t k hr hq ok
    have hz' := ok.1
    rw [show ((56 : Nat) : Int) = 56 from rfl] at e
    rw [e]
    congr 2
    unfold sm5
    refine itr_cg (P := fun _ _ => True) _ _ _ trivial (fun j x _ hj _ => ⟨?_, trivial⟩)
    unfold smS
    rw [(hq.2 j (by omega)).1]
  obtain ⟨t, et, fr, r1', r2', ok', t20, t21⟩ := lives_eq (n := n) (I := I) (s := up1 (up2 s 0 0 0) 6 (cpR 220 (up2 s 0 0 0 6) (up2 s 0 0 0 1))) (l := l) h (by rw [q1]; exact lr) (by rw [q1]; exact lq) hk (b := b) (by omega) (by omega) (by omega) hn rfl
  have sm1 := sme (up1 (up2 s 0 0 0) 6 (cpR 220 (up2 s 0 0 0 6) (up2 s 0 0 0 1))) l (by rw [q1]; exact lr) (by rw [q1]; exact lq) hk
  have hf := cuA_fx hk b.toNat
  generalize itr cuA 0 b.toNat (l, 0, 0, 0) = u at et r1' r2' ok' t20 t21 hf ⊢
  have sm2 := sme t u.1 r1' r2' ok'
  have done := again fr
  have e6 : ∀ j : Nat, j < 220 → t 6 j = s 1 j := fun j hj => by
    rw [fr.1 6 (by decide) (by decide) (by decide), up1_s]
    unfold cpR
    rw [if_pos hj, r1]
  refine ⟨_, f0.tr done.1, done.2.trans r1, ?_⟩
  unfold mX11_custom
  rcases hx with hx | hx
  · simp (disch := omega) only [jn, ↓i_lt_t, ↓i_lt_f, ↓i_eq_t, ↓i_eq_f, ↓i_bi_t, ↓i_bi_f, ↓i_some, ↓bM_gI h, ↓bM_pI h, ↓bM_inv h, ↓bM_g1 h, ↓bM_g2 h, ↓bM_g3 h, ↓bM_g4 h, ↓bM_g15 h, ↓bM_g16 h, ↓bM_g22 h, ↓bM_g23 h, ↓bM_g24 h, ↓bM_g25 h, ↓bM_g28 h, ↓bM_g29 h, ↓bM_g30 h, ↓bM_g32 h, ↓bM_g33 h, ↓bM_g34 h, ↓bM_g36 h, ↓bM_g37 h, ↓bM_g41 h, ↓bM_g42 h, ↓bM_g43 h, ↓bM_ld1 h, ↓bM_ld2 h, ↓bM_ld3 h, ↓bM_ld4 h, ↓bM_ld5 h, ↓bM_ld6 h, ↓bM_ld7 h, ↓bM_ld8 h, ↓bM_ld9 h, ↓bM_ld10 h, ↓bM_ld11 h, ↓bM_ld12 h, ↓bM_ld13 h, ↓bM_ld14 h, ↓bM_ld15 h, ↓bM_ld16 h, ↓bM_ld17 h, ↓bM_ld18 h, ↓bM_ld19 h, ↓bM_ld20 h, ↓bM_ld21 h, ↓bM_st1 h, ↓bM_st2 h, ↓bM_st3 h, ↓bM_st4 h, ↓bM_st5 h, ↓bM_st6 h, ↓bM_st7 h, ↓bM_st8 h, ↓bM_st9 h, ↓bM_st10 h, ↓bM_st11 h, ↓bM_st12 h, ↓bM_st13 h, ↓bM_st14 h, ↓bM_st15 h, ↓bM_st16 h, ↓bM_st17 h, ↓bM_st18 h, ↓bM_st19 h, ↓bM_st20 h, ↓bM_st21 h, ↓within_w, Int.toNat_add, Int.toNat_mul, Int.toNat_natCast, Int.reduceToNat, Nat.reduceAdd, Nat.reduceMul, e2, ↓keeps_w h, ↓bnd sm1, ↓bnd et]
    unfold cuV
    by_cases x0 : x = 0
    · simp (disch := omega) only [↓i_lt_t, ↓i_lt_f, ↓i_eq_t, ↓i_eq_f, ↓i_bi_t, ↓i_bi_f, ↓i_some, if_pos x0, ↓bM_gI h, ↓bM_pI h, ↓bM_inv h, ↓bM_g1 h, ↓bM_g2 h, ↓bM_g3 h, ↓bM_g4 h, ↓bM_g15 h, ↓bM_g16 h, ↓bM_g22 h, ↓bM_g23 h, ↓bM_g24 h, ↓bM_g25 h, ↓bM_g28 h, ↓bM_g29 h, ↓bM_g30 h, ↓bM_g32 h, ↓bM_g33 h, ↓bM_g34 h, ↓bM_g36 h, ↓bM_g37 h, ↓bM_g41 h, ↓bM_g42 h, ↓bM_g43 h, ↓bM_ld1 h, ↓bM_ld2 h, ↓bM_ld3 h, ↓bM_ld4 h, ↓bM_ld5 h, ↓bM_ld6 h, ↓bM_ld7 h, ↓bM_ld8 h, ↓bM_ld9 h, ↓bM_ld10 h, ↓bM_ld11 h, ↓bM_ld12 h, ↓bM_ld13 h, ↓bM_ld14 h, ↓bM_ld15 h, ↓bM_ld16 h, ↓bM_ld17 h, ↓bM_ld18 h, ↓bM_ld19 h, ↓bM_ld20 h, ↓bM_ld21 h, ↓bM_st1 h, ↓bM_st2 h, ↓bM_st3 h, ↓bM_st4 h, ↓bM_st5 h, ↓bM_st6 h, ↓bM_st7 h, ↓bM_st8 h, ↓bM_st9 h, ↓bM_st10 h, ↓bM_st11 h, ↓bM_st12 h, ↓bM_st13 h, ↓bM_st14 h, ↓bM_st15 h, ↓bM_st16 h, ↓bM_st17 h, ↓bM_st18 h, ↓bM_st19 h, ↓bM_st20 h, ↓bM_st21 h, ↓isAgain_w h]
    · by_cases x1 : x = 1
      · simp (disch := omega) only [↓i_lt_t, ↓i_lt_f, ↓i_eq_t, ↓i_eq_f, ↓i_bi_t, ↓i_bi_f, ↓i_some, if_neg x0, if_pos x1, ↓bM_gI h, ↓bM_pI h, ↓bM_inv h, ↓bM_g1 h, ↓bM_g2 h, ↓bM_g3 h, ↓bM_g4 h, ↓bM_g15 h, ↓bM_g16 h, ↓bM_g22 h, ↓bM_g23 h, ↓bM_g24 h, ↓bM_g25 h, ↓bM_g28 h, ↓bM_g29 h, ↓bM_g30 h, ↓bM_g32 h, ↓bM_g33 h, ↓bM_g34 h, ↓bM_g36 h, ↓bM_g37 h, ↓bM_g41 h, ↓bM_g42 h, ↓bM_g43 h, ↓bM_ld1 h, ↓bM_ld2 h, ↓bM_ld3 h, ↓bM_ld4 h, ↓bM_ld5 h, ↓bM_ld6 h, ↓bM_ld7 h, ↓bM_ld8 h, ↓bM_ld9 h, ↓bM_ld10 h, ↓bM_ld11 h, ↓bM_ld12 h, ↓bM_ld13 h, ↓bM_ld14 h, ↓bM_ld15 h, ↓bM_ld16 h, ↓bM_ld17 h, ↓bM_ld18 h, ↓bM_ld19 h, ↓bM_ld20 h, ↓bM_ld21 h, ↓bM_st1 h, ↓bM_st2 h, ↓bM_st3 h, ↓bM_st4 h, ↓bM_st5 h, ↓bM_st6 h, ↓bM_st7 h, ↓bM_st8 h, ↓bM_st9 h, ↓bM_st10 h, ↓bM_st11 h, ↓bM_st12 h, ↓bM_st13 h, ↓bM_st14 h, ↓bM_st15 h, ↓bM_st16 h, ↓bM_st17 h, ↓bM_st18 h, ↓bM_st19 h, ↓bM_st20 h, ↓bM_st21 h, ↓isAgain_w h, ↓bnd sm2]
      · by_cases x2 : x = 2
        · simp (disch := omega) only [↓i_lt_t, ↓i_lt_f, ↓i_eq_t, ↓i_eq_f, ↓i_bi_t, ↓i_bi_f, ↓i_some, if_neg x0, if_neg x1, if_pos x2, ↓bM_gI h, ↓bM_pI h, ↓bM_inv h, ↓bM_g1 h, ↓bM_g2 h, ↓bM_g3 h, ↓bM_g4 h, ↓bM_g15 h, ↓bM_g16 h, ↓bM_g22 h, ↓bM_g23 h, ↓bM_g24 h, ↓bM_g25 h, ↓bM_g28 h, ↓bM_g29 h, ↓bM_g30 h, ↓bM_g32 h, ↓bM_g33 h, ↓bM_g34 h, ↓bM_g36 h, ↓bM_g37 h, ↓bM_g41 h, ↓bM_g42 h, ↓bM_g43 h, ↓bM_ld1 h, ↓bM_ld2 h, ↓bM_ld3 h, ↓bM_ld4 h, ↓bM_ld5 h, ↓bM_ld6 h, ↓bM_ld7 h, ↓bM_ld8 h, ↓bM_ld9 h, ↓bM_ld10 h, ↓bM_ld11 h, ↓bM_ld12 h, ↓bM_ld13 h, ↓bM_ld14 h, ↓bM_ld15 h, ↓bM_ld16 h, ↓bM_ld17 h, ↓bM_ld18 h, ↓bM_ld19 h, ↓bM_ld20 h, ↓bM_ld21 h, ↓bM_st1 h, ↓bM_st2 h, ↓bM_st3 h, ↓bM_st4 h, ↓bM_st5 h, ↓bM_st6 h, ↓bM_st7 h, ↓bM_st8 h, ↓bM_st9 h, ↓bM_st10 h, ↓bM_st11 h, ↓bM_st12 h, ↓bM_st13 h, ↓bM_st14 h, ↓bM_st15 h, ↓bM_st16 h, ↓bM_st17 h, ↓bM_st18 h, ↓bM_st19 h, ↓bM_st20 h, ↓bM_st21 h, ↓isAgain_w h, t20]
        · simp (disch := omega) only [↓i_lt_t, ↓i_lt_f, ↓i_eq_t, ↓i_eq_f, ↓i_bi_t, ↓i_bi_f, ↓i_some, if_neg x0, if_neg x1, if_neg x2, if_pos (show x = 3 by omega), ↓bM_gI h, ↓bM_pI h, ↓bM_inv h, ↓bM_g1 h, ↓bM_g2 h, ↓bM_g3 h, ↓bM_g4 h, ↓bM_g15 h, ↓bM_g16 h, ↓bM_g22 h, ↓bM_g23 h, ↓bM_g24 h, ↓bM_g25 h, ↓bM_g28 h, ↓bM_g29 h, ↓bM_g30 h, ↓bM_g32 h, ↓bM_g33 h, ↓bM_g34 h, ↓bM_g36 h, ↓bM_g37 h, ↓bM_g41 h, ↓bM_g42 h, ↓bM_g43 h, ↓bM_ld1 h, ↓bM_ld2 h, ↓bM_ld3 h, ↓bM_ld4 h, ↓bM_ld5 h, ↓bM_ld6 h, ↓bM_ld7 h, ↓bM_ld8 h, ↓bM_ld9 h, ↓bM_ld10 h, ↓bM_ld11 h, ↓bM_ld12 h, ↓bM_ld13 h, ↓bM_ld14 h, ↓bM_ld15 h, ↓bM_ld16 h, ↓bM_ld17 h, ↓bM_ld18 h, ↓bM_ld19 h, ↓bM_ld20 h, ↓bM_ld21 h, ↓bM_st1 h, ↓bM_st2 h, ↓bM_st3 h, ↓bM_st4 h, ↓bM_st5 h, ↓bM_st6 h, ↓bM_st7 h, ↓bM_st8 h, ↓bM_st9 h, ↓bM_st10 h, ↓bM_st11 h, ↓bM_st12 h, ↓bM_st13 h, ↓bM_st14 h, ↓bM_st15 h, ↓bM_st16 h, ↓bM_st17 h, ↓bM_st18 h, ↓bM_st19 h, ↓bM_st20 h, ↓bM_st21 h, ↓isAgain_w h, t21]
  · have ew := oI2l_of (x := 9 + l 0 0) (by omega) (by omega)
    have ex : ((46 + x) - 10).toNat = 46 + (x - 10).toNat := by omega
    simp (disch := omega) only [jn, ↓i_lt_t, ↓i_lt_f, ↓i_eq_t, ↓i_eq_f, ↓i_bi_t, ↓i_bi_f, ↓i_some, ↓bM_gI h, ↓bM_pI h, ↓bM_inv h, ↓bM_g1 h, ↓bM_g2 h, ↓bM_g3 h, ↓bM_g4 h, ↓bM_g15 h, ↓bM_g16 h, ↓bM_g22 h, ↓bM_g23 h, ↓bM_g24 h, ↓bM_g25 h, ↓bM_g28 h, ↓bM_g29 h, ↓bM_g30 h, ↓bM_g32 h, ↓bM_g33 h, ↓bM_g34 h, ↓bM_g36 h, ↓bM_g37 h, ↓bM_g41 h, ↓bM_g42 h, ↓bM_g43 h, ↓bM_ld1 h, ↓bM_ld2 h, ↓bM_ld3 h, ↓bM_ld4 h, ↓bM_ld5 h, ↓bM_ld6 h, ↓bM_ld7 h, ↓bM_ld8 h, ↓bM_ld9 h, ↓bM_ld10 h, ↓bM_ld11 h, ↓bM_ld12 h, ↓bM_ld13 h, ↓bM_ld14 h, ↓bM_ld15 h, ↓bM_ld16 h, ↓bM_ld17 h, ↓bM_ld18 h, ↓bM_ld19 h, ↓bM_ld20 h, ↓bM_ld21 h, ↓bM_st1 h, ↓bM_st2 h, ↓bM_st3 h, ↓bM_st4 h, ↓bM_st5 h, ↓bM_st6 h, ↓bM_st7 h, ↓bM_st8 h, ↓bM_st9 h, ↓bM_st10 h, ↓bM_st11 h, ↓bM_st12 h, ↓bM_st13 h, ↓bM_st14 h, ↓bM_st15 h, ↓bM_st16 h, ↓bM_st17 h, ↓bM_st18 h, ↓bM_st19 h, ↓bM_st20 h, ↓bM_st21 h, ↓within_w, Int.toNat_add, Int.toNat_mul, Int.toNat_natCast, Int.reduceToNat, Nat.reduceAdd, Nat.reduceMul, e2, e0, ew, ↓keeps_w h, ↓bnd sm1, ↓bnd et, ↓isAgain_w h, ex, e6]
    unfold cuV
    rw [if_neg (by omega), if_neg (by omega), if_neg (by omega), if_neg (by omega), (r1'.2.1 (x - 10).toNat (by omega)).2.2.2.2, (lr.2.1 (x - 10).toNat (by omega)).2.2.2.2]
theorem both_custom (hC : isC μ c) (hM : isM μ (c + 193)) (hR : RelC c I) {b x : Int} (hb : -2147483648 ≤ b ∧ b < 2147483648) (hx : -2147483648 ≤ x ∧ x < 2147483648) (hn : 20000 ≤ n) : Both μ c I (mX10_custom n c b x) (mX11_custom n (c + 193) b x) := by
  obtain ⟨hk0, lr0, lq0, h0, h9⟩ := id hR.1
  have hz := hk0.1
  have hH := hC.here
  have hh0 : 0 ≤ I (c + 3) 2 ∧ I (c + 3) 2 ≤ 9999 := ⟨h0, h9.1⟩
  have s1 := s1_of (I := I) (J := I) (c := c) rfl
  have e0 : up2 (ld I (c + 193)) 0 0 0 1 0 = ld I (c + 3) 0 0 := by rw [s1]; exact lr0.1.1
  have e2 : up2 (ld I (c + 193)) 0 0 0 1 2 = I (c + 3) 2 := by rw [s1]; exact lq0.1
  have ew := oI2l_of (x := 9 + ld I (c + 3) 0 0) (by omega) (by omega)
  by_cases cx : (0 ≤ x ∧ x ≤ 3) ∨ (10 ≤ x ∧ x < 10 + ld I (c + 3) 0 0)
  · by_cases cr : crF (I (c + 3) 2) b = 0
    · obtain ⟨k, ht, hm⟩ := takeAll_w (n := n) (I := I) (a := c + 16) (b := c + 3) hC.trial hC.here (by omega)
      have hl := hm.rl hR.1
      have z2 : k 0 2 = I (c + 3) 2 := hm.z (by decide)
      have z0 : k 0 0 = ld I (c + 3) 0 0 := hm.z (by decide)
      obtain ⟨J, hJ, e1⟩ := custom_c (n := n) hC hk0 hh0 ht hm hl.1 (by omega) hb cr (by rw [z0]; exact cx) hn
      have j1 : ld J (c + 193) 1 = I (c + 193 + 1) := hJ _ (by unfold tmp; omega)
      obtain ⟨s', fw, es, e2⟩ := custom_m (n := n) (I := J) (s := ld J (c + 193)) (l := k) hM (by rw [j1]; exact hl) hb (by rw [z2]; exact cr) (by rw [z0]; exact cx) hn
      rw [ldwm] at e2
      refine Both.mk hR hJ.h e1 e2 fw ?_
      rw [es, j1]
      exact hR.1.cg (fun k hk => hJ _ (by unfold tmp; omega))
    · have rr : crF (I (c + 3) 2) b = if b < 1 ∨ 99 < b then -3 else -5 := by
        unfold crF at cr ⊢
        by_cases a1 : b < 1 ∨ 99 < b
        · rw [if_pos a1, if_pos a1]
        · rw [if_neg a1] at cr ⊢
          rw [if_neg a1]
          by_cases a2 : 9999 < I (c + 3) 2 + b
          · rw [if_pos a2]
          · rw [if_neg a2] at cr; omega
      have rn : -5 ≤ crF (I (c + 3) 2) b ∧ crF (I (c + 3) 2) b ≤ -3 := by rw [rr]; split <;> omega
      refine Both.q (v := crF (I (c + 3) 2) b) hR ?_ ?_
      · unfold mX10_custom
        rcases cx with cx | cx
        · simp (disch := omega) only [jn, ↓i_lt_t, ↓i_lt_f, ↓i_eq_t, ↓i_eq_f, ↓i_bi_t, ↓i_bi_f, ↓i_some, ↓bC_g0 hC, ↓bC_g1 hC, ↓bC_g2 hC, ↓bC_g3 hC, ↓bC_g4 hC, ↓bC_g5 hC, ↓bC_g6 hC, ↓bC_g7 hC, ↓bC_g8 hC, ↓bC_g9 hC, ↓bC_g10 hC, ↓bC_inv hC, ↓customRefusal_w hC hh0 hb]
        · simp (disch := omega) only [jn, ↓i_lt_t, ↓i_lt_f, ↓i_eq_t, ↓i_eq_f, ↓i_bi_t, ↓i_bi_f, ↓i_some, ↓bC_g0 hC, ↓bC_g1 hC, ↓bC_g2 hC, ↓bC_g3 hC, ↓bC_g4 hC, ↓bC_g5 hC, ↓bC_g6 hC, ↓bC_g7 hC, ↓bC_g8 hC, ↓bC_g9 hC, ↓bC_g10 hC, ↓bC_inv hC, ↓bL_inv hH, ↓hasHouse_w hH hk0, ↓customRefusal_w hC hh0 hb]
      · have key : b < 1 ∨ 99 < b ∨ ((1 ≤ b ∧ b ≤ 99) ∧ 9999 < I (c + 3) 2 + b) := by
          unfold crF at cr
          by_cases a1 : b < 1 ∨ 99 < b
          · omega
          · rw [if_neg a1] at cr
            by_cases a2 : 9999 < I (c + 3) 2 + b
            · omega
            · rw [if_neg a2] at cr; omega
        unfold mX11_custom
        by_cases a1 : b < 1 ∨ 99 < b
        · rw [rr, if_pos a1]
          rcases cx with cx | cx
          · simp (disch := omega) only [jn, ↓i_lt_t, ↓i_lt_f, ↓i_eq_t, ↓i_eq_f, ↓i_bi_t, ↓i_bi_f, ↓i_some, ↓bM_gI hM, ↓bM_pI hM, ↓bM_inv hM, ↓bM_g1 hM, ↓bM_g2 hM, ↓bM_g3 hM, ↓bM_g4 hM, ↓bM_g15 hM, ↓bM_g16 hM, ↓bM_g22 hM, ↓bM_g23 hM, ↓bM_g24 hM, ↓bM_g25 hM, ↓bM_g28 hM, ↓bM_g29 hM, ↓bM_g30 hM, ↓bM_g32 hM, ↓bM_g33 hM, ↓bM_g34 hM, ↓bM_g36 hM, ↓bM_g37 hM, ↓bM_g41 hM, ↓bM_g42 hM, ↓bM_g43 hM, ↓bM_ld1 hM, ↓bM_ld2 hM, ↓bM_ld3 hM, ↓bM_ld4 hM, ↓bM_ld5 hM, ↓bM_ld6 hM, ↓bM_ld7 hM, ↓bM_ld8 hM, ↓bM_ld9 hM, ↓bM_ld10 hM, ↓bM_ld11 hM, ↓bM_ld12 hM, ↓bM_ld13 hM, ↓bM_ld14 hM, ↓bM_ld15 hM, ↓bM_ld16 hM, ↓bM_ld17 hM, ↓bM_ld18 hM, ↓bM_ld19 hM, ↓bM_ld20 hM, ↓bM_ld21 hM, ↓bM_st1 hM, ↓bM_st2 hM, ↓bM_st3 hM, ↓bM_st4 hM, ↓bM_st5 hM, ↓bM_st6 hM, ↓bM_st7 hM, ↓bM_st8 hM, ↓bM_st9 hM, ↓bM_st10 hM, ↓bM_st11 hM, ↓bM_st12 hM, ↓bM_st13 hM, ↓bM_st14 hM, ↓bM_st15 hM, ↓bM_st16 hM, ↓bM_st17 hM, ↓bM_st18 hM, ↓bM_st19 hM, ↓bM_st20 hM, ↓bM_st21 hM, ↓within_w, Int.toNat_add, Int.toNat_mul, Int.toNat_natCast, Int.reduceToNat, Nat.reduceAdd, Nat.reduceMul, e0, ew]
          · simp (disch := omega) only [jn, ↓i_lt_t, ↓i_lt_f, ↓i_eq_t, ↓i_eq_f, ↓i_bi_t, ↓i_bi_f, ↓i_some, ↓bM_gI hM, ↓bM_pI hM, ↓bM_inv hM, ↓bM_g1 hM, ↓bM_g2 hM, ↓bM_g3 hM, ↓bM_g4 hM, ↓bM_g15 hM, ↓bM_g16 hM, ↓bM_g22 hM, ↓bM_g23 hM, ↓bM_g24 hM, ↓bM_g25 hM, ↓bM_g28 hM, ↓bM_g29 hM, ↓bM_g30 hM, ↓bM_g32 hM, ↓bM_g33 hM, ↓bM_g34 hM, ↓bM_g36 hM, ↓bM_g37 hM, ↓bM_g41 hM, ↓bM_g42 hM, ↓bM_g43 hM, ↓bM_ld1 hM, ↓bM_ld2 hM, ↓bM_ld3 hM, ↓bM_ld4 hM, ↓bM_ld5 hM, ↓bM_ld6 hM, ↓bM_ld7 hM, ↓bM_ld8 hM, ↓bM_ld9 hM, ↓bM_ld10 hM, ↓bM_ld11 hM, ↓bM_ld12 hM, ↓bM_ld13 hM, ↓bM_ld14 hM, ↓bM_ld15 hM, ↓bM_ld16 hM, ↓bM_ld17 hM, ↓bM_ld18 hM, ↓bM_ld19 hM, ↓bM_ld20 hM, ↓bM_ld21 hM, ↓bM_st1 hM, ↓bM_st2 hM, ↓bM_st3 hM, ↓bM_st4 hM, ↓bM_st5 hM, ↓bM_st6 hM, ↓bM_st7 hM, ↓bM_st8 hM, ↓bM_st9 hM, ↓bM_st10 hM, ↓bM_st11 hM, ↓bM_st12 hM, ↓bM_st13 hM, ↓bM_st14 hM, ↓bM_st15 hM, ↓bM_st16 hM, ↓bM_st17 hM, ↓bM_st18 hM, ↓bM_st19 hM, ↓bM_st20 hM, ↓bM_st21 hM, ↓within_w, Int.toNat_add, Int.toNat_mul, Int.toNat_natCast, Int.reduceToNat, Nat.reduceAdd, Nat.reduceMul, e0, ew]
        · rw [rr, if_neg a1]
          rcases cx with cx | cx
          · simp (disch := omega) only [jn, ↓i_lt_t, ↓i_lt_f, ↓i_eq_t, ↓i_eq_f, ↓i_bi_t, ↓i_bi_f, ↓i_some, ↓bM_gI hM, ↓bM_pI hM, ↓bM_inv hM, ↓bM_g1 hM, ↓bM_g2 hM, ↓bM_g3 hM, ↓bM_g4 hM, ↓bM_g15 hM, ↓bM_g16 hM, ↓bM_g22 hM, ↓bM_g23 hM, ↓bM_g24 hM, ↓bM_g25 hM, ↓bM_g28 hM, ↓bM_g29 hM, ↓bM_g30 hM, ↓bM_g32 hM, ↓bM_g33 hM, ↓bM_g34 hM, ↓bM_g36 hM, ↓bM_g37 hM, ↓bM_g41 hM, ↓bM_g42 hM, ↓bM_g43 hM, ↓bM_ld1 hM, ↓bM_ld2 hM, ↓bM_ld3 hM, ↓bM_ld4 hM, ↓bM_ld5 hM, ↓bM_ld6 hM, ↓bM_ld7 hM, ↓bM_ld8 hM, ↓bM_ld9 hM, ↓bM_ld10 hM, ↓bM_ld11 hM, ↓bM_ld12 hM, ↓bM_ld13 hM, ↓bM_ld14 hM, ↓bM_ld15 hM, ↓bM_ld16 hM, ↓bM_ld17 hM, ↓bM_ld18 hM, ↓bM_ld19 hM, ↓bM_ld20 hM, ↓bM_ld21 hM, ↓bM_st1 hM, ↓bM_st2 hM, ↓bM_st3 hM, ↓bM_st4 hM, ↓bM_st5 hM, ↓bM_st6 hM, ↓bM_st7 hM, ↓bM_st8 hM, ↓bM_st9 hM, ↓bM_st10 hM, ↓bM_st11 hM, ↓bM_st12 hM, ↓bM_st13 hM, ↓bM_st14 hM, ↓bM_st15 hM, ↓bM_st16 hM, ↓bM_st17 hM, ↓bM_st18 hM, ↓bM_st19 hM, ↓bM_st20 hM, ↓bM_st21 hM, ↓within_w, Int.toNat_add, Int.toNat_mul, Int.toNat_natCast, Int.reduceToNat, Nat.reduceAdd, Nat.reduceMul, e0, e2, ew]
          · simp (disch := omega) only [jn, ↓i_lt_t, ↓i_lt_f, ↓i_eq_t, ↓i_eq_f, ↓i_bi_t, ↓i_bi_f, ↓i_some, ↓bM_gI hM, ↓bM_pI hM, ↓bM_inv hM, ↓bM_g1 hM, ↓bM_g2 hM, ↓bM_g3 hM, ↓bM_g4 hM, ↓bM_g15 hM, ↓bM_g16 hM, ↓bM_g22 hM, ↓bM_g23 hM, ↓bM_g24 hM, ↓bM_g25 hM, ↓bM_g28 hM, ↓bM_g29 hM, ↓bM_g30 hM, ↓bM_g32 hM, ↓bM_g33 hM, ↓bM_g34 hM, ↓bM_g36 hM, ↓bM_g37 hM, ↓bM_g41 hM, ↓bM_g42 hM, ↓bM_g43 hM, ↓bM_ld1 hM, ↓bM_ld2 hM, ↓bM_ld3 hM, ↓bM_ld4 hM, ↓bM_ld5 hM, ↓bM_ld6 hM, ↓bM_ld7 hM, ↓bM_ld8 hM, ↓bM_ld9 hM, ↓bM_ld10 hM, ↓bM_ld11 hM, ↓bM_ld12 hM, ↓bM_ld13 hM, ↓bM_ld14 hM, ↓bM_ld15 hM, ↓bM_ld16 hM, ↓bM_ld17 hM, ↓bM_ld18 hM, ↓bM_ld19 hM, ↓bM_ld20 hM, ↓bM_ld21 hM, ↓bM_st1 hM, ↓bM_st2 hM, ↓bM_st3 hM, ↓bM_st4 hM, ↓bM_st5 hM, ↓bM_st6 hM, ↓bM_st7 hM, ↓bM_st8 hM, ↓bM_st9 hM, ↓bM_st10 hM, ↓bM_st11 hM, ↓bM_st12 hM, ↓bM_st13 hM, ↓bM_st14 hM, ↓bM_st15 hM, ↓bM_st16 hM, ↓bM_st17 hM, ↓bM_st18 hM, ↓bM_st19 hM, ↓bM_st20 hM, ↓bM_st21 hM, ↓within_w, Int.toNat_add, Int.toNat_mul, Int.toNat_natCast, Int.reduceToNat, Nat.reduceAdd, Nat.reduceMul, e0, e2, ew]
  · refine Both.q (v := -2) hR ?_ ?_
    · unfold mX10_custom
      by_cases a1 : x < 0
      · simp (disch := omega) only [jn, ↓i_lt_t, ↓i_lt_f, ↓i_eq_t, ↓i_eq_f, ↓i_bi_t, ↓i_bi_f, ↓i_some, ↓bC_g0 hC, ↓bC_g1 hC, ↓bC_g2 hC, ↓bC_g3 hC, ↓bC_g4 hC, ↓bC_g5 hC, ↓bC_g6 hC, ↓bC_g7 hC, ↓bC_g8 hC, ↓bC_g9 hC, ↓bC_g10 hC, ↓bC_inv hC]
      · by_cases a2 : x < 10
        · simp (disch := omega) only [jn, ↓i_lt_t, ↓i_lt_f, ↓i_eq_t, ↓i_eq_f, ↓i_bi_t, ↓i_bi_f, ↓i_some, ↓bC_g0 hC, ↓bC_g1 hC, ↓bC_g2 hC, ↓bC_g3 hC, ↓bC_g4 hC, ↓bC_g5 hC, ↓bC_g6 hC, ↓bC_g7 hC, ↓bC_g8 hC, ↓bC_g9 hC, ↓bC_g10 hC, ↓bC_inv hC]
        · simp (disch := omega) only [jn, ↓i_lt_t, ↓i_lt_f, ↓i_eq_t, ↓i_eq_f, ↓i_bi_t, ↓i_bi_f, ↓i_some, ↓bC_g0 hC, ↓bC_g1 hC, ↓bC_g2 hC, ↓bC_g3 hC, ↓bC_g4 hC, ↓bC_g5 hC, ↓bC_g6 hC, ↓bC_g7 hC, ↓bC_g8 hC, ↓bC_g9 hC, ↓bC_g10 hC, ↓bC_inv hC, ↓bL_inv hH, ↓hasHouse_w hH hk0]
    · unfold mX11_custom
      simp (disch := omega) only [jn, ↓i_lt_t, ↓i_lt_f, ↓i_eq_t, ↓i_eq_f, ↓i_bi_t, ↓i_bi_f, ↓i_some, ↓bM_gI hM, ↓bM_pI hM, ↓bM_inv hM, ↓bM_g1 hM, ↓bM_g2 hM, ↓bM_g3 hM, ↓bM_g4 hM, ↓bM_g15 hM, ↓bM_g16 hM, ↓bM_g22 hM, ↓bM_g23 hM, ↓bM_g24 hM, ↓bM_g25 hM, ↓bM_g28 hM, ↓bM_g29 hM, ↓bM_g30 hM, ↓bM_g32 hM, ↓bM_g33 hM, ↓bM_g34 hM, ↓bM_g36 hM, ↓bM_g37 hM, ↓bM_g41 hM, ↓bM_g42 hM, ↓bM_g43 hM, ↓bM_ld1 hM, ↓bM_ld2 hM, ↓bM_ld3 hM, ↓bM_ld4 hM, ↓bM_ld5 hM, ↓bM_ld6 hM, ↓bM_ld7 hM, ↓bM_ld8 hM, ↓bM_ld9 hM, ↓bM_ld10 hM, ↓bM_ld11 hM, ↓bM_ld12 hM, ↓bM_ld13 hM, ↓bM_ld14 hM, ↓bM_ld15 hM, ↓bM_ld16 hM, ↓bM_ld17 hM, ↓bM_ld18 hM, ↓bM_ld19 hM, ↓bM_ld20 hM, ↓bM_ld21 hM, ↓bM_st1 hM, ↓bM_st2 hM, ↓bM_st3 hM, ↓bM_st4 hM, ↓bM_st5 hM, ↓bM_st6 hM, ↓bM_st7 hM, ↓bM_st8 hM, ↓bM_st9 hM, ↓bM_st10 hM, ↓bM_st11 hM, ↓bM_st12 hM, ↓bM_st13 hM, ↓bM_st14 hM, ↓bM_st15 hM, ↓bM_st16 hM, ↓bM_st17 hM, ↓bM_st18 hM, ↓bM_st19 hM, ↓bM_st20 hM, ↓bM_st21 hM, ↓within_w, Int.toNat_add, Int.toNat_mul, Int.toNat_natCast, Int.reduceToNat, Nat.reduceAdd, Nat.reduceMul, e0, ew]
end CU
