/-! drought -/
section DR
variable {μ : Mem} {I : Nat → Nat → Int} {c m n : Nat} {s l : Ld} {β : Type}
theorem wrap32 (x : Int) : Int32.ofInt x = Int32.ofInt (Int32.ofInt x).toInt := by rw [Int32.ofInt_toInt]
theorem ushr16 (x : Int) : 0 ≤ oUshr x 16 ∧ oUshr x 16 < 65536 := by
  have h1 := Int32.minValue_le_toInt (Int32.ofInt x)
  have h2 := Int32.toInt_lt (Int32.ofInt x)
  have e1 : Int32.minValue.toInt = -2147483648 := by decide
  have e : oUshr x 16 = oUshr (Int32.ofInt x).toInt ((16 : Nat) : Int) := by unfold oUshr; rw [← wrap32]; rfl
  rw [e, oUshr_i (by omega) (by omega) (by decide) (by decide)]
  have q : (((Int32.ofInt x).toInt) % 4294967296).toNat < 4294967296 := by omega
  have : ((Int32.ofInt x).toInt % 4294967296).toNat / 2 ^ 16 < 65536 := by
    rw [show (2 : Nat) ^ 16 = 65536 from rfl]
    omega
  omega
theorem nth_range (hk : okL l) (h x : Int) : 0 ≤ nthL l h x ∧ nthL l h x < 17 := by
  have := oc_range hk h
  have u := ushr16 (1103515245 * x + 12345)
  unfold nthL
  rw [oRem_of (by omega) (by omega) (by omega) (by omega)]
  have a := Int.emod_nonneg (oUshr (1103515245 * x + 12345) 16) (show ocL l h + 1 ≠ 0 by omega)
  have b := Int.emod_lt_of_pos (oUshr (1103515245 * x + 12345) 16) (show 0 < ocL l h + 1 by omega)
  omega
theorem or_0 (h : Int) : orL l h 0 = -1 := by
  unfold orL
  have : ∀ (d k : Nat) (s : Int), 0 ≤ s → itx (orS l h 0) (fun _ => -1) k d s = -1 := by
    intro d
    induction d with
    | zero => intro k s _; rfl
    | succ d ih =>
      intro k s hs
      unfold itx
      by_cases c : hgP l k h ∧ l 9 k = 0
      · have e : orS l h 0 k s = .inl (s + 1) := by unfold orS; rw [if_pos c, if_neg (by omega)]
        rw [e]
        exact ih (k + 1) (s + 1) (by omega)
      · have e : orS l h 0 k s = .inl s := by unfold orS; rw [if_neg c]
        rw [e]
        exact ih (k + 1) s hs
  exact this _ _ _ (by omega)
/-- one hour's draws of the reference -/
theorem draws_m (h : isM μ m) (hl : LR l (s 1)) (hk : okL l) {x : Int} {y p : Nat → Int} (hp : ∀ j : Nat, j < 10 → p j = -1) (hn : 20000 ≤ n) {ρ : Type} {F : Int → Mem → Option (ρ × Mem)} : ∃ P : Nat → Int, (∀ j : Nat, (j : Int) < l 0 0 → P j = (dhQ l x y p).2.2 j) ∧ (∀ j : Nat, (j : Int) < l 0 0 → -1 ≤ P j ∧ P j < 16) ∧ lp (fun nx54 (v54 : Int × Int) (μ54 : Mem) =>
    (gA μ54 12 m 1).bind fun x57 =>
    (ldI μ54 0 x57 0).bind fun x61 =>
    if lt32 v54.2 x61 then
      (gA μ54 12 m 15).bind fun x76 =>
      (inv μ54 12 m (mX11_hanging n m v54.2 μ54)).bind fun p91 =>
      if Int32.ofInt (p91.1 + 1) = 0 then none else
      (inv p91.2 12 m (mX11_hangingAt n m v54.2 (oRem (oUshr ((1103515245 * v54.1) + 12345) 16) (p91.1 + 1)) p91.2)).bind fun p97 =>
      (stI p97.2 0 x76 v54.2 p97.1).bind fun μ100 =>
      nx54 (((1103515245 * v54.1) + 12345), (v54.2 + 1)) μ100
    else
    F v54.1 μ54) n (x, 0) (wi μ (wm I m s)) = F (dhQ l x y p).1 (wi μ (wm I m (up1 s 5 P))) := by
  have hz := hk.1
  refine lp_ind (fun d (v : Int × Int) ν => ∃ (q : Int × Ts) (P : Nat → Int) (k : Nat), ν = wi μ (wm I m (up1 s 5 P)) ∧ v = (q.1, (k : Int)) ∧ (k : Int) + d = l 0 0 ∧ (∀ j : Nat, j < k → P j = q.2.2 j ∧ -1 ≤ P j ∧ P j < 16) ∧ (∀ j : Nat, k ≤ j → j < 10 → q.2.2 j = -1) ∧ itr (dhS l) k d q = dhQ l x y p) (fun X => ∃ P : Nat → Int, (∀ j : Nat, (j : Int) < l 0 0 → P j = (dhQ l x y p).2.2 j) ∧ (∀ j : Nat, (j : Int) < l 0 0 → -1 ≤ P j ∧ P j < 16) ∧ X = F (dhQ l x y p).1 (wi μ (wm I m (up1 s 5 P)))) (fun d v ν nx hP hnx => ?_) n (l 0 0).toNat (x, 0) _ (by omega) ⟨(x, y, p), s 5, 0, by rw [up1_id], rfl, by omega, fun j hj => absurd hj (by omega), fun j _ hj => hp j hj, rfl⟩
  obtain ⟨q, P, k, rfl, rfl, h1, h2, h3, h4⟩ := hP
  have u1 : (up1 s 5 P) 1 = s 1 := up1_o (by decide)
  have e0 : (up1 s 5 P) 1 0 = l 0 0 := by rw [u1]; exact hl.1.1
  cases d with
  | zero =>
    have h4' : q = dhQ l x y p := h4
    simp (disch := omega) only [↓i_lt_t, ↓i_lt_f, ↓i_eq_t, ↓i_eq_f, ↓i_bi_t, ↓i_bi_f, ↓i_some, ↓bM_gI h, ↓bM_pI h, ↓bM_inv h, ↓bM_g1 h, ↓bM_g2 h, ↓bM_g3 h, ↓bM_g4 h, ↓bM_g15 h, ↓bM_g16 h, ↓bM_g22 h, ↓bM_g23 h, ↓bM_g24 h, ↓bM_g25 h, ↓bM_g28 h, ↓bM_g29 h, ↓bM_g30 h, ↓bM_g32 h, ↓bM_g33 h, ↓bM_g34 h, ↓bM_g36 h, ↓bM_g37 h, ↓bM_g41 h, ↓bM_g42 h, ↓bM_g43 h, ↓bM_ld1 h, ↓bM_ld2 h, ↓bM_ld3 h, ↓bM_ld4 h, ↓bM_ld5 h, ↓bM_ld6 h, ↓bM_ld7 h, ↓bM_ld8 h, ↓bM_ld9 h, ↓bM_ld10 h, ↓bM_ld11 h, ↓bM_ld12 h, ↓bM_ld13 h, ↓bM_ld14 h, ↓bM_ld15 h, ↓bM_ld16 h, ↓bM_ld17 h, ↓bM_ld18 h, ↓bM_ld19 h, ↓bM_ld20 h, ↓bM_ld21 h, ↓bM_st1 h, ↓bM_st2 h, ↓bM_st3 h, ↓bM_st4 h, ↓bM_st5 h, ↓bM_st6 h, ↓bM_st7 h, ↓bM_st8 h, ↓bM_st9 h, ↓bM_st10 h, ↓bM_st11 h, ↓bM_st12 h, ↓bM_st13 h, ↓bM_st14 h, ↓bM_st15 h, ↓bM_st16 h, ↓bM_st17 h, ↓bM_st18 h, ↓bM_st19 h, ↓bM_st20 h, ↓bM_st21 h, Int.toNat_add, Int.toNat_mul, Int.toNat_natCast, Int.reduceToNat, Nat.reduceAdd, Nat.reduceMul, e0]
    exact ⟨P, fun j hj => by rw [← h4']; exact (h2 j (by omega)).1, fun j hj => (h2 j (by omega)).2, by rw [← h4']⟩
  | succ d =>
    have hg := hanging_eq (n := n) (I := I) (s := up1 s 5 P) (l := l) h (by rw [u1]; exact hl) hk (b := k) (by omega) (by omega)
    have oc := oc_range hk (k : Int)
    have nr := nth_range hk (k : Int) q.1
    have ha := hangingAt_eq (n := n) (I := I) (s := up1 s 5 P) (l := l) h (by rw [u1]; exact hl) hk (b := k) (by omega) (x := nthL l k q.1) (by omega) (by omega)
    have orr := or_range hk (k : Int) (nthL l k q.1)
    unfold nthL at ha
    have nz : ¬ Int32.ofInt (ocL l (k : Int) + 1) = 0 := fun z => by
      have := congrArg Int32.toInt z
      rw [Int32.toInt_ofInt_of_le (by omega) (by omega)] at this
      have e1 : (0 : Int32).toInt = 0 := rfl
      omega
    simp (disch := omega) only [↓i_lt_t, ↓i_lt_f, ↓i_eq_t, ↓i_eq_f, ↓i_bi_t, ↓i_bi_f, ↓i_some, ↓bM_gI h, ↓bM_pI h, ↓bM_inv h, ↓bM_g1 h, ↓bM_g2 h, ↓bM_g3 h, ↓bM_g4 h, ↓bM_g15 h, ↓bM_g16 h, ↓bM_g22 h, ↓bM_g23 h, ↓bM_g24 h, ↓bM_g25 h, ↓bM_g28 h, ↓bM_g29 h, ↓bM_g30 h, ↓bM_g32 h, ↓bM_g33 h, ↓bM_g34 h, ↓bM_g36 h, ↓bM_g37 h, ↓bM_g41 h, ↓bM_g42 h, ↓bM_g43 h, ↓bM_ld1 h, ↓bM_ld2 h, ↓bM_ld3 h, ↓bM_ld4 h, ↓bM_ld5 h, ↓bM_ld6 h, ↓bM_ld7 h, ↓bM_ld8 h, ↓bM_ld9 h, ↓bM_ld10 h, ↓bM_ld11 h, ↓bM_ld12 h, ↓bM_ld13 h, ↓bM_ld14 h, ↓bM_ld15 h, ↓bM_ld16 h, ↓bM_ld17 h, ↓bM_ld18 h, ↓bM_ld19 h, ↓bM_ld20 h, ↓bM_ld21 h, ↓bM_st1 h, ↓bM_st2 h, ↓bM_st3 h, ↓bM_st4 h, ↓bM_st5 h, ↓bM_st6 h, ↓bM_st7 h, ↓bM_st8 h, ↓bM_st9 h, ↓bM_st10 h, ↓bM_st11 h, ↓bM_st12 h, ↓bM_st13 h, ↓bM_st14 h, ↓bM_st15 h, ↓bM_st16 h, ↓bM_st17 h, ↓bM_st18 h, ↓bM_st19 h, ↓bM_st20 h, ↓bM_st21 h, Int.toNat_add, Int.toNat_mul, Int.toNat_natCast, Int.reduceToNat, Nat.reduceAdd, Nat.reduceMul, e0, ↓bnd hg, ↓if_neg nz, ↓bnd ha]
    refine hnx d _ _ (by omega) ⟨dhS l k q, upA P k (orL l k (nthL l k q.1)), k + 1, by rw [up21]; rfl, ?_, by omega, fun j hj => ?_, fun j hj hj2 => ?_, h4⟩
    · unfold dhS
      split <;> rfl
    · by_cases e : j = k
      · subst e
        rw [upA_s]
        refine ⟨?_, orr⟩
        unfold dhS
        by_cases cc : lt32 0 (nthL l j q.1)
        · rw [if_pos cc]
          exact (upA_s).symm
        · rw [if_neg cc]
          have n0 : nthL l j q.1 = 0 := by
            by_cases z : 0 < nthL l j q.1
            · exact absurd ((lt32_iff (by omega) (by omega) (by omega) (by omega)).mpr z) cc
            · omega
          rw [n0, or_0]
          exact (h3 j (by omega) (by omega)).symm
      · rw [upA_n e]
        have g := h2 j (by omega)
        refine ⟨?_, g.2⟩
        rw [g.1]
        unfold dhS
        split
        · exact (upA_n e).symm
        · rfl
    · unfold dhS
      split
      · show upA q.2.2 k _ j = -1
        rw [upA_n (by omega)]
        exact h3 j (by omega) hj2
      · exact h3 j (by omega) hj2
theorem drought_m (h : isM μ m) (hl : RLl l (s 1)) {x b : Int} (hb : 1 ≤ b ∧ b ≤ 60) (h9 : l 0 2 + b ≤ 9999) {y p : Nat → Int} (hp : ∀ j : Nat, j < 10 → p j = -1) (hy : y 3 = 0) (hn : 20000 ≤ n) {z : Int × Ld × Ts} (hz : itr dhE 0 b.toNat (x, l, y, p) = z) : ∃ s' : Ld, FrW s s' ∧ RLl z.2.1 (s' 1) ∧ mX11_drought n m x b (wi μ (wm I m s)) = some (z.2.2.1 3, wi μ (wm I m s')) := by
  subst hz
  obtain ⟨hk, lr, lq, h0, h99⟩ := hl
  have r1 : up2 s 0 0 0 1 = s 1 := up2_row (by decide)
  have e2 : up2 s 0 0 0 1 2 = l 0 2 := by rw [r1]; exact lq.1
  unfold mX11_drought
  simp (disch := omega) only [↓i_lt_t, ↓i_lt_f, ↓i_eq_t, ↓i_eq_f, ↓i_bi_t, ↓i_bi_f, ↓i_some, ↓bM_gI h, ↓bM_pI h, ↓bM_inv h, ↓bM_g1 h, ↓bM_g2 h, ↓bM_g3 h, ↓bM_g4 h, ↓bM_g15 h, ↓bM_g16 h, ↓bM_g22 h, ↓bM_g23 h, ↓bM_g24 h, ↓bM_g25 h, ↓bM_g28 h, ↓bM_g29 h, ↓bM_g30 h, ↓bM_g32 h, ↓bM_g33 h, ↓bM_g34 h, ↓bM_g36 h, ↓bM_g37 h, ↓bM_g41 h, ↓bM_g42 h, ↓bM_g43 h, ↓bM_ld1 h, ↓bM_ld2 h, ↓bM_ld3 h, ↓bM_ld4 h, ↓bM_ld5 h, ↓bM_ld6 h, ↓bM_ld7 h, ↓bM_ld8 h, ↓bM_ld9 h, ↓bM_ld10 h, ↓bM_ld11 h, ↓bM_ld12 h, ↓bM_ld13 h, ↓bM_ld14 h, ↓bM_ld15 h, ↓bM_ld16 h, ↓bM_ld17 h, ↓bM_ld18 h, ↓bM_ld19 h, ↓bM_ld20 h, ↓bM_ld21 h, ↓bM_st1 h, ↓bM_st2 h, ↓bM_st3 h, ↓bM_st4 h, ↓bM_st5 h, ↓bM_st6 h, ↓bM_st7 h, ↓bM_st8 h, ↓bM_st9 h, ↓bM_st10 h, ↓bM_st11 h, ↓bM_st12 h, ↓bM_st13 h, ↓bM_st14 h, ↓bM_st15 h, ↓bM_st16 h, ↓bM_st17 h, ↓bM_st18 h, ↓bM_st19 h, ↓bM_st20 h, ↓bM_st21 h, ↓within_w, Int.toNat_add, Int.toNat_mul, Int.toNat_natCast, Int.reduceToNat, Nat.reduceAdd, Nat.reduceMul, e2]
  refine lp_ind (fun d (v : Int × Int × Int) ν => ∃ (q : Int × Ld × Ts) (t : Ld) (k : Nat), ν = wi μ (wm I m t) ∧ v = (q.1, q.2.2.1 3, (k : Int)) ∧ (k : Int) + d = b ∧ Fr (up2 s 0 0 0) t ∧ LR q.2.1 (t 1) ∧ LRq q.2.1 (t 1) ∧ (okL q.2.1 ∧ qnL q.2.1) ∧ q.2.1 0 2 = l 0 2 + k ∧ (∀ j : Nat, j < 10 → q.2.2.2 j = -1) ∧ itr dhE k d q = itr dhE 0 b.toNat (x, l, y, p)) (fun X => ∃ s' : Ld, FrW s s' ∧ RLl (itr dhE 0 b.toNat (x, l, y, p)).2.1 (s' 1) ∧ X = some ((itr dhE 0 b.toNat (x, l, y, p)).2.2.1 3, wi μ (wm I m s'))) (fun d v ν nx hP hnx => ?_) n b.toNat (x, 0, 0) _ (by omega) ⟨(x, l, y, p), _, 0, rfl, by show (x, (0 : Int), (0 : Int)) = (x, y 3, ((0 : Nat) : Int)); rw [hy]; rfl, by omega, Fr.rf _, by rw [r1]; exact lr, by rw [r1]; exact lq, ⟨hk, h99.2⟩, by show l 0 2 = l 0 2 + ((0 : Nat) : Int); omega, hp, rfl⟩
  obtain ⟨q, t, k, rfl, rfl, h1, ft, qr, qq, ⟨ok, okq⟩, hr, hpq, hZ⟩ := hP
  have okz := ok.1
  cases d with
  | zero =>
    have hZ' : q = itr dhE 0 b.toNat (x, l, y, p) := hZ
    simp (disch := omega) only [↓i_lt_t, ↓i_lt_f, ↓i_eq_t, ↓i_eq_f, ↓i_bi_t, ↓i_bi_f, ↓i_some]
    rw [← hZ']
    exact ⟨t, (Fr.f0 s (Or.inl rfl)).w.tr ft.w, ⟨ok, qr, qq, by omega, by omega, okq⟩, rfl⟩
  | succ d =>
    obtain ⟨P, hP1, hP2, eP⟩ := draws_m (n := n) (I := I) (s := t) (l := q.2.1) (x := q.1) (y := q.2.2.1) (p := q.2.2.2) h qr ok hpq hn (F := fun z ν => (inv ν 12 m (mX11_goes n m ν)).bind fun p110 => nx (z, (q.2.2.1 3 + p110.1), ((k : Int) + 1)) p110.2)
    simp (disch := omega) only [↓i_lt_t, ↓i_lt_f, ↓i_eq_t, ↓i_eq_f, ↓i_bi_t, ↓i_bi_f, ↓i_some]
    rw [eP]
    have u1 : (up1 t 5 P) 1 = t 1 := up1_o (by decide)
    have u5 : (up1 t 5 P) 5 = P := up1_s
    obtain ⟨A, eg, l2, -, q2, k2⟩ := goes_2w (n := n) (I := I) (s := up1 t 5 P) (l := q.2.1) h (by rw [u1]; exact qr) ok (by rw [u5]; intro j hj; have := hP2 j hj; omega) (by omega)
    have hcg : goL P q.2.1 = goL (dhQ q.2.1 q.1 q.2.2.1 q.2.2.2).2.2 q.2.1 := goL_cg' ok hP1
    rw [u5, hcg] at eg l2 q2
    simp (disch := omega) only [↓i_lt_t, ↓i_lt_f, ↓i_eq_t, ↓i_eq_f, ↓i_bi_t, ↓i_bi_f, ↓i_some, ↓bM_gI h, ↓bM_pI h, ↓bM_inv h, ↓bM_g1 h, ↓bM_g2 h, ↓bM_g3 h, ↓bM_g4 h, ↓bM_g15 h, ↓bM_g16 h, ↓bM_g22 h, ↓bM_g23 h, ↓bM_g24 h, ↓bM_g25 h, ↓bM_g28 h, ↓bM_g29 h, ↓bM_g30 h, ↓bM_g32 h, ↓bM_g33 h, ↓bM_g34 h, ↓bM_g36 h, ↓bM_g37 h, ↓bM_g41 h, ↓bM_g42 h, ↓bM_g43 h, ↓bM_ld1 h, ↓bM_ld2 h, ↓bM_ld3 h, ↓bM_ld4 h, ↓bM_ld5 h, ↓bM_ld6 h, ↓bM_ld7 h, ↓bM_ld8 h, ↓bM_ld9 h, ↓bM_ld10 h, ↓bM_ld11 h, ↓bM_ld12 h, ↓bM_ld13 h, ↓bM_ld14 h, ↓bM_ld15 h, ↓bM_ld16 h, ↓bM_ld17 h, ↓bM_ld18 h, ↓bM_ld19 h, ↓bM_ld20 h, ↓bM_ld21 h, ↓bM_st1 h, ↓bM_st2 h, ↓bM_st3 h, ↓bM_st4 h, ↓bM_st5 h, ↓bM_st6 h, ↓bM_st7 h, ↓bM_st8 h, ↓bM_st9 h, ↓bM_st10 h, ↓bM_st11 h, ↓bM_st12 h, ↓bM_st13 h, ↓bM_st14 h, ↓bM_st15 h, ↓bM_st16 h, ↓bM_st17 h, ↓bM_st18 h, ↓bM_st19 h, ↓bM_st20 h, ↓bM_st21 h, ↓bnd eg]
    have y3 : (dhQ q.2.1 q.1 q.2.2.1 q.2.2.2).2.1 3 = q.2.2.1 3 := by
      have := itr_inv (step := dhS q.2.1) (P := fun _ (z : Int × Ts) => z.2.1 3 = q.2.2.1 3) (q.2.1 0 0).toNat 0 (q.1, q.2.2.1, q.2.2.2) rfl (fun j z _ _ hz => by
        unfold dhS
        split
        · show upA z.2.1 7 (z.2.1 7 + 1) 3 = _
          rw [upA_n (by decide)]
          exact hz
        · exact hz)
      exact this
    refine hnx d _ _ (by omega) ⟨dhE k q, _, k + 1, rfl, ?_, by omega, ft.tr ((Fr.p5 t P).tr (Fr.w1 _ k2)), ?_, ?_, ⟨(goL_ok _ ok).1, okq.go ok (by omega)⟩, ?_, fun j hj => flR_lt hj, hZ⟩
    · have e3 : (dhE k q).2.2.1 3 = q.2.2.1 3 + (goL (dhQ q.2.1 q.1 q.2.2.1 q.2.2.2).2.2 q.2.1).2 := by
        show yE (dhQ q.2.1 q.1 q.2.2.1 q.2.2.2).2.1 _ 3 = _
        unfold yE
        rw [upA_n (by decide), upA_n (by decide), upA_n (by decide), upA_s, y3]
      rw [e3]
      rfl
    · rw [up1_s]; exact l2
    · rw [up1_s]; exact q2 (by rw [u1]; exact qq) (by omega)
    · show (goL _ q.2.1).1 0 2 = _
      rw [goL_hr, if_pos (by omega)]
      omega
theorem both_drought (hC : isC μ c) (hM : isM μ (c + 193)) (hR : RelC c I) {x b : Int} (hb : -2147483648 ≤ b ∧ b < 2147483648) (hn : 20000 ≤ n) : Both μ c I (mX10_drought n c x b) (mX11_drought n (c + 193) x b) := by
  obtain ⟨hk, lr, lq, h0, h9⟩ := id hR.1
  have hH := hC.here
  have hY := hC.ty
  have s1 := s1_of (I := I) (J := I) (c := c) rfl
  have e2 : up2 (ld I (c + 193)) 0 0 0 1 2 = ld I (c + 3) 0 2 := by rw [s1]; exact lq.1
  by_cases c1 : 1 ≤ b ∧ b ≤ 60
  · by_cases c2 : 9999 < ld I (c + 3) 0 2 + b
    · refine Both.q (v := -5) hR ?_ ?_
      · unfold mX10_drought
        simp (disch := omega) only [↓i_lt_t, ↓i_lt_f, ↓i_eq_t, ↓i_eq_f, ↓i_bi_t, ↓i_bi_f, ↓i_some, ↓bC_g0 hC, ↓bC_g1 hC, ↓bC_g2 hC, ↓bC_g3 hC, ↓bC_g4 hC, ↓bC_g5 hC, ↓bC_g6 hC, ↓bC_g7 hC, ↓bC_g8 hC, ↓bC_g9 hC, ↓bC_g10 hC, ↓bC_inv hC, ↓bL_gI hH, ↓bL_inv hH, ↓bL_g6 hH, ↓bL_g7 hH, ↓bL_g8 hH, ↓bL_g9 hH, ↓bL_g10 hH, ↓bL_g11 hH, ↓bL_g12 hH, ↓bL_g13 hH, ↓bL_g14 hH, ↓bL_g15 hH, ↓bL_g16 hH, ↓bL_g17 hH, ↓bL_ld1 hH, ↓bL_ld2 hH, ↓bL_ld3 hH, ↓bL_ld4 hH, ↓bL_ld5 hH, ↓bL_ld6 hH, ↓bL_ld7 hH, ↓bL_ld8 hH, ↓bL_ld9 hH, ↓bL_ld10 hH, ↓bL_ld11 hH, ↓bL_ld12 hH, ↓bL_st1 hH, ↓bL_st2 hH, ↓bL_st3 hH, ↓bL_st4 hH, ↓bL_st5 hH, ↓bL_st6 hH, ↓bL_st7 hH, ↓bL_st8 hH, ↓bL_st9 hH, ↓bL_st10 hH, ↓bL_st11 hH, ↓bL_st12 hH]
      · unfold mX11_drought
        simp (disch := omega) only [↓i_lt_t, ↓i_lt_f, ↓i_eq_t, ↓i_eq_f, ↓i_bi_t, ↓i_bi_f, ↓i_some, ↓bM_gI hM, ↓bM_pI hM, ↓bM_inv hM, ↓bM_g1 hM, ↓bM_g2 hM, ↓bM_g3 hM, ↓bM_g4 hM, ↓bM_g15 hM, ↓bM_g16 hM, ↓bM_g22 hM, ↓bM_g23 hM, ↓bM_g24 hM, ↓bM_g25 hM, ↓bM_g28 hM, ↓bM_g29 hM, ↓bM_g30 hM, ↓bM_g32 hM, ↓bM_g33 hM, ↓bM_g34 hM, ↓bM_g36 hM, ↓bM_g37 hM, ↓bM_g41 hM, ↓bM_g42 hM, ↓bM_g43 hM, ↓bM_ld1 hM, ↓bM_ld2 hM, ↓bM_ld3 hM, ↓bM_ld4 hM, ↓bM_ld5 hM, ↓bM_ld6 hM, ↓bM_ld7 hM, ↓bM_ld8 hM, ↓bM_ld9 hM, ↓bM_ld10 hM, ↓bM_ld11 hM, ↓bM_ld12 hM, ↓bM_ld13 hM, ↓bM_ld14 hM, ↓bM_ld15 hM, ↓bM_ld16 hM, ↓bM_ld17 hM, ↓bM_ld18 hM, ↓bM_ld19 hM, ↓bM_ld20 hM, ↓bM_ld21 hM, ↓bM_st1 hM, ↓bM_st2 hM, ↓bM_st3 hM, ↓bM_st4 hM, ↓bM_st5 hM, ↓bM_st6 hM, ↓bM_st7 hM, ↓bM_st8 hM, ↓bM_st9 hM, ↓bM_st10 hM, ↓bM_st11 hM, ↓bM_st12 hM, ↓bM_st13 hM, ↓bM_st14 hM, ↓bM_st15 hM, ↓bM_st16 hM, ↓bM_st17 hM, ↓bM_st18 hM, ↓bM_st19 hM, ↓bM_st20 hM, ↓bM_st21 hM, ↓within_w, Int.toNat_add, Int.toNat_mul, Int.toNat_natCast, Int.reduceToNat, Nat.reduceAdd, Nat.reduceMul, e2]
    · have hd := tdoDrawn (n := n) (I := I) (t := c + 32) (a := c + 3) (y := I (c + 32)) (p := I (c + 32 + 1)) (l := ld I (c + 3)) hH hY (by omega) hk (by omega) (x := x) (b := b) (by omega) hn rfl
      rw [wlwT_id] at hd
      have hm := fun J (hl : RLl (ld I (c + 3)) (ld J (c + 193) 1)) => drought_m (n := n) (μ := μ) (I := J) (s := ld J (c + 193)) (l := ld I (c + 3)) (x := x) (y := yB (I (c + 32))) (p := flR (I (c + 32 + 1)) 10 (-1)) hM hl c1 (by omega) (fun j hj => flR_lt hj) (by unfold yB; rw [upA_n (by decide), upA_n (by decide), upA_n (by decide), upA_s]) hn rfl
      generalize itr dhE 0 b.toNat (x, ld I (c + 3), yB (I (c + 32)), flR (I (c + 32 + 1)) 10 (-1)) = q at hd hm
      have oJ : CFh c I (wl (wT I (c + 32) q.2.2.1 q.2.2.2) (c + 3) q.2.1) := fun b h1 h2 => by
        unfold tmp at h1
        rw [wl_out (by omega), wT_o (by omega)]
      have y32 : (wl (wT I (c + 32) q.2.2.1 q.2.2.2) (c + 3) q.2.1) (c + 32) = q.2.2.1 := by rw [wl_out (by omega), wT_y]
      have l3 : ∀ k : Nat, k ≤ 12 → ld (wl (wT I (c + 32) q.2.2.1 q.2.2.2) (c + 3) q.2.1) (c + 3) k = q.2.1 k := fun k hk => wl_row hk
      generalize wl (wT I (c + 32) q.2.2.1 q.2.2.2) (c + 3) q.2.1 = J at hd oJ y32 l3
      have j1 : ld J (c + 193) 1 = I (c + 193 + 1) := oJ _ (by unfold tmp; omega) (by omega)
      obtain ⟨s', fw, hl', e⟩ := hm J (by rw [j1]; exact hR.1)
      rw [ldwm] at e
      have bt : ∀ (f : Int → Option (Int × Mem)), (gI (wi μ J) 8 (c + 32) 3).bind f = f (q.2.2.1 3) := fun f => (bnd (e_gI hY.k) f).trans (by rw [y32])
      have bi8 : ∀ {ρ : Type} {K : Nat → Nat → Int} (X : Option ρ) (f : ρ → Option (Int × Mem)), (inv (wi μ K) 8 (c + 32) X).bind f = X.bind f := fun X f => by rw [tinv hY]
      refine Both.mk hR oJ ?_ e fw (hl'.cg l3)
      unfold mX10_drought
      simp (disch := omega) only [↓i_lt_t, ↓i_lt_f, ↓i_eq_t, ↓i_eq_f, ↓i_bi_t, ↓i_bi_f, ↓i_some, ↓bC_g0 hC, ↓bC_g1 hC, ↓bC_g2 hC, ↓bC_g3 hC, ↓bC_g4 hC, ↓bC_g5 hC, ↓bC_g6 hC, ↓bC_g7 hC, ↓bC_g8 hC, ↓bC_g9 hC, ↓bC_g10 hC, ↓bC_inv hC, ↓bL_gI hH, ↓bL_inv hH, ↓bL_g6 hH, ↓bL_g7 hH, ↓bL_g8 hH, ↓bL_g9 hH, ↓bL_g10 hH, ↓bL_g11 hH, ↓bL_g12 hH, ↓bL_g13 hH, ↓bL_g14 hH, ↓bL_g15 hH, ↓bL_g16 hH, ↓bL_g17 hH, ↓bL_ld1 hH, ↓bL_ld2 hH, ↓bL_ld3 hH, ↓bL_ld4 hH, ↓bL_ld5 hH, ↓bL_ld6 hH, ↓bL_ld7 hH, ↓bL_ld8 hH, ↓bL_ld9 hH, ↓bL_ld10 hH, ↓bL_ld11 hH, ↓bL_ld12 hH, ↓bL_st1 hH, ↓bL_st2 hH, ↓bL_st3 hH, ↓bL_st4 hH, ↓bL_st5 hH, ↓bL_st6 hH, ↓bL_st7 hH, ↓bL_st8 hH, ↓bL_st9 hH, ↓bL_st10 hH, ↓bL_st11 hH, ↓bL_st12 hH, ↓bi8, ↓bnd hd, ↓bt]
  · refine Both.q (v := -3) hR ?_ ?_
    · unfold mX10_drought
      by_cases c4 : b < 1
      · simp (disch := omega) only [↓i_lt_t, ↓i_lt_f, ↓i_eq_t, ↓i_eq_f, ↓i_bi_t, ↓i_bi_f, ↓i_some]
      · simp (disch := omega) only [↓i_lt_t, ↓i_lt_f, ↓i_eq_t, ↓i_eq_f, ↓i_bi_t, ↓i_bi_f, ↓i_some]
    · unfold mX11_drought
      simp (disch := omega) only [↓i_lt_t, ↓i_lt_f, ↓i_eq_t, ↓i_eq_f, ↓i_bi_t, ↓i_bi_f, ↓i_some, ↓bM_gI hM, ↓bM_pI hM, ↓bM_inv hM, ↓bM_g1 hM, ↓bM_g2 hM, ↓bM_g3 hM, ↓bM_g4 hM, ↓bM_g15 hM, ↓bM_g16 hM, ↓bM_g22 hM, ↓bM_g23 hM, ↓bM_g24 hM, ↓bM_g25 hM, ↓bM_g28 hM, ↓bM_g29 hM, ↓bM_g30 hM, ↓bM_g32 hM, ↓bM_g33 hM, ↓bM_g34 hM, ↓bM_g36 hM, ↓bM_g37 hM, ↓bM_g41 hM, ↓bM_g42 hM, ↓bM_g43 hM, ↓bM_ld1 hM, ↓bM_ld2 hM, ↓bM_ld3 hM, ↓bM_ld4 hM, ↓bM_ld5 hM, ↓bM_ld6 hM, ↓bM_ld7 hM, ↓bM_ld8 hM, ↓bM_ld9 hM, ↓bM_ld10 hM, ↓bM_ld11 hM, ↓bM_ld12 hM, ↓bM_ld13 hM, ↓bM_ld14 hM, ↓bM_ld15 hM, ↓bM_ld16 hM, ↓bM_ld17 hM, ↓bM_ld18 hM, ↓bM_ld19 hM, ↓bM_ld20 hM, ↓bM_ld21 hM, ↓bM_st1 hM, ↓bM_st2 hM, ↓bM_st3 hM, ↓bM_st4 hM, ↓bM_st5 hM, ↓bM_st6 hM, ↓bM_st7 hM, ↓bM_st8 hM, ↓bM_st9 hM, ↓bM_st10 hM, ↓bM_st11 hM, ↓bM_st12 hM, ↓bM_st13 hM, ↓bM_st14 hM, ↓bM_st15 hM, ↓bM_st16 hM, ↓bM_st17 hM, ↓bM_st18 hM, ↓bM_st19 hM, ↓bM_st20 hM, ↓bM_st21 hM, ↓within_w]
end DR
