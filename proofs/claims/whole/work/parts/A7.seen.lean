/-! the reference's ways; seen and pulled of both -/
section SE
variable {μ : Mem} {I J : Nat → Nat → Int} {c m n N R : Nat} {s l : Ld} {β : Type}
/-- what the ways leave alone -/
def FrS (s s' : Ld) : Prop := (∀ k : Nat, k ≠ 0 → k ≠ 5 → s' k = s k) ∧ ∀ j : Nat, j ≠ 40 → s' 0 j = s 0 j
theorem FrS.tr {s t u : Ld} (h1 : FrS s t) (h2 : FrS t u) : FrS s u := ⟨fun k a b => (h2.1 k a b).trans (h1.1 k a b), fun j a => (h2.2 j a).trans (h1.2 j a)⟩
theorem ways_m (h : isM μ m) (hk : okL l) (hN : l 0 0 = (N : Int)) (hN6 : N ≤ 6) (hR : (R : Int) = l 0 1) {pr : Nat → Int} {i : Nat} (hi : i < 4) (hv : ∀ k : Nat, k < 60 → -9223372036854775808 ≤ pr k ∧ pr k < 9223372036854775808) (hn : 20000 ≤ n) : ∀ (d D q : Nat) (s : Ld) (p : Nat → Int), d < D → q + d = N → LR l (s 1) → (∀ k : Nat, k < R → s 21 (60 * i + k) = pr k) → (∀ j : Nat, j < q → s 5 j = p j ∧ -1 ≤ p j ∧ p j < 16) → (∀ j : Nat, j < 10 → -1 ≤ s 5 j ∧ s 5 j < 16) → ∃ s' : Ld, lp (bX11_waysFrom n) D (m, (q : Int), (i : Int)) (wi μ (wm I m s)) = some ((wF l pr R N d q p (s 0 40)).1, wi μ (wm I m s')) ∧ FrS s s' ∧ (∀ j : Nat, j < q → s' 5 j = p j) ∧ (∀ j : Nat, j < 10 → -1 ≤ s' 5 j ∧ s' 5 j < 16) ∧ s' 0 40 = (wF l pr R N d q p (s 0 40)).2 := by
  have hz := hk.1
  intro d
  induction d with
  | zero =>
    intro D q s p hD e hl h21 hp h5
    obtain ⟨D, rfl⟩ : ∃ D' : Nat, D = D' + 1 := ⟨D - 1, by omega⟩
    have eh : q = N := by omega
    subst eh
    show ∃ s' : Ld, bX11_waysFrom n (lp (bX11_waysFrom n) D) (m, (q : Int), (i : Int)) (wi μ (wm I m s)) = some ((wF l pr R q 0 q p (s 0 40)).1, wi μ (wm I m s')) ∧ _
    have a0 : s 1 0 = (q : Int) := hl.1.1.trans hN
    have a1 : s 1 1 = (R : Int) := hl.1.2.1.trans hR.symm
    have fcg : ∀ r : Nat, r < R → (fitR l pr (s 5) r ↔ fitR l pr p r) := fun r hr => by
      have g1 := hk.2.2.2 (2 * r) (by omega)
      have g2 := hk.2.2.2 (2 * r + 1) (by omega)
      exact fitR_cg (hp _ (by omega)).1 (hp _ (by omega)).1
    unfold bX11_waysFrom
    dsimp only
    rw [bM_g1 h, bM_ld1 h (by omega) (by omega), show s 1 (0 : Int).toNat = (q : Int) from a0, i_eq_t rfl]
    refine lp_ind (fun e (v : Int × Int) ν => ∃ k : Nat, ν = wi μ (wm I m s) ∧ v.2 = (k : Int) ∧ k + e = q ∧ itr (mskS p) k e v.1 = msk q p) (fun X => ∃ s' : Ld, X = some ((wF l pr R q 0 q p (s 0 40)).1, wi μ (wm I m s')) ∧ FrS s s' ∧ (∀ j : Nat, j < q → s' 5 j = p j) ∧ (∀ j : Nat, j < 10 → -1 ≤ s' 5 j ∧ s' 5 j < 16) ∧ s' 0 40 = (wF l pr R q 0 q p (s 0 40)).2) (fun e v ν nx hP hnx => ?_) n q _ _ (by omega) ⟨0, rfl, rfl, by omega, rfl⟩
    obtain ⟨k, rfl, e2, h1, hV⟩ := hP
    obtain ⟨x, kk⟩ := v
    dsimp only at e2 hV
    subst e2
    cases e with
    | zero =>
      have hV' : x = msk q p := hV
      simp (disch := omega) only [↓i_lt_t, ↓i_lt_f, ↓i_eq_t, ↓i_eq_f, ↓i_bi_t, ↓i_bi_f, ↓i_some, ↓bM_gI h, ↓bM_pI h, ↓bM_inv h, ↓bM_g1 h, ↓bM_g2 h, ↓bM_g3 h, ↓bM_g4 h, ↓bM_g15 h, ↓bM_g16 h, ↓bM_g22 h, ↓bM_g23 h, ↓bM_g24 h, ↓bM_g25 h, ↓bM_g28 h, ↓bM_g29 h, ↓bM_g30 h, ↓bM_g32 h, ↓bM_g33 h, ↓bM_g34 h, ↓bM_g36 h, ↓bM_g37 h, ↓bM_g41 h, ↓bM_g42 h, ↓bM_g43 h, ↓bM_ld1 h, ↓bM_ld2 h, ↓bM_ld3 h, ↓bM_ld4 h, ↓bM_ld5 h, ↓bM_ld6 h, ↓bM_ld7 h, ↓bM_ld8 h, ↓bM_ld9 h, ↓bM_ld10 h, ↓bM_ld11 h, ↓bM_ld12 h, ↓bM_ld13 h, ↓bM_ld14 h, ↓bM_ld15 h, ↓bM_ld16 h, ↓bM_ld17 h, ↓bM_ld18 h, ↓bM_ld19 h, ↓bM_ld20 h, ↓bM_ld21 h, ↓bM_st1 h, ↓bM_st2 h, ↓bM_st3 h, ↓bM_st4 h, ↓bM_st5 h, ↓bM_st6 h, ↓bM_st7 h, ↓bM_st8 h, ↓bM_st9 h, ↓bM_st10 h, ↓bM_st11 h, ↓bM_st12 h, ↓bM_st13 h, ↓bM_st14 h, ↓bM_st15 h, ↓bM_st16 h, ↓bM_st17 h, ↓bM_st18 h, ↓bM_st19 h, ↓bM_st20 h, ↓bM_st21 h, Int.toNat_add, Int.toNat_mul, Int.toNat_natCast, Int.reduceToNat, Nat.reduceAdd, Nat.reduceMul, a0]
      refine lp_ind (fun f (v : Int) ν => ∃ r : Nat, ν = wi μ (wm I m s) ∧ v = (r : Int) ∧ r + f = R ∧ ∀ r' : Nat, r' < r → fitR l pr p r') (fun X => ∃ s' : Ld, X = some ((wF l pr R q 0 q p (s 0 40)).1, wi μ (wm I m s')) ∧ FrS s s' ∧ (∀ j : Nat, j < q → s' 5 j = p j) ∧ (∀ j : Nat, j < 10 → -1 ≤ s' 5 j ∧ s' 5 j < 16) ∧ s' 0 40 = (wF l pr R q 0 q p (s 0 40)).2) (fun f v ν nx2 hP hnx2 => ?_) n R _ _ (by omega) ⟨0, rfl, rfl, by omega, fun r hr => by omega⟩
      obtain ⟨r, rfl, rfl, h2, h3⟩ := hP
      cases f with
      | zero =>
        have hw : wF l pr R q 0 q p (s 0 40) = (1, oAnd (s 0 40) (msk q p)) := if_pos (fun r' hr' => h3 r' (by omega))
        rw [hw]
        simp (disch := omega) only [↓i_lt_t, ↓i_lt_f, ↓i_eq_t, ↓i_eq_f, ↓i_bi_t, ↓i_bi_f, ↓i_some, ↓bM_gI h, ↓bM_pI h, ↓bM_inv h, ↓bM_g1 h, ↓bM_g2 h, ↓bM_g3 h, ↓bM_g4 h, ↓bM_g15 h, ↓bM_g16 h, ↓bM_g22 h, ↓bM_g23 h, ↓bM_g24 h, ↓bM_g25 h, ↓bM_g28 h, ↓bM_g29 h, ↓bM_g30 h, ↓bM_g32 h, ↓bM_g33 h, ↓bM_g34 h, ↓bM_g36 h, ↓bM_g37 h, ↓bM_g41 h, ↓bM_g42 h, ↓bM_g43 h, ↓bM_ld1 h, ↓bM_ld2 h, ↓bM_ld3 h, ↓bM_ld4 h, ↓bM_ld5 h, ↓bM_ld6 h, ↓bM_ld7 h, ↓bM_ld8 h, ↓bM_ld9 h, ↓bM_ld10 h, ↓bM_ld11 h, ↓bM_ld12 h, ↓bM_ld13 h, ↓bM_ld14 h, ↓bM_ld15 h, ↓bM_ld16 h, ↓bM_ld17 h, ↓bM_ld18 h, ↓bM_ld19 h, ↓bM_ld20 h, ↓bM_ld21 h, ↓bM_st1 h, ↓bM_st2 h, ↓bM_st3 h, ↓bM_st4 h, ↓bM_st5 h, ↓bM_st6 h, ↓bM_st7 h, ↓bM_st8 h, ↓bM_st9 h, ↓bM_st10 h, ↓bM_st11 h, ↓bM_st12 h, ↓bM_st13 h, ↓bM_st14 h, ↓bM_st15 h, ↓bM_st16 h, ↓bM_st17 h, ↓bM_st18 h, ↓bM_st19 h, ↓bM_st20 h, ↓bM_st21 h, Int.toNat_add, Int.toNat_mul, Int.toNat_natCast, Int.reduceToNat, Nat.reduceAdd, Nat.reduceMul, a1]
        rw [hV']
        exact ⟨_, rfl, ⟨fun k k0 _ => up2_row k0, fun j hj => up2_n (by omega)⟩, fun j hj => by rw [up2_row (by decide)]; exact (hp j hj).1, fun j hj => by rw [up2_row (by decide)]; exact h5 j hj, up2_s⟩
      | succ f =>
        have hr : (r : Int) < l 0 1 := by omega
        have dt := depthThen_eq (n := n) (I := I) (s := s) (l := l) h hl hk (fun j hj => by have := h5 j hj; omega) hr
        have g := hk.2.2.1 r hr
        have dr : 0 ≤ mvS (s 5) r l 8 r ∧ mvS (s 5) r l 8 r ≤ 9 := by
          have := db_range hk hr (bi (s 5 (l 10 (2 * r)).toNat = r)) (bi (s 5 (l 10 (2 * r + 1)).toNat = r))
          unfold mvS
          by_cases c9 : l 9 r = 0
          · rw [if_pos c9, up2_s]; omega
          · rw [if_neg c9]; omega
        have od := oI2l_of (x := mvS (s 5) r l 8 r) (by omega) (by omega)
        have v21 := h21 r (by omega)
        have vr := hv r (by omega)
        by_cases cf : mvS (s 5) r l 8 r = pr r
        · simp (disch := omega) only [↓i_lt_t, ↓i_lt_f, ↓i_eq_t, ↓i_eq_f, ↓i_bi_t, ↓i_bi_f, ↓i_some, ↓bM_gI h, ↓bM_pI h, ↓bM_inv h, ↓bM_g1 h, ↓bM_g2 h, ↓bM_g3 h, ↓bM_g4 h, ↓bM_g15 h, ↓bM_g16 h, ↓bM_g22 h, ↓bM_g23 h, ↓bM_g24 h, ↓bM_g25 h, ↓bM_g28 h, ↓bM_g29 h, ↓bM_g30 h, ↓bM_g32 h, ↓bM_g33 h, ↓bM_g34 h, ↓bM_g36 h, ↓bM_g37 h, ↓bM_g41 h, ↓bM_g42 h, ↓bM_g43 h, ↓bM_ld1 h, ↓bM_ld2 h, ↓bM_ld3 h, ↓bM_ld4 h, ↓bM_ld5 h, ↓bM_ld6 h, ↓bM_ld7 h, ↓bM_ld8 h, ↓bM_ld9 h, ↓bM_ld10 h, ↓bM_ld11 h, ↓bM_ld12 h, ↓bM_ld13 h, ↓bM_ld14 h, ↓bM_ld15 h, ↓bM_ld16 h, ↓bM_ld17 h, ↓bM_ld18 h, ↓bM_ld19 h, ↓bM_ld20 h, ↓bM_ld21 h, ↓bM_st1 h, ↓bM_st2 h, ↓bM_st3 h, ↓bM_st4 h, ↓bM_st5 h, ↓bM_st6 h, ↓bM_st7 h, ↓bM_st8 h, ↓bM_st9 h, ↓bM_st10 h, ↓bM_st11 h, ↓bM_st12 h, ↓bM_st13 h, ↓bM_st14 h, ↓bM_st15 h, ↓bM_st16 h, ↓bM_st17 h, ↓bM_st18 h, ↓bM_st19 h, ↓bM_st20 h, ↓bM_st21 h, Int.toNat_add, Int.toNat_mul, Int.toNat_natCast, Int.reduceToNat, Nat.reduceAdd, Nat.reduceMul, a1, ↓bnd dt, v21, od, ↓i_le_t]
          refine hnx2 f _ _ (by omega) ⟨r + 1, rfl, rfl, by omega, fun r' hr' => ?_⟩
          by_cases er : r' = r
          · subst er; exact (fcg r' (by omega)).mp cf
          · exact h3 r' (by omega)
        · have hw : wF l pr R q 0 q p (s 0 40) = (0, s 0 40) := if_neg (fun z => cf ((fcg r (by omega)).mpr (z r (by omega))))
          rw [hw]
          simp (disch := omega) only [↓i_lt_t, ↓i_lt_f, ↓i_eq_t, ↓i_eq_f, ↓i_bi_t, ↓i_bi_f, ↓i_some, ↓bM_gI h, ↓bM_pI h, ↓bM_inv h, ↓bM_g1 h, ↓bM_g2 h, ↓bM_g3 h, ↓bM_g4 h, ↓bM_g15 h, ↓bM_g16 h, ↓bM_g22 h, ↓bM_g23 h, ↓bM_g24 h, ↓bM_g25 h, ↓bM_g28 h, ↓bM_g29 h, ↓bM_g30 h, ↓bM_g32 h, ↓bM_g33 h, ↓bM_g34 h, ↓bM_g36 h, ↓bM_g37 h, ↓bM_g41 h, ↓bM_g42 h, ↓bM_g43 h, ↓bM_ld1 h, ↓bM_ld2 h, ↓bM_ld3 h, ↓bM_ld4 h, ↓bM_ld5 h, ↓bM_ld6 h, ↓bM_ld7 h, ↓bM_ld8 h, ↓bM_ld9 h, ↓bM_ld10 h, ↓bM_ld11 h, ↓bM_ld12 h, ↓bM_ld13 h, ↓bM_ld14 h, ↓bM_ld15 h, ↓bM_ld16 h, ↓bM_ld17 h, ↓bM_ld18 h, ↓bM_ld19 h, ↓bM_ld20 h, ↓bM_ld21 h, ↓bM_st1 h, ↓bM_st2 h, ↓bM_st3 h, ↓bM_st4 h, ↓bM_st5 h, ↓bM_st6 h, ↓bM_st7 h, ↓bM_st8 h, ↓bM_st9 h, ↓bM_st10 h, ↓bM_st11 h, ↓bM_st12 h, ↓bM_st13 h, ↓bM_st14 h, ↓bM_st15 h, ↓bM_st16 h, ↓bM_st17 h, ↓bM_st18 h, ↓bM_st19 h, ↓bM_st20 h, ↓bM_st21 h, Int.toNat_add, Int.toNat_mul, Int.toNat_natCast, Int.reduceToNat, Nat.reduceAdd, Nat.reduceMul, a1, ↓bnd dt, v21, od, ↓i_le_f]
          exact ⟨s, rfl, ⟨fun _ _ _ => rfl, fun _ _ => rfl⟩, fun j hj => (hp j hj).1, h5, rfl⟩
    | succ e =>
      have pk := hp k (by omega)
      have hV' : itr (mskS p) (k + 1) e (mskS p k x) = msk q p := hV
      unfold mskS at hV'
      by_cases cp : p k = -1
      · rw [if_pos cp] at hV'
        simp (disch := omega) only [jn, ↓i_lt_t, ↓i_lt_f, ↓i_eq_t, ↓i_eq_f, ↓i_bi_t, ↓i_bi_f, ↓i_some, ↓bM_gI h, ↓bM_pI h, ↓bM_inv h, ↓bM_g1 h, ↓bM_g2 h, ↓bM_g3 h, ↓bM_g4 h, ↓bM_g15 h, ↓bM_g16 h, ↓bM_g22 h, ↓bM_g23 h, ↓bM_g24 h, ↓bM_g25 h, ↓bM_g28 h, ↓bM_g29 h, ↓bM_g30 h, ↓bM_g32 h, ↓bM_g33 h, ↓bM_g34 h, ↓bM_g36 h, ↓bM_g37 h, ↓bM_g41 h, ↓bM_g42 h, ↓bM_g43 h, ↓bM_ld1 h, ↓bM_ld2 h, ↓bM_ld3 h, ↓bM_ld4 h, ↓bM_ld5 h, ↓bM_ld6 h, ↓bM_ld7 h, ↓bM_ld8 h, ↓bM_ld9 h, ↓bM_ld10 h, ↓bM_ld11 h, ↓bM_ld12 h, ↓bM_ld13 h, ↓bM_ld14 h, ↓bM_ld15 h, ↓bM_ld16 h, ↓bM_ld17 h, ↓bM_ld18 h, ↓bM_ld19 h, ↓bM_ld20 h, ↓bM_ld21 h, ↓bM_st1 h, ↓bM_st2 h, ↓bM_st3 h, ↓bM_st4 h, ↓bM_st5 h, ↓bM_st6 h, ↓bM_st7 h, ↓bM_st8 h, ↓bM_st9 h, ↓bM_st10 h, ↓bM_st11 h, ↓bM_st12 h, ↓bM_st13 h, ↓bM_st14 h, ↓bM_st15 h, ↓bM_st16 h, ↓bM_st17 h, ↓bM_st18 h, ↓bM_st19 h, ↓bM_st20 h, ↓bM_st21 h, Int.toNat_add, Int.toNat_mul, Int.toNat_natCast, Int.reduceToNat, Nat.reduceAdd, Nat.reduceMul, a0, pk.1]
        exact hnx e _ _ (by omega) ⟨k + 1, rfl, rfl, by omega, hV'⟩
      · rw [if_neg cp] at hV'
        simp (disch := omega) only [jn, ↓i_lt_t, ↓i_lt_f, ↓i_eq_t, ↓i_eq_f, ↓i_bi_t, ↓i_bi_f, ↓i_some, ↓bM_gI h, ↓bM_pI h, ↓bM_inv h, ↓bM_g1 h, ↓bM_g2 h, ↓bM_g3 h, ↓bM_g4 h, ↓bM_g15 h, ↓bM_g16 h, ↓bM_g22 h, ↓bM_g23 h, ↓bM_g24 h, ↓bM_g25 h, ↓bM_g28 h, ↓bM_g29 h, ↓bM_g30 h, ↓bM_g32 h, ↓bM_g33 h, ↓bM_g34 h, ↓bM_g36 h, ↓bM_g37 h, ↓bM_g41 h, ↓bM_g42 h, ↓bM_g43 h, ↓bM_ld1 h, ↓bM_ld2 h, ↓bM_ld3 h, ↓bM_ld4 h, ↓bM_ld5 h, ↓bM_ld6 h, ↓bM_ld7 h, ↓bM_ld8 h, ↓bM_ld9 h, ↓bM_ld10 h, ↓bM_ld11 h, ↓bM_ld12 h, ↓bM_ld13 h, ↓bM_ld14 h, ↓bM_ld15 h, ↓bM_ld16 h, ↓bM_ld17 h, ↓bM_ld18 h, ↓bM_ld19 h, ↓bM_ld20 h, ↓bM_ld21 h, ↓bM_st1 h, ↓bM_st2 h, ↓bM_st3 h, ↓bM_st4 h, ↓bM_st5 h, ↓bM_st6 h, ↓bM_st7 h, ↓bM_st8 h, ↓bM_st9 h, ↓bM_st10 h, ↓bM_st11 h, ↓bM_st12 h, ↓bM_st13 h, ↓bM_st14 h, ↓bM_st15 h, ↓bM_st16 h, ↓bM_st17 h, ↓bM_st18 h, ↓bM_st19 h, ↓bM_st20 h, ↓bM_st21 h, Int.toNat_add, Int.toNat_mul, Int.toNat_natCast, Int.reduceToNat, Nat.reduceAdd, Nat.reduceMul, a0, pk.1]
        exact hnx e _ _ (by omega) ⟨k + 1, rfl, rfl, by omega, hV'⟩
  | succ d ih =>
    intro D q s p hD e hl h21 hp h5
    obtain ⟨D, rfl⟩ : ∃ D' : Nat, D = D' + 1 := ⟨D - 1, by omega⟩
    show ∃ s' : Ld, bX11_waysFrom n (lp (bX11_waysFrom n) D) (m, (q : Int), (i : Int)) (wi μ (wm I m s)) = some ((wF l pr R N (d + 1) q p (s 0 40)).1, wi μ (wm I m s')) ∧ _
    have a0 : s 1 0 = (N : Int) := hl.1.1.trans hN
    have ih' := ih D
    generalize lp (bX11_waysFrom n) D = self at ih' ⊢
    unfold bX11_waysFrom
    dsimp only
    rw [bM_g1 h, bM_ld1 h (by omega) (by omega), show s 1 (0 : Int).toNat = (N : Int) from a0, i_eq_f (by omega)]
    generalize hst : (fun (i : Nat) (z : Int × Int) => @ite (Int × Int) (awL l q i) (Classical.propDecidable _) (z.1 + (wF l pr R N d (q + 1) (upA p q ((i : Int) - 1)) z.2).1, (wF l pr R N d (q + 1) (upA p q ((i : Int) - 1)) z.2).2) z) = stp
    have eW : wF l pr R N (d + 1) q p (s 0 40) = itr stp 0 (R + 1) (0, s 0 40) := by rw [← hst]; rfl
    rw [eW]
    refine lp_ind (fun e (v : Int × Int) ν => ∃ (t : Ld) (k : Nat) (z : Int × Int), ν = wi μ (wm I m t) ∧ v = (z.1, (k : Int) - 1) ∧ k + e = R + 1 ∧ FrS s t ∧ (∀ j : Nat, j < q → t 5 j = p j) ∧ (∀ j : Nat, j < 10 → -1 ≤ t 5 j ∧ t 5 j < 16) ∧ t 0 40 = z.2 ∧ itr stp k e z = itr stp 0 (R + 1) (0, s 0 40)) (fun X => ∃ s' : Ld, X = some ((itr stp 0 (R + 1) (0, s 0 40)).1, wi μ (wm I m s')) ∧ FrS s s' ∧ (∀ j : Nat, j < q → s' 5 j = p j) ∧ (∀ j : Nat, j < 10 → -1 ≤ s' 5 j ∧ s' 5 j < 16) ∧ s' 0 40 = (itr stp 0 (R + 1) (0, s 0 40)).2) (fun e v ν nx hP hnx => ?_) n (R + 1) _ _ (by omega) ⟨s, 0, (0, s 0 40), rfl, rfl, by omega, ⟨fun _ _ _ => rfl, fun _ _ => rfl⟩, fun j hj => (hp j hj).1, h5, rfl, rfl⟩
    obtain ⟨t, k, z, rfl, rfl, h1, ft, pt, t5, t40, hV⟩ := hP
    have t1 : t 1 = s 1 := ft.1 1 (by decide) (by decide)
    have lt : LR l (t 1) := by rw [t1]; exact hl
    have b1 : t 1 1 = (R : Int) := lt.1.2.1.trans hR.symm
    cases e with
    | zero =>
      have hV' : z = itr stp 0 (R + 1) (0, s 0 40) := hV
      simp (disch := omega) only [↓i_lt_t, ↓i_lt_f, ↓i_eq_t, ↓i_eq_f, ↓i_bi_t, ↓i_bi_f, ↓i_some, ↓bM_gI h, ↓bM_pI h, ↓bM_inv h, ↓bM_g1 h, ↓bM_g2 h, ↓bM_g3 h, ↓bM_g4 h, ↓bM_g15 h, ↓bM_g16 h, ↓bM_g22 h, ↓bM_g23 h, ↓bM_g24 h, ↓bM_g25 h, ↓bM_g28 h, ↓bM_g29 h, ↓bM_g30 h, ↓bM_g32 h, ↓bM_g33 h, ↓bM_g34 h, ↓bM_g36 h, ↓bM_g37 h, ↓bM_g41 h, ↓bM_g42 h, ↓bM_g43 h, ↓bM_ld1 h, ↓bM_ld2 h, ↓bM_ld3 h, ↓bM_ld4 h, ↓bM_ld5 h, ↓bM_ld6 h, ↓bM_ld7 h, ↓bM_ld8 h, ↓bM_ld9 h, ↓bM_ld10 h, ↓bM_ld11 h, ↓bM_ld12 h, ↓bM_ld13 h, ↓bM_ld14 h, ↓bM_ld15 h, ↓bM_ld16 h, ↓bM_ld17 h, ↓bM_ld18 h, ↓bM_ld19 h, ↓bM_ld20 h, ↓bM_ld21 h, ↓bM_st1 h, ↓bM_st2 h, ↓bM_st3 h, ↓bM_st4 h, ↓bM_st5 h, ↓bM_st6 h, ↓bM_st7 h, ↓bM_st8 h, ↓bM_st9 h, ↓bM_st10 h, ↓bM_st11 h, ↓bM_st12 h, ↓bM_st13 h, ↓bM_st14 h, ↓bM_st15 h, ↓bM_st16 h, ↓bM_st17 h, ↓bM_st18 h, ↓bM_st19 h, ↓bM_st20 h, ↓bM_st21 h, Int.toNat_add, Int.toNat_mul, Int.toNat_natCast, Int.reduceToNat, Nat.reduceAdd, Nat.reduceMul, b1]
      rw [← hV']
      exact ⟨t, rfl, ft, pt, t5, t40⟩
    | succ e =>
      have hV' : itr stp (k + 1) e (stp k z) = itr stp 0 (R + 1) (0, s 0 40) := hV
      -- a choice that may be
      have go : awL l q k → ∃ s' : Ld, ((gA (wi μ (wm I m t)) 12 m 15).bind fun x156 =>
          (stI (wi μ (wm I m t)) 0 x156 (q : Int) ((k : Int) - 1)).bind fun μ162 =>
          (inv μ162 12 m (self (m, ((q : Int) + 1), (i : Int)) μ162)).bind fun p169 =>
          nx ((z.1 + p169.1), (((k : Int) - 1) + 1)) p169.2) = some ((itr stp 0 (R + 1) (0, s 0 40)).1, wi μ (wm I m s')) ∧ FrS s s' ∧ (∀ j : Nat, j < q → s' 5 j = p j) ∧ (∀ j : Nat, j < 10 → -1 ≤ s' 5 j ∧ s' 5 j < 16) ∧ s' 0 40 = (itr stp 0 (R + 1) (0, s 0 40)).2 := by
        intro ca
        have es : stp k z = (z.1 + (wF l pr R N d (q + 1) (upA p q ((k : Int) - 1)) z.2).1, (wF l pr R N d (q + 1) (upA p q ((k : Int) - 1)) z.2).2) := by
          rw [← hst]
          exact if_pos ca
        rw [es] at hV'
        generalize hu : up2 t 5 q ((k : Int) - 1) = u
        have u40 : u 0 40 = z.2 := by rw [← hu, up2_row (by decide)]; exact t40
        have fu : FrS t u := ⟨fun a a0 a5 => by rw [← hu, up2_row a5], fun j _ => by rw [← hu, up2_row (by decide)]⟩
        obtain ⟨s3, e3, f3, p3, q3, w3⟩ := ih' (q + 1) u (upA p q ((k : Int) - 1)) (by omega) (by omega) (by rw [fu.1 1 (by decide) (by decide)]; exact lt) (fun k hk => by rw [fu.1 21 (by decide) (by decide), ft.1 21 (by decide) (by decide)]; exact h21 k hk) (fun j hj => by
          by_cases ej : j = q
          · rw [ej, ← hu, up2_s, upA_s]; omega
          · rw [upA_n ej, ← hu, up2_n (by omega), pt j (by omega)]; exact ⟨rfl, (hp j (by omega)).2⟩) (fun j hj => by
          by_cases ej : j = q
          · rw [ej, ← hu, up2_s]; omega
          · rw [← hu, up2_n (by omega)]; exact t5 j hj)
        rw [show (((q + 1 : Nat)) : Int) = (q : Int) + 1 from rfl, u40] at e3
        rw [u40] at w3
        simp (disch := omega) only [↓bM_gI h, ↓bM_pI h, ↓bM_inv h, ↓bM_g1 h, ↓bM_g2 h, ↓bM_g3 h, ↓bM_g4 h, ↓bM_g15 h, ↓bM_g16 h, ↓bM_g22 h, ↓bM_g23 h, ↓bM_g24 h, ↓bM_g25 h, ↓bM_g28 h, ↓bM_g29 h, ↓bM_g30 h, ↓bM_g32 h, ↓bM_g33 h, ↓bM_g34 h, ↓bM_g36 h, ↓bM_g37 h, ↓bM_g41 h, ↓bM_g42 h, ↓bM_g43 h, ↓bM_ld1 h, ↓bM_ld2 h, ↓bM_ld3 h, ↓bM_ld4 h, ↓bM_ld5 h, ↓bM_ld6 h, ↓bM_ld7 h, ↓bM_ld8 h, ↓bM_ld9 h, ↓bM_ld10 h, ↓bM_ld11 h, ↓bM_ld12 h, ↓bM_ld13 h, ↓bM_ld14 h, ↓bM_ld15 h, ↓bM_ld16 h, ↓bM_ld17 h, ↓bM_ld18 h, ↓bM_ld19 h, ↓bM_ld20 h, ↓bM_ld21 h, ↓bM_st1 h, ↓bM_st2 h, ↓bM_st3 h, ↓bM_st4 h, ↓bM_st5 h, ↓bM_st6 h, ↓bM_st7 h, ↓bM_st8 h, ↓bM_st9 h, ↓bM_st10 h, ↓bM_st11 h, ↓bM_st12 h, ↓bM_st13 h, ↓bM_st14 h, ↓bM_st15 h, ↓bM_st16 h, ↓bM_st17 h, ↓bM_st18 h, ↓bM_st19 h, ↓bM_st20 h, ↓bM_st21 h, Int.toNat_natCast, hu, ↓bnd e3]
        exact hnx e _ _ (by omega) ⟨s3, k + 1, (z.1 + (wF l pr R N d (q + 1) (upA p q ((k : Int) - 1)) z.2).1, (wF l pr R N d (q + 1) (upA p q ((k : Int) - 1)) z.2).2), rfl, by rw [show ((k + 1 : Nat) : Int) - 1 = (k : Int) - 1 + 1 by omega], by omega, ft.tr (fu.tr f3), fun j hj => by rw [p3 j (by omega), upA_n (by omega)], q3, w3, hV'⟩
      by_cases c0 : k = 0
      · subst c0
        have g := go (Or.inl rfl)
        rw [bM_g1 h, bM_ld1 h (by omega) (by omega), show t 1 (1 : Int).toNat = (R : Int) from b1, i_lt_t (by omega)]
        simp only [jn] at g ⊢
        rw [i_eq_t (by omega)]
        exact g
      · obtain ⟨r, rfl⟩ : ∃ r : Nat, k = r + 1 := ⟨k - 1, by omega⟩
        have er : ((r + 1 : Nat) : Int) - 1 = (r : Int) := by omega
        have hr : (r : Int) < l 0 1 := by omega
        rw [er] at go
        rw [er]
        by_cases ce : l 10 (2 * r) = (q : Int) ∨ l 10 (2 * r + 1) = (q : Int)
        · by_cases c9 : l 9 r = 0
          · have g := go (Or.inr ⟨by rw [Nat.add_sub_cancel]; exact ce, by rw [Nat.add_sub_cancel]; exact c9⟩)
            rw [bM_g1 h, bM_ld1 h (by omega) (by omega), show t 1 (1 : Int).toNat = (R : Int) from b1, i_lt_t (by omega)]
            simp only [jn] at g ⊢
            rw [i_eq_f (by omega), bM_inv h, isEnd_w h lt hk (by omega) hr]
            dsimp only
            rw [i_bi_t ce, bM_inv h, mhangs_w h lt hk hr]
            dsimp only
            rw [i_bi_t c9]
            exact g
          · have es : stp (r + 1) z = z := by
              rw [← hst]
              exact if_neg (fun w => w.elim (fun w => by omega) (fun w => c9 (by have := w.2; rw [Nat.add_sub_cancel] at this; exact this)))
            rw [es] at hV'
            simp (disch := omega) only [jn, ↓i_lt_t, ↓i_lt_f, ↓i_eq_t, ↓i_eq_f, ↓i_bi_t, ↓i_bi_f, ↓i_some, ↓bM_gI h, ↓bM_pI h, ↓bM_inv h, ↓bM_g1 h, ↓bM_g2 h, ↓bM_g3 h, ↓bM_g4 h, ↓bM_g15 h, ↓bM_g16 h, ↓bM_g22 h, ↓bM_g23 h, ↓bM_g24 h, ↓bM_g25 h, ↓bM_g28 h, ↓bM_g29 h, ↓bM_g30 h, ↓bM_g32 h, ↓bM_g33 h, ↓bM_g34 h, ↓bM_g36 h, ↓bM_g37 h, ↓bM_g41 h, ↓bM_g42 h, ↓bM_g43 h, ↓bM_ld1 h, ↓bM_ld2 h, ↓bM_ld3 h, ↓bM_ld4 h, ↓bM_ld5 h, ↓bM_ld6 h, ↓bM_ld7 h, ↓bM_ld8 h, ↓bM_ld9 h, ↓bM_ld10 h, ↓bM_ld11 h, ↓bM_ld12 h, ↓bM_ld13 h, ↓bM_ld14 h, ↓bM_ld15 h, ↓bM_ld16 h, ↓bM_ld17 h, ↓bM_ld18 h, ↓bM_ld19 h, ↓bM_ld20 h, ↓bM_ld21 h, ↓bM_st1 h, ↓bM_st2 h, ↓bM_st3 h, ↓bM_st4 h, ↓bM_st5 h, ↓bM_st6 h, ↓bM_st7 h, ↓bM_st8 h, ↓bM_st9 h, ↓bM_st10 h, ↓bM_st11 h, ↓bM_st12 h, ↓bM_st13 h, ↓bM_st14 h, ↓bM_st15 h, ↓bM_st16 h, ↓bM_st17 h, ↓bM_st18 h, ↓bM_st19 h, ↓bM_st20 h, ↓bM_st21 h, Int.toNat_add, Int.toNat_mul, Int.toNat_natCast, Int.reduceToNat, Nat.reduceAdd, Nat.reduceMul, b1, ↓isEnd_w h lt hk, ↓mhangs_w h lt hk]
            exact hnx e _ _ (by omega) ⟨t, r + 1 + 1, z, rfl, by rw [show ((r + 1 + 1 : Nat) : Int) - 1 = (r : Int) + 1 by omega], by omega, ft, pt, t5, t40, hV'⟩
        · have es : stp (r + 1) z = z := by
            rw [← hst]
            exact if_neg (fun w => w.elim (fun w => by omega) (fun w => ce (by have := w.1; rw [Nat.add_sub_cancel] at this; exact this)))
          rw [es] at hV'
          simp (disch := omega) only [jn, ↓i_lt_t, ↓i_lt_f, ↓i_eq_t, ↓i_eq_f, ↓i_bi_t, ↓i_bi_f, ↓i_some, ↓bM_gI h, ↓bM_pI h, ↓bM_inv h, ↓bM_g1 h, ↓bM_g2 h, ↓bM_g3 h, ↓bM_g4 h, ↓bM_g15 h, ↓bM_g16 h, ↓bM_g22 h, ↓bM_g23 h, ↓bM_g24 h, ↓bM_g25 h, ↓bM_g28 h, ↓bM_g29 h, ↓bM_g30 h, ↓bM_g32 h, ↓bM_g33 h, ↓bM_g34 h, ↓bM_g36 h, ↓bM_g37 h, ↓bM_g41 h, ↓bM_g42 h, ↓bM_g43 h, ↓bM_ld1 h, ↓bM_ld2 h, ↓bM_ld3 h, ↓bM_ld4 h, ↓bM_ld5 h, ↓bM_ld6 h, ↓bM_ld7 h, ↓bM_ld8 h, ↓bM_ld9 h, ↓bM_ld10 h, ↓bM_ld11 h, ↓bM_ld12 h, ↓bM_ld13 h, ↓bM_ld14 h, ↓bM_ld15 h, ↓bM_ld16 h, ↓bM_ld17 h, ↓bM_ld18 h, ↓bM_ld19 h, ↓bM_ld20 h, ↓bM_ld21 h, ↓bM_st1 h, ↓bM_st2 h, ↓bM_st3 h, ↓bM_st4 h, ↓bM_st5 h, ↓bM_st6 h, ↓bM_st7 h, ↓bM_st8 h, ↓bM_st9 h, ↓bM_st10 h, ↓bM_st11 h, ↓bM_st12 h, ↓bM_st13 h, ↓bM_st14 h, ↓bM_st15 h, ↓bM_st16 h, ↓bM_st17 h, ↓bM_st18 h, ↓bM_st19 h, ↓bM_st20 h, ↓bM_st21 h, Int.toNat_add, Int.toNat_mul, Int.toNat_natCast, Int.reduceToNat, Nat.reduceAdd, Nat.reduceMul, b1, ↓isEnd_w h lt hk]
          exact hnx e _ _ (by omega) ⟨t, r + 1 + 1, z, rfl, by rw [show ((r + 1 + 1 : Nat) : Int) - 1 = (r : Int) + 1 by omega], by omega, ft, pt, t5, t40, hV'⟩
theorem wF_c {pr : Nat → Int} {r : Nat} (hr : r < R) (hf : ∀ p : Nat → Int, ¬ fitR l pr p r) : ∀ (d h : Nat) (p : Nat → Int) (A : Int), wF l pr R N d h p A = (0, A)
  | 0, h, p, A => if_neg (fun z => hf p (z r hr))
  | d + 1, h, p, A => by
    have := itr_inv (step := fun i z => @ite (Int × Int) (awL l h i) (Classical.propDecidable _) (z.1 + (wF l pr R N d (h + 1) (upA p h ((i : Int) - 1)) z.2).1, (wF l pr R N d (h + 1) (upA p h ((i : Int) - 1)) z.2).2) z) (P := fun _ z => z = ((0 : Int), A)) (R + 1) 0 (0, A) rfl (fun j z _ _ hz => by
      subst hz
      try dsimp only
      by_cases c : awL l h j
      · rw [if_pos c, wF_c hr hf d (h + 1) _ A]
        rfl
      · rw [if_neg c])
    exact this
theorem watch_both (hC : isC μ c) (hM : isM μ (c + 193)) (hR : RelC c I) {i : Nat} (hi : i < 4) (hsz : I (c + 185 + 2 * i) 0 = ld I (c + 3) 0 1) (h6 : ld I (c + 3) 0 0 ≤ 6) (hn : 20000 ≤ n) : ∃ (v A : Int) (K' : Nat → Nat → Int) (s' : Ld), mX5_watch n (c + 156) (c + 3) (c + 185 + 2 * i) (wi μ I) = some ((), wi μ K') ∧ CF c I K' ∧ ld K' (c + 193) = ld I (c + 193) ∧ K' (c + 156) 0 = v ∧ K' (c + 156) 1 = A ∧ mX11_laysSeen n (c + 193) (i : Int) (wi μ (wm K' (c + 193) (up2 (ld I (c + 193)) 0 0 0))) = some (v, wi μ (wm K' (c + 193) s')) ∧ s' 0 40 = A ∧ FrW (ld I (c + 193)) s' ∧ s' 1 = I (c + 193 + 1) := by
  obtain ⟨hk, lr, lq, h0, h9⟩ := id hR.1
  have hz := hk.1
  have hH := hC.here
  have hT := hC.si
  have hN' := hC.row hi
  obtain ⟨r1, r2, r3, r4, r5⟩ := hR.2.2.1 i hi
  have s1 := s1_of (I := I) (J := I) (c := c) rfl
  obtain ⟨N, hN⟩ : ∃ N : Nat, ld I (c + 3) 0 0 = (N : Int) := ⟨(ld I (c + 3) 0 0).toNat, by omega⟩
  obtain ⟨R, hRR⟩ : ∃ R : Nat, (R : Int) = ld I (c + 3) 0 1 := ⟨(ld I (c + 3) 0 1).toNat, by omega⟩
  -- the class begins
  generalize hJ0 : up2 (up2 I (c + 156) 0 0) (c + 156) 1 (oShl 1 (ld I (c + 3) 0 0) - 1) = J0
  have fl := jfill_eq (n := n) (I := J0) (x := -1) hT.2.2.2.2 (by omega) hn
  generalize hJ1 : up1 J0 (c + 156 + 2) (flR (J0 (c + 156 + 2)) 10 (-1)) = J1 at fl
  have o1 : ∀ b : Nat, b ≠ c + 156 → b ≠ c + 156 + 2 → J1 b = I b := fun b n0 n2 => by
    rw [← hJ1]
    unfold up1
    rw [if_neg n2, ← hJ0, up2_row n0, up2_row n0]
  have j0 : J1 (c + 156) 0 = 0 := by
    rw [← hJ1]
    unfold up1
    rw [if_neg (by omega), ← hJ0, up2_n (by omega), up2_s]
  have j1 : J1 (c + 156) 1 = oShl 1 (ld I (c + 3) 0 0) - 1 := by
    rw [← hJ1]
    unfold up1
    rw [if_neg (by omega), ← hJ0, up2_s]
  have l1 : ∀ k : Nat, k ≤ 12 → ld J1 (c + 3) k = ld I (c + 3) k := fun k hk => o1 _ (by omega) (by omega)
  have g0 : J1 (c + 185 + 2 * i) = I (c + 185 + 2 * i) := o1 _ (by omega) (by omega)
  have g1 : J1 (c + 185 + 2 * i + 1) = I (c + 185 + 2 * i + 1) := o1 _ (by omega) (by omega)
  obtain ⟨K, e1, oK, fK⟩ := compare_eq (n := n) (J := J1) (a := c + 3) (t := c + 156) (g := c + 185 + 2 * i) hH hT hN' (by omega) (by omega) (hk.cg l1) (by rw [g0, l1 0 (by decide)]; exact hsz) (fun k hk => by rw [g1]; exact (r5 k hk).1) hn
  rw [g1] at e1 fK
  have lK : ∀ k : Nat, k ≤ 12 → ld K (c + 3) k = ld I (c + 3) k := fun k hk => (oK _ (by omega)).trans (l1 k hk)
  have lrK : LR (ld K (c + 3)) (I (c + 193 + 1)) := (RLl.cg lK hR.1).2.1
  have hkK : okL (ld K (c + 3)) := hk.cg lK
  have cutE : (∀ r : Nat, (r : Int) < ld J1 (c + 3) 0 1 → ld J1 (c + 3) 9 r ≠ 0 → ld J1 (c + 3) 8 r = I (c + 185 + 2 * i + 1) r) ↔ ∀ r : Nat, r < R → ld K (c + 3) 9 r ≠ 0 → ld K (c + 3) 8 r = I (c + 185 + 2 * i + 1) r := by
    rw [l1 0 (by decide), l1 9 (by decide), l1 8 (by decide), lK 9 (by decide), lK 8 (by decide)]
    exact ⟨fun z r hr => z r (by omega), fun z r hr => z r (by omega)⟩
  -- the reference
  obtain ⟨p0, hp0, en⟩ := nobody_eq (n := n) (I := J1) (s := up2 (ld I (c + 193)) 0 0 0) hM (by omega)
  have ref : ∀ K' : Nat → Nat → Int, ∃ s' : Ld, mX11_laysSeen n (c + 193) (i : Int) (wi μ (wm K' (c + 193) (up2 (ld I (c + 193)) 0 0 0))) = some ((wF (ld K (c + 3)) (I (c + 185 + 2 * i + 1)) R N N 0 (fun _ => -1) (oShl 1 (ld I (c + 3) 0 0) - 1)).1, wi μ (wm K' (c + 193) s')) ∧ s' 0 40 = (wF (ld K (c + 3)) (I (c + 185 + 2 * i + 1)) R N N 0 (fun _ => -1) (oShl 1 (ld I (c + 3) 0 0) - 1)).2 ∧ FrW (ld I (c + 193)) s' ∧ s' 1 = I (c + 193 + 1) := by
    intro K'
    obtain ⟨p0, hp0, en⟩ := nobody_eq (n := n) (I := K') (s := up2 (ld I (c + 193)) 0 0 0) hM (by omega)
    have t1 : up1 (up2 (ld I (c + 193)) 0 0 0) 5 p0 1 = I (c + 193 + 1) := (up1_o (by decide)).trans s1
    have t0 : up1 (up2 (ld I (c + 193)) 0 0 0) 5 p0 1 0 = ld I (c + 3) 0 0 := by rw [t1]; exact lr.1.1
    generalize hu : up2 (up1 (up2 (ld I (c + 193)) 0 0 0) 5 p0) 0 40 (oShl 1 (ld I (c + 3) 0 0) - 1) = u
    have u1 : u 1 = I (c + 193 + 1) := by rw [← hu, up2_row (by decide)]; exact t1
    have u40 : u 0 40 = oShl 1 (ld I (c + 3) 0 0) - 1 := by rw [← hu, up2_s]
    have u5 : u 5 = p0 := by rw [← hu, up2_row (by decide)]; exact up1_s
    have u21 : u 21 = I (c + 193 + 21) := by rw [← hu, up2_row (by decide), up1_o (by decide), up2_row (by decide)]; rfl
    obtain ⟨s', e3, f3, -, -, w3⟩ := ways_m (n := n) (I := K') (m := c + 193) (l := ld K (c + 3)) (N := N) (R := R) hM hkK (by rw [lK 0 (by decide)]; exact hN) (by omega) (by rw [lK 0 (by decide)]; exact hRR) (pr := I (c + 185 + 2 * i + 1)) hi (fun k hk => (r5 k hk).1) hn N 12 0 u (fun _ => -1) (by omega) (by omega) (by rw [u1]; exact lrK) (fun k hk => by rw [u21]; exact (r5 k (by omega)).2 (by omega)) (fun j hj => by omega) (fun j hj => by rw [u5, hp0 j hj]; omega)
    rw [u40] at e3 w3
    have e3' : mX11_waysFrom n (c + 193) 0 (i : Int) (wi μ (wm K' (c + 193) u)) = _ := e3
    refine ⟨s', ?_, w3, ?_, ?_⟩
    · unfold mX11_laysSeen
      simp (disch := omega) only [↓bM_gI hM, ↓bM_pI hM, ↓bM_inv hM, ↓bM_g1 hM, ↓bM_g2 hM, ↓bM_g3 hM, ↓bM_g4 hM, ↓bM_g15 hM, ↓bM_g16 hM, ↓bM_g22 hM, ↓bM_g23 hM, ↓bM_g24 hM, ↓bM_g25 hM, ↓bM_g28 hM, ↓bM_g29 hM, ↓bM_g30 hM, ↓bM_g32 hM, ↓bM_g33 hM, ↓bM_g34 hM, ↓bM_g36 hM, ↓bM_g37 hM, ↓bM_g41 hM, ↓bM_g42 hM, ↓bM_g43 hM, ↓bM_ld1 hM, ↓bM_ld2 hM, ↓bM_ld3 hM, ↓bM_ld4 hM, ↓bM_ld5 hM, ↓bM_ld6 hM, ↓bM_ld7 hM, ↓bM_ld8 hM, ↓bM_ld9 hM, ↓bM_ld10 hM, ↓bM_ld11 hM, ↓bM_ld12 hM, ↓bM_ld13 hM, ↓bM_ld14 hM, ↓bM_ld15 hM, ↓bM_ld16 hM, ↓bM_ld17 hM, ↓bM_ld18 hM, ↓bM_ld19 hM, ↓bM_ld20 hM, ↓bM_ld21 hM, ↓bM_st1 hM, ↓bM_st2 hM, ↓bM_st3 hM, ↓bM_st4 hM, ↓bM_st5 hM, ↓bM_st6 hM, ↓bM_st7 hM, ↓bM_st8 hM, ↓bM_st9 hM, ↓bM_st10 hM, ↓bM_st11 hM, ↓bM_st12 hM, ↓bM_st13 hM, ↓bM_st14 hM, ↓bM_st15 hM, ↓bM_st16 hM, ↓bM_st17 hM, ↓bM_st18 hM, ↓bM_st19 hM, ↓bM_st20 hM, ↓bM_st21 hM, ↓bnd en, Int.toNat_add, Int.toNat_mul, Int.toNat_natCast, Int.reduceToNat, Nat.reduceAdd, Nat.reduceMul, t0, hu, ↓bnd e3']
    · have g : ∀ k : Nat, k ≠ 0 → k ≠ 5 → s' k = ld I (c + 193) k := fun k n0 n5 => by rw [f3.1 k n0 n5, ← hu, up2_row n0, up1_o n5, up2_row n0]
      refine ⟨⟨g 2 (by decide) (by decide), g 3 (by decide) (by decide), g 19 (by decide) (by decide), g 20 (by decide) (by decide), g 21 (by decide) (by decide)⟩, fun j j0 j1 => ?_, fun j _ => by rw [g 1 (by decide) (by decide)]⟩
      rw [f3.2 j (by omega), ← hu, up2_n (by omega), up1_o (by decide), up2_n (by omega)]
    · rw [f3.1 1 (by decide) (by decide)]; exact u1
  by_cases cc : ∀ r : Nat, r < R → ld K (c + 3) 9 r ≠ 0 → ld K (c + 3) 8 r = I (c + 185 + 2 * i + 1) r
  · have ft := fK (cutE.mpr cc)
    have ftK : ftP (ld K (c + 3)) (I (c + 185 + 2 * i + 1)) K (c + 156) R := fun r w hr hw => by
      rw [ft r w (by rw [l1 0 (by decide)]; omega) hw]
      unfold dbL dfL plL wtL
      rw [l1 0 (by decide), l1 1 (by decide), l1 7 (by decide), l1 8 (by decide), l1 10 (by decide), l1 11 (by decide), l1 12 (by decide), lK 0 (by decide), lK 1 (by decide), lK 7 (by decide), lK 8 (by decide), lK 10 (by decide), lK 11 (by decide), lK 12 (by decide)]
    obtain ⟨K', e2, f2, -, w0, w1⟩ := choose_eq (n := n) (G := K) (a := c + 3) (t := c + 156) (N := N) (R := R) hH hT (by omega) hkK (by rw [lK 0 (by decide)]; exact hN) (by omega) (by rw [lK 0 (by decide)]; exact hRR) ftK cc hn N 12 0 K (fun _ => -1) 0 (by omega) (by omega) (fun _ _ _ => rfl) (fun j hj => by omega) (mk_0.cg (fun k => ⟨fun z => z.elim, fun z => by omega⟩)) (fun r hr _ hm => by
      have g1 := hkK.2.2.2 (2 * r) (by rw [lK 0 (by decide)]; omega)
      unfold mxE at hm
      omega)
    have e2' : mX5_choose n (c + 156) (c + 3) 0 0 (wi μ K) = some ((), wi μ K') := e2
    have kt : K (c + 156) = J1 (c + 156) := oK _ (by omega)
    rw [kt, j0, j1, Int.zero_add] at w0
    rw [kt, j1] at w1
    obtain ⟨s', q1, q2, q3, q4⟩ := ref K'
    refine ⟨_, _, K', s', ?_, fun b hb => ?_, funext fun k => ?_, w0, w1, q1, q2, q3, q4⟩
    · unfold mX5_watch
      simp (disch := omega) only [↓i_lt_t, ↓i_lt_f, ↓i_eq_t, ↓i_eq_f, ↓i_bi_t, ↓i_bi_f, ↓i_some, ↓bs_pI hT, ↓bL_gI hH, ↓bs_g3 hT, ↓bs_inv hT]
      rw [show ld (up2 I (c + 156) 0 0) (c + 3) 0 0 = ld I (c + 3) 0 0 from congrFun (up2_row (by omega)) 0, hJ0, bnd fl, bs_inv hT, bnd e1]
      dsimp only
      rw [i_bc_t (cutE.mpr cc), bs_inv hT, bnd e2']
    · unfold tmp at hb
      rw [f2 b (by omega) (by omega), oK b (by omega), o1 b (by omega) (by omega)]
    · show K' (c + 193 + k) = _
      rw [f2 _ (by omega) (by omega), oK _ (by omega), o1 _ (by omega) (by omega)]
      rfl
  · have bad : ∃ r : Nat, r < R ∧ ld K (c + 3) 9 r ≠ 0 ∧ ld K (c + 3) 8 r ≠ I (c + 185 + 2 * i + 1) r := Classical.byContradiction fun hn' => cc (fun r hr h9 => Classical.byContradiction fun z => hn' ⟨r, hr, h9, z⟩)
    obtain ⟨r, hr, h9', h8'⟩ := bad
    have w := wF_c (N := N) (l := ld K (c + 3)) (pr := I (c + 185 + 2 * i + 1)) hr (fun p => by
      unfold fitR mvS
      rw [if_neg h9']
      exact h8') N 0 (fun _ => -1) (oShl 1 (ld I (c + 3) 0 0) - 1)
    obtain ⟨s', q1, q2, q3, q4⟩ := ref K
    rw [w] at q1 q2
    refine ⟨0, oShl 1 (ld I (c + 3) 0 0) - 1, K, s', ?_, fun b hb => ?_, funext fun k => ?_, ?_, ?_, q1, q2, q3, q4⟩
    · unfold mX5_watch
      simp (disch := omega) only [↓i_lt_t, ↓i_lt_f, ↓i_eq_t, ↓i_eq_f, ↓i_bi_t, ↓i_bi_f, ↓i_some, ↓bs_pI hT, ↓bL_gI hH, ↓bs_g3 hT, ↓bs_inv hT]
      rw [show ld (up2 I (c + 156) 0 0) (c + 3) 0 0 = ld I (c + 3) 0 0 from congrFun (up2_row (by omega)) 0, hJ0, bnd fl, bs_inv hT, bnd e1]
      dsimp only
      rw [i_bc_f (fun z => cc (cutE.mp z))]
    · unfold tmp at hb
      rw [oK b (by omega), o1 b (by omega) (by omega)]
    · show K (c + 193 + k) = _
      rw [oK _ (by omega), o1 _ (by omega) (by omega)]
      rfl
    · rw [oK _ (by omega)]; exact j0
    · rw [oK _ (by omega)]; exact j1
/-- why a row can't be seen -/
def srF (I : Nat → Nat → Int) (c : Nat) (b : Int) : Int := if 0 ≤ b ∧ b ≤ 3 then (if I (c + 185 + 2 * b.toNat) 1 = -1 then -6 else if I (c + 185 + 2 * b.toNat) 0 = ld I (c + 3) 0 1 then (if 6 < ld I (c + 3) 0 0 then -4 else 0) else -7) else -2
theorem sightRefusal_eq (hC : isC μ c) (hR : RelC c I) {b : Int} (hb : -2147483648 ≤ b ∧ b < 2147483648) : mX10_sightRefusal n c b (wi μ I) = some (srF I c b, wi μ I) := by
  have hz := hR.1.1.1
  have hH := hC.here
  unfold mX10_sightRefusal srF
  by_cases c1 : 0 ≤ b ∧ b ≤ 3
  · obtain ⟨i, rfl⟩ : ∃ i : Nat, b = (i : Int) := ⟨b.toNat, by omega⟩
    have hi : i < 4 := by omega
    have hN := hC.row hi
    obtain ⟨r1, r2, r3, r4, r5⟩ := hR.2.2.1 i hi
    rw [if_pos c1, Int.toNat_natCast]
    by_cases c2 : I (c + 185 + 2 * i) 1 = -1
    · rw [if_pos c2]
      simp (disch := omega) only [↓i_lt_t, ↓i_lt_f, ↓i_eq_t, ↓i_eq_f, ↓i_bi_t, ↓i_bi_f, ↓i_some, ↓bC_g0 hC, ↓bC_g1 hC, ↓bC_g2 hC, ↓bC_g3 hC, ↓bC_g4 hC, ↓bC_g5 hC, ↓bC_g6 hC, ↓bC_g7 hC, ↓bC_g8 hC, ↓bC_g9 hC, ↓bC_g10 hC, ↓bC_inv hC, ↓isRow_w, ↓bC_row hC, ↓bN_inv hN, ↓isMissing_w hN]
    · rw [if_neg c2]
      by_cases c3 : I (c + 185 + 2 * i) 0 = ld I (c + 3) 0 1
      · rw [if_pos c3]
        by_cases c4 : 6 < ld I (c + 3) 0 0
        · rw [if_pos c4]
          simp (disch := omega) only [↓i_lt_t, ↓i_lt_f, ↓i_eq_t, ↓i_eq_f, ↓i_bi_t, ↓i_bi_f, ↓i_some, ↓bC_g0 hC, ↓bC_g1 hC, ↓bC_g2 hC, ↓bC_g3 hC, ↓bC_g4 hC, ↓bC_g5 hC, ↓bC_g6 hC, ↓bC_g7 hC, ↓bC_g8 hC, ↓bC_g9 hC, ↓bC_g10 hC, ↓bC_inv hC, ↓isRow_w, ↓bC_row hC, ↓bN_inv hN, ↓isMissing_w hN, ↓bN_gI hN, ↓bL_gI hH, ↓bL_inv hH, ↓bL_g6 hH, ↓bL_g7 hH, ↓bL_g8 hH, ↓bL_g9 hH, ↓bL_g10 hH, ↓bL_g11 hH, ↓bL_g12 hH, ↓bL_g13 hH, ↓bL_g14 hH, ↓bL_g15 hH, ↓bL_g16 hH, ↓bL_g17 hH, ↓bL_ld1 hH, ↓bL_ld2 hH, ↓bL_ld3 hH, ↓bL_ld4 hH, ↓bL_ld5 hH, ↓bL_ld6 hH, ↓bL_ld7 hH, ↓bL_ld8 hH, ↓bL_ld9 hH, ↓bL_ld10 hH, ↓bL_ld11 hH, ↓bL_ld12 hH, ↓bL_st1 hH, ↓bL_st2 hH, ↓bL_st3 hH, ↓bL_st4 hH, ↓bL_st5 hH, ↓bL_st6 hH, ↓bL_st7 hH, ↓bL_st8 hH, ↓bL_st9 hH, ↓bL_st10 hH, ↓bL_st11 hH, ↓bL_st12 hH]
        · rw [if_neg c4]
          simp (disch := omega) only [↓i_lt_t, ↓i_lt_f, ↓i_eq_t, ↓i_eq_f, ↓i_bi_t, ↓i_bi_f, ↓i_some, ↓bC_g0 hC, ↓bC_g1 hC, ↓bC_g2 hC, ↓bC_g3 hC, ↓bC_g4 hC, ↓bC_g5 hC, ↓bC_g6 hC, ↓bC_g7 hC, ↓bC_g8 hC, ↓bC_g9 hC, ↓bC_g10 hC, ↓bC_inv hC, ↓isRow_w, ↓bC_row hC, ↓bN_inv hN, ↓isMissing_w hN, ↓bN_gI hN, ↓bL_gI hH, ↓bL_inv hH, ↓bL_g6 hH, ↓bL_g7 hH, ↓bL_g8 hH, ↓bL_g9 hH, ↓bL_g10 hH, ↓bL_g11 hH, ↓bL_g12 hH, ↓bL_g13 hH, ↓bL_g14 hH, ↓bL_g15 hH, ↓bL_g16 hH, ↓bL_g17 hH, ↓bL_ld1 hH, ↓bL_ld2 hH, ↓bL_ld3 hH, ↓bL_ld4 hH, ↓bL_ld5 hH, ↓bL_ld6 hH, ↓bL_ld7 hH, ↓bL_ld8 hH, ↓bL_ld9 hH, ↓bL_ld10 hH, ↓bL_ld11 hH, ↓bL_ld12 hH, ↓bL_st1 hH, ↓bL_st2 hH, ↓bL_st3 hH, ↓bL_st4 hH, ↓bL_st5 hH, ↓bL_st6 hH, ↓bL_st7 hH, ↓bL_st8 hH, ↓bL_st9 hH, ↓bL_st10 hH, ↓bL_st11 hH, ↓bL_st12 hH]
      · rw [if_neg c3]
        simp (disch := omega) only [↓i_lt_t, ↓i_lt_f, ↓i_eq_t, ↓i_eq_f, ↓i_bi_t, ↓i_bi_f, ↓i_some, ↓bC_g0 hC, ↓bC_g1 hC, ↓bC_g2 hC, ↓bC_g3 hC, ↓bC_g4 hC, ↓bC_g5 hC, ↓bC_g6 hC, ↓bC_g7 hC, ↓bC_g8 hC, ↓bC_g9 hC, ↓bC_g10 hC, ↓bC_inv hC, ↓isRow_w, ↓bC_row hC, ↓bN_inv hN, ↓isMissing_w hN, ↓bN_gI hN, ↓bL_gI hH, ↓bL_inv hH, ↓bL_g6 hH, ↓bL_g7 hH, ↓bL_g8 hH, ↓bL_g9 hH, ↓bL_g10 hH, ↓bL_g11 hH, ↓bL_g12 hH, ↓bL_g13 hH, ↓bL_g14 hH, ↓bL_g15 hH, ↓bL_g16 hH, ↓bL_g17 hH, ↓bL_ld1 hH, ↓bL_ld2 hH, ↓bL_ld3 hH, ↓bL_ld4 hH, ↓bL_ld5 hH, ↓bL_ld6 hH, ↓bL_ld7 hH, ↓bL_ld8 hH, ↓bL_ld9 hH, ↓bL_ld10 hH, ↓bL_ld11 hH, ↓bL_ld12 hH, ↓bL_st1 hH, ↓bL_st2 hH, ↓bL_st3 hH, ↓bL_st4 hH, ↓bL_st5 hH, ↓bL_st6 hH, ↓bL_st7 hH, ↓bL_st8 hH, ↓bL_st9 hH, ↓bL_st10 hH, ↓bL_st11 hH, ↓bL_st12 hH]
  · rw [if_neg c1]
    simp (disch := omega) only [↓i_lt_t, ↓i_lt_f, ↓i_eq_t, ↓i_eq_f, ↓i_bi_t, ↓i_bi_f, ↓i_some, ↓bC_g0 hC, ↓bC_g1 hC, ↓bC_g2 hC, ↓bC_g3 hC, ↓bC_g4 hC, ↓bC_g5 hC, ↓bC_g6 hC, ↓bC_g7 hC, ↓bC_g8 hC, ↓bC_g9 hC, ↓bC_g10 hC, ↓bC_inv hC, ↓isRow_w]
theorem refusesSeen_eq (hM : isM μ (c + 193)) (hR : RelC c I) {b : Int} (hb : -2147483648 ≤ b ∧ b < 2147483648) : mX11_refusesSeen n (c + 193) b (wi μ (wm J (c + 193) (up2 (ld I (c + 193)) 0 0 0))) = some (srF I c b, wi μ (wm J (c + 193) (up2 (ld I (c + 193)) 0 0 0))) := by
  have hz := hR.1.1.1
  have s1 := s1_of (I := I) (J := I) (c := c) rfl
  have a0 : up2 (ld I (c + 193)) 0 0 0 1 0 = ld I (c + 3) 0 0 := by rw [s1]; exact hR.1.2.1.1.1
  have a1 : up2 (ld I (c + 193)) 0 0 0 1 1 = ld I (c + 3) 0 1 := by rw [s1]; exact hR.1.2.1.1.2.1
  unfold mX11_refusesSeen srF
  by_cases c1 : 0 ≤ b ∧ b ≤ 3
  · obtain ⟨i, rfl⟩ : ∃ i : Nat, b = (i : Int) := ⟨b.toNat, by omega⟩
    have hi : i < 4 := by omega
    obtain ⟨r1, r2, r3, r4, r5⟩ := hR.2.2.1 i hi
    have s19 : up2 (ld I (c + 193)) 0 0 0 19 i = I (c + 185 + 2 * i) 1 := (congrFun (up2_row (by decide)) i).trans r1.symm
    have s20 : up2 (ld I (c + 193)) 0 0 0 20 i = I (c + 185 + 2 * i) 0 := (congrFun (up2_row (by decide)) i).trans r3.symm
    rw [if_pos c1, Int.toNat_natCast]
    by_cases c2 : I (c + 185 + 2 * i) 1 = -1
    · rw [if_pos c2]
      simp (disch := omega) only [↓i_lt_t, ↓i_lt_f, ↓i_eq_t, ↓i_eq_f, ↓i_bi_t, ↓i_bi_f, ↓i_some, ↓bM_gI hM, ↓bM_pI hM, ↓bM_inv hM, ↓bM_g1 hM, ↓bM_g2 hM, ↓bM_g3 hM, ↓bM_g4 hM, ↓bM_g15 hM, ↓bM_g16 hM, ↓bM_g22 hM, ↓bM_g23 hM, ↓bM_g24 hM, ↓bM_g25 hM, ↓bM_g28 hM, ↓bM_g29 hM, ↓bM_g30 hM, ↓bM_g32 hM, ↓bM_g33 hM, ↓bM_g34 hM, ↓bM_g36 hM, ↓bM_g37 hM, ↓bM_g41 hM, ↓bM_g42 hM, ↓bM_g43 hM, ↓bM_ld1 hM, ↓bM_ld2 hM, ↓bM_ld3 hM, ↓bM_ld4 hM, ↓bM_ld5 hM, ↓bM_ld6 hM, ↓bM_ld7 hM, ↓bM_ld8 hM, ↓bM_ld9 hM, ↓bM_ld10 hM, ↓bM_ld11 hM, ↓bM_ld12 hM, ↓bM_ld13 hM, ↓bM_ld14 hM, ↓bM_ld15 hM, ↓bM_ld16 hM, ↓bM_ld17 hM, ↓bM_ld18 hM, ↓bM_ld19 hM, ↓bM_ld20 hM, ↓bM_ld21 hM, ↓bM_st1 hM, ↓bM_st2 hM, ↓bM_st3 hM, ↓bM_st4 hM, ↓bM_st5 hM, ↓bM_st6 hM, ↓bM_st7 hM, ↓bM_st8 hM, ↓bM_st9 hM, ↓bM_st10 hM, ↓bM_st11 hM, ↓bM_st12 hM, ↓bM_st13 hM, ↓bM_st14 hM, ↓bM_st15 hM, ↓bM_st16 hM, ↓bM_st17 hM, ↓bM_st18 hM, ↓bM_st19 hM, ↓bM_st20 hM, ↓bM_st21 hM, ↓within_w, Int.toNat_add, Int.toNat_mul, Int.toNat_natCast, Int.reduceToNat, Nat.reduceAdd, Nat.reduceMul, s19]
    · rw [if_neg c2]
      by_cases c3 : I (c + 185 + 2 * i) 0 = ld I (c + 3) 0 1
      · rw [if_pos c3]
        by_cases c4 : 6 < ld I (c + 3) 0 0
        · rw [if_pos c4]
          simp (disch := omega) only [↓i_lt_t, ↓i_lt_f, ↓i_eq_t, ↓i_eq_f, ↓i_bi_t, ↓i_bi_f, ↓i_some, ↓bM_gI hM, ↓bM_pI hM, ↓bM_inv hM, ↓bM_g1 hM, ↓bM_g2 hM, ↓bM_g3 hM, ↓bM_g4 hM, ↓bM_g15 hM, ↓bM_g16 hM, ↓bM_g22 hM, ↓bM_g23 hM, ↓bM_g24 hM, ↓bM_g25 hM, ↓bM_g28 hM, ↓bM_g29 hM, ↓bM_g30 hM, ↓bM_g32 hM, ↓bM_g33 hM, ↓bM_g34 hM, ↓bM_g36 hM, ↓bM_g37 hM, ↓bM_g41 hM, ↓bM_g42 hM, ↓bM_g43 hM, ↓bM_ld1 hM, ↓bM_ld2 hM, ↓bM_ld3 hM, ↓bM_ld4 hM, ↓bM_ld5 hM, ↓bM_ld6 hM, ↓bM_ld7 hM, ↓bM_ld8 hM, ↓bM_ld9 hM, ↓bM_ld10 hM, ↓bM_ld11 hM, ↓bM_ld12 hM, ↓bM_ld13 hM, ↓bM_ld14 hM, ↓bM_ld15 hM, ↓bM_ld16 hM, ↓bM_ld17 hM, ↓bM_ld18 hM, ↓bM_ld19 hM, ↓bM_ld20 hM, ↓bM_ld21 hM, ↓bM_st1 hM, ↓bM_st2 hM, ↓bM_st3 hM, ↓bM_st4 hM, ↓bM_st5 hM, ↓bM_st6 hM, ↓bM_st7 hM, ↓bM_st8 hM, ↓bM_st9 hM, ↓bM_st10 hM, ↓bM_st11 hM, ↓bM_st12 hM, ↓bM_st13 hM, ↓bM_st14 hM, ↓bM_st15 hM, ↓bM_st16 hM, ↓bM_st17 hM, ↓bM_st18 hM, ↓bM_st19 hM, ↓bM_st20 hM, ↓bM_st21 hM, ↓within_w, Int.toNat_add, Int.toNat_mul, Int.toNat_natCast, Int.reduceToNat, Nat.reduceAdd, Nat.reduceMul, s19, s20, a0, a1]
        · rw [if_neg c4]
          simp (disch := omega) only [↓i_lt_t, ↓i_lt_f, ↓i_eq_t, ↓i_eq_f, ↓i_bi_t, ↓i_bi_f, ↓i_some, ↓bM_gI hM, ↓bM_pI hM, ↓bM_inv hM, ↓bM_g1 hM, ↓bM_g2 hM, ↓bM_g3 hM, ↓bM_g4 hM, ↓bM_g15 hM, ↓bM_g16 hM, ↓bM_g22 hM, ↓bM_g23 hM, ↓bM_g24 hM, ↓bM_g25 hM, ↓bM_g28 hM, ↓bM_g29 hM, ↓bM_g30 hM, ↓bM_g32 hM, ↓bM_g33 hM, ↓bM_g34 hM, ↓bM_g36 hM, ↓bM_g37 hM, ↓bM_g41 hM, ↓bM_g42 hM, ↓bM_g43 hM, ↓bM_ld1 hM, ↓bM_ld2 hM, ↓bM_ld3 hM, ↓bM_ld4 hM, ↓bM_ld5 hM, ↓bM_ld6 hM, ↓bM_ld7 hM, ↓bM_ld8 hM, ↓bM_ld9 hM, ↓bM_ld10 hM, ↓bM_ld11 hM, ↓bM_ld12 hM, ↓bM_ld13 hM, ↓bM_ld14 hM, ↓bM_ld15 hM, ↓bM_ld16 hM, ↓bM_ld17 hM, ↓bM_ld18 hM, ↓bM_ld19 hM, ↓bM_ld20 hM, ↓bM_ld21 hM, ↓bM_st1 hM, ↓bM_st2 hM, ↓bM_st3 hM, ↓bM_st4 hM, ↓bM_st5 hM, ↓bM_st6 hM, ↓bM_st7 hM, ↓bM_st8 hM, ↓bM_st9 hM, ↓bM_st10 hM, ↓bM_st11 hM, ↓bM_st12 hM, ↓bM_st13 hM, ↓bM_st14 hM, ↓bM_st15 hM, ↓bM_st16 hM, ↓bM_st17 hM, ↓bM_st18 hM, ↓bM_st19 hM, ↓bM_st20 hM, ↓bM_st21 hM, ↓within_w, Int.toNat_add, Int.toNat_mul, Int.toNat_natCast, Int.reduceToNat, Nat.reduceAdd, Nat.reduceMul, s19, s20, a0, a1]
      · rw [if_neg c3]
        simp (disch := omega) only [↓i_lt_t, ↓i_lt_f, ↓i_eq_t, ↓i_eq_f, ↓i_bi_t, ↓i_bi_f, ↓i_some, ↓bM_gI hM, ↓bM_pI hM, ↓bM_inv hM, ↓bM_g1 hM, ↓bM_g2 hM, ↓bM_g3 hM, ↓bM_g4 hM, ↓bM_g15 hM, ↓bM_g16 hM, ↓bM_g22 hM, ↓bM_g23 hM, ↓bM_g24 hM, ↓bM_g25 hM, ↓bM_g28 hM, ↓bM_g29 hM, ↓bM_g30 hM, ↓bM_g32 hM, ↓bM_g33 hM, ↓bM_g34 hM, ↓bM_g36 hM, ↓bM_g37 hM, ↓bM_g41 hM, ↓bM_g42 hM, ↓bM_g43 hM, ↓bM_ld1 hM, ↓bM_ld2 hM, ↓bM_ld3 hM, ↓bM_ld4 hM, ↓bM_ld5 hM, ↓bM_ld6 hM, ↓bM_ld7 hM, ↓bM_ld8 hM, ↓bM_ld9 hM, ↓bM_ld10 hM, ↓bM_ld11 hM, ↓bM_ld12 hM, ↓bM_ld13 hM, ↓bM_ld14 hM, ↓bM_ld15 hM, ↓bM_ld16 hM, ↓bM_ld17 hM, ↓bM_ld18 hM, ↓bM_ld19 hM, ↓bM_ld20 hM, ↓bM_ld21 hM, ↓bM_st1 hM, ↓bM_st2 hM, ↓bM_st3 hM, ↓bM_st4 hM, ↓bM_st5 hM, ↓bM_st6 hM, ↓bM_st7 hM, ↓bM_st8 hM, ↓bM_st9 hM, ↓bM_st10 hM, ↓bM_st11 hM, ↓bM_st12 hM, ↓bM_st13 hM, ↓bM_st14 hM, ↓bM_st15 hM, ↓bM_st16 hM, ↓bM_st17 hM, ↓bM_st18 hM, ↓bM_st19 hM, ↓bM_st20 hM, ↓bM_st21 hM, ↓within_w, Int.toNat_add, Int.toNat_mul, Int.toNat_natCast, Int.reduceToNat, Nat.reduceAdd, Nat.reduceMul, s19, s20, a0, a1]
  · rw [if_neg c1]
    simp (disch := omega) only [↓i_lt_t, ↓i_lt_f, ↓i_eq_t, ↓i_eq_f, ↓i_bi_t, ↓i_bi_f, ↓i_some, ↓bM_gI hM, ↓bM_pI hM, ↓bM_inv hM, ↓bM_g1 hM, ↓bM_g2 hM, ↓bM_g3 hM, ↓bM_g4 hM, ↓bM_g15 hM, ↓bM_g16 hM, ↓bM_g22 hM, ↓bM_g23 hM, ↓bM_g24 hM, ↓bM_g25 hM, ↓bM_g28 hM, ↓bM_g29 hM, ↓bM_g30 hM, ↓bM_g32 hM, ↓bM_g33 hM, ↓bM_g34 hM, ↓bM_g36 hM, ↓bM_g37 hM, ↓bM_g41 hM, ↓bM_g42 hM, ↓bM_g43 hM, ↓bM_ld1 hM, ↓bM_ld2 hM, ↓bM_ld3 hM, ↓bM_ld4 hM, ↓bM_ld5 hM, ↓bM_ld6 hM, ↓bM_ld7 hM, ↓bM_ld8 hM, ↓bM_ld9 hM, ↓bM_ld10 hM, ↓bM_ld11 hM, ↓bM_ld12 hM, ↓bM_ld13 hM, ↓bM_ld14 hM, ↓bM_ld15 hM, ↓bM_ld16 hM, ↓bM_ld17 hM, ↓bM_ld18 hM, ↓bM_ld19 hM, ↓bM_ld20 hM, ↓bM_ld21 hM, ↓bM_st1 hM, ↓bM_st2 hM, ↓bM_st3 hM, ↓bM_st4 hM, ↓bM_st5 hM, ↓bM_st6 hM, ↓bM_st7 hM, ↓bM_st8 hM, ↓bM_st9 hM, ↓bM_st10 hM, ↓bM_st11 hM, ↓bM_st12 hM, ↓bM_st13 hM, ↓bM_st14 hM, ↓bM_st15 hM, ↓bM_st16 hM, ↓bM_st17 hM, ↓bM_st18 hM, ↓bM_st19 hM, ↓bM_st20 hM, ↓bM_st21 hM, ↓within_w]
theorem srF_0 {b : Int} (h : srF I c b = 0) : ∃ i : Nat, i < 4 ∧ b = (i : Int) ∧ I (c + 185 + 2 * i) 0 = ld I (c + 3) 0 1 ∧ ld I (c + 3) 0 0 ≤ 6 := by
  unfold srF at h
  by_cases c1 : 0 ≤ b ∧ b ≤ 3
  · rw [if_pos c1] at h
    by_cases c2 : I (c + 185 + 2 * b.toNat) 1 = -1
    · rw [if_pos c2] at h; omega
    · rw [if_neg c2] at h
      by_cases c3 : I (c + 185 + 2 * b.toNat) 0 = ld I (c + 3) 0 1
      · rw [if_pos c3] at h
        by_cases c4 : 6 < ld I (c + 3) 0 0
        · rw [if_pos c4] at h; omega
        · exact ⟨b.toNat, by omega, by omega, c3, by omega⟩
      · rw [if_neg c3] at h; omega
  · rw [if_neg c1] at h; omega
theorem srF_rg (b : Int) : -7 ≤ srF I c b ∧ srF I c b ≤ 0 := by
  unfold srF
  split
  · split
    · omega
    · split
      · split <;> omega
      · omega
  · omega
theorem both_seen (hC : isC μ c) (hM : isM μ (c + 193)) (hR : RelC c I) {b : Int} (hb : -2147483648 ≤ b ∧ b < 2147483648) (hn : 20000 ≤ n) : Both μ c I (mX10_seen n c b) (mX11_seen n (c + 193) b) := by
  have e0 := sightRefusal_eq (n := n) hC hR hb
  have rg := srF_rg (I := I) (c := c) b
  by_cases c0 : srF I c b = 0
  · obtain ⟨i, hi, rfl, h1, h2⟩ := srF_0 c0
    obtain ⟨v, A, K, s', e1, cK, jr, k0, k1, e2, s40, fw, s1'⟩ := watch_both (n := n) hC hM hR hi h1 h2 hn
    have e3 := refusesSeen_eq (n := n) (J := K) hM hR hb
    have el := ldwm (μ := μ) K (c + 193)
    rw [jr] at el
    refine Both.mk (J := K) (v := v) (s' := s') hR cK.h ?_ ?_ (by rw [jr]; exact fw) ?_
    · unfold mX10_seen
      simp (disch := omega) only [↓i_lt_t, ↓i_lt_f, ↓i_eq_t, ↓i_eq_f, ↓i_bi_t, ↓i_bi_f, ↓i_some, ↓bC_g0 hC, ↓bC_g1 hC, ↓bC_g2 hC, ↓bC_g3 hC, ↓bC_g4 hC, ↓bC_g5 hC, ↓bC_g6 hC, ↓bC_g7 hC, ↓bC_g8 hC, ↓bC_g9 hC, ↓bC_g10 hC, ↓bC_inv hC, ↓bnd e0, ↓bC_row hC, ↓bs_inv hC.si, ↓bnd e1, ↓bs_gI hC.si, k0]
    · rw [← el]
      unfold mX11_seen
      simp (disch := omega) only [↓i_lt_t, ↓i_lt_f, ↓i_eq_t, ↓i_eq_f, ↓i_bi_t, ↓i_bi_f, ↓i_some, ↓bM_gI hM, ↓bM_pI hM, ↓bM_inv hM, ↓bM_g1 hM, ↓bM_g2 hM, ↓bM_g3 hM, ↓bM_g4 hM, ↓bM_g15 hM, ↓bM_g16 hM, ↓bM_g22 hM, ↓bM_g23 hM, ↓bM_g24 hM, ↓bM_g25 hM, ↓bM_g28 hM, ↓bM_g29 hM, ↓bM_g30 hM, ↓bM_g32 hM, ↓bM_g33 hM, ↓bM_g34 hM, ↓bM_g36 hM, ↓bM_g37 hM, ↓bM_g41 hM, ↓bM_g42 hM, ↓bM_g43 hM, ↓bM_ld1 hM, ↓bM_ld2 hM, ↓bM_ld3 hM, ↓bM_ld4 hM, ↓bM_ld5 hM, ↓bM_ld6 hM, ↓bM_ld7 hM, ↓bM_ld8 hM, ↓bM_ld9 hM, ↓bM_ld10 hM, ↓bM_ld11 hM, ↓bM_ld12 hM, ↓bM_ld13 hM, ↓bM_ld14 hM, ↓bM_ld15 hM, ↓bM_ld16 hM, ↓bM_ld17 hM, ↓bM_ld18 hM, ↓bM_ld19 hM, ↓bM_ld20 hM, ↓bM_ld21 hM, ↓bM_st1 hM, ↓bM_st2 hM, ↓bM_st3 hM, ↓bM_st4 hM, ↓bM_st5 hM, ↓bM_st6 hM, ↓bM_st7 hM, ↓bM_st8 hM, ↓bM_st9 hM, ↓bM_st10 hM, ↓bM_st11 hM, ↓bM_st12 hM, ↓bM_st13 hM, ↓bM_st14 hM, ↓bM_st15 hM, ↓bM_st16 hM, ↓bM_st17 hM, ↓bM_st18 hM, ↓bM_st19 hM, ↓bM_st20 hM, ↓bM_st21 hM, ↓bnd e3, ↓bnd e2]
    · rw [s1']
      exact hR.1.cg (fun k hk => cK _ (by unfold tmp; omega))
  · have e3 := refusesSeen_eq (n := n) (J := I) hM hR hb
    refine Both.q (v := srF I c b) hR ?_ ?_
    · unfold mX10_seen
      simp (disch := omega) only [↓i_lt_t, ↓i_lt_f, ↓i_eq_t, ↓i_eq_f, ↓i_bi_t, ↓i_bi_f, ↓i_some, ↓bC_g0 hC, ↓bC_g1 hC, ↓bC_g2 hC, ↓bC_g3 hC, ↓bC_g4 hC, ↓bC_g5 hC, ↓bC_g6 hC, ↓bC_g7 hC, ↓bC_g8 hC, ↓bC_g9 hC, ↓bC_g10 hC, ↓bC_inv hC, ↓bnd e0]
    · unfold mX11_seen
      simp (disch := omega) only [↓i_lt_t, ↓i_lt_f, ↓i_eq_t, ↓i_eq_f, ↓i_bi_t, ↓i_bi_f, ↓i_some, ↓bM_gI hM, ↓bM_pI hM, ↓bM_inv hM, ↓bM_g1 hM, ↓bM_g2 hM, ↓bM_g3 hM, ↓bM_g4 hM, ↓bM_g15 hM, ↓bM_g16 hM, ↓bM_g22 hM, ↓bM_g23 hM, ↓bM_g24 hM, ↓bM_g25 hM, ↓bM_g28 hM, ↓bM_g29 hM, ↓bM_g30 hM, ↓bM_g32 hM, ↓bM_g33 hM, ↓bM_g34 hM, ↓bM_g36 hM, ↓bM_g37 hM, ↓bM_g41 hM, ↓bM_g42 hM, ↓bM_g43 hM, ↓bM_ld1 hM, ↓bM_ld2 hM, ↓bM_ld3 hM, ↓bM_ld4 hM, ↓bM_ld5 hM, ↓bM_ld6 hM, ↓bM_ld7 hM, ↓bM_ld8 hM, ↓bM_ld9 hM, ↓bM_ld10 hM, ↓bM_ld11 hM, ↓bM_ld12 hM, ↓bM_ld13 hM, ↓bM_ld14 hM, ↓bM_ld15 hM, ↓bM_ld16 hM, ↓bM_ld17 hM, ↓bM_ld18 hM, ↓bM_ld19 hM, ↓bM_ld20 hM, ↓bM_ld21 hM, ↓bM_st1 hM, ↓bM_st2 hM, ↓bM_st3 hM, ↓bM_st4 hM, ↓bM_st5 hM, ↓bM_st6 hM, ↓bM_st7 hM, ↓bM_st8 hM, ↓bM_st9 hM, ↓bM_st10 hM, ↓bM_st11 hM, ↓bM_st12 hM, ↓bM_st13 hM, ↓bM_st14 hM, ↓bM_st15 hM, ↓bM_st16 hM, ↓bM_st17 hM, ↓bM_st18 hM, ↓bM_st19 hM, ↓bM_st20 hM, ↓bM_st21 hM, ↓bnd e3]
theorem both_pulled (hC : isC μ c) (hM : isM μ (c + 193)) (hR : RelC c I) {b : Int} (hb : -2147483648 ≤ b ∧ b < 2147483648) (hn : 20000 ≤ n) : Both μ c I (mX10_pulled n c b) (mX11_pulled n (c + 193) b) := by
  have e0 := sightRefusal_eq (n := n) hC hR hb
  have rg := srF_rg (I := I) (c := c) b
  by_cases c0 : srF I c b = 0
  · obtain ⟨i, hi, rfl, h1, h2⟩ := srF_0 c0
    obtain ⟨v, A, K, s', e1, cK, jr, k0, k1, e2, s40, fw, s1'⟩ := watch_both (n := n) hC hM hR hi h1 h2 hn
    have e3 := refusesSeen_eq (n := n) (J := K) hM hR hb
    have el := ldwm (μ := μ) K (c + 193)
    rw [jr] at el
    refine Both.mk (J := K) (v := if eq32 v 0 then 0 else A) (s' := s') hR cK.h ?_ ?_ (by rw [jr]; exact fw) ?_
    · unfold mX10_pulled
      simp (disch := omega) only [↓i_lt_t, ↓i_lt_f, ↓i_eq_t, ↓i_eq_f, ↓i_bi_t, ↓i_bi_f, ↓i_some, ↓bC_g0 hC, ↓bC_g1 hC, ↓bC_g2 hC, ↓bC_g3 hC, ↓bC_g4 hC, ↓bC_g5 hC, ↓bC_g6 hC, ↓bC_g7 hC, ↓bC_g8 hC, ↓bC_g9 hC, ↓bC_g10 hC, ↓bC_inv hC, ↓bnd e0, ↓bC_row hC, ↓bs_inv hC.si, ↓bnd e1, ↓bs_gI hC.si, k0]
      by_cases cv : eq32 v 0
      · rw [if_pos cv, if_pos cv]
      · rw [if_neg cv, if_neg cv]
        simp (disch := omega) only [↓bC_g0 hC, ↓bC_g1 hC, ↓bC_g2 hC, ↓bC_g3 hC, ↓bC_g4 hC, ↓bC_g5 hC, ↓bC_g6 hC, ↓bC_g7 hC, ↓bC_g8 hC, ↓bC_g9 hC, ↓bC_g10 hC, ↓bC_inv hC, ↓bs_gI hC.si, k1]
    · rw [← el]
      unfold mX11_pulled
      simp (disch := omega) only [↓i_lt_t, ↓i_lt_f, ↓i_eq_t, ↓i_eq_f, ↓i_bi_t, ↓i_bi_f, ↓i_some, ↓bM_gI hM, ↓bM_pI hM, ↓bM_inv hM, ↓bM_g1 hM, ↓bM_g2 hM, ↓bM_g3 hM, ↓bM_g4 hM, ↓bM_g15 hM, ↓bM_g16 hM, ↓bM_g22 hM, ↓bM_g23 hM, ↓bM_g24 hM, ↓bM_g25 hM, ↓bM_g28 hM, ↓bM_g29 hM, ↓bM_g30 hM, ↓bM_g32 hM, ↓bM_g33 hM, ↓bM_g34 hM, ↓bM_g36 hM, ↓bM_g37 hM, ↓bM_g41 hM, ↓bM_g42 hM, ↓bM_g43 hM, ↓bM_ld1 hM, ↓bM_ld2 hM, ↓bM_ld3 hM, ↓bM_ld4 hM, ↓bM_ld5 hM, ↓bM_ld6 hM, ↓bM_ld7 hM, ↓bM_ld8 hM, ↓bM_ld9 hM, ↓bM_ld10 hM, ↓bM_ld11 hM, ↓bM_ld12 hM, ↓bM_ld13 hM, ↓bM_ld14 hM, ↓bM_ld15 hM, ↓bM_ld16 hM, ↓bM_ld17 hM, ↓bM_ld18 hM, ↓bM_ld19 hM, ↓bM_ld20 hM, ↓bM_ld21 hM, ↓bM_st1 hM, ↓bM_st2 hM, ↓bM_st3 hM, ↓bM_st4 hM, ↓bM_st5 hM, ↓bM_st6 hM, ↓bM_st7 hM, ↓bM_st8 hM, ↓bM_st9 hM, ↓bM_st10 hM, ↓bM_st11 hM, ↓bM_st12 hM, ↓bM_st13 hM, ↓bM_st14 hM, ↓bM_st15 hM, ↓bM_st16 hM, ↓bM_st17 hM, ↓bM_st18 hM, ↓bM_st19 hM, ↓bM_st20 hM, ↓bM_st21 hM, ↓bnd e3, ↓bnd e2]
      by_cases cv : eq32 v 0
      · rw [if_pos cv, if_pos cv]
      · rw [if_neg cv, if_neg cv]
        simp (disch := omega) only [↓bM_gI hM, ↓bM_pI hM, ↓bM_inv hM, ↓bM_g1 hM, ↓bM_g2 hM, ↓bM_g3 hM, ↓bM_g4 hM, ↓bM_g15 hM, ↓bM_g16 hM, ↓bM_g22 hM, ↓bM_g23 hM, ↓bM_g24 hM, ↓bM_g25 hM, ↓bM_g28 hM, ↓bM_g29 hM, ↓bM_g30 hM, ↓bM_g32 hM, ↓bM_g33 hM, ↓bM_g34 hM, ↓bM_g36 hM, ↓bM_g37 hM, ↓bM_g41 hM, ↓bM_g42 hM, ↓bM_g43 hM, ↓bM_ld1 hM, ↓bM_ld2 hM, ↓bM_ld3 hM, ↓bM_ld4 hM, ↓bM_ld5 hM, ↓bM_ld6 hM, ↓bM_ld7 hM, ↓bM_ld8 hM, ↓bM_ld9 hM, ↓bM_ld10 hM, ↓bM_ld11 hM, ↓bM_ld12 hM, ↓bM_ld13 hM, ↓bM_ld14 hM, ↓bM_ld15 hM, ↓bM_ld16 hM, ↓bM_ld17 hM, ↓bM_ld18 hM, ↓bM_ld19 hM, ↓bM_ld20 hM, ↓bM_ld21 hM, ↓bM_st1 hM, ↓bM_st2 hM, ↓bM_st3 hM, ↓bM_st4 hM, ↓bM_st5 hM, ↓bM_st6 hM, ↓bM_st7 hM, ↓bM_st8 hM, ↓bM_st9 hM, ↓bM_st10 hM, ↓bM_st11 hM, ↓bM_st12 hM, ↓bM_st13 hM, ↓bM_st14 hM, ↓bM_st15 hM, ↓bM_st16 hM, ↓bM_st17 hM, ↓bM_st18 hM, ↓bM_st19 hM, ↓bM_st20 hM, ↓bM_st21 hM, s40]
    · rw [s1']
      exact hR.1.cg (fun k hk => cK _ (by unfold tmp; omega))
  · have e3 := refusesSeen_eq (n := n) (J := I) hM hR hb
    refine Both.q (v := srF I c b) hR ?_ ?_
    · unfold mX10_pulled
      simp (disch := omega) only [↓i_lt_t, ↓i_lt_f, ↓i_eq_t, ↓i_eq_f, ↓i_bi_t, ↓i_bi_f, ↓i_some, ↓bC_g0 hC, ↓bC_g1 hC, ↓bC_g2 hC, ↓bC_g3 hC, ↓bC_g4 hC, ↓bC_g5 hC, ↓bC_g6 hC, ↓bC_g7 hC, ↓bC_g8 hC, ↓bC_g9 hC, ↓bC_g10 hC, ↓bC_inv hC, ↓bnd e0]
    · unfold mX11_pulled
      simp (disch := omega) only [↓i_lt_t, ↓i_lt_f, ↓i_eq_t, ↓i_eq_f, ↓i_bi_t, ↓i_bi_f, ↓i_some, ↓bM_gI hM, ↓bM_pI hM, ↓bM_inv hM, ↓bM_g1 hM, ↓bM_g2 hM, ↓bM_g3 hM, ↓bM_g4 hM, ↓bM_g15 hM, ↓bM_g16 hM, ↓bM_g22 hM, ↓bM_g23 hM, ↓bM_g24 hM, ↓bM_g25 hM, ↓bM_g28 hM, ↓bM_g29 hM, ↓bM_g30 hM, ↓bM_g32 hM, ↓bM_g33 hM, ↓bM_g34 hM, ↓bM_g36 hM, ↓bM_g37 hM, ↓bM_g41 hM, ↓bM_g42 hM, ↓bM_g43 hM, ↓bM_ld1 hM, ↓bM_ld2 hM, ↓bM_ld3 hM, ↓bM_ld4 hM, ↓bM_ld5 hM, ↓bM_ld6 hM, ↓bM_ld7 hM, ↓bM_ld8 hM, ↓bM_ld9 hM, ↓bM_ld10 hM, ↓bM_ld11 hM, ↓bM_ld12 hM, ↓bM_ld13 hM, ↓bM_ld14 hM, ↓bM_ld15 hM, ↓bM_ld16 hM, ↓bM_ld17 hM, ↓bM_ld18 hM, ↓bM_ld19 hM, ↓bM_ld20 hM, ↓bM_ld21 hM, ↓bM_st1 hM, ↓bM_st2 hM, ↓bM_st3 hM, ↓bM_st4 hM, ↓bM_st5 hM, ↓bM_st6 hM, ↓bM_st7 hM, ↓bM_st8 hM, ↓bM_st9 hM, ↓bM_st10 hM, ↓bM_st11 hM, ↓bM_st12 hM, ↓bM_st13 hM, ↓bM_st14 hM, ↓bM_st15 hM, ↓bM_st16 hM, ↓bM_st17 hM, ↓bM_st18 hM, ↓bM_st19 hM, ↓bM_st20 hM, ↓bM_st21 hM, ↓bnd e3]
end SE
