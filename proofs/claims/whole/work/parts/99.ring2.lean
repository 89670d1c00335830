section R2
variable {μ : Mem} {I J : Nat → Nat → Int} {c m n t : Nat} {s l : Ld} {w : Int} {β : Type}
theorem isW_rg {l : Ld} {w : Int} {a b : Nat} {v : Int} (hk : okL l) (h : isW l w a b v) : -1 ≤ v ∧ v ≤ 10 := by
  have hz := hk.1
  rcases h with ⟨rfl, -⟩ | ⟨i, hi, rfl, -⟩ <;> omega
theorem ring_c (hC : isC μ c) (hk : okL (ld I (c + 3))) (hn : 20000 ≤ n) : ∃ J : Nat → Nat → Int, CF c I J ∧ (∀ b : Nat, c + 193 ≤ b → J b = I b) ∧ mX10_ring n c (wi μ I) = some (itr (rgS (ld I (c + 3))) 0 (ld I (c + 3) 0 1).toNat (-1), wi μ J) := by
  have hz := hk.1
  have hH := hC.here
  have hT := hC.ti
  unfold mX10_ring
  refine lp_ind (fun d (v : Int × Int) ν => ∃ (J : Nat → Nat → Int) (r : Nat), ν = wi μ J ∧ v.2 = (r : Int) ∧ (r : Int) + d = ld I (c + 3) 0 1 ∧ (∀ b : Nat, b ≠ c + 34 → b ≠ c + 34 + 1 → J b = I b) ∧ (-1 ≤ v.1 ∧ v.1 ≤ 11) ∧ itr (rgS (ld I (c + 3))) r d v.1 = itr (rgS (ld I (c + 3))) 0 (ld I (c + 3) 0 1).toNat (-1)) (fun X => ∃ J : Nat → Nat → Int, CF c I J ∧ (∀ b : Nat, c + 193 ≤ b → J b = I b) ∧ X = some (itr (rgS (ld I (c + 3))) 0 (ld I (c + 3) 0 1).toNat (-1), wi μ J)) (fun d v ν nx hP hnx => ?_) n (ld I (c + 3) 0 1).toNat _ _ (by omega) ⟨I, 0, rfl, rfl, by omega, fun _ _ _ => rfl, by dsimp only; omega, rfl⟩
  obtain ⟨J, r, rfl, e2, h1, oJ, hF, hV⟩ := hP
  obtain ⟨F, kk⟩ := v
  dsimp only at e2 hF hV
  subst e2
  have eL : ∀ j : Nat, j ≤ 12 → ld J (c + 3) j = ld I (c + 3) j := fun j hj => oJ _ (by omega) (by omega)
  have e01 : ld J (c + 3) 0 1 = ld I (c + 3) 0 1 := by rw [eL 0 (by decide)]
  cases d with
  | zero =>
    have hV' : F = itr (rgS (ld I (c + 3))) 0 (ld I (c + 3) 0 1).toNat (-1) := hV
    simp (disch := omega) only [↓i_lt_t, ↓i_lt_f, ↓i_eq_t, ↓i_eq_f, ↓i_bi_t, ↓i_bi_f, ↓i_some, ↓bC_g0 hC, ↓bC_g1 hC, ↓bC_g2 hC, ↓bC_g3 hC, ↓bC_g4 hC, ↓bC_g5 hC, ↓bC_g6 hC, ↓bC_g7 hC, ↓bC_g8 hC, ↓bC_g9 hC, ↓bC_g10 hC, ↓bC_inv hC, ↓bL_gI hH, ↓bL_inv hH, ↓bL_g6 hH, ↓bL_g7 hH, ↓bL_g8 hH, ↓bL_g9 hH, ↓bL_g10 hH, ↓bL_g11 hH, ↓bL_g12 hH, ↓bL_g13 hH, ↓bL_g14 hH, ↓bL_g15 hH, ↓bL_g16 hH, ↓bL_g17 hH, ↓bL_ld1 hH, ↓bL_ld2 hH, ↓bL_ld3 hH, ↓bL_ld4 hH, ↓bL_ld5 hH, ↓bL_ld6 hH, ↓bL_ld7 hH, ↓bL_ld8 hH, ↓bL_ld9 hH, ↓bL_ld10 hH, ↓bL_ld11 hH, ↓bL_ld12 hH, ↓bL_st1 hH, ↓bL_st2 hH, ↓bL_st3 hH, ↓bL_st4 hH, ↓bL_st5 hH, ↓bL_st6 hH, ↓bL_st7 hH, ↓bL_st8 hH, ↓bL_st9 hH, ↓bL_st10 hH, ↓bL_st11 hH, ↓bL_st12 hH, e01]
    exact ⟨J, fun b hb => oJ b (by unfold tmp at hb; omega) (by unfold tmp at hb; omega), fun b hb => oJ b (by omega) (by omega), by rw [hV']⟩
  | succ d =>
    have hr : (r : Int) < ld I (c + 3) 0 1 := by omega
    have g9 := hk.2.2.1 r hr
    have g1 := hk.2.2.2 (2 * r) (by omega)
    have g2 := hk.2.2.2 (2 * r + 1) (by omega)
    have e9 : ld J (c + 3) 9 r = ld I (c + 3) 9 r := by rw [eL 9 (by decide)]
    have hV' : itr (rgS (ld I (c + 3))) (r + 1) d (rgS (ld I (c + 3)) r F) = itr (rgS (ld I (c + 3))) 0 (ld I (c + 3) 0 1).toNat (-1) := hV
    by_cases c9 : ld I (c + 3) 9 r = 0
    · obtain ⟨x, hx⟩ : ∃ x : Nat, ld I (c + 3) 10 (2 * r) = (x : Int) := ⟨(ld I (c + 3) 10 (2 * r)).toNat, by omega⟩
      obtain ⟨y, hy⟩ : ∃ y : Nat, ld I (c + 3) 10 (2 * r + 1) = (y : Int) := ⟨(ld I (c + 3) 10 (2 * r + 1)).toNat, by omega⟩
      rw [hx] at g1
      rw [hy] at g2
      have okJ : okL (ld J (c + 3)) := hk.cg eL
      obtain ⟨K, e1, oK, tK⟩ := look_eq (n := n) (I := J) (a := c + 3) (t := c + 34) (w := (r : Int)) hH hT (by omega) okJ (by omega) hn
      have adjE : ∀ a b : Nat, adj (ld J (c + 3)) (r : Int) a b ↔ adj (ld I (c + 3)) (r : Int) a b := fun a b => by
        unfold adj
        rw [e01, eL 9 (by decide), eL 10 (by decide)]
      have tK' : tsP (ld I (c + 3)) (r : Int) K (c + 34) := ⟨tK.1.trans (by rw [eL 0 (by decide)]), fun h hh => (tK.2 h hh).cg (fun q => adjE h q)⟩
      obtain ⟨v, hv, e2⟩ := steps_eq (n := n) (a := x) (b := y) hT tK' hk (by omega) (by omega) hn
      have vr := isW_rg hk hv
      have ew : wyV (ld I (c + 3)) r = v := wyV_eq (by rw [hx, hy, Int.toNat_natCast, Int.toNat_natCast]; exact hv)
      have k10 : ∀ i : Nat, ld K (c + 3) 10 i = ld I (c + 3) 10 i := fun i => (congrFun (oK _ (by omega) (by omega)) i).trans (by show ld J (c + 3) 10 i = _; rw [eL 10 (by decide)])
      have oK' : ∀ b : Nat, b ≠ c + 34 → b ≠ c + 34 + 1 → K b = I b := fun b b1 b2 => (oK b b1 b2).trans (oJ b b1 b2)
      unfold rgS at hV'
      rw [if_pos c9, ew] at hV'
      by_cases c1 : v = -1
      · rw [if_pos c1] at hV'
        simp (disch := omega) only [↓i_lt_t, ↓i_lt_f, ↓i_eq_t, ↓i_eq_f, ↓i_bi_t, ↓i_bi_f, ↓i_some, ↓bC_g0 hC, ↓bC_g1 hC, ↓bC_g2 hC, ↓bC_g3 hC, ↓bC_g4 hC, ↓bC_g5 hC, ↓bC_g6 hC, ↓bC_g7 hC, ↓bC_g8 hC, ↓bC_g9 hC, ↓bC_g10 hC, ↓bC_inv hC, ↓bL_gI hH, ↓bL_inv hH, ↓bL_g6 hH, ↓bL_g7 hH, ↓bL_g8 hH, ↓bL_g9 hH, ↓bL_g10 hH, ↓bL_g11 hH, ↓bL_g12 hH, ↓bL_g13 hH, ↓bL_g14 hH, ↓bL_g15 hH, ↓bL_g16 hH, ↓bL_g17 hH, ↓bL_ld1 hH, ↓bL_ld2 hH, ↓bL_ld3 hH, ↓bL_ld4 hH, ↓bL_ld5 hH, ↓bL_ld6 hH, ↓bL_ld7 hH, ↓bL_ld8 hH, ↓bL_ld9 hH, ↓bL_ld10 hH, ↓bL_ld11 hH, ↓bL_ld12 hH, ↓bL_st1 hH, ↓bL_st2 hH, ↓bL_st3 hH, ↓bL_st4 hH, ↓bL_st5 hH, ↓bL_st6 hH, ↓bL_st7 hH, ↓bL_st8 hH, ↓bL_st9 hH, ↓bL_st10 hH, ↓bL_st11 hH, ↓bL_st12 hH, e01, e9, Int.toNat_add, Int.toNat_mul, Int.toNat_natCast, Int.reduceToNat, Nat.reduceAdd, Nat.reduceMul, ↓bt_inv hT, ↓bnd e1, k10, hx, hy, ↓bnd e2]
        exact hnx d _ _ (by omega) ⟨K, r + 1, rfl, rfl, by omega, oK', hF, hV'⟩
      · rw [if_neg c1] at hV'
        by_cases c2 : F = -1
        · rw [if_pos c2] at hV'
          simp (disch := omega) only [↓i_lt_t, ↓i_lt_f, ↓i_eq_t, ↓i_eq_f, ↓i_bi_t, ↓i_bi_f, ↓i_some, ↓bC_g0 hC, ↓bC_g1 hC, ↓bC_g2 hC, ↓bC_g3 hC, ↓bC_g4 hC, ↓bC_g5 hC, ↓bC_g6 hC, ↓bC_g7 hC, ↓bC_g8 hC, ↓bC_g9 hC, ↓bC_g10 hC, ↓bC_inv hC, ↓bL_gI hH, ↓bL_inv hH, ↓bL_g6 hH, ↓bL_g7 hH, ↓bL_g8 hH, ↓bL_g9 hH, ↓bL_g10 hH, ↓bL_g11 hH, ↓bL_g12 hH, ↓bL_g13 hH, ↓bL_g14 hH, ↓bL_g15 hH, ↓bL_g16 hH, ↓bL_g17 hH, ↓bL_ld1 hH, ↓bL_ld2 hH, ↓bL_ld3 hH, ↓bL_ld4 hH, ↓bL_ld5 hH, ↓bL_ld6 hH, ↓bL_ld7 hH, ↓bL_ld8 hH, ↓bL_ld9 hH, ↓bL_ld10 hH, ↓bL_ld11 hH, ↓bL_ld12 hH, ↓bL_st1 hH, ↓bL_st2 hH, ↓bL_st3 hH, ↓bL_st4 hH, ↓bL_st5 hH, ↓bL_st6 hH, ↓bL_st7 hH, ↓bL_st8 hH, ↓bL_st9 hH, ↓bL_st10 hH, ↓bL_st11 hH, ↓bL_st12 hH, e01, e9, Int.toNat_add, Int.toNat_mul, Int.toNat_natCast, Int.reduceToNat, Nat.reduceAdd, Nat.reduceMul, ↓bt_inv hT, ↓bnd e1, k10, hx, hy, ↓bnd e2]
          exact hnx d _ _ (by omega) ⟨K, r + 1, rfl, rfl, by omega, oK', by dsimp only; omega, hV'⟩
        · rw [if_neg c2] at hV'
          by_cases c3 : v + 1 < F
          · rw [if_pos c3] at hV'
            simp (disch := omega) only [↓i_lt_t, ↓i_lt_f, ↓i_eq_t, ↓i_eq_f, ↓i_bi_t, ↓i_bi_f, ↓i_some, ↓bC_g0 hC, ↓bC_g1 hC, ↓bC_g2 hC, ↓bC_g3 hC, ↓bC_g4 hC, ↓bC_g5 hC, ↓bC_g6 hC, ↓bC_g7 hC, ↓bC_g8 hC, ↓bC_g9 hC, ↓bC_g10 hC, ↓bC_inv hC, ↓bL_gI hH, ↓bL_inv hH, ↓bL_g6 hH, ↓bL_g7 hH, ↓bL_g8 hH, ↓bL_g9 hH, ↓bL_g10 hH, ↓bL_g11 hH, ↓bL_g12 hH, ↓bL_g13 hH, ↓bL_g14 hH, ↓bL_g15 hH, ↓bL_g16 hH, ↓bL_g17 hH, ↓bL_ld1 hH, ↓bL_ld2 hH, ↓bL_ld3 hH, ↓bL_ld4 hH, ↓bL_ld5 hH, ↓bL_ld6 hH, ↓bL_ld7 hH, ↓bL_ld8 hH, ↓bL_ld9 hH, ↓bL_ld10 hH, ↓bL_ld11 hH, ↓bL_ld12 hH, ↓bL_st1 hH, ↓bL_st2 hH, ↓bL_st3 hH, ↓bL_st4 hH, ↓bL_st5 hH, ↓bL_st6 hH, ↓bL_st7 hH, ↓bL_st8 hH, ↓bL_st9 hH, ↓bL_st10 hH, ↓bL_st11 hH, ↓bL_st12 hH, e01, e9, Int.toNat_add, Int.toNat_mul, Int.toNat_natCast, Int.reduceToNat, Nat.reduceAdd, Nat.reduceMul, ↓bt_inv hT, ↓bnd e1, k10, hx, hy, ↓bnd e2]
            exact hnx d _ _ (by omega) ⟨K, r + 1, rfl, rfl, by omega, oK', by dsimp only; omega, hV'⟩
          · rw [if_neg c3] at hV'
            simp (disch := omega) only [↓i_lt_t, ↓i_lt_f, ↓i_eq_t, ↓i_eq_f, ↓i_bi_t, ↓i_bi_f, ↓i_some, ↓bC_g0 hC, ↓bC_g1 hC, ↓bC_g2 hC, ↓bC_g3 hC, ↓bC_g4 hC, ↓bC_g5 hC, ↓bC_g6 hC, ↓bC_g7 hC, ↓bC_g8 hC, ↓bC_g9 hC, ↓bC_g10 hC, ↓bC_inv hC, ↓bL_gI hH, ↓bL_inv hH, ↓bL_g6 hH, ↓bL_g7 hH, ↓bL_g8 hH, ↓bL_g9 hH, ↓bL_g10 hH, ↓bL_g11 hH, ↓bL_g12 hH, ↓bL_g13 hH, ↓bL_g14 hH, ↓bL_g15 hH, ↓bL_g16 hH, ↓bL_g17 hH, ↓bL_ld1 hH, ↓bL_ld2 hH, ↓bL_ld3 hH, ↓bL_ld4 hH, ↓bL_ld5 hH, ↓bL_ld6 hH, ↓bL_ld7 hH, ↓bL_ld8 hH, ↓bL_ld9 hH, ↓bL_ld10 hH, ↓bL_ld11 hH, ↓bL_ld12 hH, ↓bL_st1 hH, ↓bL_st2 hH, ↓bL_st3 hH, ↓bL_st4 hH, ↓bL_st5 hH, ↓bL_st6 hH, ↓bL_st7 hH, ↓bL_st8 hH, ↓bL_st9 hH, ↓bL_st10 hH, ↓bL_st11 hH, ↓bL_st12 hH, e01, e9, Int.toNat_add, Int.toNat_mul, Int.toNat_natCast, Int.reduceToNat, Nat.reduceAdd, Nat.reduceMul, ↓bt_inv hT, ↓bnd e1, k10, hx, hy, ↓bnd e2]
            exact hnx d _ _ (by omega) ⟨K, r + 1, rfl, rfl, by omega, oK', hF, hV'⟩
    · unfold rgS at hV'
      rw [if_neg c9] at hV'
      simp (disch := omega) only [↓i_lt_t, ↓i_lt_f, ↓i_eq_t, ↓i_eq_f, ↓i_bi_t, ↓i_bi_f, ↓i_some, ↓bC_g0 hC, ↓bC_g1 hC, ↓bC_g2 hC, ↓bC_g3 hC, ↓bC_g4 hC, ↓bC_g5 hC, ↓bC_g6 hC, ↓bC_g7 hC, ↓bC_g8 hC, ↓bC_g9 hC, ↓bC_g10 hC, ↓bC_inv hC, ↓bL_gI hH, ↓bL_inv hH, ↓bL_g6 hH, ↓bL_g7 hH, ↓bL_g8 hH, ↓bL_g9 hH, ↓bL_g10 hH, ↓bL_g11 hH, ↓bL_g12 hH, ↓bL_g13 hH, ↓bL_g14 hH, ↓bL_g15 hH, ↓bL_g16 hH, ↓bL_g17 hH, ↓bL_ld1 hH, ↓bL_ld2 hH, ↓bL_ld3 hH, ↓bL_ld4 hH, ↓bL_ld5 hH, ↓bL_ld6 hH, ↓bL_ld7 hH, ↓bL_ld8 hH, ↓bL_ld9 hH, ↓bL_ld10 hH, ↓bL_ld11 hH, ↓bL_ld12 hH, ↓bL_st1 hH, ↓bL_st2 hH, ↓bL_st3 hH, ↓bL_st4 hH, ↓bL_st5 hH, ↓bL_st6 hH, ↓bL_st7 hH, ↓bL_st8 hH, ↓bL_st9 hH, ↓bL_st10 hH, ↓bL_st11 hH, ↓bL_st12 hH, e01, e9, Int.toNat_add, Int.toNat_mul, Int.toNat_natCast, Int.reduceToNat, Nat.reduceAdd, Nat.reduceMul]
      exact hnx d _ _ (by omega) ⟨J, r + 1, rfl, rfl, by omega, oJ, hF, hV'⟩
theorem ring_m (h : isM μ m) (hl : LR l (s 1)) (hk : okL l) (hn : 20000 ≤ n) : ∃ F : Nat → Int, mX11_ring n m (wi μ (wm I m s)) = some (itr (rgS l) 0 (l 0 1).toNat (-1), wi μ (wm I m (up1 (up2 s 0 0 0) 7 F))) := by
  have hz := hk.1
  have r1 : up2 s 0 0 0 1 = s 1 := up2_row (by decide)
  unfold mX11_ring
  simp (disch := omega) only [↓i_lt_t, ↓i_lt_f, ↓i_eq_t, ↓i_eq_f, ↓i_bi_t, ↓i_bi_f, ↓i_some, ↓bM_gI h, ↓bM_pI h, ↓bM_inv h, ↓bM_g1 h, ↓bM_g2 h, ↓bM_g3 h, ↓bM_g4 h, ↓bM_g15 h, ↓bM_g16 h, ↓bM_g22 h, ↓bM_g23 h, ↓bM_g24 h, ↓bM_g25 h, ↓bM_g28 h, ↓bM_g29 h, ↓bM_g30 h, ↓bM_g32 h, ↓bM_g33 h, ↓bM_g34 h, ↓bM_g36 h, ↓bM_g37 h, ↓bM_g41 h, ↓bM_g42 h, ↓bM_g43 h, ↓bM_ld1 h, ↓bM_ld2 h, ↓bM_ld3 h, ↓bM_ld4 h, ↓bM_ld5 h, ↓bM_ld6 h, ↓bM_ld7 h, ↓bM_ld8 h, ↓bM_ld9 h, ↓bM_ld10 h, ↓bM_ld11 h, ↓bM_ld12 h, ↓bM_ld13 h, ↓bM_ld14 h, ↓bM_ld15 h, ↓bM_ld16 h, ↓bM_ld17 h, ↓bM_ld18 h, ↓bM_ld19 h, ↓bM_ld20 h, ↓bM_ld21 h, ↓bM_st1 h, ↓bM_st2 h, ↓bM_st3 h, ↓bM_st4 h, ↓bM_st5 h, ↓bM_st6 h, ↓bM_st7 h, ↓bM_st8 h, ↓bM_st9 h, ↓bM_st10 h, ↓bM_st11 h, ↓bM_st12 h, ↓bM_st13 h, ↓bM_st14 h, ↓bM_st15 h, ↓bM_st16 h, ↓bM_st17 h, ↓bM_st18 h, ↓bM_st19 h, ↓bM_st20 h, ↓bM_st21 h]
  have lr0 : LR l (up2 s 0 0 0 1) := by rw [r1]; exact hl
  generalize up2 s 0 0 0 = s0 at lr0
  have lrF : ∀ F : Nat → Int, LR l (up1 s0 7 F 1) := fun F => by rw [up1_o (by decide)]; exact lr0
  refine lp_ind (fun d (v : Int × Int) ν => ∃ (G : Nat → Int) (F : Int) (r : Nat), ν = wi μ (wm I m (up1 s0 7 G)) ∧ v.2 = (r : Int) ∧ (r : Int) + d = l 0 1 ∧ ((F = -1 ∧ v.1 = 99) ∨ (F = v.1 ∧ 0 ≤ v.1 ∧ v.1 < 99)) ∧ itr (rgS l) r d F = itr (rgS l) 0 (l 0 1).toNat (-1)) (fun X => ∃ F : Nat → Int, X = some (itr (rgS l) 0 (l 0 1).toNat (-1), wi μ (wm I m (up1 s0 7 F)))) (fun d v ν nx hP hnx => ?_) n (l 0 1).toNat _ _ (by omega) ⟨s0 7, -1, 0, by rw [up1_id], rfl, by omega, Or.inl ⟨rfl, rfl⟩, rfl⟩
  obtain ⟨G, F, r, rfl, e2, h1, hF, hV⟩ := hP
  obtain ⟨L, kk⟩ := v
  dsimp only at e2 hF
  subst e2
  have e1 : up1 s0 7 G 1 1 = l 0 1 := (lrF G).1.2.1
  cases d with
  | zero =>
    have hV' : F = itr (rgS l) 0 (l 0 1).toNat (-1) := hV
    rcases hF with ⟨rfl, rfl⟩ | ⟨rfl, f1, f2⟩
    · simp (disch := omega) only [↓i_lt_t, ↓i_lt_f, ↓i_eq_t, ↓i_eq_f, ↓i_bi_t, ↓i_bi_f, ↓i_some, ↓bM_gI h, ↓bM_pI h, ↓bM_inv h, ↓bM_g1 h, ↓bM_g2 h, ↓bM_g3 h, ↓bM_g4 h, ↓bM_g15 h, ↓bM_g16 h, ↓bM_g22 h, ↓bM_g23 h, ↓bM_g24 h, ↓bM_g25 h, ↓bM_g28 h, ↓bM_g29 h, ↓bM_g30 h, ↓bM_g32 h, ↓bM_g33 h, ↓bM_g34 h, ↓bM_g36 h, ↓bM_g37 h, ↓bM_g41 h, ↓bM_g42 h, ↓bM_g43 h, ↓bM_ld1 h, ↓bM_ld2 h, ↓bM_ld3 h, ↓bM_ld4 h, ↓bM_ld5 h, ↓bM_ld6 h, ↓bM_ld7 h, ↓bM_ld8 h, ↓bM_ld9 h, ↓bM_ld10 h, ↓bM_ld11 h, ↓bM_ld12 h, ↓bM_ld13 h, ↓bM_ld14 h, ↓bM_ld15 h, ↓bM_ld16 h, ↓bM_ld17 h, ↓bM_ld18 h, ↓bM_ld19 h, ↓bM_ld20 h, ↓bM_ld21 h, ↓bM_st1 h, ↓bM_st2 h, ↓bM_st3 h, ↓bM_st4 h, ↓bM_st5 h, ↓bM_st6 h, ↓bM_st7 h, ↓bM_st8 h, ↓bM_st9 h, ↓bM_st10 h, ↓bM_st11 h, ↓bM_st12 h, ↓bM_st13 h, ↓bM_st14 h, ↓bM_st15 h, ↓bM_st16 h, ↓bM_st17 h, ↓bM_st18 h, ↓bM_st19 h, ↓bM_st20 h, ↓bM_st21 h, Int.toNat_add, Int.toNat_mul, Int.toNat_natCast, Int.reduceToNat, Nat.reduceAdd, Nat.reduceMul, e1]
      exact ⟨G, by rw [← hV']⟩
    · simp (disch := omega) only [↓i_lt_t, ↓i_lt_f, ↓i_eq_t, ↓i_eq_f, ↓i_bi_t, ↓i_bi_f, ↓i_some, ↓bM_gI h, ↓bM_pI h, ↓bM_inv h, ↓bM_g1 h, ↓bM_g2 h, ↓bM_g3 h, ↓bM_g4 h, ↓bM_g15 h, ↓bM_g16 h, ↓bM_g22 h, ↓bM_g23 h, ↓bM_g24 h, ↓bM_g25 h, ↓bM_g28 h, ↓bM_g29 h, ↓bM_g30 h, ↓bM_g32 h, ↓bM_g33 h, ↓bM_g34 h, ↓bM_g36 h, ↓bM_g37 h, ↓bM_g41 h, ↓bM_g42 h, ↓bM_g43 h, ↓bM_ld1 h, ↓bM_ld2 h, ↓bM_ld3 h, ↓bM_ld4 h, ↓bM_ld5 h, ↓bM_ld6 h, ↓bM_ld7 h, ↓bM_ld8 h, ↓bM_ld9 h, ↓bM_ld10 h, ↓bM_ld11 h, ↓bM_ld12 h, ↓bM_ld13 h, ↓bM_ld14 h, ↓bM_ld15 h, ↓bM_ld16 h, ↓bM_ld17 h, ↓bM_ld18 h, ↓bM_ld19 h, ↓bM_ld20 h, ↓bM_ld21 h, ↓bM_st1 h, ↓bM_st2 h, ↓bM_st3 h, ↓bM_st4 h, ↓bM_st5 h, ↓bM_st6 h, ↓bM_st7 h, ↓bM_st8 h, ↓bM_st9 h, ↓bM_st10 h, ↓bM_st11 h, ↓bM_st12 h, ↓bM_st13 h, ↓bM_st14 h, ↓bM_st15 h, ↓bM_st16 h, ↓bM_st17 h, ↓bM_st18 h, ↓bM_st19 h, ↓bM_st20 h, ↓bM_st21 h, Int.toNat_add, Int.toNat_mul, Int.toNat_natCast, Int.reduceToNat, Nat.reduceAdd, Nat.reduceMul, e1]
      exact ⟨G, by rw [← hV']⟩
  | succ d =>
    have hr : (r : Int) < l 0 1 := by omega
    obtain ⟨k1, k2, -⟩ := (lrF G).2.2 r hr
    have g1 := hk.2.2.2 (2 * r) (by omega)
    have g2 := hk.2.2.2 (2 * r + 1) (by omega)
    have hV' : itr (rgS l) (r + 1) d (rgS l r F) = itr (rgS l) 0 (l 0 1).toNat (-1) := hV
    by_cases c9 : l 9 r = 0
    · obtain ⟨x, hx⟩ : ∃ x : Nat, l 10 (2 * r) = (x : Int) := ⟨(l 10 (2 * r)).toNat, by omega⟩
      obtain ⟨y, hy⟩ : ∃ y : Nat, l 10 (2 * r + 1) = (y : Int) := ⟨(l 10 (2 * r + 1)).toNat, by omega⟩
      rw [hx] at k1 g1
      rw [hy] at k2 g2
      obtain ⟨v, hv⟩ := isW_ex (w := (r : Int)) hk (a := x) (b := y) (by omega)
      have vr := isW_rg hk hv
      have ew : wyV l r = v := wyV_eq (by rw [hx, hy, Int.toNat_natCast, Int.toNat_natCast]; exact hv)
      obtain ⟨G2, eW⟩ := wayBut_m (n := n) (I := I) (s := up1 s0 7 G) h (lrF G) hk (a := x) (b := y) (by omega) (by omega) (by omega) hn hv
      rw [up1_up1] at eW
      unfold rgS at hV'
      rw [if_pos c9, ew] at hV'
      by_cases c1 : v = -1
      · rw [if_pos c1] at hV' eW
        rcases hF with ⟨rfl, rfl⟩ | ⟨rfl, f1, f2⟩
        · simp (disch := omega) only [↓i_lt_t, ↓i_lt_f, ↓i_eq_t, ↓i_eq_f, ↓i_bi_t, ↓i_bi_f, ↓i_some, ↓bM_gI h, ↓bM_pI h, ↓bM_inv h, ↓bM_g1 h, ↓bM_g2 h, ↓bM_g3 h, ↓bM_g4 h, ↓bM_g15 h, ↓bM_g16 h, ↓bM_g22 h, ↓bM_g23 h, ↓bM_g24 h, ↓bM_g25 h, ↓bM_g28 h, ↓bM_g29 h, ↓bM_g30 h, ↓bM_g32 h, ↓bM_g33 h, ↓bM_g34 h, ↓bM_g36 h, ↓bM_g37 h, ↓bM_g41 h, ↓bM_g42 h, ↓bM_g43 h, ↓bM_ld1 h, ↓bM_ld2 h, ↓bM_ld3 h, ↓bM_ld4 h, ↓bM_ld5 h, ↓bM_ld6 h, ↓bM_ld7 h, ↓bM_ld8 h, ↓bM_ld9 h, ↓bM_ld10 h, ↓bM_ld11 h, ↓bM_ld12 h, ↓bM_ld13 h, ↓bM_ld14 h, ↓bM_ld15 h, ↓bM_ld16 h, ↓bM_ld17 h, ↓bM_ld18 h, ↓bM_ld19 h, ↓bM_ld20 h, ↓bM_ld21 h, ↓bM_st1 h, ↓bM_st2 h, ↓bM_st3 h, ↓bM_st4 h, ↓bM_st5 h, ↓bM_st6 h, ↓bM_st7 h, ↓bM_st8 h, ↓bM_st9 h, ↓bM_st10 h, ↓bM_st11 h, ↓bM_st12 h, ↓bM_st13 h, ↓bM_st14 h, ↓bM_st15 h, ↓bM_st16 h, ↓bM_st17 h, ↓bM_st18 h, ↓bM_st19 h, ↓bM_st20 h, ↓bM_st21 h, Int.toNat_add, Int.toNat_mul, Int.toNat_natCast, Int.reduceToNat, Nat.reduceAdd, Nat.reduceMul, e1, ↓mhangs_w h (lrF G) hk, k1, k2, ↓bnd eW]
          exact hnx d _ _ (by omega) ⟨G2, -1, r + 1, rfl, rfl, by omega, Or.inl ⟨rfl, rfl⟩, hV'⟩
        · simp (disch := omega) only [↓i_lt_t, ↓i_lt_f, ↓i_eq_t, ↓i_eq_f, ↓i_bi_t, ↓i_bi_f, ↓i_some, ↓bM_gI h, ↓bM_pI h, ↓bM_inv h, ↓bM_g1 h, ↓bM_g2 h, ↓bM_g3 h, ↓bM_g4 h, ↓bM_g15 h, ↓bM_g16 h, ↓bM_g22 h, ↓bM_g23 h, ↓bM_g24 h, ↓bM_g25 h, ↓bM_g28 h, ↓bM_g29 h, ↓bM_g30 h, ↓bM_g32 h, ↓bM_g33 h, ↓bM_g34 h, ↓bM_g36 h, ↓bM_g37 h, ↓bM_g41 h, ↓bM_g42 h, ↓bM_g43 h, ↓bM_ld1 h, ↓bM_ld2 h, ↓bM_ld3 h, ↓bM_ld4 h, ↓bM_ld5 h, ↓bM_ld6 h, ↓bM_ld7 h, ↓bM_ld8 h, ↓bM_ld9 h, ↓bM_ld10 h, ↓bM_ld11 h, ↓bM_ld12 h, ↓bM_ld13 h, ↓bM_ld14 h, ↓bM_ld15 h, ↓bM_ld16 h, ↓bM_ld17 h, ↓bM_ld18 h, ↓bM_ld19 h, ↓bM_ld20 h, ↓bM_ld21 h, ↓bM_st1 h, ↓bM_st2 h, ↓bM_st3 h, ↓bM_st4 h, ↓bM_st5 h, ↓bM_st6 h, ↓bM_st7 h, ↓bM_st8 h, ↓bM_st9 h, ↓bM_st10 h, ↓bM_st11 h, ↓bM_st12 h, ↓bM_st13 h, ↓bM_st14 h, ↓bM_st15 h, ↓bM_st16 h, ↓bM_st17 h, ↓bM_st18 h, ↓bM_st19 h, ↓bM_st20 h, ↓bM_st21 h, Int.toNat_add, Int.toNat_mul, Int.toNat_natCast, Int.reduceToNat, Nat.reduceAdd, Nat.reduceMul, e1, ↓mhangs_w h (lrF G) hk, k1, k2, ↓bnd eW]
          exact hnx d _ _ (by omega) ⟨G2, F, r + 1, rfl, rfl, by omega, Or.inr ⟨rfl, f1, f2⟩, hV'⟩
      · rw [if_neg c1] at hV' eW
        rcases hF with ⟨rfl, rfl⟩ | ⟨rfl, f1, f2⟩
        · rw [if_pos rfl] at hV'
          simp (disch := omega) only [↓i_lt_t, ↓i_lt_f, ↓i_eq_t, ↓i_eq_f, ↓i_bi_t, ↓i_bi_f, ↓i_some, ↓bM_gI h, ↓bM_pI h, ↓bM_inv h, ↓bM_g1 h, ↓bM_g2 h, ↓bM_g3 h, ↓bM_g4 h, ↓bM_g15 h, ↓bM_g16 h, ↓bM_g22 h, ↓bM_g23 h, ↓bM_g24 h, ↓bM_g25 h, ↓bM_g28 h, ↓bM_g29 h, ↓bM_g30 h, ↓bM_g32 h, ↓bM_g33 h, ↓bM_g34 h, ↓bM_g36 h, ↓bM_g37 h, ↓bM_g41 h, ↓bM_g42 h, ↓bM_g43 h, ↓bM_ld1 h, ↓bM_ld2 h, ↓bM_ld3 h, ↓bM_ld4 h, ↓bM_ld5 h, ↓bM_ld6 h, ↓bM_ld7 h, ↓bM_ld8 h, ↓bM_ld9 h, ↓bM_ld10 h, ↓bM_ld11 h, ↓bM_ld12 h, ↓bM_ld13 h, ↓bM_ld14 h, ↓bM_ld15 h, ↓bM_ld16 h, ↓bM_ld17 h, ↓bM_ld18 h, ↓bM_ld19 h, ↓bM_ld20 h, ↓bM_ld21 h, ↓bM_st1 h, ↓bM_st2 h, ↓bM_st3 h, ↓bM_st4 h, ↓bM_st5 h, ↓bM_st6 h, ↓bM_st7 h, ↓bM_st8 h, ↓bM_st9 h, ↓bM_st10 h, ↓bM_st11 h, ↓bM_st12 h, ↓bM_st13 h, ↓bM_st14 h, ↓bM_st15 h, ↓bM_st16 h, ↓bM_st17 h, ↓bM_st18 h, ↓bM_st19 h, ↓bM_st20 h, ↓bM_st21 h, Int.toNat_add, Int.toNat_mul, Int.toNat_natCast, Int.reduceToNat, Nat.reduceAdd, Nat.reduceMul, e1, ↓mhangs_w h (lrF G) hk, k1, k2, ↓bnd eW]
          exact hnx d _ _ (by omega) ⟨G2, v + 1, r + 1, rfl, rfl, by omega, Or.inr ⟨rfl, by dsimp only; omega, by dsimp only; omega⟩, hV'⟩
        · rw [if_neg (by omega)] at hV'
          by_cases c3 : v + 1 < F
          · rw [if_pos c3] at hV'
            simp (disch := omega) only [↓i_lt_t, ↓i_lt_f, ↓i_eq_t, ↓i_eq_f, ↓i_bi_t, ↓i_bi_f, ↓i_some, ↓bM_gI h, ↓bM_pI h, ↓bM_inv h, ↓bM_g1 h, ↓bM_g2 h, ↓bM_g3 h, ↓bM_g4 h, ↓bM_g15 h, ↓bM_g16 h, ↓bM_g22 h, ↓bM_g23 h, ↓bM_g24 h, ↓bM_g25 h, ↓bM_g28 h, ↓bM_g29 h, ↓bM_g30 h, ↓bM_g32 h, ↓bM_g33 h, ↓bM_g34 h, ↓bM_g36 h, ↓bM_g37 h, ↓bM_g41 h, ↓bM_g42 h, ↓bM_g43 h, ↓bM_ld1 h, ↓bM_ld2 h, ↓bM_ld3 h, ↓bM_ld4 h, ↓bM_ld5 h, ↓bM_ld6 h, ↓bM_ld7 h, ↓bM_ld8 h, ↓bM_ld9 h, ↓bM_ld10 h, ↓bM_ld11 h, ↓bM_ld12 h, ↓bM_ld13 h, ↓bM_ld14 h, ↓bM_ld15 h, ↓bM_ld16 h, ↓bM_ld17 h, ↓bM_ld18 h, ↓bM_ld19 h, ↓bM_ld20 h, ↓bM_ld21 h, ↓bM_st1 h, ↓bM_st2 h, ↓bM_st3 h, ↓bM_st4 h, ↓bM_st5 h, ↓bM_st6 h, ↓bM_st7 h, ↓bM_st8 h, ↓bM_st9 h, ↓bM_st10 h, ↓bM_st11 h, ↓bM_st12 h, ↓bM_st13 h, ↓bM_st14 h, ↓bM_st15 h, ↓bM_st16 h, ↓bM_st17 h, ↓bM_st18 h, ↓bM_st19 h, ↓bM_st20 h, ↓bM_st21 h, Int.toNat_add, Int.toNat_mul, Int.toNat_natCast, Int.reduceToNat, Nat.reduceAdd, Nat.reduceMul, e1, ↓mhangs_w h (lrF G) hk, k1, k2, ↓bnd eW]
            exact hnx d _ _ (by omega) ⟨G2, v + 1, r + 1, rfl, rfl, by omega, Or.inr ⟨rfl, by dsimp only; omega, by dsimp only; omega⟩, hV'⟩
          · rw [if_neg c3] at hV'
            simp (disch := omega) only [↓i_lt_t, ↓i_lt_f, ↓i_eq_t, ↓i_eq_f, ↓i_bi_t, ↓i_bi_f, ↓i_some, ↓bM_gI h, ↓bM_pI h, ↓bM_inv h, ↓bM_g1 h, ↓bM_g2 h, ↓bM_g3 h, ↓bM_g4 h, ↓bM_g15 h, ↓bM_g16 h, ↓bM_g22 h, ↓bM_g23 h, ↓bM_g24 h, ↓bM_g25 h, ↓bM_g28 h, ↓bM_g29 h, ↓bM_g30 h, ↓bM_g32 h, ↓bM_g33 h, ↓bM_g34 h, ↓bM_g36 h, ↓bM_g37 h, ↓bM_g41 h, ↓bM_g42 h, ↓bM_g43 h, ↓bM_ld1 h, ↓bM_ld2 h, ↓bM_ld3 h, ↓bM_ld4 h, ↓bM_ld5 h, ↓bM_ld6 h, ↓bM_ld7 h, ↓bM_ld8 h, ↓bM_ld9 h, ↓bM_ld10 h, ↓bM_ld11 h, ↓bM_ld12 h, ↓bM_ld13 h, ↓bM_ld14 h, ↓bM_ld15 h, ↓bM_ld16 h, ↓bM_ld17 h, ↓bM_ld18 h, ↓bM_ld19 h, ↓bM_ld20 h, ↓bM_ld21 h, ↓bM_st1 h, ↓bM_st2 h, ↓bM_st3 h, ↓bM_st4 h, ↓bM_st5 h, ↓bM_st6 h, ↓bM_st7 h, ↓bM_st8 h, ↓bM_st9 h, ↓bM_st10 h, ↓bM_st11 h, ↓bM_st12 h, ↓bM_st13 h, ↓bM_st14 h, ↓bM_st15 h, ↓bM_st16 h, ↓bM_st17 h, ↓bM_st18 h, ↓bM_st19 h, ↓bM_st20 h, ↓bM_st21 h, Int.toNat_add, Int.toNat_mul, Int.toNat_natCast, Int.reduceToNat, Nat.reduceAdd, Nat.reduceMul, e1, ↓mhangs_w h (lrF G) hk, k1, k2, ↓bnd eW]
            exact hnx d _ _ (by omega) ⟨G2, F, r + 1, rfl, rfl, by omega, Or.inr ⟨rfl, f1, f2⟩, hV'⟩
    · unfold rgS at hV'
      rw [if_neg c9] at hV'
      simp (disch := omega) only [↓i_lt_t, ↓i_lt_f, ↓i_eq_t, ↓i_eq_f, ↓i_bi_t, ↓i_bi_f, ↓i_some, ↓bM_gI h, ↓bM_pI h, ↓bM_inv h, ↓bM_g1 h, ↓bM_g2 h, ↓bM_g3 h, ↓bM_g4 h, ↓bM_g15 h, ↓bM_g16 h, ↓bM_g22 h, ↓bM_g23 h, ↓bM_g24 h, ↓bM_g25 h, ↓bM_g28 h, ↓bM_g29 h, ↓bM_g30 h, ↓bM_g32 h, ↓bM_g33 h, ↓bM_g34 h, ↓bM_g36 h, ↓bM_g37 h, ↓bM_g41 h, ↓bM_g42 h, ↓bM_g43 h, ↓bM_ld1 h, ↓bM_ld2 h, ↓bM_ld3 h, ↓bM_ld4 h, ↓bM_ld5 h, ↓bM_ld6 h, ↓bM_ld7 h, ↓bM_ld8 h, ↓bM_ld9 h, ↓bM_ld10 h, ↓bM_ld11 h, ↓bM_ld12 h, ↓bM_ld13 h, ↓bM_ld14 h, ↓bM_ld15 h, ↓bM_ld16 h, ↓bM_ld17 h, ↓bM_ld18 h, ↓bM_ld19 h, ↓bM_ld20 h, ↓bM_ld21 h, ↓bM_st1 h, ↓bM_st2 h, ↓bM_st3 h, ↓bM_st4 h, ↓bM_st5 h, ↓bM_st6 h, ↓bM_st7 h, ↓bM_st8 h, ↓bM_st9 h, ↓bM_st10 h, ↓bM_st11 h, ↓bM_st12 h, ↓bM_st13 h, ↓bM_st14 h, ↓bM_st15 h, ↓bM_st16 h, ↓bM_st17 h, ↓bM_st18 h, ↓bM_st19 h, ↓bM_st20 h, ↓bM_st21 h, Int.toNat_add, Int.toNat_mul, Int.toNat_natCast, Int.reduceToNat, Nat.reduceAdd, Nat.reduceMul, e1, ↓mhangs_w h (lrF G) hk]
      exact hnx d _ _ (by omega) ⟨G, F, r + 1, rfl, rfl, by omega, hF, hV'⟩
theorem FrW.r7 (s : Ld) (F : Nat → Int) {k : Nat} (hk : k ≠ 0 ∧ k ≠ 1 ∧ k ≠ 2 ∧ k ≠ 3 ∧ k ≠ 19 ∧ k ≠ 20 ∧ k ≠ 21) : FrW s (up1 s k F) := ⟨⟨up1_o (by omega), up1_o (by omega), up1_o (by omega), up1_o (by omega), up1_o (by omega)⟩, fun j _ _ => congrFun (up1_o (by omega)) j, fun j _ => congrFun (up1_o (by omega)) j⟩
theorem both_ring (hC : isC μ c) (hM : isM μ (c + 193)) (hR : RelC c I) (hn : 20000 ≤ n) : Both μ c I (mX10_ring n c) (mX11_ring n (c + 193)) := by
  obtain ⟨hk, lr, lq, h0, h9⟩ := id hR.1
  obtain ⟨J, cJ, jh, e1⟩ := ring_c (n := n) hC hk hn
  have jr : ld J (c + 193) = ld I (c + 193) := funext fun k => jh _ (by omega)
  obtain ⟨F, e2⟩ := ring_m (n := n) (I := J) (s := ld J (c + 193)) (l := ld I (c + 3)) hM (by rw [jr]; exact lr) hk hn
  rw [ldwm] at e2
  refine Both.mk hR cJ.h e1 e2 ((Fr.f0 _ (Or.inl rfl)).w.tr (FrW.r7 _ _ (by decide))) ?_
  rw [up1_o (by decide), up2_row (by decide), jr]
  exact hR.1.cg (fun k hk => cJ _ (by unfold tmp; omega))
end R2
