section SJ
variable {μ : Mem} {I J G : Nat → Nat → Int} {t a n N R : Nat} {l : Ld} {β : Type}
theorem fit_db {l : Ld} {pr p : Nat → Int} {r : Nat} (h : l 9 r = 0) : fitR l pr p r ↔ dbL l r (bi (p (l 10 (2 * r)).toNat = r)) (bi (p (l 10 (2 * r + 1)).toNat = r)) = pr r := by
  unfold fitR mvS
  rw [if_pos h, up2_s]
theorem who4 : ∀ x : Nat, x < 2 → ∀ y : Nat, y < 2 → oOr ((x : Nat) : Int) ((2 * y : Nat) : Int) = ((x + 2 * y : Nat) : Int) ∧ (x + 2 * y) % 2 = x ∧ (x + 2 * y) / 2 = y := by decide
theorem fitsUpTo_eq (hL : isL μ a) (hT : isSi μ t) (hk : okL (ld J a)) (hR : (R : Int) = ld J a 0 1) {pr : Nat → Int} (hf : ftP (ld J a) pr J t R) {h : Nat} (hh : h < 10) (hp : ∀ j : Nat, j ≤ h → -1 ≤ J (t + 2) j ∧ J (t + 2) j < 16) (hn : 20000 ≤ n) : mX5_fitsUpTo n t a (h : Int) (wi μ J) = some (bc (∀ r : Nat, r < R → ld J a 9 r = 0 → mxE (ld J a) r = (h : Int) → fitR (ld J a) pr (J (t + 2)) r), wi μ J) := by
  have hz := hk.1
  unfold mX5_fitsUpTo
  refine lp_ind (fun d (v : Int) ν => ∃ r : Nat, ν = wi μ J ∧ v = (r : Int) ∧ r + d = R ∧ ∀ q : Nat, q < r → ld J a 9 q = 0 → mxE (ld J a) q = (h : Int) → fitR (ld J a) pr (J (t + 2)) q) (fun X => X = some (bc (∀ r : Nat, r < R → ld J a 9 r = 0 → mxE (ld J a) r = (h : Int) → fitR (ld J a) pr (J (t + 2)) r), wi μ J)) (fun d v ν nx hP hnx => ?_) n R _ _ (by omega) ⟨0, rfl, rfl, by omega, fun q hq => by omega⟩
  obtain ⟨r, rfl, rfl, h1, h2⟩ := hP
  cases d with
  | zero =>
    simp (disch := omega) only [↓i_lt_t, ↓i_lt_f, ↓i_eq_t, ↓i_eq_f, ↓i_bi_t, ↓i_bi_f, ↓i_some, ↓bL_gI hL, ↓bL_inv hL, ↓bL_g6 hL, ↓bL_g7 hL, ↓bL_g8 hL, ↓bL_g9 hL, ↓bL_g10 hL, ↓bL_g11 hL, ↓bL_g12 hL, ↓bL_g13 hL, ↓bL_g14 hL, ↓bL_g15 hL, ↓bL_g16 hL, ↓bL_g17 hL, ↓bL_ld1 hL, ↓bL_ld2 hL, ↓bL_ld3 hL, ↓bL_ld4 hL, ↓bL_ld5 hL, ↓bL_ld6 hL, ↓bL_ld7 hL, ↓bL_ld8 hL, ↓bL_ld9 hL, ↓bL_ld10 hL, ↓bL_ld11 hL, ↓bL_ld12 hL, ↓bL_st1 hL, ↓bL_st2 hL, ↓bL_st3 hL, ↓bL_st4 hL, ↓bL_st5 hL, ↓bL_st6 hL, ↓bL_st7 hL, ↓bL_st8 hL, ↓bL_st9 hL, ↓bL_st10 hL, ↓bL_st11 hL, ↓bL_st12 hL]
    rw [bc_t (fun q hq => h2 q (by omega)), retZ_1]
  | succ d =>
    have hr : (r : Int) < ld J a 0 1 := by omega
    have g9 := hk.2.2.1 r hr
    have g1 := hk.2.2.2 (2 * r) (by omega)
    have g2 := hk.2.2.2 (2 * r + 1) (by omega)
    have nxt : (ld J a 9 r = 0 → mxE (ld J a) r = (h : Int) → fitR (ld J a) pr (J (t + 2)) r) → ∀ q : Nat, q < r + 1 → ld J a 9 q = 0 → mxE (ld J a) q = (h : Int) → fitR (ld J a) pr (J (t + 2)) q := fun z q hq => by
      by_cases e : q = r
      · subst e; exact z
      · exact h2 q (by omega)
    have mm := mMax_of (x := ld J a 10 (2 * r)) (y := ld J a 10 (2 * r + 1)) (by omega) (by omega) (by omega) (by omega)
    by_cases c9 : ld J a 9 r = 0
    · by_cases cm : mxE (ld J a) r = (h : Int)
      · have cm' : max (ld J a 10 (2 * r)) (ld J a 10 (2 * r + 1)) = (h : Int) := cm
        have p1 := hp (ld J a 10 (2 * r)).toNat (by omega)
        have p2 := hp (ld J a 10 (2 * r + 1)).toNat (by omega)
        have fd := fit_db (pr := pr) (p := J (t + 2)) c9
        -- by who pulls
        have fin : ∀ x y : Nat, x < 2 → y < 2 → ((x : Nat) : Int) = bi (J (t + 2) (ld J a 10 (2 * r)).toNat = r) → ((y : Nat) : Int) = bi (J (t + 2) (ld J a 10 (2 * r + 1)).toNat = r) → ((gA (wi μ J) 6 t 2).bind fun x88 => (ldI (wi μ J) 2 x88 ((4 * (r : Int)) + (oOr ((x : Nat) : Int) ((2 * y : Nat) : Int)))).bind fun x97 => if eq32 x97 0 then retZ 0 (wi μ J) else nx ((r : Int) + 1) (wi μ J)) = some (bc (∀ r : Nat, r < R → ld J a 9 r = 0 → mxE (ld J a) r = (h : Int) → fitR (ld J a) pr (J (t + 2)) r), wi μ J) := by
          intro x y hx hy ex ey
          obtain ⟨w1, w2, w3⟩ := who4 x hx y hy
          have ft := hf r (x + 2 * y) (by omega) (by omega)
          rw [w2, w3, ex, ey] at ft
          rw [bs_g2 hT, w1, bs_ld1 hT (by omega) (by omega), show ((4 * (r : Int)) + ((x + 2 * y : Nat) : Int)).toNat = 4 * r + (x + 2 * y) by omega, ft]
          by_cases cf : dbL (ld J a) r (bi (J (t + 2) (ld J a 10 (2 * r)).toNat = r)) (bi (J (t + 2) (ld J a 10 (2 * r + 1)).toNat = r)) = pr r
          · rw [i_bi_t cf]
            exact hnx d _ _ (by omega) ⟨r + 1, rfl, rfl, by omega, nxt (fun _ _ => fd.mpr cf)⟩
          · rw [i_bi_f cf, bc_f (fun z => cf (fd.mp (z r (by omega) c9 cm))), retZ_0]
        by_cases cx : J (t + 2) (ld J a 10 (2 * r)).toNat = r
        · by_cases cy : J (t + 2) (ld J a 10 (2 * r + 1)).toNat = r
          · have f := fin 1 1 (by decide) (by decide) (by rw [bi_t cx]; rfl) (by rw [bi_t cy]; rfl)
            simp (disch := omega) only [jn, ↓i_lt_t, ↓i_lt_f, ↓i_eq_t, ↓i_eq_f, ↓i_bi_t, ↓i_bi_f, ↓i_some, ↓bL_gI hL, ↓bL_inv hL, ↓bL_g6 hL, ↓bL_g7 hL, ↓bL_g8 hL, ↓bL_g9 hL, ↓bL_g10 hL, ↓bL_g11 hL, ↓bL_g12 hL, ↓bL_g13 hL, ↓bL_g14 hL, ↓bL_g15 hL, ↓bL_g16 hL, ↓bL_g17 hL, ↓bL_ld1 hL, ↓bL_ld2 hL, ↓bL_ld3 hL, ↓bL_ld4 hL, ↓bL_ld5 hL, ↓bL_ld6 hL, ↓bL_ld7 hL, ↓bL_ld8 hL, ↓bL_ld9 hL, ↓bL_ld10 hL, ↓bL_ld11 hL, ↓bL_ld12 hL, ↓bL_st1 hL, ↓bL_st2 hL, ↓bL_st3 hL, ↓bL_st4 hL, ↓bL_st5 hL, ↓bL_st6 hL, ↓bL_st7 hL, ↓bL_st8 hL, ↓bL_st9 hL, ↓bL_st10 hL, ↓bL_st11 hL, ↓bL_st12 hL, Int.toNat_add, Int.toNat_mul, Int.toNat_natCast, Int.reduceToNat, Nat.reduceAdd, Nat.reduceMul, mm, ↓bs_g3 hT, ↓bs_ld2 hT]
            exact f
          · have f := fin 1 0 (by decide) (by decide) (by rw [bi_t cx]; rfl) (by rw [bi_f cy]; rfl)
            simp (disch := omega) only [jn, ↓i_lt_t, ↓i_lt_f, ↓i_eq_t, ↓i_eq_f, ↓i_bi_t, ↓i_bi_f, ↓i_some, ↓bL_gI hL, ↓bL_inv hL, ↓bL_g6 hL, ↓bL_g7 hL, ↓bL_g8 hL, ↓bL_g9 hL, ↓bL_g10 hL, ↓bL_g11 hL, ↓bL_g12 hL, ↓bL_g13 hL, ↓bL_g14 hL, ↓bL_g15 hL, ↓bL_g16 hL, ↓bL_g17 hL, ↓bL_ld1 hL, ↓bL_ld2 hL, ↓bL_ld3 hL, ↓bL_ld4 hL, ↓bL_ld5 hL, ↓bL_ld6 hL, ↓bL_ld7 hL, ↓bL_ld8 hL, ↓bL_ld9 hL, ↓bL_ld10 hL, ↓bL_ld11 hL, ↓bL_ld12 hL, ↓bL_st1 hL, ↓bL_st2 hL, ↓bL_st3 hL, ↓bL_st4 hL, ↓bL_st5 hL, ↓bL_st6 hL, ↓bL_st7 hL, ↓bL_st8 hL, ↓bL_st9 hL, ↓bL_st10 hL, ↓bL_st11 hL, ↓bL_st12 hL, Int.toNat_add, Int.toNat_mul, Int.toNat_natCast, Int.reduceToNat, Nat.reduceAdd, Nat.reduceMul, mm, ↓bs_g3 hT, ↓bs_ld2 hT]
            exact f
        · by_cases cy : J (t + 2) (ld J a 10 (2 * r + 1)).toNat = r
          · have f := fin 0 1 (by decide) (by decide) (by rw [bi_f cx]; rfl) (by rw [bi_t cy]; rfl)
            simp (disch := omega) only [jn, ↓i_lt_t, ↓i_lt_f, ↓i_eq_t, ↓i_eq_f, ↓i_bi_t, ↓i_bi_f, ↓i_some, ↓bL_gI hL, ↓bL_inv hL, ↓bL_g6 hL, ↓bL_g7 hL, ↓bL_g8 hL, ↓bL_g9 hL, ↓bL_g10 hL, ↓bL_g11 hL, ↓bL_g12 hL, ↓bL_g13 hL, ↓bL_g14 hL, ↓bL_g15 hL, ↓bL_g16 hL, ↓bL_g17 hL, ↓bL_ld1 hL, ↓bL_ld2 hL, ↓bL_ld3 hL, ↓bL_ld4 hL, ↓bL_ld5 hL, ↓bL_ld6 hL, ↓bL_ld7 hL, ↓bL_ld8 hL, ↓bL_ld9 hL, ↓bL_ld10 hL, ↓bL_ld11 hL, ↓bL_ld12 hL, ↓bL_st1 hL, ↓bL_st2 hL, ↓bL_st3 hL, ↓bL_st4 hL, ↓bL_st5 hL, ↓bL_st6 hL, ↓bL_st7 hL, ↓bL_st8 hL, ↓bL_st9 hL, ↓bL_st10 hL, ↓bL_st11 hL, ↓bL_st12 hL, Int.toNat_add, Int.toNat_mul, Int.toNat_natCast, Int.reduceToNat, Nat.reduceAdd, Nat.reduceMul, mm, ↓bs_g3 hT, ↓bs_ld2 hT]
            exact f
          · have f := fin 0 0 (by decide) (by decide) (by rw [bi_f cx]; rfl) (by rw [bi_f cy]; rfl)
            simp (disch := omega) only [jn, ↓i_lt_t, ↓i_lt_f, ↓i_eq_t, ↓i_eq_f, ↓i_bi_t, ↓i_bi_f, ↓i_some, ↓bL_gI hL, ↓bL_inv hL, ↓bL_g6 hL, ↓bL_g7 hL, ↓bL_g8 hL, ↓bL_g9 hL, ↓bL_g10 hL, ↓bL_g11 hL, ↓bL_g12 hL, ↓bL_g13 hL, ↓bL_g14 hL, ↓bL_g15 hL, ↓bL_g16 hL, ↓bL_g17 hL, ↓bL_ld1 hL, ↓bL_ld2 hL, ↓bL_ld3 hL, ↓bL_ld4 hL, ↓bL_ld5 hL, ↓bL_ld6 hL, ↓bL_ld7 hL, ↓bL_ld8 hL, ↓bL_ld9 hL, ↓bL_ld10 hL, ↓bL_ld11 hL, ↓bL_ld12 hL, ↓bL_st1 hL, ↓bL_st2 hL, ↓bL_st3 hL, ↓bL_st4 hL, ↓bL_st5 hL, ↓bL_st6 hL, ↓bL_st7 hL, ↓bL_st8 hL, ↓bL_st9 hL, ↓bL_st10 hL, ↓bL_st11 hL, ↓bL_st12 hL, Int.toNat_add, Int.toNat_mul, Int.toNat_natCast, Int.reduceToNat, Nat.reduceAdd, Nat.reduceMul, mm, ↓bs_g3 hT, ↓bs_ld2 hT]
            exact f
      · have cm' : ¬ max (ld J a 10 (2 * r)) (ld J a 10 (2 * r + 1)) = (h : Int) := cm
        simp (disch := omega) only [↓i_lt_t, ↓i_lt_f, ↓i_eq_t, ↓i_eq_f, ↓i_bi_t, ↓i_bi_f, ↓i_some, ↓bL_gI hL, ↓bL_inv hL, ↓bL_g6 hL, ↓bL_g7 hL, ↓bL_g8 hL, ↓bL_g9 hL, ↓bL_g10 hL, ↓bL_g11 hL, ↓bL_g12 hL, ↓bL_g13 hL, ↓bL_g14 hL, ↓bL_g15 hL, ↓bL_g16 hL, ↓bL_g17 hL, ↓bL_ld1 hL, ↓bL_ld2 hL, ↓bL_ld3 hL, ↓bL_ld4 hL, ↓bL_ld5 hL, ↓bL_ld6 hL, ↓bL_ld7 hL, ↓bL_ld8 hL, ↓bL_ld9 hL, ↓bL_ld10 hL, ↓bL_ld11 hL, ↓bL_ld12 hL, ↓bL_st1 hL, ↓bL_st2 hL, ↓bL_st3 hL, ↓bL_st4 hL, ↓bL_st5 hL, ↓bL_st6 hL, ↓bL_st7 hL, ↓bL_st8 hL, ↓bL_st9 hL, ↓bL_st10 hL, ↓bL_st11 hL, ↓bL_st12 hL, Int.toNat_add, Int.toNat_mul, Int.toNat_natCast, Int.reduceToNat, Nat.reduceAdd, Nat.reduceMul, mm]
        exact hnx d _ _ (by omega) ⟨r + 1, rfl, rfl, by omega, nxt (fun _ z => absurd z cm)⟩
    · simp (disch := omega) only [↓i_lt_t, ↓i_lt_f, ↓i_eq_t, ↓i_eq_f, ↓i_bi_t, ↓i_bi_f, ↓i_some, ↓bL_gI hL, ↓bL_inv hL, ↓bL_g6 hL, ↓bL_g7 hL, ↓bL_g8 hL, ↓bL_g9 hL, ↓bL_g10 hL, ↓bL_g11 hL, ↓bL_g12 hL, ↓bL_g13 hL, ↓bL_g14 hL, ↓bL_g15 hL, ↓bL_g16 hL, ↓bL_g17 hL, ↓bL_ld1 hL, ↓bL_ld2 hL, ↓bL_ld3 hL, ↓bL_ld4 hL, ↓bL_ld5 hL, ↓bL_ld6 hL, ↓bL_ld7 hL, ↓bL_ld8 hL, ↓bL_ld9 hL, ↓bL_ld10 hL, ↓bL_ld11 hL, ↓bL_ld12 hL, ↓bL_st1 hL, ↓bL_st2 hL, ↓bL_st3 hL, ↓bL_st4 hL, ↓bL_st5 hL, ↓bL_st6 hL, ↓bL_st7 hL, ↓bL_st8 hL, ↓bL_st9 hL, ↓bL_st10 hL, ↓bL_st11 hL, ↓bL_st12 hL, Int.toNat_add, Int.toNat_mul, Int.toNat_natCast, Int.reduceToNat, Nat.reduceAdd, Nat.reduceMul]
      exact hnx d _ _ (by omega) ⟨r + 1, rfl, rfl, by omega, nxt (fun z => absurd z c9)⟩
/-- what choosing leaves alone -/
def siF (G K : Nat → Nat → Int) (t : Nat) : Prop := (∀ b : Nat, b ≠ t → b ≠ t + 2 → K b = G b)
theorem fitR_l {l l' : Ld} (e : ∀ k : Nat, k ≤ 12 → l' k = l k) {pr p : Nat → Int} {r : Nat} : fitR l' pr p r ↔ fitR l pr p r := by
  unfold fitR mvS dbL dfL plL wtL
  rw [e 0 (by decide), e 1 (by decide), e 7 (by decide), e 9 (by decide), e 10 (by decide), e 11 (by decide), e 12 (by decide), e 8 (by decide)]
  by_cases c : l 9 r = 0
  · rw [if_pos c, if_pos c, up2_s, up2_s]
  · rw [if_neg c, if_neg c, e 8 (by decide)]
theorem choose_eq (hL : isL μ a) (hT : isSi μ t) (sep : t + 2 < a ∨ a + 12 < t) (hk : okL (ld G a)) (hN : ld G a 0 0 = (N : Int)) (hN6 : N ≤ 6) (hR : (R : Int) = ld G a 0 1) {pr : Nat → Int} (hf : ftP (ld G a) pr G t R) (hcut : ∀ r : Nat, r < R → ld G a 9 r ≠ 0 → ld G a 8 r = pr r) (hn : 20000 ≤ n) : ∀ (d D h : Nat) (K : Nat → Nat → Int) (p : Nat → Int) (x : Int), d < D → h + d = N → siF G K t → (∀ j : Nat, j < h → K (t + 2) j = p j ∧ -1 ≤ p j ∧ p j < 16) → isMk x (fun k => k < h ∧ p k ≠ -1) → (∀ r : Nat, r < R → ld G a 9 r = 0 → mxE (ld G a) r < (h : Int) → fitR (ld G a) pr p r) → ∃ K' : Nat → Nat → Int, lp (bX5_choose n) D (t, a, (h : Int), x) (wi μ K) = some ((), wi μ K') ∧ siF G K' t ∧ (∀ j : Nat, j < h → K' (t + 2) j = p j) ∧ K' t 0 = K t 0 + (wF (ld G a) pr R N d h p (K t 1)).1 ∧ K' t 1 = (wF (ld G a) pr R N d h p (K t 1)).2 := by
  have hz := hk.1
  intro d
  induction d with
  | zero =>
    intro D h K p x hD e hF' hp hx hfit
    obtain ⟨D, rfl⟩ : ∃ D' : Nat, D = D' + 1 := ⟨D - 1, by omega⟩
    have eh : h = N := by omega
    subst eh
    show ∃ K' : Nat → Nat → Int, bX5_choose n (lp (bX5_choose n) D) (t, a, (h : Int), x) (wi μ K) = some ((), wi μ K') ∧ _
    have k0 : ld K a 0 0 = (h : Int) := by
      show K (a + 0) 0 = _
      rw [hF' _ (by omega) (by omega)]
      exact hN
    have all : ∀ r : Nat, r < R → fitR (ld G a) pr p r := fun r hr => by
      by_cases c9 : ld G a 9 r = 0
      · have g1 := hk.2.2.2 (2 * r) (by omega)
        have g2 := hk.2.2.2 (2 * r + 1) (by omega)
        exact hfit r hr c9 (by unfold mxE; omega)
      · unfold fitR mvS
        rw [if_neg c9]
        exact hcut r hr c9
    have hw : wF (ld G a) pr R h 0 h p (K t 1) = (1, oAnd (K t 1) (msk h p)) := if_pos all
    have ex : x = msk h p := mk_ext hx (msk_mk (by omega)) (fun _ => Iff.rfl)
    have u1 : up2 K t 0 (K t 0 + 1) t 1 = K t 1 := up2_n (by omega)
    rw [hw]
    unfold bX5_choose
    dsimp only
    rw [bL_gI hL, k0]
    simp only [jn]
    rw [i_lt_f (by omega), bs_gI hT, bs_pI hT, bs_gI hT, bs_pI hT, u1, ex]
    refine ⟨_, rfl, fun b n0 n2 => ?_, fun j hj => ?_, ?_, ?_⟩
    · rw [up2_row n0, up2_row n0, hF' b n0 n2]
    · rw [up2_row (by omega), up2_row (by omega)]; exact (hp j hj).1
    · rw [up2_n (by omega), up2_s]
    · rw [up2_s]
  | succ d ih =>
    intro D h K p x hD e hF' hp hx hfit
    obtain ⟨D, rfl⟩ : ∃ D' : Nat, D = D' + 1 := ⟨D - 1, by omega⟩
    show ∃ K' : Nat → Nat → Int, bX5_choose n (lp (bX5_choose n) D) (t, a, (h : Int), x) (wi μ K) = some ((), wi μ K') ∧ _
    have ih' := ih D
    generalize lp (bX5_choose n) D = self at ih' ⊢
    have lK : ∀ H : Nat → Nat → Int, siF G H t → ∀ k : Nat, k ≤ 12 → ld H a k = ld G a k := fun H hH k hk => hH _ (by omega) (by omega)
    have k0 : ld K a 0 0 = (N : Int) := by rw [lK K hF' 0 (by decide)]; exact hN
    -- one choice of the house
    have one : ∀ (H : Nat → Nat → Int) (q x' : Int), siF G H t → (∀ j : Nat, j < h → H (t + 2) j = p j) → (-1 ≤ q ∧ q < 16) → isMk x' (fun k => k < h + 1 ∧ upA p h q k ≠ -1) → ∃ (b : Prop), mX5_fitsUpTo n t a (h : Int) (wi μ (up2 H (t + 2) h q)) = some (bc b, wi μ (up2 H (t + 2) h q)) ∧ (b → ∃ H' : Nat → Nat → Int, self (t, a, ((h : Int) + 1), x') (wi μ (up2 H (t + 2) h q)) = some ((), wi μ H') ∧ siF G H' t ∧ (∀ j : Nat, j < h → H' (t + 2) j = p j) ∧ H' t 0 = H t 0 + (wF (ld G a) pr R N d (h + 1) (upA p h q) (H t 1)).1 ∧ H' t 1 = (wF (ld G a) pr R N d (h + 1) (upA p h q) (H t 1)).2) ∧ (¬ b → wF (ld G a) pr R N d (h + 1) (upA p h q) (H t 1) = (0, H t 1)) := by
      intro H q x' hH hpH hq hx'
      generalize hK2 : up2 H (t + 2) h q = K2
      have f2 : siF G K2 t := fun b n0 n2 => by rw [← hK2, up2_row n2, hH b n0 n2]
      have r2 : ∀ j : Nat, j ≤ h → K2 (t + 2) j = upA p h q j := fun j hj => by
        rw [← hK2]
        by_cases ej : j = h
        · rw [ej, up2_s, upA_s]
        · rw [up2_n (by omega), upA_n ej, hpH j (by omega)]
      have rg : ∀ j : Nat, j ≤ h → -1 ≤ upA p h q j ∧ upA p h q j < 16 := fun j hj => by
        by_cases ej : j = h
        · rw [ej, upA_s]; exact hq
        · rw [upA_n ej]; exact (hp j (by omega)).2
      have e2 := lK K2 f2
      have t0 : K2 t = H t := by rw [← hK2, up2_row (by omega)]
      have ft2 : ftP (ld K2 a) pr K2 t R := fun r w hr hw => by
        rw [f2 (t + 1) (by omega) (by omega), hf r w hr hw]
        unfold dbL dfL plL wtL
        rw [e2 0 (by decide), e2 1 (by decide), e2 7 (by decide), e2 8 (by decide), e2 10 (by decide), e2 11 (by decide), e2 12 (by decide)]
      have fu := fitsUpTo_eq (n := n) (J := K2) (R := R) (h := h) hL hT (hk.cg e2) (by rw [e2 0 (by decide)]; exact hR) ft2 (by omega) (fun j hj => by rw [r2 j hj]; exact rg j hj) hn
      have agree : ∀ r : Nat, r < R → mxE (ld G a) r ≤ (h : Int) → (fitR (ld K2 a) pr (K2 (t + 2)) r ↔ fitR (ld G a) pr (upA p h q) r) := fun r hr hm => by
        have g1 := hk.2.2.2 (2 * r) (by omega)
        have g2 := hk.2.2.2 (2 * r + 1) (by omega)
        unfold mxE at hm
        rw [fitR_l e2]
        exact fitR_cg (r2 _ (by omega)) (r2 _ (by omega))
      refine ⟨_, fu, fun hb => ?_, fun hb => ?_⟩
      · have hfit2 : ∀ r : Nat, r < R → ld G a 9 r = 0 → mxE (ld G a) r < ((h + 1 : Nat) : Int) → fitR (ld G a) pr (upA p h q) r := fun r hr c9 hm => by
          by_cases em : mxE (ld G a) r = (h : Int)
          · refine (agree r hr (by omega)).mp (hb r hr (by rw [e2 9 (by decide)]; exact c9) ?_)
            unfold mxE at em ⊢
            rw [e2 10 (by decide)]
            exact em
          · have g1 := hk.2.2.2 (2 * r) (by omega)
            have g2 := hk.2.2.2 (2 * r + 1) (by omega)
            have hm' : mxE (ld G a) r < (h : Int) := by omega
            have o := hfit r hr c9 hm'
            unfold mxE at hm'
            exact (fitR_cg (upA_n (by omega)) (upA_n (by omega))).mpr o
        obtain ⟨H', eH, fH, pH, w0, w1⟩ := ih' (h + 1) K2 (upA p h q) x' (by omega) (by omega) f2 (fun j hj => ⟨r2 j (by omega), rg j (by omega)⟩) hx' hfit2
        rw [t0] at w0 w1
        exact ⟨H', eH, fH, fun j hj => by rw [pH j (by omega), upA_n (by omega)], w0, w1⟩
      · have : ∃ r : Nat, r < R ∧ ld G a 9 r = 0 ∧ mxE (ld G a) r = (h : Int) ∧ ¬ fitR (ld G a) pr (upA p h q) r := Classical.byContradiction fun hn' => hb (fun r hr c9 hm => by
          have em : mxE (ld G a) r = (h : Int) := by
            unfold mxE at hm ⊢
            rw [e2 10 (by decide)] at hm
            exact hm
          refine (agree r hr (by omega)).mpr (Classical.byContradiction fun z => hn' ⟨r, hr, by rw [e2 9 (by decide)] at c9; exact c9, em, z⟩))
        obtain ⟨r, hr, c9, hm, hnf⟩ := this
        exact wF_0 hk hR hr d (h + 1) _ _ (by omega) hnf
    have mx0 : isMk x (fun k => k < h + 1 ∧ upA p h (-1) k ≠ -1) := hx.cg (fun k => by
      by_cases ek : k = h
      · subst ek
        rw [upA_s]
        exact ⟨fun z => by omega, fun z => absurd rfl z.2⟩
      · rw [upA_n ek]
        exact ⟨fun z => ⟨by omega, z.2⟩, fun z => ⟨by omega, z.2⟩⟩)
    have mx1 : ∀ q : Int, q ≠ -1 → isMk (oOr x (oShl 1 (h : Int))) (fun k => k < h + 1 ∧ upA p h q k ≠ -1) := fun q hq => (mk_or hx (mk_1 (k := h) (by omega))).cg (fun k => by
      by_cases ek : k = h
      · subst ek
        rw [upA_s]
        exact ⟨fun _ => ⟨by omega, hq⟩, fun _ => Or.inr rfl⟩
      · rw [upA_n ek]
        exact ⟨fun z => z.elim (fun z => ⟨by omega, z.2⟩) (fun z => absurd z ek), fun z => Or.inl ⟨by omega, z.2⟩⟩)
    -- the ropes one by one, behind the choice of none
    have loop : ∀ (H : Nat → Nat → Int), siF G H t → (∀ j : Nat, j < h → H (t + 2) j = p j) → H t 0 = K t 0 + (wF (ld G a) pr R N d (h + 1) (upA p h (-1)) (K t 1)).1 → H t 1 = (wF (ld G a) pr R N d (h + 1) (upA p h (-1)) (K t 1)).2 → ∃ K' : Nat → Nat → Int, lp (fun nx63 (v63 : Int) (μ63 : Mem) =>
        (gI μ63 2 a 1).bind fun x66 =>
        if lt32 v63 x66 then
          (inv μ63 2 a (mX1_hangsOpen n a v63 (h : Int) μ63)).bind fun p76 =>
          if eq32 p76.1 0 then
            nx63 (v63 + 1) p76.2
          else
          (gA p76.2 6 t 3).bind fun x83 =>
          (stI p76.2 0 x83 (h : Int) v63).bind fun μ89 =>
          (inv μ89 6 t (mX5_fitsUpTo n t a (h : Int) μ89)).bind fun p93 =>
          if eq32 p93.1 0 then
            nx63 (v63 + 1) p93.2
          else
          (inv p93.2 6 t (self (t, a, ((h : Int) + 1), (oOr x (oShl 1 (h : Int)))) p93.2)).bind fun p109 =>
          nx63 (v63 + 1) p109.2
        else
        some ((), μ63)) n 0 (wi μ H) = some ((), wi μ K') ∧ siF G K' t ∧ (∀ j : Nat, j < h → K' (t + 2) j = p j) ∧ K' t 0 = K t 0 + (wF (ld G a) pr R N (d + 1) h p (K t 1)).1 ∧ K' t 1 = (wF (ld G a) pr R N (d + 1) h p (K t 1)).2 := by
      intro H hH hpH w0 w1
      generalize hst : (fun (i : Nat) (z : Int × Int) => @ite (Int × Int) (awL (ld G a) h i) (Classical.propDecidable _) (z.1 + (wF (ld G a) pr R N d (h + 1) (upA p h ((i : Int) - 1)) z.2).1, (wF (ld G a) pr R N d (h + 1) (upA p h ((i : Int) - 1)) z.2).2) z) = stp
      have eW : wF (ld G a) pr R N (d + 1) h p (K t 1) = itr stp 1 R (stp 0 (0, K t 1)) := by rw [← hst]; rfl
      have e0 : stp 0 (0, K t 1) = ((wF (ld G a) pr R N d (h + 1) (upA p h (-1)) (K t 1)).1, (wF (ld G a) pr R N d (h + 1) (upA p h (-1)) (K t 1)).2) := by
        rw [← hst]
        dsimp only
        rw [if_pos (show awL (ld G a) h 0 from Or.inl rfl), show ((0 : Nat) : Int) - 1 = -1 from rfl, Int.zero_add]
      rw [eW, e0]
      refine lp_ind (fun e (v : Int) ν => ∃ (H : Nat → Nat → Int) (r : Nat) (z : Int × Int), ν = wi μ H ∧ v = (r : Int) ∧ r + e = R ∧ siF G H t ∧ (∀ j : Nat, j < h → H (t + 2) j = p j) ∧ H t 0 = K t 0 + z.1 ∧ H t 1 = z.2 ∧ itr stp (r + 1) e z = itr stp 1 R ((wF (ld G a) pr R N d (h + 1) (upA p h (-1)) (K t 1)).1, (wF (ld G a) pr R N d (h + 1) (upA p h (-1)) (K t 1)).2)) (fun X => ∃ K' : Nat → Nat → Int, X = some ((), wi μ K') ∧ siF G K' t ∧ (∀ j : Nat, j < h → K' (t + 2) j = p j) ∧ K' t 0 = K t 0 + (itr stp 1 R ((wF (ld G a) pr R N d (h + 1) (upA p h (-1)) (K t 1)).1, (wF (ld G a) pr R N d (h + 1) (upA p h (-1)) (K t 1)).2)).1 ∧ K' t 1 = (itr stp 1 R ((wF (ld G a) pr R N d (h + 1) (upA p h (-1)) (K t 1)).1, (wF (ld G a) pr R N d (h + 1) (upA p h (-1)) (K t 1)).2)).2) (fun e v ν nx hP hnx => ?_) n R _ _ (by omega) ⟨H, 0, _, rfl, rfl, by omega, hH, hpH, w0, w1, rfl⟩
      obtain ⟨H, r, z, rfl, rfl, h1, hH, hpH, w0, w1, hV⟩ := hP
      have eH := lK H hH
      have okH : okL (ld H a) := hk.cg eH
      have h01 : ld H a 0 1 = (R : Int) := by rw [eH 0 (by decide)]; exact hR.symm
      cases e with
      | zero =>
        have hV' : z = itr stp 1 R ((wF (ld G a) pr R N d (h + 1) (upA p h (-1)) (K t 1)).1, (wF (ld G a) pr R N d (h + 1) (upA p h (-1)) (K t 1)).2) := hV
        simp (disch := omega) only [↓i_lt_t, ↓i_lt_f, ↓i_eq_t, ↓i_eq_f, ↓i_bi_t, ↓i_bi_f, ↓i_some, ↓bL_gI hL, ↓bL_inv hL, ↓bL_g6 hL, ↓bL_g7 hL, ↓bL_g8 hL, ↓bL_g9 hL, ↓bL_g10 hL, ↓bL_g11 hL, ↓bL_g12 hL, ↓bL_g13 hL, ↓bL_g14 hL, ↓bL_g15 hL, ↓bL_g16 hL, ↓bL_g17 hL, ↓bL_ld1 hL, ↓bL_ld2 hL, ↓bL_ld3 hL, ↓bL_ld4 hL, ↓bL_ld5 hL, ↓bL_ld6 hL, ↓bL_ld7 hL, ↓bL_ld8 hL, ↓bL_ld9 hL, ↓bL_ld10 hL, ↓bL_ld11 hL, ↓bL_ld12 hL, ↓bL_st1 hL, ↓bL_st2 hL, ↓bL_st3 hL, ↓bL_st4 hL, ↓bL_st5 hL, ↓bL_st6 hL, ↓bL_st7 hL, ↓bL_st8 hL, ↓bL_st9 hL, ↓bL_st10 hL, ↓bL_st11 hL, ↓bL_st12 hL, h01]
        rw [← hV']
        exact ⟨H, rfl, hH, hpH, w0, w1⟩
      | succ e =>
        have hr : (r : Int) < ld G a 0 1 := by omega
        have hV' : itr stp (r + 1 + 1) e (stp (r + 1) z) = itr stp 1 R ((wF (ld G a) pr R N d (h + 1) (upA p h (-1)) (K t 1)).1, (wF (ld G a) pr R N d (h + 1) (upA p h (-1)) (K t 1)).2) := hV
        have hgE : (hgP (ld H a) (r : Int) (h : Int) ∧ ld H a 9 (r : Int).toNat = 0) ↔ awL (ld G a) h (r + 1) := by
          unfold awL
          rw [Nat.add_sub_cancel, Int.toNat_natCast, eH 9 (by decide), hg_end (l := ld H a) (b := h) (k := r) (by rw [eH 0 (by decide)]; omega) (by omega), eH 10 (by decide)]
          exact ⟨fun z => Or.inr z, fun z => z.elim (fun z => by omega) id⟩
        by_cases ca : awL (ld G a) h (r + 1)
        · have es : stp (r + 1) z = (z.1 + (wF (ld G a) pr R N d (h + 1) (upA p h (r : Int)) z.2).1, (wF (ld G a) pr R N d (h + 1) (upA p h (r : Int)) z.2).2) := by
            rw [← hst]
            dsimp only
            rw [if_pos ca, show ((r + 1 : Nat) : Int) - 1 = (r : Int) by omega]
          obtain ⟨b, fu, fb, fnb⟩ := one H (r : Int) (oOr x (oShl 1 (h : Int))) hH hpH (by omega) (mx1 _ (by omega))
          rw [es] at hV'
          by_cases cb : b
          · obtain ⟨H', eS, fH, pH, v0, v1⟩ := fb cb
            simp (disch := omega) only [↓i_lt_t, ↓i_lt_f, ↓i_eq_t, ↓i_eq_f, ↓i_bi_t, ↓i_bi_f, ↓i_some, ↓bL_gI hL, ↓bL_inv hL, ↓bL_g6 hL, ↓bL_g7 hL, ↓bL_g8 hL, ↓bL_g9 hL, ↓bL_g10 hL, ↓bL_g11 hL, ↓bL_g12 hL, ↓bL_g13 hL, ↓bL_g14 hL, ↓bL_g15 hL, ↓bL_g16 hL, ↓bL_g17 hL, ↓bL_ld1 hL, ↓bL_ld2 hL, ↓bL_ld3 hL, ↓bL_ld4 hL, ↓bL_ld5 hL, ↓bL_ld6 hL, ↓bL_ld7 hL, ↓bL_ld8 hL, ↓bL_ld9 hL, ↓bL_ld10 hL, ↓bL_ld11 hL, ↓bL_ld12 hL, ↓bL_st1 hL, ↓bL_st2 hL, ↓bL_st3 hL, ↓bL_st4 hL, ↓bL_st5 hL, ↓bL_st6 hL, ↓bL_st7 hL, ↓bL_st8 hL, ↓bL_st9 hL, ↓bL_st10 hL, ↓bL_st11 hL, ↓bL_st12 hL, h01, ↓hangsOpen_w hL okH, ↓i_bi_t (hgE.mpr ca), ↓bs_g3 hT, ↓bs_st2 hT, Int.toNat_natCast, ↓bs_inv hT, ↓bnd fu, ↓i_bc_t cb, ↓bnd eS]
            refine hnx e _ _ (by omega) ⟨H', r + 1, _, rfl, rfl, by omega, fH, pH, ?_, ?_, hV'⟩
            · rw [v0, w0, w1]
              dsimp only
              omega
            · rw [v1, w1]
          · have f0 := fnb cb
            rw [w1] at f0
            rw [f0] at hV'
            simp (disch := omega) only [↓i_lt_t, ↓i_lt_f, ↓i_eq_t, ↓i_eq_f, ↓i_bi_t, ↓i_bi_f, ↓i_some, ↓bL_gI hL, ↓bL_inv hL, ↓bL_g6 hL, ↓bL_g7 hL, ↓bL_g8 hL, ↓bL_g9 hL, ↓bL_g10 hL, ↓bL_g11 hL, ↓bL_g12 hL, ↓bL_g13 hL, ↓bL_g14 hL, ↓bL_g15 hL, ↓bL_g16 hL, ↓bL_g17 hL, ↓bL_ld1 hL, ↓bL_ld2 hL, ↓bL_ld3 hL, ↓bL_ld4 hL, ↓bL_ld5 hL, ↓bL_ld6 hL, ↓bL_ld7 hL, ↓bL_ld8 hL, ↓bL_ld9 hL, ↓bL_ld10 hL, ↓bL_ld11 hL, ↓bL_ld12 hL, ↓bL_st1 hL, ↓bL_st2 hL, ↓bL_st3 hL, ↓bL_st4 hL, ↓bL_st5 hL, ↓bL_st6 hL, ↓bL_st7 hL, ↓bL_st8 hL, ↓bL_st9 hL, ↓bL_st10 hL, ↓bL_st11 hL, ↓bL_st12 hL, h01, ↓hangsOpen_w hL okH, ↓i_bi_t (hgE.mpr ca), ↓bs_g3 hT, ↓bs_st2 hT, Int.toNat_natCast, ↓bs_inv hT, ↓bnd fu, ↓i_bc_f cb]
            refine hnx e _ _ (by omega) ⟨_, r + 1, z, rfl, rfl, by omega, fun b n0 n2 => by rw [up2_row n2, hH b n0 n2], fun j hj => by rw [up2_n (by omega), hpH j hj], by rw [up2_row (by omega)]; exact w0, by rw [up2_row (by omega)]; exact w1, ?_⟩
            rw [← hV']
            dsimp only
            rw [Int.add_zero]
        · have es : stp (r + 1) z = z := by
            rw [← hst]
            exact if_neg ca
          rw [es] at hV'
          simp (disch := omega) only [↓i_lt_t, ↓i_lt_f, ↓i_eq_t, ↓i_eq_f, ↓i_bi_t, ↓i_bi_f, ↓i_some, ↓bL_gI hL, ↓bL_inv hL, ↓bL_g6 hL, ↓bL_g7 hL, ↓bL_g8 hL, ↓bL_g9 hL, ↓bL_g10 hL, ↓bL_g11 hL, ↓bL_g12 hL, ↓bL_g13 hL, ↓bL_g14 hL, ↓bL_g15 hL, ↓bL_g16 hL, ↓bL_g17 hL, ↓bL_ld1 hL, ↓bL_ld2 hL, ↓bL_ld3 hL, ↓bL_ld4 hL, ↓bL_ld5 hL, ↓bL_ld6 hL, ↓bL_ld7 hL, ↓bL_ld8 hL, ↓bL_ld9 hL, ↓bL_ld10 hL, ↓bL_ld11 hL, ↓bL_ld12 hL, ↓bL_st1 hL, ↓bL_st2 hL, ↓bL_st3 hL, ↓bL_st4 hL, ↓bL_st5 hL, ↓bL_st6 hL, ↓bL_st7 hL, ↓bL_st8 hL, ↓bL_st9 hL, ↓bL_st10 hL, ↓bL_st11 hL, ↓bL_st12 hL, h01, ↓hangsOpen_w hL okH, ↓i_bi_f (fun z => ca (hgE.mp z))]
          exact hnx e _ _ (by omega) ⟨H, r + 1, z, rfl, rfl, by omega, hH, hpH, w0, w1, hV'⟩
    unfold bX5_choose
    dsimp only
    rw [bL_gI hL, k0]
    simp only [jn]
    obtain ⟨b, fu, fb, fnb⟩ := one K (-1) x hF' (fun j hj => (hp j hj).1) (by omega) mx0
    rw [i_lt_t (by omega), i_lt_t (by omega), bs_g3 hT, bs_st2 hT (by omega) (by omega), Int.toNat_natCast, bs_inv hT, bnd fu]
    dsimp only
    by_cases cb : b
    · obtain ⟨H', eS, fH, pH, v0, v1⟩ := fb cb
      rw [i_bc_t cb, bs_inv hT, bnd eS]
      exact loop H' fH pH v0 v1
    · have f0 := fnb cb
      rw [i_bc_f cb]
      refine loop _ (fun b n0 n2 => by rw [up2_row n2, hF' b n0 n2]) (fun j hj => by rw [up2_n (by omega)]; exact (hp j hj).1) ?_ ?_
      · rw [f0, up2_row (by omega)]; dsimp only; omega
      · rw [f0, up2_row (by omega)]
end SJ
