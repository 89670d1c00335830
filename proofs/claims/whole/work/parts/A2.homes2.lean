/-! the class's homes -/
def isHo (μ : Mem) (t : Nat) : Prop := mS μ t = (1, 6) ∧ mA μ t 2 = t + 1 ∧ mA μ t 3 = t + 2 ∧ mA μ t 4 = t + 3 ∧ mS μ (t + 1) = (20, 7) ∧ mS μ (t + 2) = (20, 7) ∧ mS μ (t + 3) = (26, 7) ∧ ∀ i : Nat, i < 7 → mA μ (t + 3) i = t + 4 + i ∧ mS μ (t + 4 + i) = (20, 7)
theorem isC.ho {μ : Mem} {c : Nat} (h : isC μ c) : isHo μ (c + 145) := h.2.2.2.2.2.2.2.2.2.2.1
theorem isHo.k {μ : Mem} {t : Nat} (h : isHo μ t) : (mS μ t).1 = 1 := by rw [h.1]
section HO
variable {μ : Mem} {I J : Nat → Nat → Int} {t a n : Nat} {l : Ld} {β : Type}
theorem bh_gI (h : isHo μ t) {k : Nat} {f : Int → Option β} : (gI (wi μ J) 1 t k).bind f = f (J t k) := bnd (e_gI h.k) f
theorem bh_pI (h : isHo μ t) {k : Nat} {x : Int} {f : Mem → Option β} : (pI (wi μ J) 1 t k x).bind f = f (wi μ (up2 J t k x)) := bnd (e_pI h.k) f
theorem bh_g2 (h : isHo μ t) {f : Nat → Option β} : (gA (wi μ J) 1 t 2).bind f = f (t + 1) := bnd ((e_gA h.k).trans (congrArg some h.2.1)) f
theorem bh_g3 (h : isHo μ t) {f : Nat → Option β} : (gA (wi μ J) 1 t 3).bind f = f (t + 2) := bnd ((e_gA h.k).trans (congrArg some h.2.2.1)) f
theorem bh_g4 (h : isHo μ t) {f : Nat → Option β} : (gA (wi μ J) 1 t 4).bind f = f (t + 3) := bnd ((e_gA h.k).trans (congrArg some h.2.2.2.1)) f
theorem bh_inv {ρ : Type} {X : Option ρ} (h : isHo μ t) {f : ρ → Option β} : (inv (wi μ J) 1 t X).bind f = X.bind f := by rw [e_inv h.k]
theorem bh_ld1 (h : isHo μ t) {i : Int} (h0 : 0 ≤ i) (h1 : i < 7) {f : Int → Option β} : (ldI (wi μ J) 0 (t + 1) i).bind f = f (J (t + 1) i.toNat) := bnd (e_ldI (L := 7) h.2.2.2.2.1 h0 (by omega) (by omega)) f
theorem bh_ld2 (h : isHo μ t) {i : Int} (h0 : 0 ≤ i) (h1 : i < 7) {f : Int → Option β} : (ldI (wi μ J) 0 (t + 2) i).bind f = f (J (t + 2) i.toNat) := bnd (e_ldI (L := 7) h.2.2.2.2.2.1 h0 (by omega) (by omega)) f
theorem bh_st2 (h : isHo μ t) {i x : Int} (h0 : 0 ≤ i) (h1 : i < 7) {f : Mem → Option β} : (stI (wi μ J) 0 (t + 2) i x).bind f = f (wi μ (up2 J (t + 2) i.toNat x)) := bnd (e_stI (L := 7) h.2.2.2.2.2.1 h0 (by omega) (by omega)) f
theorem bh_lda (h : isHo μ t) {i : Int} (h0 : 0 ≤ i) (h1 : i < 7) {f : Nat → Option β} : (ldA (wi μ J) 6 (t + 3) i).bind f = f (t + 4 + i.toNat) := bnd ((e_ldA (L := 7) h.2.2.2.2.2.2.1 h0 (by omega) (by omega)).trans (congrArg some (h.2.2.2.2.2.2.2 i.toNat (by omega)).1)) f
theorem bh_ld4 (h : isHo μ t) {x : Nat} {i : Int} (hx : x < 7) (h0 : 0 ≤ i) (h1 : i < 7) {f : Int → Option β} : (ldI (wi μ J) 0 (t + 4 + x) i).bind f = f (J (t + 4 + x) i.toNat) := bnd (e_ldI (L := 7) (h.2.2.2.2.2.2.2 x hx).2 h0 (by omega) (by omega)) f
theorem bh_st4 (h : isHo μ t) {x : Nat} {i z : Int} (hx : x < 7) (h0 : 0 ≤ i) (h1 : i < 7) {f : Mem → Option β} : (stI (wi μ J) 0 (t + 4 + x) i z).bind f = f (wi μ (up2 J (t + 4 + x) i.toNat z)) := bnd (e_stI (L := 7) (h.2.2.2.2.2.2.2 x hx).2 h0 (by omega) (by omega)) f
/-- how many ropes two houses have in common, counted up to k -/
def cmP (l : Ld) (J : Nat → Nat → Int) (t N k : Nat) : Prop := ∀ x y : Nat, x < N → y < N → J (t + 4 + x) y = cmN l k x y
theorem countRopes_eq (hL : isL μ a) (hT : isHo μ t) (sep : t + 10 < a ∨ a + 12 < t) (hk : okL (ld J a)) {N : Nat} (hN : ld J a 0 0 = (N : Int)) (hN7 : N ≤ 7) (h5 : J t 5 = (N : Int)) (hn : 20000 ≤ n) : ∃ K : Nat → Nat → Int, mX0_countRopes n t a (wi μ J) = some ((), wi μ K) ∧ (∀ b : Nat, ¬ (t + 4 ≤ b ∧ b ≤ t + 10) → K b = J b) ∧ cmP (ld J a) K t N (ld J a 0 1).toNat := by
  have hz := hk.1
  unfold mX0_countRopes
  refine lp_ind (fun d (v : Int) ν => ∃ (K : Nat → Nat → Int) (k : Nat), ν = wi μ K ∧ v = (k : Int) ∧ k + d = N ∧ (∀ b : Nat, ¬ (t + 4 ≤ b ∧ b ≤ t + 10) → K b = J b) ∧ ∀ x y : Nat, x < k → y < 7 → K (t + 4 + x) y = 0) (fun X => ∃ K : Nat → Nat → Int, X = some ((), wi μ K) ∧ (∀ b : Nat, ¬ (t + 4 ≤ b ∧ b ≤ t + 10) → K b = J b) ∧ cmP (ld J a) K t N (ld J a 0 1).toNat) (fun d v ν nx hP hnx => ?_) n N _ _ (by omega) ⟨J, 0, rfl, rfl, by omega, fun _ _ => rfl, fun x y hx => by omega⟩
  obtain ⟨K, k, rfl, rfl, h1, oK, h2⟩ := hP
  have e5 : K t 5 = (N : Int) := by rw [oK t (by omega)]; exact h5
  cases d with
  | succ d =>
    have fl := jfill_eq (n := n) (I := K) (x := 0) (hT.2.2.2.2.2.2.2 k (by omega)).2 (by omega) hn
    simp (disch := omega) only [↓i_lt_t, ↓i_lt_f, ↓i_eq_t, ↓i_eq_f, ↓i_bi_t, ↓i_bi_f, ↓i_some, ↓bh_gI hT, e5, ↓bh_g4 hT, ↓bh_lda hT, Int.toNat_natCast, ↓bnd fl]
    refine hnx d _ _ (by omega) ⟨_, k + 1, rfl, rfl, by omega, fun b hb => ?_, fun x y hx hy => ?_⟩
    · unfold up1
      rw [if_neg (by omega), oK b hb]
    · unfold up1
      by_cases e : x = k
      · rw [if_pos (by omega), flR_lt hy]
      · rw [if_neg (by omega)]
        exact h2 x y (by omega) hy
  | zero =>
    have ek : k = N := by omega
    subst ek
    simp (disch := omega) only [↓i_lt_t, ↓i_lt_f, ↓i_eq_t, ↓i_eq_f, ↓i_bi_t, ↓i_bi_f, ↓i_some, ↓bh_gI hT, e5]
    refine lp_ind (fun d (v : Int) ν => ∃ (G : Nat → Nat → Int) (r : Nat), ν = wi μ G ∧ v = (r : Int) ∧ (r : Int) + d = ld J a 0 1 ∧ (∀ b : Nat, ¬ (t + 4 ≤ b ∧ b ≤ t + 10) → G b = J b) ∧ cmP (ld J a) G t k r) (fun X => ∃ K : Nat → Nat → Int, X = some ((), wi μ K) ∧ (∀ b : Nat, ¬ (t + 4 ≤ b ∧ b ≤ t + 10) → K b = J b) ∧ cmP (ld J a) K t k (ld J a 0 1).toNat) (fun d v ν nx2 hP hnx2 => ?_) n (ld J a 0 1).toNat _ _ (by omega) ⟨K, 0, rfl, rfl, by omega, oK, fun x y hx hy => h2 x y hx (by omega)⟩
    obtain ⟨G, r, rfl, rfl, h3, oG, hG⟩ := hP
    have eL : ∀ j : Nat, j ≤ 12 → ld G a j = ld J a j := fun j hj => oG _ (by omega)
    have e01 : ld G a 0 1 = ld J a 0 1 := by rw [eL 0 (by decide)]
    have g5 : G t 5 = (k : Int) := by rw [oG t (by omega)]; exact h5
    cases d with
    | zero =>
      simp (disch := omega) only [↓i_lt_t, ↓i_lt_f, ↓i_eq_t, ↓i_eq_f, ↓i_bi_t, ↓i_bi_f, ↓i_some, ↓bL_gI hL, ↓bL_inv hL, ↓bL_g6 hL, ↓bL_g7 hL, ↓bL_g8 hL, ↓bL_g9 hL, ↓bL_g10 hL, ↓bL_g11 hL, ↓bL_g12 hL, ↓bL_g13 hL, ↓bL_g14 hL, ↓bL_g15 hL, ↓bL_g16 hL, ↓bL_g17 hL, ↓bL_ld1 hL, ↓bL_ld2 hL, ↓bL_ld3 hL, ↓bL_ld4 hL, ↓bL_ld5 hL, ↓bL_ld6 hL, ↓bL_ld7 hL, ↓bL_ld8 hL, ↓bL_ld9 hL, ↓bL_ld10 hL, ↓bL_ld11 hL, ↓bL_ld12 hL, ↓bL_st1 hL, ↓bL_st2 hL, ↓bL_st3 hL, ↓bL_st4 hL, ↓bL_st5 hL, ↓bL_st6 hL, ↓bL_st7 hL, ↓bL_st8 hL, ↓bL_st9 hL, ↓bL_st10 hL, ↓bL_st11 hL, ↓bL_st12 hL, e01]
      exact ⟨G, rfl, oG, by rw [show (ld J a 0 1).toNat = r by omega]; exact hG⟩
    | succ d =>
      have hr : (r : Int) < ld J a 0 1 := by omega
      have g9 := hk.2.2.1 r hr
      have g1 := hk.2.2.2 (2 * r) (by omega)
      have g2 := hk.2.2.2 (2 * r + 1) (by omega)
      have e9 : ld G a 9 r = ld J a 9 r := by rw [eL 9 (by decide)]
      have e10 : ∀ i : Nat, ld G a 10 i = ld J a 10 i := fun i => by rw [eL 10 (by decide)]
      obtain ⟨p, hp⟩ : ∃ p : Nat, ld J a 10 (2 * r) = (p : Int) := ⟨(ld J a 10 (2 * r)).toNat, by omega⟩
      obtain ⟨q, hq⟩ : ∃ q : Nat, ld J a 10 (2 * r + 1) = (q : Int) := ⟨(ld J a 10 (2 * r + 1)).toNat, by omega⟩
      have nxt : ∀ x y : Nat, cmN (ld J a) (r + 1) x y = cmN (ld J a) r x y + rb1 (ld J a) x y r := fun _ _ => rfl
      by_cases c9 : ld J a 9 r = 0
      · have gne := g9.2.2.2.2.2
        rw [hp, hq] at gne
        rw [hp] at g1
        rw [hq] at g2
        have npq : p ≠ q := fun e => gne (by rw [e])
        have up : ∀ z : Int, up2 G (t + 4 + p) q z (t + 4 + q) p = G (t + 4 + q) p := fun z => up2_n (by omega)
        simp (disch := omega) only [↓i_lt_t, ↓i_lt_f, ↓i_eq_t, ↓i_eq_f, ↓i_bi_t, ↓i_bi_f, ↓i_some, ↓bL_gI hL, ↓bL_inv hL, ↓bL_g6 hL, ↓bL_g7 hL, ↓bL_g8 hL, ↓bL_g9 hL, ↓bL_g10 hL, ↓bL_g11 hL, ↓bL_g12 hL, ↓bL_g13 hL, ↓bL_g14 hL, ↓bL_g15 hL, ↓bL_g16 hL, ↓bL_g17 hL, ↓bL_ld1 hL, ↓bL_ld2 hL, ↓bL_ld3 hL, ↓bL_ld4 hL, ↓bL_ld5 hL, ↓bL_ld6 hL, ↓bL_ld7 hL, ↓bL_ld8 hL, ↓bL_ld9 hL, ↓bL_ld10 hL, ↓bL_ld11 hL, ↓bL_ld12 hL, ↓bL_st1 hL, ↓bL_st2 hL, ↓bL_st3 hL, ↓bL_st4 hL, ↓bL_st5 hL, ↓bL_st6 hL, ↓bL_st7 hL, ↓bL_st8 hL, ↓bL_st9 hL, ↓bL_st10 hL, ↓bL_st11 hL, ↓bL_st12 hL, e01, e9, e10, hp, hq, Int.toNat_add, Int.toNat_mul, Int.toNat_natCast, Int.reduceToNat, Nat.reduceAdd, Nat.reduceMul, ↓bh_gI hT, g5, ↓bh_g4 hT, ↓bh_lda hT, ↓bh_ld4 hT, ↓bh_st4 hT, up]
        refine hnx2 d _ _ (by omega) ⟨_, r + 1, rfl, rfl, by omega, fun b hb => ?_, fun x y hx hy => ?_⟩
        · rw [up2_row (by omega), up2_row (by omega), oG b hb]
        · rw [nxt]
          by_cases e1 : x = q ∧ y = p
          · obtain ⟨rfl, rfl⟩ := e1
            rw [up2_s, hG x y hx hy]
            unfold rb1
            rw [bc_t ⟨c9, Or.inr ⟨hp, hq⟩⟩]
          · rw [up2_n (by omega)]
            by_cases e2 : x = p ∧ y = q
            · obtain ⟨rfl, rfl⟩ := e2
              rw [up2_s, hG x y hx hy]
              unfold rb1
              rw [bc_t ⟨c9, Or.inl ⟨hp, hq⟩⟩]
            · rw [up2_n (by omega), hG x y hx hy]
              unfold rb1
              rw [bc_f (fun z => by have := z.2; omega), Int.add_zero]
      · simp (disch := omega) only [↓i_lt_t, ↓i_lt_f, ↓i_eq_t, ↓i_eq_f, ↓i_bi_t, ↓i_bi_f, ↓i_some, ↓bL_gI hL, ↓bL_inv hL, ↓bL_g6 hL, ↓bL_g7 hL, ↓bL_g8 hL, ↓bL_g9 hL, ↓bL_g10 hL, ↓bL_g11 hL, ↓bL_g12 hL, ↓bL_g13 hL, ↓bL_g14 hL, ↓bL_g15 hL, ↓bL_g16 hL, ↓bL_g17 hL, ↓bL_ld1 hL, ↓bL_ld2 hL, ↓bL_ld3 hL, ↓bL_ld4 hL, ↓bL_ld5 hL, ↓bL_ld6 hL, ↓bL_ld7 hL, ↓bL_ld8 hL, ↓bL_ld9 hL, ↓bL_ld10 hL, ↓bL_ld11 hL, ↓bL_ld12 hL, ↓bL_st1 hL, ↓bL_st2 hL, ↓bL_st3 hL, ↓bL_st4 hL, ↓bL_st5 hL, ↓bL_st6 hL, ↓bL_st7 hL, ↓bL_st8 hL, ↓bL_st9 hL, ↓bL_st10 hL, ↓bL_st11 hL, ↓bL_st12 hL, e01, e9, e10, hp, hq, Int.toNat_add, Int.toNat_mul, Int.toNat_natCast, Int.reduceToNat, Nat.reduceAdd, Nat.reduceMul]
        refine hnx2 d _ _ (by omega) ⟨G, r + 1, rfl, rfl, by omega, oG, fun x y hx hy => ?_⟩
        rw [nxt, hG x y hx hy]
        unfold rb1
        rw [bc_f (fun z => c9 z.1), Int.add_zero]
theorem clashWith_eq (hL : isL μ a) (hT : isHo μ t) (hk : okL (ld J a)) {N R h : Nat} (hN : ld J a 0 0 = (N : Int)) (hN7 : N ≤ 7) (hR : R ≤ 16) (hC : cmP (ld J a) J t N R) (hh : h < N) (ho : ∀ j : Nat, j ≤ h → 0 ≤ J (t + 2) j ∧ J (t + 2) j < N) (hn : 20000 ≤ n) : mX0_clashWithPlaced n t a (h : Int) (wi μ J) = some (cwK (ld J a) R (J (t + 2)) h, wi μ J) := by
  have hz := hk.1
  have oh := ho h (Nat.le_refl _)
  unfold mX0_clashWithPlaced
  simp (disch := omega) only [↓bL_gI hL, ↓bL_inv hL, ↓bL_g6 hL, ↓bL_g7 hL, ↓bL_g8 hL, ↓bL_g9 hL, ↓bL_g10 hL, ↓bL_g11 hL, ↓bL_g12 hL, ↓bL_g13 hL, ↓bL_g14 hL, ↓bL_g15 hL, ↓bL_g16 hL, ↓bL_g17 hL, ↓bL_ld1 hL, ↓bL_ld2 hL, ↓bL_ld3 hL, ↓bL_ld4 hL, ↓bL_ld5 hL, ↓bL_ld6 hL, ↓bL_ld7 hL, ↓bL_ld8 hL, ↓bL_ld9 hL, ↓bL_ld10 hL, ↓bL_ld11 hL, ↓bL_ld12 hL, ↓bL_st1 hL, ↓bL_st2 hL, ↓bL_st3 hL, ↓bL_st4 hL, ↓bL_st5 hL, ↓bL_st6 hL, ↓bL_st7 hL, ↓bL_st8 hL, ↓bL_st9 hL, ↓bL_st10 hL, ↓bL_st11 hL, ↓bL_st12 hL, ↓bh_g3 hT, ↓bh_ld2 hT, Int.toNat_natCast]
  refine lp_ind (fun d (v : Int × Int) ν => ∃ k : Nat, ν = wi μ J ∧ v = (sm (fun q => cmN (ld J a) R h q * pcT (ld J a) (J (t + 2) h) (J (t + 2) q)) k, (k : Int)) ∧ k + d = h) (fun X => X = some (cwK (ld J a) R (J (t + 2)) h, wi μ J)) (fun d v ν nx hP hnx => ?_) n h _ _ (by omega) ⟨0, rfl, rfl, by omega⟩
  obtain ⟨k, rfl, rfl, h1⟩ := hP
  cases d with
  | zero =>
    simp (disch := omega) only [↓i_lt_t, ↓i_lt_f, ↓i_eq_t, ↓i_eq_f, ↓i_bi_t, ↓i_bi_f, ↓i_some]
    have ek : k = h := by omega
    subst ek
    rfl
  | succ d =>
    have ok := ho k (by omega)
    have hc := hC h k hh (by omega)
    have cr := cmN_rg (ld J a) R h k
    have oa := oAnd_th (l := ld J a) (x := (J (t + 2) h).toNat) (y := (J (t + 2) k).toNat) hk (by omega) (by omega)
    have sl := shN_lt (l := ld J a) (x := (J (t + 2) h).toNat) (y := (J (t + 2) k).toNat) hk (by omega)
    by_cases c0 : 0 < cmN (ld J a) R h k
    · simp (disch := omega) only [↓i_lt_t, ↓i_lt_f, ↓i_eq_t, ↓i_eq_f, ↓i_bi_t, ↓i_bi_f, ↓i_some, ↓bh_g4 hT, ↓bh_lda hT, Int.toNat_natCast, ↓bh_ld4 hT, hc, ↓bL_gI hL, ↓bL_inv hL, ↓bL_g6 hL, ↓bL_g7 hL, ↓bL_g8 hL, ↓bL_g9 hL, ↓bL_g10 hL, ↓bL_g11 hL, ↓bL_g12 hL, ↓bL_g13 hL, ↓bL_g14 hL, ↓bL_g15 hL, ↓bL_g16 hL, ↓bL_g17 hL, ↓bL_ld1 hL, ↓bL_ld2 hL, ↓bL_ld3 hL, ↓bL_ld4 hL, ↓bL_ld5 hL, ↓bL_ld6 hL, ↓bL_ld7 hL, ↓bL_ld8 hL, ↓bL_ld9 hL, ↓bL_ld10 hL, ↓bL_ld11 hL, ↓bL_ld12 hL, ↓bL_st1 hL, ↓bL_st2 hL, ↓bL_st3 hL, ↓bL_st4 hL, ↓bL_st5 hL, ↓bL_st6 hL, ↓bL_st7 hL, ↓bL_st8 hL, ↓bL_st9 hL, ↓bL_st10 hL, ↓bL_st11 hL, ↓bL_st12 hL, ↓bh_g3 hT, ↓bh_ld2 hT, oa, ↓bitCount_w]
      exact hnx d _ _ (by omega) ⟨k + 1, rfl, rfl, by omega⟩
    · have c0' : cmN (ld J a) R h k = 0 := by omega
      simp (disch := omega) only [↓i_lt_t, ↓i_lt_f, ↓i_eq_t, ↓i_eq_f, ↓i_bi_t, ↓i_bi_f, ↓i_some, ↓bh_g4 hT, ↓bh_lda hT, Int.toNat_natCast, ↓bh_ld4 hT, hc]
      refine hnx d _ _ (by omega) ⟨k + 1, rfl, ?_, by omega⟩
      show _ = (sm _ k + cmN (ld J a) R h k * _, _)
      rw [c0', Int.zero_mul, Int.add_zero]
      rfl
end HO
