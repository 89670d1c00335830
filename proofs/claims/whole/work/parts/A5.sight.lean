/-! sight: told apart from both programs -/
def fitR (l : Ld) (pr p : Nat → Int) (r : Nat) : Prop := mvS p r l 8 r = pr r
def mskS (p : Nat → Int) (k : Nat) (x : Int) : Int := oOr x (if p k = -1 then 0 else oShl 1 (k : Int))
def msk (N : Nat) (p : Nat → Int) : Int := itr (mskS p) 0 N 0
theorem msk_mk {p : Nat → Int} {N : Nat} (hN : N ≤ 10) : isMk (msk N p) (fun k => k < N ∧ p k ≠ -1) := by
  have := itr_inv (step := mskS p) (P := fun j x => isMk x (fun k => k < j ∧ p k ≠ -1)) N 0 0 (mk_0.cg (fun k => ⟨fun z => z.elim, fun z => by omega⟩)) (fun j x _ hj hx => by
    unfold mskS
    by_cases c : p j = -1
    · rw [if_pos c]
      refine (mk_or hx mk_0).cg (fun k => ⟨fun z => z.elim (fun z => ⟨by omega, z.2⟩) (fun z => z.elim), fun z => ?_⟩)
      by_cases e : k = j
      · subst e; exact absurd c z.2
      · exact Or.inl ⟨by omega, z.2⟩
    · rw [if_neg c]
      refine (mk_or hx (mk_1 (k := j) (by omega))).cg (fun k => ⟨fun z => z.elim (fun z => ⟨by omega, z.2⟩) (fun z => by subst z; exact ⟨by omega, c⟩), fun z => ?_⟩)
      by_cases e : k = j
      · exact Or.inr e
      · exact Or.inl ⟨by omega, z.2⟩)
  rw [Nat.zero_add] at this
  exact this
def awL (l : Ld) (h i : Nat) : Prop := i = 0 ∨ ((l 10 (2 * (i - 1)) = (h : Int) ∨ l 10 (2 * (i - 1) + 1) = (h : Int)) ∧ l 9 (i - 1) = 0)
noncomputable def wF (l : Ld) (pr : Nat → Int) (R N : Nat) : Nat → Nat → (Nat → Int) → Int → Int × Int
  | 0, _, p, A => @ite (Int × Int) (∀ r : Nat, r < R → fitR l pr p r) (Classical.propDecidable _) (1, oAnd A (msk N p)) (0, A)
  | d + 1, h, p, A => itr (fun i z => @ite (Int × Int) (awL l h i) (Classical.propDecidable _) (z.1 + (wF l pr R N d (h + 1) (upA p h ((i : Int) - 1)) z.2).1, (wF l pr R N d (h + 1) (upA p h ((i : Int) - 1)) z.2).2) z) 0 (R + 1) (0, A)
/-- the later end of a rope -/
def mxE (l : Ld) (r : Nat) : Int := max (l 10 (2 * r)) (l 10 (2 * r + 1))
theorem fitR_cg {l : Ld} {pr p q : Nat → Int} {r : Nat} (h1 : p (l 10 (2 * r)).toNat = q (l 10 (2 * r)).toNat) (h2 : p (l 10 (2 * r + 1)).toNat = q (l 10 (2 * r + 1)).toNat) : fitR l pr p r ↔ fitR l pr q r := by
  unfold fitR mvS
  rw [h1, h2]
/-- where a rope whose houses have chosen doesn't fit, nothing is counted any more -/
theorem wF_0 {l : Ld} (hk : okL l) {pr : Nat → Int} {R N : Nat} (hR : (R : Int) = l 0 1) {r : Nat} (hr : r < R) : ∀ (d h : Nat) (p : Nat → Int) (A : Int), mxE l r < (h : Int) → ¬ fitR l pr p r → wF l pr R N d h p A = (0, A)
  | 0, h, p, A, hm, hf => if_neg (fun z => hf (z r hr))
  | d + 1, h, p, A, hm, hf => by
    have g1 := hk.2.2.2 (2 * r) (by omega)
    have g2 := hk.2.2.2 (2 * r + 1) (by omega)
    have := itr_inv (step := fun i z => @ite (Int × Int) (awL l h i) (Classical.propDecidable _) (z.1 + (wF l pr R N d (h + 1) (upA p h ((i : Int) - 1)) z.2).1, (wF l pr R N d (h + 1) (upA p h ((i : Int) - 1)) z.2).2) z) (P := fun _ z => z = ((0 : Int), A)) (R + 1) 0 (0, A) rfl (fun j z _ _ hz => by
      subst hz
      try dsimp only
      by_cases c : awL l h j
      · rw [if_pos c, wF_0 hk hR hr d (h + 1) _ A (by omega) (fun z => hf ((fitR_cg (q := p) ?_ ?_).mp z))]
        · rfl
        · unfold mxE at hm
          exact upA_n (by omega)
        · unfold mxE at hm
          exact upA_n (by omega)
      · rw [if_neg c])
    exact this
/-! the class's sight -/
def isSi (μ : Mem) (t : Nat) : Prop := mS μ t = (6, 4) ∧ mA μ t 2 = t + 1 ∧ mA μ t 3 = t + 2 ∧ mS μ (t + 1) = (22, 64) ∧ mS μ (t + 2) = (20, 10)
theorem isC.si {μ : Mem} {c : Nat} (h : isC μ c) : isSi μ (c + 156) := h.2.2.2.2.2.2.2.2.2.2.2
theorem isSi.k {μ : Mem} {t : Nat} (h : isSi μ t) : (mS μ t).1 = 6 := by rw [h.1]
section SI
variable {μ : Mem} {I J : Nat → Nat → Int} {t a n : Nat} {l : Ld} {β : Type}
theorem bs_gI (h : isSi μ t) {k : Nat} {f : Int → Option β} : (gI (wi μ J) 6 t k).bind f = f (J t k) := bnd (e_gI h.k) f
theorem bs_pI (h : isSi μ t) {k : Nat} {x : Int} {f : Mem → Option β} : (pI (wi μ J) 6 t k x).bind f = f (wi μ (up2 J t k x)) := bnd (e_pI h.k) f
theorem bs_g2 (h : isSi μ t) {f : Nat → Option β} : (gA (wi μ J) 6 t 2).bind f = f (t + 1) := bnd ((e_gA h.k).trans (congrArg some h.2.1)) f
theorem bs_g3 (h : isSi μ t) {f : Nat → Option β} : (gA (wi μ J) 6 t 3).bind f = f (t + 2) := bnd ((e_gA h.k).trans (congrArg some h.2.2.1)) f
theorem bs_inv {ρ : Type} {X : Option ρ} (h : isSi μ t) {f : ρ → Option β} : (inv (wi μ J) 6 t X).bind f = X.bind f := by rw [e_inv h.k]
theorem bs_ld1 (h : isSi μ t) {i : Int} (h0 : 0 ≤ i) (h1 : i < 64) {f : Int → Option β} : (ldI (wi μ J) 2 (t + 1) i).bind f = f (J (t + 1) i.toNat) := bnd (e_ldI (L := 64) h.2.2.2.1 h0 (by omega) (by omega)) f
theorem bs_st1 (h : isSi μ t) {i x : Int} (h0 : 0 ≤ i) (h1 : i < 64) (hx : x = 0 ∨ x = 1) {f : Mem → Option β} : (stZ (wi μ J) (t + 1) i x).bind f = f (wi μ (up2 J (t + 1) i.toNat x)) := bnd (e_stZ (L := 64) h.2.2.2.1 h0 (by omega) (by omega) hx) f
theorem bs_ld2 (h : isSi μ t) {i : Int} (h0 : 0 ≤ i) (h1 : i < 10) {f : Int → Option β} : (ldI (wi μ J) 0 (t + 2) i).bind f = f (J (t + 2) i.toNat) := bnd (e_ldI (L := 10) h.2.2.2.2 h0 (by omega) (by omega)) f
theorem bs_st2 (h : isSi μ t) {i x : Int} (h0 : 0 ≤ i) (h1 : i < 10) {f : Mem → Option β} : (stI (wi μ J) 0 (t + 2) i x).bind f = f (wi μ (up2 J (t + 2) i.toNat x)) := bnd (e_stI (L := 10) h.2.2.2.2 h0 (by omega) (by omega)) f
/-- the table of what fits, by rope and by who pulls it -/
def ftP (l : Ld) (pr : Nat → Int) (J : Nat → Nat → Int) (t k : Nat) : Prop := ∀ r w : Nat, r < k → w < 4 → J (t + 1) (4 * r + w) = bi (dbL l r ((w % 2 : Nat) : Int) ((w / 2 : Nat) : Int) = pr r)
theorem nget_w {r : Nat} (h : isN μ r) (hs : 0 ≤ J r 0 ∧ J r 0 ≤ 60) {i : Int} (hi : -2147483648 ≤ i ∧ i < 2147483648) {f : Int × Mem → Option β} : (mX3_get n r i (wi μ J)).bind f = f (rwG (J r) (J (r + 1)) i, wi μ J) := bnd (nget_eq h hs hi) f
theorem bit01 : ∀ w : Nat, w < 4 → oAnd (w : Int) 1 = ((w % 2 : Nat) : Int) ∧ (oAnd (w : Int) 2 = 0 ↔ w / 2 = 0) ∧ (oAnd (w : Int) 2 = 2 ↔ w / 2 = 1) := by decide
theorem compare_eq {g : Nat} (hL : isL μ a) (hT : isSi μ t) (hN : isN μ g) (s1 : t + 2 < a ∨ a + 12 < t) (s2 : t + 2 < g ∨ g + 1 < t) (hk : okL (ld J a)) (hz : J g 0 = ld J a 0 1) (hv : ∀ k : Nat, k < 60 → -9223372036854775808 ≤ J (g + 1) k ∧ J (g + 1) k < 9223372036854775808) (hn : 20000 ≤ n) : ∃ K : Nat → Nat → Int, mX5_compare n t a g (wi μ J) = some (bc (∀ r : Nat, (r : Int) < ld J a 0 1 → ld J a 9 r ≠ 0 → ld J a 8 r = J (g + 1) r), wi μ K) ∧ (∀ b : Nat, b ≠ t + 1 → K b = J b) ∧ ((∀ r : Nat, (r : Int) < ld J a 0 1 → ld J a 9 r ≠ 0 → ld J a 8 r = J (g + 1) r) → ftP (ld J a) (J (g + 1)) K t (ld J a 0 1).toNat) := by
  have hz0 := hk.1
  unfold mX5_compare
  refine lp_ind (fun d (v : Int) ν => ∃ (K : Nat → Nat → Int) (r : Nat), ν = wi μ K ∧ v = (r : Int) ∧ (r : Int) + d = ld J a 0 1 ∧ (∀ b : Nat, b ≠ t + 1 → K b = J b) ∧ (∀ q : Nat, q < r → ld J a 9 q ≠ 0 → ld J a 8 q = J (g + 1) q) ∧ ftP (ld J a) (J (g + 1)) K t r) (fun X => ∃ K : Nat → Nat → Int, X = some (bc (∀ r : Nat, (r : Int) < ld J a 0 1 → ld J a 9 r ≠ 0 → ld J a 8 r = J (g + 1) r), wi μ K) ∧ (∀ b : Nat, b ≠ t + 1 → K b = J b) ∧ ((∀ r : Nat, (r : Int) < ld J a 0 1 → ld J a 9 r ≠ 0 → ld J a 8 r = J (g + 1) r) → ftP (ld J a) (J (g + 1)) K t (ld J a 0 1).toNat)) (fun d v ν nx hP hnx => ?_) n (ld J a 0 1).toNat _ _ (by omega) ⟨J, 0, rfl, rfl, by omega, fun _ _ => rfl, fun q hq => by omega, fun r w hr => by omega⟩
  obtain ⟨K, r, rfl, rfl, h1, oK, h2, h3⟩ := hP
  have eL : ∀ j : Nat, j ≤ 12 → ld K a j = ld J a j := fun j hj => oK _ (by omega)
  have e01 : ld K a 0 1 = ld J a 0 1 := by rw [eL 0 (by decide)]
  cases d with
  | zero =>
    have all : ∀ r : Nat, (r : Int) < ld J a 0 1 → ld J a 9 r ≠ 0 → ld J a 8 r = J (g + 1) r := fun q hq => h2 q (by omega)
    simp (disch := omega) only [↓i_lt_t, ↓i_lt_f, ↓i_eq_t, ↓i_eq_f, ↓i_bi_t, ↓i_bi_f, ↓i_some, ↓bL_gI hL, ↓bL_inv hL, ↓bL_g6 hL, ↓bL_g7 hL, ↓bL_g8 hL, ↓bL_g9 hL, ↓bL_g10 hL, ↓bL_g11 hL, ↓bL_g12 hL, ↓bL_g13 hL, ↓bL_g14 hL, ↓bL_g15 hL, ↓bL_g16 hL, ↓bL_g17 hL, ↓bL_ld1 hL, ↓bL_ld2 hL, ↓bL_ld3 hL, ↓bL_ld4 hL, ↓bL_ld5 hL, ↓bL_ld6 hL, ↓bL_ld7 hL, ↓bL_ld8 hL, ↓bL_ld9 hL, ↓bL_ld10 hL, ↓bL_ld11 hL, ↓bL_ld12 hL, ↓bL_st1 hL, ↓bL_st2 hL, ↓bL_st3 hL, ↓bL_st4 hL, ↓bL_st5 hL, ↓bL_st6 hL, ↓bL_st7 hL, ↓bL_st8 hL, ↓bL_st9 hL, ↓bL_st10 hL, ↓bL_st11 hL, ↓bL_st12 hL, e01]
    refine ⟨K, by rw [bc_t all, retZ_1], oK, fun _ => ?_⟩
    rw [show (ld J a 0 1).toNat = r by omega]
    exact h3
  | succ d =>
    have hr : (r : Int) < ld J a 0 1 := by omega
    have g9 := hk.2.2.1 r hr
    have e9 : ld K a 9 r = ld J a 9 r := by rw [eL 9 (by decide)]
    have e8 : ld K a 8 r = ld J a 8 r := by rw [eL 8 (by decide)]
    have vr := hv r (by omega)
    have getG : ∀ (H : Nat → Nat → Int) (f : Int × Mem → Option (Int × Mem)), (∀ b : Nat, b ≠ t + 1 → H b = J b) → (inv (wi μ H) 4 g (mX3_get n g (r : Int) (wi μ H))).bind f = f (J (g + 1) r, wi μ H) := fun H f hH => by
      rw [bN_inv hN, nget_w hN (by rw [hH g (by omega), hz]; omega) (by omega), hH g (by omega), hH (g + 1) (by omega)]
      unfold rwG
      rw [if_pos (by rw [hz]; omega), Int.toNat_natCast]
    have o8 := oI2l_of (x := ld J a 8 r) (by omega) (by omega)
    have inner : (ld J a 9 r ≠ 0 → ld J a 8 r = J (g + 1) r) → ∃ K' : Nat → Nat → Int, lp (fun nx40 (v40 : Int) (μ40 : Mem) =>
        if lt32 v40 4 then
          jn (fun (v60 : Int) (μ60 : Mem) =>
          jn (fun (v72 : Int) (μ72 : Mem) =>
          (inv μ72 2 a (mX1_depthBehind n a (r : Int) v60 v72 μ72)).bind fun p72 =>
          (gA p72.2 6 t 2).bind fun x78 =>
          (inv p72.2 4 g (mX3_get n g (r : Int) p72.2)).bind fun p92 =>
          jn (fun (v104 : Int) (μ104 : Mem) =>
          (stZ μ104 x78 ((4 * (r : Int)) + v40) v104).bind fun μ104 =>
          nx40 (v40 + 1) μ104) (fun j104 =>
          if eq32 (oLcmp (oI2l p72.1) p92.1) 0 then
            j104 1 p92.2
          else
          j104 0 p92.2)) (fun j72 =>
          if eq32 (oAnd v40 2) 0 then
            j72 0 μ60
          else
          j72 1 μ60)) (fun j60 =>
          if eq32 (oAnd v40 1) 0 then
            j60 0 μ40
          else
          j60 1 μ40)
        else
        nx ((r : Int) + 1) μ40) n 0 (wi μ K) = some (bc (∀ r : Nat, (r : Int) < ld J a 0 1 → ld J a 9 r ≠ 0 → ld J a 8 r = J (g + 1) r), wi μ K') ∧ (∀ b : Nat, b ≠ t + 1 → K' b = J b) ∧ ((∀ r : Nat, (r : Int) < ld J a 0 1 → ld J a 9 r ≠ 0 → ld J a 8 r = J (g + 1) r) → ftP (ld J a) (J (g + 1)) K' t (ld J a 0 1).toNat) := by
      intro hcut
      refine lp_ind (fun e (v : Int) ν => ∃ (H : Nat → Nat → Int) (w : Nat), ν = wi μ H ∧ v = (w : Int) ∧ w + e = 4 ∧ (∀ b : Nat, b ≠ t + 1 → H b = J b) ∧ ftP (ld J a) (J (g + 1)) H t r ∧ ∀ q : Nat, q < w → H (t + 1) (4 * r + q) = bi (dbL (ld J a) r ((q % 2 : Nat) : Int) ((q / 2 : Nat) : Int) = J (g + 1) r)) (fun X => ∃ K' : Nat → Nat → Int, X = some (bc (∀ r : Nat, (r : Int) < ld J a 0 1 → ld J a 9 r ≠ 0 → ld J a 8 r = J (g + 1) r), wi μ K') ∧ (∀ b : Nat, b ≠ t + 1 → K' b = J b) ∧ ((∀ r : Nat, (r : Int) < ld J a 0 1 → ld J a 9 r ≠ 0 → ld J a 8 r = J (g + 1) r) → ftP (ld J a) (J (g + 1)) K' t (ld J a 0 1).toNat)) (fun e v ν nx2 hP hnx2 => ?_) n 4 _ _ (by omega) ⟨K, 0, rfl, rfl, by omega, oK, h3, fun q hq => by omega⟩
      obtain ⟨H, w, rfl, rfl, g1, oH, g2, g3⟩ := hP
      cases e with
      | zero =>
        simp (disch := omega) only [↓i_lt_t, ↓i_lt_f, ↓i_eq_t, ↓i_eq_f, ↓i_bi_t, ↓i_bi_f, ↓i_some]
        refine hnx d _ _ (by omega) ⟨H, r + 1, rfl, rfl, by omega, oH, fun q hq => ?_, fun q w' hq hw => ?_⟩
        · by_cases eq : q = r
          · subst eq; exact hcut
          · exact h2 q (by omega)
        · by_cases eq : q = r
          · subst eq; exact g3 w' (by omega)
          · exact g2 q w' (by omega) hw
      | succ e =>
        have eH : ∀ j : Nat, j ≤ 12 → ld H a j = ld J a j := fun j hj => oH _ (by omega)
        have okH : okL (ld H a) := hk.cg eH
        have hrH : (r : Int) < ld H a 0 1 := by rw [eH 0 (by decide)]; exact hr
        have dbE : ∀ x y : Int, dbL (ld H a) r x y = dbL (ld J a) r x y := fun x y => by
          unfold dbL dfL plL wtL
          rw [eH 0 (by decide), eH 1 (by decide), eH 7 (by decide), eH 8 (by decide), eH 10 (by decide), eH 11 (by decide), eH 12 (by decide)]
        have db := db_range hk hr ((w % 2 : Nat) : Int) ((w / 2 : Nat) : Int)
        have od := oI2l_of (x := dbL (ld J a) r ((w % 2 : Nat) : Int) ((w / 2 : Nat) : Int)) (by omega) (by omega)
        obtain ⟨q1, q2, q3⟩ := bit01 w (by omega)
        have wc : w = 0 ∨ w = 1 ∨ w = 2 ∨ w = 3 := by omega
        have step : ∀ X Y : Int, X = ((w % 2 : Nat) : Int) → Y = ((w / 2 : Nat) : Int) → ∃ K' : Nat → Nat → Int, ((inv (wi μ H) 2 a (mX1_depthBehind n a (r : Int) X Y (wi μ H))).bind fun p72 =>
            (gA p72.2 6 t 2).bind fun x78 =>
            (inv p72.2 4 g (mX3_get n g (r : Int) p72.2)).bind fun p92 =>
            jn (fun (v104 : Int) (μ104 : Mem) =>
            (stZ μ104 x78 ((4 * (r : Int)) + (w : Int)) v104).bind fun μ104 =>
            nx2 ((w : Int) + 1) μ104) (fun j104 =>
            if eq32 (oLcmp (oI2l p72.1) p92.1) 0 then
              j104 1 p92.2
            else
            j104 0 p92.2)) = some (bc (∀ r : Nat, (r : Int) < ld J a 0 1 → ld J a 9 r ≠ 0 → ld J a 8 r = J (g + 1) r), wi μ K') ∧ (∀ b : Nat, b ≠ t + 1 → K' b = J b) ∧ ((∀ r : Nat, (r : Int) < ld J a 0 1 → ld J a 9 r ≠ 0 → ld J a 8 r = J (g + 1) r) → ftP (ld J a) (J (g + 1)) K' t (ld J a 0 1).toNat) := by
          intro X Y eX eY
          subst eX
          subst eY
          rw [bL_inv hL, depthBehind_w hL okH hrH (by omega) (by omega), dbE]
          dsimp only
          rw [bs_g2 hT, getG H _ oH]
          simp only [jn]
          rw [od]
          have nxt : ∀ z : Int, z = bi (dbL (ld J a) r ((w % 2 : Nat) : Int) ((w / 2 : Nat) : Int) = J (g + 1) r) → ∃ K' : Nat → Nat → Int, nx2 ((w : Int) + 1) (wi μ (up2 H (t + 1) (4 * r + w) z)) = some (bc (∀ r : Nat, (r : Int) < ld J a 0 1 → ld J a 9 r ≠ 0 → ld J a 8 r = J (g + 1) r), wi μ K') ∧ (∀ b : Nat, b ≠ t + 1 → K' b = J b) ∧ ((∀ r : Nat, (r : Int) < ld J a 0 1 → ld J a 9 r ≠ 0 → ld J a 8 r = J (g + 1) r) → ftP (ld J a) (J (g + 1)) K' t (ld J a 0 1).toNat) := fun z hzz => by
            refine hnx2 e _ _ (by omega) ⟨_, w + 1, rfl, rfl, by omega, fun b hb => by rw [up2_row hb, oH b hb], fun q w' hq hw => by rw [up2_n (by omega)]; exact g2 q w' hq hw, fun q hq => ?_⟩
            by_cases eq : q = w
            · subst eq; rw [up2_s, hzz]
            · rw [up2_n (by omega)]; exact g3 q (by omega)
          have tn : ((4 * (r : Int)) + (w : Int)).toNat = 4 * r + w := by omega
          by_cases ce : dbL (ld J a) r ((w % 2 : Nat) : Int) ((w / 2 : Nat) : Int) = J (g + 1) r
          · rw [i_le_t (by omega), bs_st1 hT (by omega) (by omega) (Or.inr rfl), tn]
            exact nxt 1 (by rw [bi_t ce])
          · rw [i_le_f (by omega), bs_st1 hT (by omega) (by omega) (Or.inl rfl), tn]
            exact nxt 0 (by rw [bi_f ce])
        rcases wc with rfl | rfl | rfl | rfl
        · have st := step 0 0 rfl rfl
          simp only [jn] at st ⊢
          rw [i_lt_t (by omega), i_eq_t (show oAnd ((0 : Nat) : Int) 1 = 0 from q1), i_eq_t (q2.mpr rfl)]
          exact st
        · have st := step 1 0 rfl rfl
          simp only [jn] at st ⊢
          rw [i_lt_t (by omega), i_eq_f (by rw [q1]; decide), i_eq_t (q2.mpr rfl)]
          exact st
        · have st := step 0 1 rfl rfl
          simp only [jn] at st ⊢
          rw [i_lt_t (by omega), i_eq_t (show oAnd ((2 : Nat) : Int) 1 = 0 from q1), i_eq_f (by rw [q3.mpr rfl]; decide)]
          exact st
        · have st := step 1 1 rfl rfl
          simp only [jn] at st ⊢
          rw [i_lt_t (by omega), i_eq_f (by rw [q1]; decide), i_eq_f (by rw [q3.mpr rfl]; decide)]
          exact st
    rw [bL_gI hL, e01, i_lt_t (by omega), bL_g14 hL, bL_ld9 hL (by omega) (by omega), Int.toNat_natCast, e9]
    by_cases c9 : ld J a 9 r = 0
    · have inn := inner (fun z => absurd c9 z)
      simp only [jn] at inn ⊢
      rw [i_eq_t c9]
      exact inn
    · by_cases c8 : ld J a 8 r = J (g + 1) r
      · have inn := inner (fun _ => c8)
        simp only [jn] at inn ⊢
        rw [i_eq_f (by omega), bL_g13 hL, bL_ld8 hL (by omega) (by omega), Int.toNat_natCast, e8, getG K _ oK]
        dsimp only
        rw [o8, i_le_t (by omega)]
        exact inn
      · simp only [jn]
        rw [i_eq_f (by omega), bL_g13 hL, bL_ld8 hL (by omega) (by omega), Int.toNat_natCast, e8, getG K _ oK]
        dsimp only
        rw [o8, i_le_f (by omega), bc_f (fun z => c8 (z r hr c9)), retZ_0]
        exact ⟨K, rfl, oK, fun z => absurd (z r hr c9) c8⟩
end SI
