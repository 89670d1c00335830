/-! the class's ties -/
def isTi (μ : Mem) (t : Nat) : Prop := mS μ t = (10, 2) ∧ mA μ t 0 = t + 1 ∧ mS μ (t + 1) = (20, 10)
theorem isTi.k {μ : Mem} {t : Nat} (h : isTi μ t) : (mS μ t).1 = 10 := by rw [h.1]
theorem isC.ti {μ : Mem} {c : Nat} (h : isC μ c) : isTi μ (c + 34) := h.2.2.2.2.2.2.2.2.1
section TI
variable {μ : Mem} {I J : Nat → Nat → Int} {t a n : Nat} {l : Ld} {w : Int} {β : Type}
theorem bt_gI (h : isTi μ t) {k : Nat} {f : Int → Option β} : (gI (wi μ J) 10 t k).bind f = f (J t k) := bnd (e_gI h.k) f
theorem bt_pI (h : isTi μ t) {k : Nat} {x : Int} {f : Mem → Option β} : (pI (wi μ J) 10 t k x).bind f = f (wi μ (up2 J t k x)) := bnd (e_pI h.k) f
theorem bt_gA (h : isTi μ t) {f : Nat → Option β} : (gA (wi μ J) 10 t 0).bind f = f (t + 1) := bnd ((e_gA h.k).trans (congrArg some h.2.1)) f
theorem bt_ld (h : isTi μ t) {i : Int} (h0 : 0 ≤ i) (h1 : i < 10) {f : Int → Option β} : (ldI (wi μ J) 0 (t + 1) i).bind f = f (J (t + 1) i.toNat) := bnd (e_ldI (L := 10) h.2.2 h0 (by omega) (by omega)) f
theorem bt_st (h : isTi μ t) {i x : Int} (h0 : 0 ≤ i) (h1 : i < 10) {f : Mem → Option β} : (stI (wi μ J) 0 (t + 1) i x).bind f = f (wi μ (up2 J (t + 1) i.toNat x)) := bnd (e_stI (L := 10) h.2.2 h0 (by omega) (by omega)) f
theorem bt_inv {ρ : Type} {X : Option ρ} (h : isTi μ t) {f : ρ → Option β} : (inv (wi μ J) 10 t X).bind f = X.bind f := by rw [e_inv h.k]
def adjK (l : Ld) (w : Int) (k : Nat) (a b : Nat) : Prop := ∃ r : Nat, r < k ∧ l 9 r = 0 ∧ (r : Int) ≠ w ∧ ((l 10 (2 * r) = a ∧ l 10 (2 * r + 1) = b) ∨ (l 10 (2 * r) = b ∧ l 10 (2 * r + 1) = a))
theorem adjK_s {k a b : Nat} : adjK l w (k + 1) a b ↔ adjK l w k a b ∨ (l 9 k = 0 ∧ (k : Int) ≠ w ∧ ((l 10 (2 * k) = a ∧ l 10 (2 * k + 1) = b) ∨ (l 10 (2 * k) = b ∧ l 10 (2 * k + 1) = a))) := by
  refine ⟨fun ⟨r, h1, h2⟩ => ?_, fun h => ?_⟩
  · by_cases e : r = k
    · subst e; exact Or.inr h2
    · exact Or.inl ⟨r, by omega, h2⟩
  · rcases h with ⟨r, h1, h2⟩ | h
    · exact ⟨r, by omega, h2⟩
    · exact ⟨k, by omega, h⟩
/-- the ties look at a land as if a rope were cut -/
def tsP (l : Ld) (w : Int) (J : Nat → Nat → Int) (t : Nat) : Prop := J t 1 = l 0 0 ∧ ∀ h : Nat, h < 10 → isMk (J (t + 1) h) (adj l w h)
theorem look_eq (hL : isL μ a) (hT : isTi μ t) (sep : t + 1 < a ∨ a + 12 < t) (hk : okL (ld I a)) (hw : -2147483648 ≤ w ∧ w < 2147483648) (hn : 20000 ≤ n) : ∃ J : Nat → Nat → Int, mX9_look n t a w (wi μ I) = some ((), wi μ J) ∧ (∀ b : Nat, b ≠ t → b ≠ t + 1 → J b = I b) ∧ tsP (ld I a) w J t := by
  have hz := hk.1
  have fl := jfill_eq (n := n) (I := up2 I t 1 (ld I a 0 0)) (x := 0) hT.2.2 (by omega) hn
  unfold mX9_look
  simp (disch := omega) only [↓i_lt_t, ↓i_lt_f, ↓i_eq_t, ↓i_eq_f, ↓i_bi_t, ↓i_bi_f, ↓i_some, ↓bL_gI hL, ↓bt_pI hT, ↓bt_gA hT, ↓bnd fl]
  refine lp_ind (fun d (v : Int) ν => ∃ (J : Nat → Nat → Int) (k : Nat), ν = wi μ J ∧ v = k ∧ (k : Int) + d = ld I a 0 1 ∧ (∀ b : Nat, b ≠ t → b ≠ t + 1 → J b = I b) ∧ J t 1 = ld I a 0 0 ∧ ∀ h : Nat, h < 10 → isMk (J (t + 1) h) (adjK (ld I a) w k h)) (fun X => ∃ J : Nat → Nat → Int, X = some ((), wi μ J) ∧ (∀ b : Nat, b ≠ t → b ≠ t + 1 → J b = I b) ∧ tsP (ld I a) w J t) (fun d v ν nx hP hnx => ?_) n (ld I a 0 1).toNat 0 _ (by omega) ⟨_, 0, rfl, rfl, by omega, fun b h1 h2 => ?_, ?_, fun h hh => ?_⟩
  · obtain ⟨J, k, rfl, rfl, h1, h2, h3, h4⟩ := hP
    have eL : ∀ j : Nat, j ≤ 12 → ld J a j = ld I a j := fun j hj => h2 _ (by omega) (by omega)
    have e01 : ld J a 0 1 = ld I a 0 1 := by rw [eL 0 (by decide)]
    cases d with
    | zero =>
      simp (disch := omega) only [↓i_lt_t, ↓i_lt_f, ↓i_eq_t, ↓i_eq_f, ↓i_bi_t, ↓i_bi_f, ↓i_some, ↓bL_gI hL, ↓bL_inv hL, ↓bL_g6 hL, ↓bL_g7 hL, ↓bL_g8 hL, ↓bL_g9 hL, ↓bL_g10 hL, ↓bL_g11 hL, ↓bL_g12 hL, ↓bL_g13 hL, ↓bL_g14 hL, ↓bL_g15 hL, ↓bL_g16 hL, ↓bL_g17 hL, ↓bL_ld1 hL, ↓bL_ld2 hL, ↓bL_ld3 hL, ↓bL_ld4 hL, ↓bL_ld5 hL, ↓bL_ld6 hL, ↓bL_ld7 hL, ↓bL_ld8 hL, ↓bL_ld9 hL, ↓bL_ld10 hL, ↓bL_ld11 hL, ↓bL_ld12 hL, ↓bL_st1 hL, ↓bL_st2 hL, ↓bL_st3 hL, ↓bL_st4 hL, ↓bL_st5 hL, ↓bL_st6 hL, ↓bL_st7 hL, ↓bL_st8 hL, ↓bL_st9 hL, ↓bL_st10 hL, ↓bL_st11 hL, ↓bL_st12 hL, e01]
      refine ⟨J, rfl, h2, h3, fun h hh => (h4 h hh).cg (fun q => ?_)⟩
      refine ⟨fun ⟨r, g1, g2⟩ => ⟨r, by omega, g2⟩, fun ⟨r, g1, g2⟩ => ⟨r, by omega, g2⟩⟩
    | succ d =>
      have hr : (k : Int) < ld I a 0 1 := by omega
      have g9 := hk.2.2.1 k hr
      have g1 := hk.2.2.2 (2 * k) (by omega)
      have g2 := hk.2.2.2 (2 * k + 1) (by omega)
      have e9 : ld J a 9 k = ld I a 9 k := by rw [eL 9 (by decide)]
      have e10 : ∀ i : Nat, ld J a 10 i = ld I a 10 i := fun i => by rw [eL 10 (by decide)]
      by_cases c9 : ld I a 9 k = 0
      · by_cases cw : (k : Int) = w
        · simp (disch := omega) only [↓i_lt_t, ↓i_lt_f, ↓i_eq_t, ↓i_eq_f, ↓i_bi_t, ↓i_bi_f, ↓i_some, ↓bL_gI hL, ↓bL_inv hL, ↓bL_g6 hL, ↓bL_g7 hL, ↓bL_g8 hL, ↓bL_g9 hL, ↓bL_g10 hL, ↓bL_g11 hL, ↓bL_g12 hL, ↓bL_g13 hL, ↓bL_g14 hL, ↓bL_g15 hL, ↓bL_g16 hL, ↓bL_g17 hL, ↓bL_ld1 hL, ↓bL_ld2 hL, ↓bL_ld3 hL, ↓bL_ld4 hL, ↓bL_ld5 hL, ↓bL_ld6 hL, ↓bL_ld7 hL, ↓bL_ld8 hL, ↓bL_ld9 hL, ↓bL_ld10 hL, ↓bL_ld11 hL, ↓bL_ld12 hL, ↓bL_st1 hL, ↓bL_st2 hL, ↓bL_st3 hL, ↓bL_st4 hL, ↓bL_st5 hL, ↓bL_st6 hL, ↓bL_st7 hL, ↓bL_st8 hL, ↓bL_st9 hL, ↓bL_st10 hL, ↓bL_st11 hL, ↓bL_st12 hL, e01, e9, Int.toNat_natCast]
          refine hnx d _ _ (by omega) ⟨J, k + 1, rfl, by omega, by omega, h2, h3, fun h hh => (h4 h hh).cg (fun q => ?_)⟩
          rw [adjK_s]
          exact ⟨Or.inl, fun z => z.elim id (fun z => absurd cw z.2.1)⟩
        · simp (disch := omega) only [↓i_lt_t, ↓i_lt_f, ↓i_eq_t, ↓i_eq_f, ↓i_bi_t, ↓i_bi_f, ↓i_some, ↓bL_gI hL, ↓bL_inv hL, ↓bL_g6 hL, ↓bL_g7 hL, ↓bL_g8 hL, ↓bL_g9 hL, ↓bL_g10 hL, ↓bL_g11 hL, ↓bL_g12 hL, ↓bL_g13 hL, ↓bL_g14 hL, ↓bL_g15 hL, ↓bL_g16 hL, ↓bL_g17 hL, ↓bL_ld1 hL, ↓bL_ld2 hL, ↓bL_ld3 hL, ↓bL_ld4 hL, ↓bL_ld5 hL, ↓bL_ld6 hL, ↓bL_ld7 hL, ↓bL_ld8 hL, ↓bL_ld9 hL, ↓bL_ld10 hL, ↓bL_ld11 hL, ↓bL_ld12 hL, ↓bL_st1 hL, ↓bL_st2 hL, ↓bL_st3 hL, ↓bL_st4 hL, ↓bL_st5 hL, ↓bL_st6 hL, ↓bL_st7 hL, ↓bL_st8 hL, ↓bL_st9 hL, ↓bL_st10 hL, ↓bL_st11 hL, ↓bL_st12 hL, e01, e9, e10, Int.toNat_add, Int.toNat_mul, Int.toNat_natCast, Int.reduceToNat, Nat.reduceAdd, Nat.reduceMul, ↓bt_gA hT, ↓bt_ld hT, ↓bt_st hT]
          obtain ⟨x, hx⟩ : ∃ x : Nat, ld I a 10 (2 * k) = (x : Int) := ⟨(ld I a 10 (2 * k)).toNat, by omega⟩
          obtain ⟨y, hy⟩ : ∃ y : Nat, ld I a 10 (2 * k + 1) = (y : Int) := ⟨(ld I a 10 (2 * k + 1)).toNat, by omega⟩
          rw [hx, hy, Int.toNat_natCast, Int.toNat_natCast, up2_n (f := J) (show ¬ (t + 1 = t + 1 ∧ y = x) by omega)]
          refine hnx d _ _ (by omega) ⟨_, k + 1, rfl, by omega, by omega, fun b b1 b2 => ?_, ?_, fun h hh => ?_⟩
          · rw [up2_row b2, up2_row b2, h2 b b1 b2]
          · rw [up2_row (by omega), up2_row (by omega), h3]
          · have mx := mk_1 (k := x) (by omega)
            have my := mk_1 (k := y) (by omega)
            by_cases ey : h = y
            · subst ey
              rw [up2_s]
              refine (mk_or (h4 h hh) mx).cg (fun q => ?_)
              rw [adjK_s, hx, hy]
              refine ⟨fun z => z.elim Or.inl (fun z => Or.inr ⟨c9, cw, Or.inr ⟨by omega, rfl⟩⟩), fun z => z.elim Or.inl (fun z => Or.inr ?_)⟩
              have := z.2.2
              omega
            · rw [up2_n (by omega)]
              by_cases ex : h = x
              · subst ex
                rw [up2_s]
                refine (mk_or (h4 h hh) my).cg (fun q => ?_)
                rw [adjK_s, hx, hy]
                refine ⟨fun z => z.elim Or.inl (fun z => Or.inr ⟨c9, cw, Or.inl ⟨rfl, by omega⟩⟩), fun z => z.elim Or.inl (fun z => Or.inr ?_)⟩
                have := z.2.2
                omega
              · rw [up2_n (by omega)]
                refine (h4 h hh).cg (fun q => ?_)
                rw [adjK_s, hx, hy]
                refine ⟨Or.inl, fun z => z.elim id (fun z => ?_)⟩
                have := z.2.2
                omega
      · simp (disch := omega) only [↓i_lt_t, ↓i_lt_f, ↓i_eq_t, ↓i_eq_f, ↓i_bi_t, ↓i_bi_f, ↓i_some, ↓bL_gI hL, ↓bL_inv hL, ↓bL_g6 hL, ↓bL_g7 hL, ↓bL_g8 hL, ↓bL_g9 hL, ↓bL_g10 hL, ↓bL_g11 hL, ↓bL_g12 hL, ↓bL_g13 hL, ↓bL_g14 hL, ↓bL_g15 hL, ↓bL_g16 hL, ↓bL_g17 hL, ↓bL_ld1 hL, ↓bL_ld2 hL, ↓bL_ld3 hL, ↓bL_ld4 hL, ↓bL_ld5 hL, ↓bL_ld6 hL, ↓bL_ld7 hL, ↓bL_ld8 hL, ↓bL_ld9 hL, ↓bL_ld10 hL, ↓bL_ld11 hL, ↓bL_ld12 hL, ↓bL_st1 hL, ↓bL_st2 hL, ↓bL_st3 hL, ↓bL_st4 hL, ↓bL_st5 hL, ↓bL_st6 hL, ↓bL_st7 hL, ↓bL_st8 hL, ↓bL_st9 hL, ↓bL_st10 hL, ↓bL_st11 hL, ↓bL_st12 hL, e01, e9, Int.toNat_natCast]
        refine hnx d _ _ (by omega) ⟨J, k + 1, rfl, by omega, by omega, h2, h3, fun h hh => (h4 h hh).cg (fun q => ?_)⟩
        rw [adjK_s]
        exact ⟨Or.inl, fun z => z.elim id (fun z => absurd z.1 c9)⟩
  · unfold up1
    rw [if_neg h2, up2_row h1]
  · unfold up1
    rw [if_neg (by omega), up2_s]
  · unfold up1
    rw [if_pos rfl, flR_lt hh]
    refine mk_0.cg (fun q => ⟨fun z => z.elim, fun ⟨r, h, _⟩ => by omega⟩)
theorem i_mk_t {α : Type} {x : Int} {S : Nat → Prop} {k : Nat} {a b : α} {i : Decidable (eq32 (oAnd (oShr x (k : Int)) 1) 1)} (h : isMk x S) (hk : k < 31) (hs : S k) : @ite α (eq32 (oAnd (oShr x (k : Int)) 1) 1) i a b = a := by
  rcases mk_bit h hk with ⟨-, e⟩ | ⟨e, -⟩
  · exact if_pos (by rw [e])
  · exact absurd hs e
theorem i_mk_f {α : Type} {x : Int} {S : Nat → Prop} {k : Nat} {a b : α} {i : Decidable (eq32 (oAnd (oShr x (k : Int)) 1) 1)} (h : isMk x S) (hk : k < 31) (hs : ¬ S k) : @ite α (eq32 (oAnd (oShr x (k : Int)) 1) 1) i a b = b := by
  rcases mk_bit h hk with ⟨e, -⟩ | ⟨-, e⟩
  · exact absurd e hs
  · exact if_neg (by rw [e]; decide)
theorem i_m0_t {α : Type} {x : Int} {S : Nat → Prop} {k : Nat} {a b : α} {i : Decidable (eq32 (oAnd (oShr x (k : Int)) 1) 0)} (h : isMk x S) (hk : k < 31) (hs : ¬ S k) : @ite α (eq32 (oAnd (oShr x (k : Int)) 1) 0) i a b = a := by
  rcases mk_bit h hk with ⟨e, -⟩ | ⟨-, e⟩
  · exact absurd e hs
  · exact if_pos (by rw [e])
theorem i_m0_f {α : Type} {x : Int} {S : Nat → Prop} {k : Nat} {a b : α} {i : Decidable (eq32 (oAnd (oShr x (k : Int)) 1) 0)} (h : isMk x S) (hk : k < 31) (hs : S k) : @ite α (eq32 (oAnd (oShr x (k : Int)) 1) 0) i a b = b := by
  rcases mk_bit h hk with ⟨-, e⟩ | ⟨e, -⟩
  · exact if_neg (by rw [e]; decide)
  · exact absurd hs e
theorem nearAny_eq (hT : isTi μ t) (hJ : tsP l w J t) (hk : okL l) {x : Int} {S : Nat → Prop} (hx : isMk x S) (hn : 20000 ≤ n) : ∃ v : Int, isMk v (nrS l w S) ∧ mX9_nearAny n t x (wi μ J) = some (v, wi μ J) := by
  have hz := hk.1
  obtain ⟨j1, j2⟩ := hJ
  unfold mX9_nearAny
  refine lp_ind (fun d (v : Int × Int) ν => ∃ (k : Nat), ν = wi μ J ∧ v.2 = (k : Int) ∧ (k : Int) + d = l 0 0 ∧ isMk v.1 (fun q => ∃ h : Nat, h < k ∧ S h ∧ adj l w h q)) (fun X => ∃ v : Int, isMk v (nrS l w S) ∧ X = some (v, wi μ J)) (fun d v ν nx hP hnx => ?_) n (l 0 0).toNat (0, 0) _ (by omega) ⟨0, rfl, rfl, by omega, mk_0.cg (fun q => ⟨fun z => z.elim, fun ⟨h, hh, _⟩ => by omega⟩)⟩
  obtain ⟨k, rfl, e2, h1, h2⟩ := hP
  obtain ⟨v, kk⟩ := v
  dsimp only at e2 h2
  subst e2
  cases d with
  | zero =>
    simp (disch := omega) only [↓i_lt_t, ↓i_lt_f, ↓i_eq_t, ↓i_eq_f, ↓i_bi_t, ↓i_bi_f, ↓i_some, ↓bt_gI hT, j1]
    exact ⟨v, h2.cg (fun q => ⟨fun ⟨h, _, g⟩ => ⟨h, g⟩, fun ⟨h, g⟩ => ⟨h, by have := g.2.lt hk; omega, g⟩⟩), rfl⟩
  | succ d =>
    by_cases c : S k
    · simp (disch := omega) only [↓i_lt_t, ↓i_lt_f, ↓i_eq_t, ↓i_eq_f, ↓i_bi_t, ↓i_bi_f, ↓i_some, ↓bt_gI hT, j1, ↓i_mk_t hx (show k < 31 by omega) c, ↓bt_gA hT, ↓bt_ld hT, Int.toNat_natCast]
      refine hnx d _ _ (by omega) ⟨k + 1, rfl, by show (k : Int) + 1 = _; omega, by omega, (mk_or h2 (j2 k (by omega))).cg (fun q => ?_)⟩
      refine ⟨fun z => z.elim (fun ⟨h, g1, g2⟩ => ⟨h, by omega, g2⟩) (fun z => ⟨k, by omega, c, z⟩), fun ⟨h, g1, g2⟩ => ?_⟩
      by_cases e : h = k
      · subst e; exact Or.inr g2.2
      · exact Or.inl ⟨h, by omega, g2⟩
    · simp (disch := omega) only [↓i_lt_t, ↓i_lt_f, ↓i_eq_t, ↓i_eq_f, ↓i_bi_t, ↓i_bi_f, ↓i_some, ↓bt_gI hT, j1, ↓i_mk_f hx (show k < 31 by omega) c]
      refine hnx d _ _ (by omega) ⟨k + 1, rfl, by show (k : Int) + 1 = _; omega, by omega, h2.cg (fun q => ?_)⟩
      refine ⟨fun ⟨h, g1, g2⟩ => ⟨h, by omega, g2⟩, fun ⟨h, g1, g2⟩ => ?_⟩
      by_cases e : h = k
      · subst e; exact absurd g2.1 c
      · exact ⟨h, by omega, g2⟩
theorem part_eq (hT : isTi μ t) (hJ : tsP l w J t) (hk : okL l) {h : Nat} (hh : (h : Int) < l 0 0) (hn : 20000 ≤ n) : ∃ v : Int, isMk v (rch l w h) ∧ mX9_part n t (h : Int) (wi μ J) = some (v, wi μ J) := by
  have hz := hk.1
  unfold mX9_part
  refine lp_ind (fun d (v : Int × Int) ν => ∃ (k : Nat), ν = wi μ J ∧ v.2 = (k : Int) ∧ (k : Int) + d = l 0 0 ∧ isMk v.1 (itS l w h k)) (fun X => ∃ v : Int, isMk v (rch l w h) ∧ X = some (v, wi μ J)) (fun d v ν nx hP hnx => ?_) n (l 0 0).toNat _ _ (by omega) ⟨0, rfl, rfl, by omega, mk_1 (by omega)⟩
  obtain ⟨k, rfl, e2, h1, h2⟩ := hP
  obtain ⟨v, kk⟩ := v
  dsimp only at e2 h2
  subst e2
  cases d with
  | zero =>
    simp (disch := omega) only [↓i_lt_t, ↓i_lt_f, ↓i_eq_t, ↓i_eq_f, ↓i_bi_t, ↓i_bi_f, ↓i_some, ↓bt_gI hT, hJ.1]
    have e : k = (l 0 0).toNat := by omega
    subst e
    exact ⟨v, h2.cg (fun q => itS_N hk hh q), rfl⟩
  | succ d =>
    obtain ⟨u, hu, eu⟩ := nearAny_eq (n := n) hT hJ hk h2 hn
    simp (disch := omega) only [↓i_lt_t, ↓i_lt_f, ↓i_eq_t, ↓i_eq_f, ↓i_bi_t, ↓i_bi_f, ↓i_some, ↓bt_gI hT, hJ.1, ↓bt_inv hT, ↓bnd eu]
    exact hnx d _ _ (by omega) ⟨k + 1, rfl, by show (k : Int) + 1 = _; omega, by omega, mk_or h2 hu⟩
end TI
