section SK
variable {μ : Mem} {I J G : Nat → Nat → Int} {t a n q R N : Nat} {L0 : Ld} {β : Type}
/-- the lonely one at level k of its search: the land there is L, the row so far, the best so far -/
def loP (G K : Nat → Nat → Int) (t q N : Nat) (L0 : Ld) (k : Nat) (L : Ld) (row : Nat → Int) (M : Am) : Prop :=
  (∀ b : Nat, b < t ∨ t + 108 < b → K b = G b) ∧ (K t 5 = (q : Int) ∧ K t 6 = (N : Int) ∧ K t 0 = M.1) ∧ (∀ j : Nat, j < N → K (t + 1) j = M.2 j) ∧ (∀ j : Nat, j < k → K (t + 2) j = row j) ∧ (∀ j : Nat, j < 10 → (j ≠ q → K (t + 4) j = -1) ∧ -1 ≤ K (t + 4) j ∧ K (t + 4) j < 16) ∧ (∀ j : Nat, j < 8 → EqSt L0 (ld K (t + 5 + 13 * j))) ∧ EqL L (ld K (t + 5 + 13 * k)) ∧ EqL L0 (ld K (t + 5)) ∧ (-200 ≤ M.1 ∧ M.1 ≤ 200)
/-- a land of the search -/
def okA (L0 L : Ld) (q : Nat) : Prop := okL L ∧ fxL L0 L ∧ (0 ≤ L 0 2 ∧ L 0 2 ≤ 9999) ∧ hd L q + mtW L q (2 * (L0 0 1).toNat) = hd L0 q + mtW L0 q (2 * (L0 0 1).toNat)
theorem okA.g {L0 L : Ld} (h : okA L0 L q) (h0 : okL L0) (hq : (q : Int) < L0 0 0) : -131 ≤ hd L q - hd L0 q ∧ hd L q - hd L0 q ≤ 131 := by
  obtain ⟨ok, fx, -, e⟩ := h
  have e1 : L 0 1 = L0 0 1 := fx.1 1 (by decide)
  have e0 : L 0 0 = L0 0 0 := fx.1 0 (by decide)
  have w1 := mtW_rg ok (q := q) (by omega)
  have w0 := mtW_rg h0 hq
  rw [e1] at w1
  omega
theorem okA.go {L0 L : Ld} (h : okA L0 L q) (hq : (q : Int) < L0 0 0) (p : Nat → Int) : okA L0 (goL p L).1 q := by
  obtain ⟨ok, fx, hr, e⟩ := h
  have e1 : L 0 1 = L0 0 1 := fx.1 1 (by decide)
  have e0 : L 0 0 = L0 0 0 := fx.1 0 (by decide)
  have bd := (goL_bd ok (h := q) (by omega) p (d := 0) (by omega)).2
  rw [e1] at bd
  exact ⟨(goL_ok p ok).1, fx.tr (goL_ok p ok).2, goL_h9 p hr, bd.trans e⟩
theorem EqL.hd {l m : Ld} (h : EqL l m) (hq : q < 10) : hd m q = hd l q := by
  show m 5 q + m 6 q = l 5 q + l 6 q
  rw [h.h (k := 5) (by decide) (by decide) hq, h.h (k := 6) (by decide) (by decide) hq]
theorem seek_eq (hT : isLo μ t) (h0 : okL L0) (hq : (q : Int) < L0 0 0) (hN : N ≤ 7) (hn : 20000 ≤ n) : ∀ (d D k : Nat) (K : Nat → Nat → Int) (L : Ld) (row : Nat → Int) (M : Am), d < D → k + d = N → loP G K t q N L0 k L row M → okA L0 L q → ∃ K' : Nat → Nat → Int, lp (bX2_seekFrom n) D (t, (k : Int)) (wi μ K) = some ((), wi μ K') ∧ loP G K' t q N L0 k L row (aF q (hd L0 q) (L0 0 1).toNat d k L row M) ∧ ∀ b : Nat, t + 5 ≤ b → b < t + 5 + 13 * (k + 1) → K' b = K b := by
  have hz0 := h0.1
  intro d
  induction d with
  | zero =>
    intro D k K L row M hD e hP hA
    obtain ⟨D, rfl⟩ : ∃ D' : Nat, D = D' + 1 := ⟨D - 1, by omega⟩
    have ek : k = N := by omega
    subst ek
    show ∃ K' : Nat → Nat → Int, bX2_seekFrom n (lp (bX2_seekFrom n) D) (t, (k : Int)) (wi μ K) = some ((), wi μ K') ∧ _
    have gg := hA.g h0 hq
    obtain ⟨p1, ⟨p5, p6, p0⟩, pB, pR, pP, pS, pL, pZ, pM⟩ := id hP
    have hLk := hT.l (i := k) (by omega)
    have hL0 : isL μ (t + 5) := hT.l (i := 0) (by omega)
    have ehk : ld K (t + 5 + 13 * k) 5 q + ld K (t + 5 + 13 * k) 6 q = hd L q := pL.hd (by omega)
    have eh0 : ld K (t + 5) 5 q + ld K (t + 5) 6 q = hd L0 q := pZ.hd (by omega)
    unfold bX2_seekFrom
    dsimp only
    rw [bl_g3 hT, bl_lda hT (by omega) (by omega), Int.toNat_natCast, bl_gI hT, p5, bL_inv hLk, had_w hLk (by omega) (by omega), Int.toNat_natCast, ehk]
    dsimp only
    rw [bl_g3 hT, bl_lda hT (by omega) (by omega), show t + 5 + 13 * (0 : Int).toNat = t + 5 from rfl, bl_gI hT, p5, bL_inv hL0, had_w hL0 (by omega) (by omega), Int.toNat_natCast, eh0]
    dsimp only
    rw [bl_gI hT, p6]
    simp only [jn]
    rw [i_lt_f (by omega), bl_inv hT]
    unfold mX2_keepIfMore
    rw [bl_gI hT, p0]
    by_cases c : M.1 < hd L q - hd L0 q
    · have ha : aF q (hd L0 q) (L0 0 1).toNat 0 k L row M = (hd L q - hd L0 q, row) := if_pos c
      have cp := e_cpI (μ := μ) (I := up2 K t 0 (hd L q - hd L0 q)) (t := 0) hT.2.2.2.2.2.2.1 hT.2.2.2.2.2.1 (i := 0) (j := 0) (n := 7) (by omega) (by omega) (by omega) (by omega) (by omega) (by omega) (by omega)
      rw [ha, i_lt_t (by omega), bl_pI hT, bl_g2 hT, bl_g1 hT, bnd cp]
      refine ⟨_, rfl, ⟨fun b hb => ?_, ⟨?_, ?_, ?_⟩, fun j hj => ?_, fun j hj => ?_, fun j hj => ?_, fun j hj => ?_, ?_, ?_, by dsimp only; omega⟩, fun b b1 b2 => ?_⟩
      · unfold up1
        rw [if_neg (by omega), up2_row (by omega), p1 b hb]
      · unfold up1
        rw [if_neg (by omega), up2_n (by omega), p5]
      · unfold up1
        rw [if_neg (by omega), up2_n (by omega), p6]
      · unfold up1
        rw [if_neg (by omega), up2_s]
      · unfold up1 va_cpy
        rw [if_pos rfl]
        show (if 0 ≤ j ∧ j < 0 + 7 then _ else _) = row j
        rw [if_pos (by omega), up2_row (by omega)]
        show K (t + 2) (0 + (j - 0)) = row j
        rw [show 0 + (j - 0) = j by omega]
        exact pR j hj
      · unfold up1
        rw [if_neg (by omega), up2_row (by omega)]; exact pR j hj
      · unfold up1
        rw [if_neg (by omega), up2_row (by omega)]; exact pP j hj
      · have e : ld (up1 (up2 K t 0 (hd L q - hd L0 q)) (t + 1) (va_cpy (up2 K t 0 (hd L q - hd L0 q) (t + 2)) (up2 K t 0 (hd L q - hd L0 q) (t + 1)) (0 : Int).toNat (0 : Int).toNat (7 : Int).toNat)) (t + 5 + 13 * j) = ld K (t + 5 + 13 * j) := funext fun a => by
          show up1 _ _ _ (t + 5 + 13 * j + a) = _
          unfold up1
          rw [if_neg (by omega), up2_row (by omega)]
          rfl
        rw [e]; exact pS j hj
      · have e : ld (up1 (up2 K t 0 (hd L q - hd L0 q)) (t + 1) (va_cpy (up2 K t 0 (hd L q - hd L0 q) (t + 2)) (up2 K t 0 (hd L q - hd L0 q) (t + 1)) (0 : Int).toNat (0 : Int).toNat (7 : Int).toNat)) (t + 5 + 13 * k) = ld K (t + 5 + 13 * k) := funext fun a => by
          show up1 _ _ _ (t + 5 + 13 * k + a) = _
          unfold up1
          rw [if_neg (by omega), up2_row (by omega)]
          rfl
        rw [e]; exact pL
      · have e : ld (up1 (up2 K t 0 (hd L q - hd L0 q)) (t + 1) (va_cpy (up2 K t 0 (hd L q - hd L0 q) (t + 2)) (up2 K t 0 (hd L q - hd L0 q) (t + 1)) (0 : Int).toNat (0 : Int).toNat (7 : Int).toNat)) (t + 5) = ld K (t + 5) := funext fun a => by
          show up1 _ _ _ (t + 5 + a) = _
          unfold up1
          rw [if_neg (by omega), up2_row (by omega)]
          rfl
        rw [e]; exact pZ
      · unfold up1
        rw [if_neg (by omega), up2_row (by omega)]
    · have ha : aF q (hd L0 q) (L0 0 1).toNat 0 k L row M = M := if_neg c
      rw [ha, i_lt_f (by omega)]
      exact ⟨K, rfl, hP, fun _ _ _ => rfl⟩
  | succ d ih =>
    intro D k K L row M hD e hP hA
    obtain ⟨D, rfl⟩ : ∃ D' : Nat, D = D' + 1 := ⟨D - 1, by omega⟩
    show ∃ K' : Nat → Nat → Int, bX2_seekFrom n (lp (bX2_seekFrom n) D) (t, (k : Int)) (wi μ K) = some ((), wi μ K') ∧ _
    have ih' := ih D
    generalize lp (bX2_seekFrom n) D = self at ih' ⊢
    have gg := hA.g h0 hq
    have okA' := id hA
    obtain ⟨okL', fxL', hrL', -⟩ := okA'
    have e1L : L 0 1 = L0 0 1 := fxL'.1 1 (by decide)
    have e0L : L 0 0 = L0 0 0 := fxL'.1 0 (by decide)
    have hLk := hT.l (i := k) (by omega)
    have hLk1 := hT.l (i := k + 1) (by omega)
    have hL0 : isL μ (t + 5) := hT.l (i := 0) (by omega)
    -- one pull
    have one : ∀ (H : Nat → Nat → Int) (r : Int) (M1 : Am), loP G H t q N L0 k L row M1 → (-1 ≤ r ∧ r < 16) → ∃ H' : Nat → Nat → Int, bX2_seekPull n self (t, (k : Int), r) (wi μ H) = some ((), wi μ H') ∧ loP G H' t q N L0 k L row (aF q (hd L0 q) (L0 0 1).toNat d (k + 1) (goL (pl1 q r) L).1 (upA row k r) M1) ∧ ∀ b : Nat, t + 5 ≤ b → b < t + 5 + 13 * (k + 1) → H' b = H b := by
      intro H r M1 hH hr
      obtain ⟨p1, ⟨p5, p6, p0⟩, pB, pR, pP, pS, pL, pZ, pM⟩ := hH
      generalize hH2 : up2 (up2 H (t + 2) k r) (t + 4) q r = H2
      have o2 : ∀ b : Nat, b ≠ t + 2 → b ≠ t + 4 → H2 b = H b := fun b n2 n4 => by rw [← hH2, up2_row n4, up2_row n2]
      have l2 : ∀ j : Nat, ld H2 (t + 5 + j) = ld H (t + 5 + j) := fun j => funext fun a => o2 _ (by omega) (by omega)
      have tmv := takeMoved_eq (n := n) (I := H2) (l := ld H2 (t + 5 + 13 * (k + 1))) (b := t + 5 + 13 * k) hLk1 hLk (by omega) (l' := ld H2 (t + 5 + 13 * k)) rfl
      rw [wl_ld] at tmv
      have eq1 : EqL L (tmL (ld H2 (t + 5 + 13 * (k + 1))) (ld H2 (t + 5 + 13 * k))) := by
        rw [l2, l2]
        exact tm_eq ((pS (k + 1) (by omega)).fx fxL') pL
      generalize tmL (ld H2 (t + 5 + 13 * (k + 1))) (ld H2 (t + 5 + 13 * k)) = m1 at tmv eq1
      have okm : okL m1 := eq1.ok okL'
      have hm2 : m1 0 2 = L 0 2 := eq1.z (by decide)
      have p4 : ∀ j : Nat, j < 10 → H2 (t + 4) j = pl1 q r j ∧ -1 ≤ H2 (t + 4) j ∧ H2 (t + 4) j < 16 := fun j hj => by
        unfold pl1
        rw [← hH2]
        by_cases ej : j = q
        · rw [ej, up2_s, upA_s]; exact ⟨rfl, hr⟩
        · rw [up2_n (by omega), up2_row (by omega), upA_n ej]
          exact ⟨(pP j hj).1 ej, (pP j hj).2⟩
      have go := goOn_eq (n := n) (I := H2) (a := t + 5 + 13 * (k + 1)) (l := m1) (p := t + 4) hLk1 okm (by omega) hT.2.2.2.2.2.2.2.2.1 (by omega) (fun j hj => by have := p4 j hj; omega) (by omega)
      rw [goL_cg okm (fun j hj => (p4 j hj).1)] at go
      have eq2 : EqL (goL (pl1 q r) L).1 (goL (pl1 q r) m1).1 := eq1.go okL' _
      generalize hm2' : (goL (pl1 q r) m1).1 = m2 at go eq2
      generalize hH3 : wl H2 (t + 5 + 13 * (k + 1)) m2 = H3 at go
      have o3 : ∀ b : Nat, (b < t + 5 + 13 * (k + 1) ∨ t + 5 + 13 * (k + 1) + 12 < b) → H3 b = H2 b := fun b hb => by rw [← hH3, wl_out hb]
      have oA := hA.go hq (pl1 q r)
      have hP3 : loP G H3 t q N L0 (k + 1) (goL (pl1 q r) L).1 (upA row k r) M1 := by
        have lh : ∀ j : Nat, j < 8 → j ≠ k + 1 → ∀ a : Nat, a ≤ 12 → ld H3 (t + 5 + 13 * j) a = ld H (t + 5 + 13 * j) a := fun j hj ne a ha => by
          show H3 (t + 5 + 13 * j + a) = H (t + 5 + 13 * j + a)
          rw [o3 _ (by omega), o2 _ (by omega) (by omega)]
        have lk1 : ∀ a : Nat, a ≤ 12 → ld H3 (t + 5 + 13 * (k + 1)) a = m2 a := fun a ha => by
          show H3 (t + 5 + 13 * (k + 1) + a) = m2 a
          rw [← hH3]; exact wl_row ha
        refine ⟨fun b hb => ?_, ⟨?_, ?_, ?_⟩, fun j hj => ?_, fun j hj => ?_, fun j hj => ?_, fun j hj => ?_, ?_, ?_, pM⟩
        · rw [o3 b (by omega), o2 b (by omega) (by omega), p1 b hb]
        · rw [o3 t (by omega), o2 t (by omega) (by omega)]; exact p5
        · rw [o3 t (by omega), o2 t (by omega) (by omega)]; exact p6
        · rw [o3 t (by omega), o2 t (by omega) (by omega)]; exact p0
        · rw [o3 _ (by omega), o2 _ (by omega) (by omega)]; exact pB j hj
        · rw [o3 _ (by omega), ← hH2, up2_row (by omega)]
          by_cases ej : j = k
          · rw [ej, up2_s, upA_s]
          · rw [up2_n (by omega), upA_n ej]; exact pR j (by omega)
        · rw [o3 _ (by omega)]
          have g := p4 j hj
          refine ⟨fun ne => ?_, g.2⟩
          rw [g.1]
          unfold pl1
          exact upA_n ne
        · by_cases ej : j = k + 1
          · subst ej
            intro a i ha hi hne
            rw [lk1 a ha]
            exact (eq2.st.fx oA.2.1.sy) a i ha hi hne
          · intro a i ha hi hne
            rw [lh j hj ej a ha]
            exact pS j hj a i ha hi hne
        · intro a i ha hi
          rw [lk1 a ha]
          exact eq2 a i ha hi
        · intro a i ha hi
          have := lh 0 (by omega) (by omega) a ha
          rw [show ld H3 (t + 5) a = ld H (t + 5) a from this]
          exact pZ a i ha hi
      obtain ⟨H4, e4, hP4, f4⟩ := ih' (k + 1) H3 (goL (pl1 q r) L).1 (upA row k r) M1 (by omega) (by omega) hP3 oA
      rw [show (((k + 1 : Nat)) : Int) = (k : Int) + 1 from rfl] at e4
      refine ⟨H4, ?_, ?_, fun b b1 b2 => ?_⟩
      · have t5' : up2 H (t + 2) k r t 5 = (q : Int) := by rw [up2_row (by omega)]; exact p5
        have ti : ((k : Int) + 1).toNat = k + 1 := by omega
        unfold bX2_seekPull
        dsimp only
        rw [bl_g2 hT, bl_st2 hT (by omega) (by omega), Int.toNat_natCast, bl_g4 hT, bl_gI hT, t5', bl_st4 hT (by omega) (by omega), Int.toNat_natCast, hH2, bl_g3 hT, bl_lda hT (by omega) (by omega), ti, bl_g3 hT, bl_lda hT (by omega) (by omega), Int.toNat_natCast, bL_inv hLk1, bnd tmv]
        dsimp only
        rw [bl_g3 hT, bl_lda hT (by omega) (by omega), ti, bl_g4 hT, bL_inv hLk1, bnd go]
        dsimp only
        rw [bl_inv hT, bnd e4]
      · obtain ⟨s1, s2, s3, s4, s5, s6, s7, s8, s9⟩ := hP4
        have fk : ∀ b : Nat, t + 5 ≤ b → b < t + 5 + 13 * (k + 1) → H4 b = H b := fun b b1 b2 => by rw [f4 b b1 (by omega), o3 b (by omega), o2 b (by omega) (by omega)]
        refine ⟨s1, s2, s3, fun j hj => ?_, s5, s6, ?_, s8, s9⟩
        · rw [s4 j (by omega), upA_n (by omega)]
        · intro a i ha hi
          show H4 (t + 5 + 13 * k + a) i = _
          rw [fk _ (by omega) (by omega)]
          exact pL a i ha hi
      · rw [f4 b b1 (by omega), o3 b (by omega), o2 b (by omega) (by omega)]
    obtain ⟨p1, ⟨p5, p6, p0⟩, pB, pR, pP, pS, pL, pZ, pM⟩ := id hP
    have ehk : ld K (t + 5 + 13 * k) 5 q + ld K (t + 5 + 13 * k) 6 q = hd L q := pL.hd (by omega)
    have eh0 : ld K (t + 5) 5 q + ld K (t + 5) 6 q = hd L0 q := pZ.hd (by omega)
    have okK := pL.ok okL'
    have k01 : ld K (t + 5 + 13 * k) 0 1 = L0 0 1 := (pL.z (by decide)).trans e1L
    have k00 : ld K (t + 5 + 13 * k) 0 0 = L0 0 0 := (pL.z (by decide)).trans e0L
    have mtc := mostToCome_eq (n := n) (J := K) (q := q) (d := (N : Int) - (k : Int)) hT hLk okK (by omega) p5 (by omega) hn
    have mcg := mt_cg pL okL' (q := q) (by omega) ((N : Int) - (k : Int))
    rw [k01] at mtc
    rw [e1L] at mcg
    rw [mcg.1, mcg.2] at mtc
    have wr := mtW_rg okL' (q := q) (by omega)
    have tr := mtT_rg okL' (q := q) (d := (N : Int) - (k : Int)) (by omega)
    rw [e1L] at wr tr
    unfold bX2_seekFrom
    dsimp only
    rw [bl_g3 hT, bl_lda hT (by omega) (by omega), Int.toNat_natCast, bl_gI hT, p5, bL_inv hLk, had_w hLk (by omega) (by omega), Int.toNat_natCast, ehk]
    dsimp only
    rw [bl_g3 hT, bl_lda hT (by omega) (by omega), show t + 5 + 13 * (0 : Int).toNat = t + 5 from rfl, bl_gI hT, p5, bL_inv hL0, had_w hL0 (by omega) (by omega), Int.toNat_natCast, eh0]
    dsimp only
    rw [bl_gI hT, p6]
    simp only [jn]
    rw [i_lt_t (by omega), i_lt_t (by omega), bl_gI hT, p6, bl_inv hT, bnd mtc]
    dsimp only
    rw [bl_gI hT, p0]
    by_cases c : M.1 < hd L q - hd L0 q + min (mtT L q (2 * (L0 0 1).toNat) ((N : Int) - (k : Int))) (mtW L q (2 * (L0 0 1).toNat))
    · obtain ⟨H, eH, hPH, fH⟩ := one K (-1) M hP (by omega)
      rw [i_lt_t (by omega), bl_inv hT, bnd eH]
      dsimp only
      generalize hst : (fun (i : Nat) (M : Am) => @ite Am (awL L q i) (Classical.propDecidable _) (aF q (hd L0 q) (L0 0 1).toNat d (k + 1) (goL (pl1 q ((i : Int) - 1)) L).1 (upA row k ((i : Int) - 1)) M) M) = stp
      have eA : aF q (hd L0 q) (L0 0 1).toNat (d + 1) k L row M = itr stp 1 (L0 0 1).toNat (stp 0 M) := by rw [← hst]; rfl
      have e0 : stp 0 M = aF q (hd L0 q) (L0 0 1).toNat d (k + 1) (goL (pl1 q (-1)) L).1 (upA row k (-1)) M := by
        rw [← hst]
        dsimp only
        rw [if_pos (show awL L q 0 from Or.inl rfl)]
        rfl
      have lv0 : lvB q (hd L0 q) (L0 0 1).toNat d (goL (pl1 q (-1)) L).1 (stp 0 M).1 := by rw [e0]; exact aF_lv d (k + 1) _ _ M
      rw [← e0] at hPH
      rw [eA]
      refine lp_ind (fun e (v : Int) ν => ∃ (H : Nat → Nat → Int) (r : Nat) (M1 : Am), ν = wi μ H ∧ v = (r : Int) ∧ r + e = (L0 0 1).toNat ∧ loP G H t q N L0 k L row M1 ∧ (∀ b : Nat, t + 5 ≤ b → b < t + 5 + 13 * (k + 1) → H b = K b) ∧ lvB q (hd L0 q) (L0 0 1).toNat d (goL (pl1 q (-1)) L).1 M1.1 ∧ itr stp (r + 1) e M1 = itr stp 1 (L0 0 1).toNat (stp 0 M)) (fun X => ∃ K' : Nat → Nat → Int, X = some ((), wi μ K') ∧ loP G K' t q N L0 k L row (itr stp 1 (L0 0 1).toNat (stp 0 M)) ∧ ∀ b : Nat, t + 5 ≤ b → b < t + 5 + 13 * (k + 1) → K' b = K b) (fun e v ν nx hPP hnx => ?_) n (L0 0 1).toNat _ _ (by omega) ⟨H, 0, _, rfl, rfl, by omega, hPH, fH, lv0, rfl⟩
      obtain ⟨H, r, M1, rfl, rfl, h1, hPH, fH, lv, hV⟩ := hPP
      have hPH' := id hPH
      obtain ⟨q1, ⟨q5, q6, q0⟩, qB, qR, qP, qS, qL, qZ, qM⟩ := hPH'
      have okH := qL.ok okL'
      have h01 : ld H (t + 5 + 13 * k) 0 1 = L0 0 1 := (qL.z (by decide)).trans e1L
      have h00 : ld H (t + 5 + 13 * k) 0 0 = L0 0 0 := (qL.z (by decide)).trans e0L
      cases e with
      | zero =>
        have hV' : M1 = itr stp 1 (L0 0 1).toNat (stp 0 M) := hV
        rw [bL_gI hLk, h01, i_lt_f (by omega), ← hV']
        exact ⟨H, rfl, hPH, fH⟩
      | succ e =>
        have hV' : itr stp (r + 1 + 1) e (stp (r + 1) M1) = itr stp 1 (L0 0 1).toNat (stp 0 M) := hV
        have hr : (r : Int) < L 0 1 := by omega
        have hgE : (hgP (ld H (t + 5 + 13 * k)) (r : Int) (q : Int) ∧ ld H (t + 5 + 13 * k) 9 (r : Int).toNat = 0) ↔ awL L q (r + 1) := by
          unfold awL
          rw [Nat.add_sub_cancel, Int.toNat_natCast, qL.r (k := 9) (i := r) (by decide) (by decide) (by omega), hg_end (l := ld H (t + 5 + 13 * k)) (b := q) (k := r) (by omega) (by omega), qL.b (k := 10) (i := 2 * r) (by decide) (by decide) (by omega), qL.b (k := 10) (i := 2 * r + 1) (by decide) (by decide) (by omega)]
          exact ⟨fun z => Or.inr z, fun z => z.elim (fun z => by omega) id⟩
        rw [bL_gI hLk, h01, i_lt_t (by omega), bl_gI hT, q5, bL_inv hLk, hangsOpen_w hLk okH (by omega) (by omega)]
        dsimp only
        by_cases ca : awL L q (r + 1)
        · have es : stp (r + 1) M1 = aF q (hd L0 q) (L0 0 1).toNat d (k + 1) (goL (pl1 q (r : Int)) L).1 (upA row k (r : Int)) M1 := by
            rw [← hst]
            dsimp only
            rw [if_pos ca, show ((r + 1 : Nat) : Int) - 1 = (r : Int) by omega]
          have pm := pullMatters_eq (n := n) (J := H) (q := q) (r := r) hT hLk okH (by omega) q5 (by omega)
          rw [qL.db okL' hr, qL.db okL' hr, qL.b (k := 10) (i := 2 * r) (by decide) (by decide) (by omega)] at pm
          rw [i_bi_t (hgE.mpr ca), bl_inv hT, bnd pm]
          dsimp only
          by_cases cm : dbL L r (bi (L 10 (2 * r) = (q : Int))) (1 - bi (L 10 (2 * r) = (q : Int))) = dbL L r 0 0
          · rw [bi_t cm, i_eq_t (by decide)]
            have he : L 10 (2 * r) = (q : Int) ∨ L 10 (2 * r + 1) = (q : Int) := by
              rcases ca with z | z
              · omega
              · have := z.1
                rw [Nat.add_sub_cancel] at this
                exact this
            have nm := goL_nm okL' hr he cm
            rw [es, nm, aF_no d (k + 1) _ _ M1 lv] at hV'
            exact hnx e _ _ (by omega) ⟨H, r + 1, M1, rfl, rfl, by omega, hPH, fH, lv, hV'⟩
          · rw [bi_f cm, i_eq_f (by decide)]
            obtain ⟨H', eH', hP', fH'⟩ := one H (r : Int) M1 hPH (by omega)
            rw [bl_inv hT, bnd eH']
            dsimp only
            rw [es] at hV'
            exact hnx e _ _ (by omega) ⟨H', r + 1, _, rfl, rfl, by omega, hP', fun b b1 b2 => (fH' b b1 b2).trans (fH b b1 b2), lvB_mono (aF_ge d (k + 1) _ _ M1) d _ lv, hV'⟩
        · have es : stp (r + 1) M1 = M1 := by
            rw [← hst]
            exact if_neg ca
          rw [es] at hV'
          rw [i_bi_f (fun z => ca (hgE.mp z))]
          exact hnx e _ _ (by omega) ⟨H, r + 1, M1, rfl, rfl, by omega, hPH, fH, lv, hV'⟩
    · rw [i_lt_f (by omega)]
      have lv := lv_bd (h := q) (R := (L0 0 1).toNat) (H0 := hd L0 q) (d + 1) L okL' (by omega)
      rw [e1L, show ((d + 1 : Nat) : Int) = (N : Int) - (k : Int) by omega] at lv
      rw [aF_no (d + 1) k L row M (lvB_mono (by omega) _ _ lv)]
      exact ⟨K, rfl, hP, fun _ _ _ => rfl⟩
end SK
