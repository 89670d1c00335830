/-! the reference's parts; neighbours, severs -/
noncomputable def bc (p : Prop) : Int := @bi p (Classical.propDecidable p)
theorem bc_t {p : Prop} (h : p) : bc p = 1 := @bi_t p (Classical.propDecidable p) h
theorem bc_f {p : Prop} (h : ¬ p) : bc p = 0 := @bi_f p (Classical.propDecidable p) h
theorem i_bc_t {α : Type} {p : Prop} {a b : α} {i : Decidable (eq32 (bc p) 0)} (h : p) : @ite α (eq32 (bc p) 0) i a b = b := if_neg (by rw [bc_t h]; decide)
theorem i_bc_f {α : Type} {p : Prop} {a b : α} {i : Decidable (eq32 (bc p) 0)} (h : ¬ p) : @ite α (eq32 (bc p) 0) i a b = a := if_pos (by rw [bc_f h])
theorem bc_eq {p q : Prop} : eq32 (bc p) (bc q) ↔ (p ↔ q) := by
  by_cases hp : p
  · rw [bc_t hp]
    by_cases hq : q
    · rw [bc_t hq]; exact ⟨fun _ => ⟨fun _ => hq, fun _ => hp⟩, fun _ => rfl⟩
    · rw [bc_f hq]; exact ⟨fun z => absurd z (by decide), fun z => absurd (z.mp hp) hq⟩
  · rw [bc_f hp]
    by_cases hq : q
    · rw [bc_t hq]; exact ⟨fun z => absurd z (by decide), fun z => absurd (z.mpr hq) hp⟩
    · rw [bc_f hq]; exact ⟨fun _ => ⟨fun z => absurd z hp, fun z => absurd z hq⟩, fun _ => rfl⟩
section PM
variable {μ : Mem} {I : Nat → Nat → Int} {c m n : Nat} {s l : Ld} {w : Int} {β : Type}
theorem isIn_w {ν : Mem} {x : Int} {S : Nat → Prop} {k : Nat} (h : isMk x S) (hk : k < 31) {f : Int × Mem → Option β} : (mX11_isIn n m x (k : Int) ν).bind f = f (bc (S k), ν) := by
  unfold mX11_isIn
  by_cases c : S k
  · rw [i_mk_t h hk c, retZ_1, bc_t c]; rfl
  · rw [i_mk_f h hk c, retZ_0, bc_f c]; rfl
theorem part_m (h : isM μ m) (hl : LR l (s 1)) (hk : okL l) {q : Nat} (hq : (q : Int) < l 0 0) (hw : -2147483648 ≤ w ∧ w < 2147483648) (hn : 20000 ≤ n) : ∃ v : Int, isMk v (rch l w q) ∧ mX11_partOf n m (q : Int) w (wi μ (wm I m s)) = some (v, wi μ (wm I m s)) := by
  have hz := hk.1
  have a1 : s 1 1 = l 0 1 := hl.1.2.1
  have m1 := mk_1 (k := q) (by omega)
  unfold mX11_partOf
  refine lp_ind (fun d (v : Int × Int) ν => ∃ (S : Nat → Prop), ν = wi μ (wm I m s) ∧ isMk v.1 S ∧ S q ∧ (∀ k : Nat, S k → rch l w q k) ∧ (0 ≤ v.2 ∧ v.2 < 1024) ∧ (v.1 = v.2 → clsd l w S) ∧ 2 * (10 - cd 10 S) + (if v.1 = v.2 then 0 else 1) ≤ d) (fun X => ∃ v : Int, isMk v (rch l w q) ∧ X = some (v, wi μ (wm I m s))) (fun d v ν nx hP hnx => ?_) n 21 _ _ (by omega) ⟨_, rfl, m1, rfl, fun k hk => by subst hk; exact rch.rf l w _, by dsimp only; omega, fun e => absurd ((mk_z m1).mp e) (fun z => z q rfl), by dsimp only; split <;> omega⟩
  obtain ⟨S, rfl, hS, hSq, hSr, hw2, hcl, hd⟩ := hP
  obtain ⟨x, u⟩ := v
  dsimp only at hS hw2 hcl hd
  have hx := hS.lt
  by_cases cx : x = u
  · simp (disch := omega) only [↓i_lt_t, ↓i_lt_f, ↓i_eq_t, ↓i_eq_f, ↓i_bi_t, ↓i_bi_f, ↓i_some]
    exact ⟨x, hS.cg (fun k => ⟨hSr k, fun z => z S (hcl cx) hSq⟩), rfl⟩
  · rw [if_neg cx] at hd
    simp (disch := omega) only [↓i_lt_t, ↓i_lt_f, ↓i_eq_t, ↓i_eq_f, ↓i_bi_t, ↓i_bi_f, ↓i_some]
    refine lp_ind (fun e (v : Int × Int) ν => ∃ (T : Nat → Prop) (k : Nat), ν = wi μ (wm I m s) ∧ v.2 = (k : Int) ∧ (k : Int) + e = l 0 1 ∧ isMk v.1 T ∧ (∀ j : Nat, S j → T j) ∧ (∀ j : Nat, T j → rch l w q j) ∧ (v.1 = x → ∀ a b : Nat, adjK l w k a b → S a → S b)) (fun X => ∃ v : Int, isMk v (rch l w q) ∧ X = some (v, wi μ (wm I m s))) (fun e v ν nx2 hP hnx2 => ?_) n (l 0 1).toNat _ _ (by omega) ⟨S, 0, rfl, rfl, by omega, hS, fun _ z => z, hSr, fun _ a b ⟨r, hr, _⟩ => by omega⟩
    obtain ⟨T, k, rfl, e2, h1, hT, hST, hTr, hcl2⟩ := hP
    obtain ⟨y, kk⟩ := v
    dsimp only at e2 hT hcl2
    subst e2
    cases e with
    | zero =>
      simp (disch := omega) only [↓i_lt_t, ↓i_lt_f, ↓i_eq_t, ↓i_eq_f, ↓i_bi_t, ↓i_bi_f, ↓i_some, ↓bM_gI h, ↓bM_pI h, ↓bM_inv h, ↓bM_g1 h, ↓bM_g2 h, ↓bM_g3 h, ↓bM_g4 h, ↓bM_g15 h, ↓bM_g16 h, ↓bM_g22 h, ↓bM_g23 h, ↓bM_g24 h, ↓bM_g25 h, ↓bM_g28 h, ↓bM_g29 h, ↓bM_g30 h, ↓bM_g32 h, ↓bM_g33 h, ↓bM_g34 h, ↓bM_g36 h, ↓bM_g37 h, ↓bM_g41 h, ↓bM_g42 h, ↓bM_g43 h, ↓bM_ld1 h, ↓bM_ld2 h, ↓bM_ld3 h, ↓bM_ld4 h, ↓bM_ld5 h, ↓bM_ld6 h, ↓bM_ld7 h, ↓bM_ld8 h, ↓bM_ld9 h, ↓bM_ld10 h, ↓bM_ld11 h, ↓bM_ld12 h, ↓bM_ld13 h, ↓bM_ld14 h, ↓bM_ld15 h, ↓bM_ld16 h, ↓bM_ld17 h, ↓bM_ld18 h, ↓bM_ld19 h, ↓bM_ld20 h, ↓bM_ld21 h, ↓bM_st1 h, ↓bM_st2 h, ↓bM_st3 h, ↓bM_st4 h, ↓bM_st5 h, ↓bM_st6 h, ↓bM_st7 h, ↓bM_st8 h, ↓bM_st9 h, ↓bM_st10 h, ↓bM_st11 h, ↓bM_st12 h, ↓bM_st13 h, ↓bM_st14 h, ↓bM_st15 h, ↓bM_st16 h, ↓bM_st17 h, ↓bM_st18 h, ↓bM_st19 h, ↓bM_st20 h, ↓bM_st21 h, Int.toNat_add, Int.toNat_mul, Int.toNat_natCast, Int.reduceToNat, Nat.reduceAdd, Nat.reduceMul, a1]
      have hck : y = x → clsd l w T := fun ey a b ⟨r, g1, g2⟩ ha => by
        have eTS : ∀ j : Nat, T j ↔ S j := fun j => by subst ey; exact mk_inj hT hS j
        exact (eTS b).mpr (hcl2 ey a b ⟨r, by omega, g2⟩ ((eTS a).mp ha))
      refine hnx (2 * (10 - cd 10 T) + (if y = x then 0 else 1)) _ _ ?_ ⟨T, rfl, hT, hST q hSq, hTr, by dsimp only; omega, hck, Nat.le_refl _⟩
      by_cases ey : y = x
      · rw [if_pos ey]
        have : cd 10 T = cd 10 S := Nat.le_antisymm (cd_mono 10 (fun j _ z => by subst ey; exact (mk_inj hT hS j).mp z)) (cd_mono 10 (fun j _ z => hST j z))
        omega
      · rw [if_neg ey]
        have : cd 10 S < cd 10 T := cd_lt 10 (fun j _ z => hST j z) (Classical.byContradiction fun hn => ey (mk_ext hT hS (fun j => ⟨fun z => Classical.byContradiction fun zz => hn ⟨j, hT.k10 z, z, zz⟩, hST j⟩)))
        have := cd_le T 10
        omega
    | succ e =>
      have hr : (k : Int) < l 0 1 := by omega
      obtain ⟨k1, k2, -⟩ := hl.2.2 k hr
      have g1 := hk.2.2.2 (2 * k) (by omega)
      have g2 := hk.2.2.2 (2 * k + 1) (by omega)
      by_cases cw : (k : Int) = w
      · simp (disch := omega) only [↓i_lt_t, ↓i_lt_f, ↓i_eq_t, ↓i_eq_f, ↓i_bi_t, ↓i_bi_f, ↓i_some, ↓bM_gI h, ↓bM_pI h, ↓bM_inv h, ↓bM_g1 h, ↓bM_g2 h, ↓bM_g3 h, ↓bM_g4 h, ↓bM_g15 h, ↓bM_g16 h, ↓bM_g22 h, ↓bM_g23 h, ↓bM_g24 h, ↓bM_g25 h, ↓bM_g28 h, ↓bM_g29 h, ↓bM_g30 h, ↓bM_g32 h, ↓bM_g33 h, ↓bM_g34 h, ↓bM_g36 h, ↓bM_g37 h, ↓bM_g41 h, ↓bM_g42 h, ↓bM_g43 h, ↓bM_ld1 h, ↓bM_ld2 h, ↓bM_ld3 h, ↓bM_ld4 h, ↓bM_ld5 h, ↓bM_ld6 h, ↓bM_ld7 h, ↓bM_ld8 h, ↓bM_ld9 h, ↓bM_ld10 h, ↓bM_ld11 h, ↓bM_ld12 h, ↓bM_ld13 h, ↓bM_ld14 h, ↓bM_ld15 h, ↓bM_ld16 h, ↓bM_ld17 h, ↓bM_ld18 h, ↓bM_ld19 h, ↓bM_ld20 h, ↓bM_ld21 h, ↓bM_st1 h, ↓bM_st2 h, ↓bM_st3 h, ↓bM_st4 h, ↓bM_st5 h, ↓bM_st6 h, ↓bM_st7 h, ↓bM_st8 h, ↓bM_st9 h, ↓bM_st10 h, ↓bM_st11 h, ↓bM_st12 h, ↓bM_st13 h, ↓bM_st14 h, ↓bM_st15 h, ↓bM_st16 h, ↓bM_st17 h, ↓bM_st18 h, ↓bM_st19 h, ↓bM_st20 h, ↓bM_st21 h, Int.toNat_add, Int.toNat_mul, Int.toNat_natCast, Int.reduceToNat, Nat.reduceAdd, Nat.reduceMul, a1]
        refine hnx2 e _ _ (by omega) ⟨T, k + 1, rfl, by show (k : Int) + 1 = _; omega, by omega, hT, hST, hTr, fun ey a b hab => ?_⟩
        rw [adjK_s] at hab
        exact hab.elim (hcl2 ey a b) (fun z => absurd cw z.2.1)
      · by_cases c9 : l 9 k = 0
        · obtain ⟨a, ha⟩ : ∃ a : Nat, l 10 (2 * k) = (a : Int) := ⟨(l 10 (2 * k)).toNat, by omega⟩
          obtain ⟨b, hb⟩ : ∃ b : Nat, l 10 (2 * k + 1) = (b : Int) := ⟨(l 10 (2 * k + 1)).toNat, by omega⟩
          rw [ha] at k1 g1
          rw [hb] at k2 g2
          have hab : adj l w a b := ⟨k, hr, c9, cw, Or.inl ⟨ha, hb⟩⟩
          simp (disch := omega) only [↓i_lt_t, ↓i_lt_f, ↓i_eq_t, ↓i_eq_f, ↓i_bi_t, ↓i_bi_f, ↓i_some, ↓bM_gI h, ↓bM_pI h, ↓bM_inv h, ↓bM_g1 h, ↓bM_g2 h, ↓bM_g3 h, ↓bM_g4 h, ↓bM_g15 h, ↓bM_g16 h, ↓bM_g22 h, ↓bM_g23 h, ↓bM_g24 h, ↓bM_g25 h, ↓bM_g28 h, ↓bM_g29 h, ↓bM_g30 h, ↓bM_g32 h, ↓bM_g33 h, ↓bM_g34 h, ↓bM_g36 h, ↓bM_g37 h, ↓bM_g41 h, ↓bM_g42 h, ↓bM_g43 h, ↓bM_ld1 h, ↓bM_ld2 h, ↓bM_ld3 h, ↓bM_ld4 h, ↓bM_ld5 h, ↓bM_ld6 h, ↓bM_ld7 h, ↓bM_ld8 h, ↓bM_ld9 h, ↓bM_ld10 h, ↓bM_ld11 h, ↓bM_ld12 h, ↓bM_ld13 h, ↓bM_ld14 h, ↓bM_ld15 h, ↓bM_ld16 h, ↓bM_ld17 h, ↓bM_ld18 h, ↓bM_ld19 h, ↓bM_ld20 h, ↓bM_ld21 h, ↓bM_st1 h, ↓bM_st2 h, ↓bM_st3 h, ↓bM_st4 h, ↓bM_st5 h, ↓bM_st6 h, ↓bM_st7 h, ↓bM_st8 h, ↓bM_st9 h, ↓bM_st10 h, ↓bM_st11 h, ↓bM_st12 h, ↓bM_st13 h, ↓bM_st14 h, ↓bM_st15 h, ↓bM_st16 h, ↓bM_st17 h, ↓bM_st18 h, ↓bM_st19 h, ↓bM_st20 h, ↓bM_st21 h, Int.toNat_add, Int.toNat_mul, Int.toNat_natCast, Int.reduceToNat, Nat.reduceAdd, Nat.reduceMul, a1, ↓mhangs_w h hl hk, k1, k2, ↓isIn_w hT]
          by_cases ce : T a ↔ T b
          · rw [if_pos (bc_eq.mpr ce)]
            refine hnx2 e _ _ (by omega) ⟨T, k + 1, rfl, by show (k : Int) + 1 = _; omega, by omega, hT, hST, hTr, fun ey a' b' hab' => ?_⟩
            rw [adjK_s, ha, hb] at hab'
            have eTS : ∀ j : Nat, T j ↔ S j := fun j => by subst ey; exact mk_inj hT hS j
            rcases hab' with z | ⟨-, -, z⟩
            · exact hcl2 ey a' b' z
            · intro hs
              rcases z with ⟨z1, z2⟩ | ⟨z1, z2⟩
              · obtain rfl : a = a' := by omega
                obtain rfl : b = b' := by omega
                exact (eTS _).mp (ce.mp ((eTS _).mpr hs))
              · obtain rfl : a = b' := by omega
                obtain rfl : b = a' := by omega
                exact (eTS _).mp (ce.mpr ((eTS _).mpr hs))
          · rw [if_neg (fun z => ce (bc_eq.mp z))]
            have mT := mk_or hT (mk_or (mk_1 (k := a) (by omega)) (mk_1 (k := b) (by omega)))
            refine hnx2 e _ _ (by omega) ⟨_, k + 1, rfl, by show (k : Int) + 1 = _; omega, by omega, mT, fun j z => Or.inl (hST j z), fun j z => ?_, fun ey => ?_⟩
            · have hor : T a ∨ T b := Classical.byContradiction fun hn => ce ⟨fun z => absurd (Or.inl z) hn, fun z => absurd (Or.inr z) hn⟩
              rcases z with z | z | z
              · exact hTr j z
              · subst z
                rcases hor with z | z
                · exact hTr _ z
                · exact (hTr _ z).st hab.sym
              · subst z
                rcases hor with z | z
                · exact (hTr _ z).st hab
                · exact hTr _ z
            · exfalso
              refine ce ?_
              have eTS : ∀ j : Nat, (T j ∨ j = a ∨ j = b) ↔ S j := fun j => by
                have mT' := mT
                rw [show oOr y (oOr (oShl 1 (a : Int)) (oShl 1 (b : Int))) = x from ey] at mT'
                exact mk_inj mT' hS j
              exact ⟨fun _ => hST b ((eTS b).mp (Or.inr (Or.inr rfl))), fun _ => hST a ((eTS a).mp (Or.inr (Or.inl rfl)))⟩
        · simp (disch := omega) only [↓i_lt_t, ↓i_lt_f, ↓i_eq_t, ↓i_eq_f, ↓i_bi_t, ↓i_bi_f, ↓i_some, ↓bM_gI h, ↓bM_pI h, ↓bM_inv h, ↓bM_g1 h, ↓bM_g2 h, ↓bM_g3 h, ↓bM_g4 h, ↓bM_g15 h, ↓bM_g16 h, ↓bM_g22 h, ↓bM_g23 h, ↓bM_g24 h, ↓bM_g25 h, ↓bM_g28 h, ↓bM_g29 h, ↓bM_g30 h, ↓bM_g32 h, ↓bM_g33 h, ↓bM_g34 h, ↓bM_g36 h, ↓bM_g37 h, ↓bM_g41 h, ↓bM_g42 h, ↓bM_g43 h, ↓bM_ld1 h, ↓bM_ld2 h, ↓bM_ld3 h, ↓bM_ld4 h, ↓bM_ld5 h, ↓bM_ld6 h, ↓bM_ld7 h, ↓bM_ld8 h, ↓bM_ld9 h, ↓bM_ld10 h, ↓bM_ld11 h, ↓bM_ld12 h, ↓bM_ld13 h, ↓bM_ld14 h, ↓bM_ld15 h, ↓bM_ld16 h, ↓bM_ld17 h, ↓bM_ld18 h, ↓bM_ld19 h, ↓bM_ld20 h, ↓bM_ld21 h, ↓bM_st1 h, ↓bM_st2 h, ↓bM_st3 h, ↓bM_st4 h, ↓bM_st5 h, ↓bM_st6 h, ↓bM_st7 h, ↓bM_st8 h, ↓bM_st9 h, ↓bM_st10 h, ↓bM_st11 h, ↓bM_st12 h, ↓bM_st13 h, ↓bM_st14 h, ↓bM_st15 h, ↓bM_st16 h, ↓bM_st17 h, ↓bM_st18 h, ↓bM_st19 h, ↓bM_st20 h, ↓bM_st21 h, Int.toNat_add, Int.toNat_mul, Int.toNat_natCast, Int.reduceToNat, Nat.reduceAdd, Nat.reduceMul, a1, ↓mhangs_w h hl hk]
          refine hnx2 e _ _ (by omega) ⟨T, k + 1, rfl, by show (k : Int) + 1 = _; omega, by omega, hT, hST, hTr, fun ey a b hab => ?_⟩
          rw [adjK_s] at hab
          exact hab.elim (hcl2 ey a b) (fun z => absurd z.1 c9)
theorem both_neighbours (hC : isC μ c) (hM : isM μ (c + 193)) (hR : RelC c I) {b : Int} (hb : -2147483648 ≤ b ∧ b < 2147483648) (hn : 20000 ≤ n) : Both μ c I (mX10_neighbours n c b) (mX11_neighbours n (c + 193) b) := by
  obtain ⟨hk, lr, lq, h0, h9⟩ := id hR.1
  have hz := hk.1
  have hH := hC.here
  have hT := hC.ti
  have s1 := s1_of (I := I) (J := I) (c := c) rfl
  have lr' : LR (ld I (c + 3)) (up2 (ld I (c + 193)) 0 0 0 1) := by rw [s1]; exact lr
  by_cases ch : 0 ≤ b ∧ b < ld I (c + 3) 0 0
  · obtain ⟨q, rfl⟩ : ∃ q : Nat, b = (q : Int) := ⟨b.toNat, by omega⟩
    obtain ⟨J, e1, oJ, tJ⟩ := look_eq (n := n) (I := I) (a := c + 3) (t := c + 34) (w := -1) hH hT (by omega) hk (by omega) hn
    obtain ⟨v, hv, e2⟩ := part_eq (n := n) hT tJ hk ch.2 hn
    have cJ : CF c I J := fun b hb => oJ b (by unfold tmp at hb; omega) (by unfold tmp at hb; omega)
    have jr : ld J (c + 193) = ld I (c + 193) := funext fun k => oJ _ (by omega) (by omega)
    obtain ⟨v', hv', e3⟩ := part_m (n := n) (I := J) (s := up2 (ld I (c + 193)) 0 0 0) (l := ld I (c + 3)) (w := -1) hM lr' hk ch.2 (by omega) hn
    have ev : v' = v := mk_ext hv' hv (fun _ => Iff.rfl)
    subst ev
    have el := ldwm (μ := μ) J (c + 193)
    rw [jr] at el
    refine Both.mk (J := J) (v := v') (s' := up2 (ld I (c + 193)) 0 0 0) hR cJ.h ?_ ?_ ?_ ?_
    · unfold mX10_neighbours
      simp (disch := omega) only [↓i_lt_t, ↓i_lt_f, ↓i_eq_t, ↓i_eq_f, ↓i_bi_t, ↓i_bi_f, ↓i_some, ↓bC_g0 hC, ↓bC_g1 hC, ↓bC_g2 hC, ↓bC_g3 hC, ↓bC_g4 hC, ↓bC_g5 hC, ↓bC_g6 hC, ↓bC_g7 hC, ↓bC_g8 hC, ↓bC_g9 hC, ↓bC_g10 hC, ↓bC_inv hC, ↓bL_inv hH, ↓hasHouse_w hH hk, ↓bt_inv hT, ↓bnd e1, ↓bnd e2]
    · rw [← el]
      unfold mX11_neighbours
      simp (disch := omega) only [↓i_lt_t, ↓i_lt_f, ↓i_eq_t, ↓i_eq_f, ↓i_bi_t, ↓i_bi_f, ↓i_some, ↓bM_gI hM, ↓bM_pI hM, ↓bM_inv hM, ↓bM_g1 hM, ↓bM_g2 hM, ↓bM_g3 hM, ↓bM_g4 hM, ↓bM_g15 hM, ↓bM_g16 hM, ↓bM_g22 hM, ↓bM_g23 hM, ↓bM_g24 hM, ↓bM_g25 hM, ↓bM_g28 hM, ↓bM_g29 hM, ↓bM_g30 hM, ↓bM_g32 hM, ↓bM_g33 hM, ↓bM_g34 hM, ↓bM_g36 hM, ↓bM_g37 hM, ↓bM_g41 hM, ↓bM_g42 hM, ↓bM_g43 hM, ↓bM_ld1 hM, ↓bM_ld2 hM, ↓bM_ld3 hM, ↓bM_ld4 hM, ↓bM_ld5 hM, ↓bM_ld6 hM, ↓bM_ld7 hM, ↓bM_ld8 hM, ↓bM_ld9 hM, ↓bM_ld10 hM, ↓bM_ld11 hM, ↓bM_ld12 hM, ↓bM_ld13 hM, ↓bM_ld14 hM, ↓bM_ld15 hM, ↓bM_ld16 hM, ↓bM_ld17 hM, ↓bM_ld18 hM, ↓bM_ld19 hM, ↓bM_ld20 hM, ↓bM_ld21 hM, ↓bM_st1 hM, ↓bM_st2 hM, ↓bM_st3 hM, ↓bM_st4 hM, ↓bM_st5 hM, ↓bM_st6 hM, ↓bM_st7 hM, ↓bM_st8 hM, ↓bM_st9 hM, ↓bM_st10 hM, ↓bM_st11 hM, ↓bM_st12 hM, ↓bM_st13 hM, ↓bM_st14 hM, ↓bM_st15 hM, ↓bM_st16 hM, ↓bM_st17 hM, ↓bM_st18 hM, ↓bM_st19 hM, ↓bM_st20 hM, ↓bM_st21 hM, ↓isHouse_w hM lr' hk, ↓bnd e3]
    · rw [jr]; exact (Fr.f0 _ (Or.inl rfl)).w
    · rw [s1]
      exact hR.1.cg (fun k hk => cJ _ (by unfold tmp; omega))
  · refine Both.q (v := -2) hR ?_ ?_
    · unfold mX10_neighbours
      simp (disch := omega) only [↓i_lt_t, ↓i_lt_f, ↓i_eq_t, ↓i_eq_f, ↓i_bi_t, ↓i_bi_f, ↓i_some, ↓bC_g0 hC, ↓bC_g1 hC, ↓bC_g2 hC, ↓bC_g3 hC, ↓bC_g4 hC, ↓bC_g5 hC, ↓bC_g6 hC, ↓bC_g7 hC, ↓bC_g8 hC, ↓bC_g9 hC, ↓bC_g10 hC, ↓bC_inv hC, ↓bL_inv hH, ↓hasHouse_w hH hk]
    · unfold mX11_neighbours
      simp (disch := omega) only [↓i_lt_t, ↓i_lt_f, ↓i_eq_t, ↓i_eq_f, ↓i_bi_t, ↓i_bi_f, ↓i_some, ↓bM_gI hM, ↓bM_pI hM, ↓bM_inv hM, ↓bM_g1 hM, ↓bM_g2 hM, ↓bM_g3 hM, ↓bM_g4 hM, ↓bM_g15 hM, ↓bM_g16 hM, ↓bM_g22 hM, ↓bM_g23 hM, ↓bM_g24 hM, ↓bM_g25 hM, ↓bM_g28 hM, ↓bM_g29 hM, ↓bM_g30 hM, ↓bM_g32 hM, ↓bM_g33 hM, ↓bM_g34 hM, ↓bM_g36 hM, ↓bM_g37 hM, ↓bM_g41 hM, ↓bM_g42 hM, ↓bM_g43 hM, ↓bM_ld1 hM, ↓bM_ld2 hM, ↓bM_ld3 hM, ↓bM_ld4 hM, ↓bM_ld5 hM, ↓bM_ld6 hM, ↓bM_ld7 hM, ↓bM_ld8 hM, ↓bM_ld9 hM, ↓bM_ld10 hM, ↓bM_ld11 hM, ↓bM_ld12 hM, ↓bM_ld13 hM, ↓bM_ld14 hM, ↓bM_ld15 hM, ↓bM_ld16 hM, ↓bM_ld17 hM, ↓bM_ld18 hM, ↓bM_ld19 hM, ↓bM_ld20 hM, ↓bM_ld21 hM, ↓bM_st1 hM, ↓bM_st2 hM, ↓bM_st3 hM, ↓bM_st4 hM, ↓bM_st5 hM, ↓bM_st6 hM, ↓bM_st7 hM, ↓bM_st8 hM, ↓bM_st9 hM, ↓bM_st10 hM, ↓bM_st11 hM, ↓bM_st12 hM, ↓bM_st13 hM, ↓bM_st14 hM, ↓bM_st15 hM, ↓bM_st16 hM, ↓bM_st17 hM, ↓bM_st18 hM, ↓bM_st19 hM, ↓bM_st20 hM, ↓bM_st21 hM, ↓isHouse_w hM lr' hk]
theorem both_severs (hC : isC μ c) (hM : isM μ (c + 193)) (hR : RelC c I) {b : Int} (hb : -2147483648 ≤ b ∧ b < 2147483648) (hn : 20000 ≤ n) : Both μ c I (mX10_severs n c b) (mX11_severs n (c + 193) b) := by
  obtain ⟨hk, lr, lq, h0, h9⟩ := id hR.1
  have hz := hk.1
  have hH := hC.here
  have hT := hC.ti
  have s1 := s1_of (I := I) (J := I) (c := c) rfl
  have lr' : LR (ld I (c + 3)) (up2 (ld I (c + 193)) 0 0 0 1) := by rw [s1]; exact lr
  by_cases ch : 0 ≤ b ∧ b < ld I (c + 3) 0 1
  · obtain ⟨r, rfl⟩ : ∃ r : Nat, b = (r : Int) := ⟨b.toNat, by omega⟩
    have g9 := hk.2.2.1 r ch.2
    have g1 := hk.2.2.2 (2 * r) (by omega)
    have g2 := hk.2.2.2 (2 * r + 1) (by omega)
    by_cases c9 : ld I (c + 3) 9 r = 0
    · obtain ⟨x, hx⟩ : ∃ x : Nat, ld I (c + 3) 10 (2 * r) = (x : Int) := ⟨(ld I (c + 3) 10 (2 * r)).toNat, by omega⟩
      obtain ⟨y, hy⟩ : ∃ y : Nat, ld I (c + 3) 10 (2 * r + 1) = (y : Int) := ⟨(ld I (c + 3) 10 (2 * r + 1)).toNat, by omega⟩
      rw [hx] at g1
      rw [hy] at g2
      obtain ⟨J, e1, oJ, tJ⟩ := look_eq (n := n) (I := I) (a := c + 3) (t := c + 34) (w := (r : Int)) hH hT (by omega) hk (by omega) hn
      obtain ⟨v, hv, e2⟩ := part_eq (n := n) (h := x) hT tJ hk (by omega) hn
      have cJ : CF c I J := fun b hb => oJ b (by unfold tmp at hb; omega) (by unfold tmp at hb; omega)
      have jr : ld J (c + 193) = ld I (c + 193) := funext fun k => oJ _ (by omega) (by omega)
      have j3 : ∀ k : Nat, k ≤ 12 → ld J (c + 3) k = ld I (c + 3) k := fun k hk => oJ _ (by omega) (by omega)
      have j10 : ∀ i : Nat, ld J (c + 3) 10 i = ld I (c + 3) 10 i := fun i => by rw [j3 10 (by decide)]
      obtain ⟨v', hv', e3⟩ := part_m (n := n) (I := J) (s := up2 (ld I (c + 193)) 0 0 0) (l := ld I (c + 3)) (w := (r : Int)) (q := x) hM lr' hk (by omega) (by omega) hn
      have ev : v' = v := mk_ext hv' hv (fun _ => Iff.rfl)
      subst ev
      have el := ldwm (μ := μ) J (c + 193)
      rw [jr] at el
      obtain ⟨k1, k2, -⟩ := lr'.2.2 r ch.2
      rw [hx] at k1
      rw [hy] at k2
      refine Both.mk (J := J) (v := 1 - bc (rch (ld I (c + 3)) (r : Int) x y)) (s' := up2 (ld I (c + 193)) 0 0 0) hR cJ.h ?_ ?_ ?_ ?_
      · unfold mX10_severs
        simp (disch := omega) only [↓i_lt_t, ↓i_lt_f, ↓i_eq_t, ↓i_eq_f, ↓i_bi_t, ↓i_bi_f, ↓i_some, ↓bC_g0 hC, ↓bC_g1 hC, ↓bC_g2 hC, ↓bC_g3 hC, ↓bC_g4 hC, ↓bC_g5 hC, ↓bC_g6 hC, ↓bC_g7 hC, ↓bC_g8 hC, ↓bC_g9 hC, ↓bC_g10 hC, ↓bC_inv hC, ↓bL_gI hH, ↓bL_inv hH, ↓bL_g6 hH, ↓bL_g7 hH, ↓bL_g8 hH, ↓bL_g9 hH, ↓bL_g10 hH, ↓bL_g11 hH, ↓bL_g12 hH, ↓bL_g13 hH, ↓bL_g14 hH, ↓bL_g15 hH, ↓bL_g16 hH, ↓bL_g17 hH, ↓bL_ld1 hH, ↓bL_ld2 hH, ↓bL_ld3 hH, ↓bL_ld4 hH, ↓bL_ld5 hH, ↓bL_ld6 hH, ↓bL_ld7 hH, ↓bL_ld8 hH, ↓bL_ld9 hH, ↓bL_ld10 hH, ↓bL_ld11 hH, ↓bL_ld12 hH, ↓bL_st1 hH, ↓bL_st2 hH, ↓bL_st3 hH, ↓bL_st4 hH, ↓bL_st5 hH, ↓bL_st6 hH, ↓bL_st7 hH, ↓bL_st8 hH, ↓bL_st9 hH, ↓bL_st10 hH, ↓bL_st11 hH, ↓bL_st12 hH, ↓hasRope_w hH hk, ↓bt_inv hT, ↓bnd e1, Int.toNat_add, Int.toNat_mul, Int.toNat_natCast, Int.reduceToNat, Nat.reduceAdd, Nat.reduceMul, j10, hx, hy, ↓bnd e2]
        by_cases cr : rch (ld I (c + 3)) (r : Int) x y
        · rw [i_mk_t hv' (by omega) cr, bc_t cr]; rfl
        · rw [i_mk_f hv' (by omega) cr, bc_f cr]; rfl
      · rw [← el]
        unfold mX11_severs
        simp (disch := omega) only [↓i_lt_t, ↓i_lt_f, ↓i_eq_t, ↓i_eq_f, ↓i_bi_t, ↓i_bi_f, ↓i_some, ↓bM_gI hM, ↓bM_pI hM, ↓bM_inv hM, ↓bM_g1 hM, ↓bM_g2 hM, ↓bM_g3 hM, ↓bM_g4 hM, ↓bM_g15 hM, ↓bM_g16 hM, ↓bM_g22 hM, ↓bM_g23 hM, ↓bM_g24 hM, ↓bM_g25 hM, ↓bM_g28 hM, ↓bM_g29 hM, ↓bM_g30 hM, ↓bM_g32 hM, ↓bM_g33 hM, ↓bM_g34 hM, ↓bM_g36 hM, ↓bM_g37 hM, ↓bM_g41 hM, ↓bM_g42 hM, ↓bM_g43 hM, ↓bM_ld1 hM, ↓bM_ld2 hM, ↓bM_ld3 hM, ↓bM_ld4 hM, ↓bM_ld5 hM, ↓bM_ld6 hM, ↓bM_ld7 hM, ↓bM_ld8 hM, ↓bM_ld9 hM, ↓bM_ld10 hM, ↓bM_ld11 hM, ↓bM_ld12 hM, ↓bM_ld13 hM, ↓bM_ld14 hM, ↓bM_ld15 hM, ↓bM_ld16 hM, ↓bM_ld17 hM, ↓bM_ld18 hM, ↓bM_ld19 hM, ↓bM_ld20 hM, ↓bM_ld21 hM, ↓bM_st1 hM, ↓bM_st2 hM, ↓bM_st3 hM, ↓bM_st4 hM, ↓bM_st5 hM, ↓bM_st6 hM, ↓bM_st7 hM, ↓bM_st8 hM, ↓bM_st9 hM, ↓bM_st10 hM, ↓bM_st11 hM, ↓bM_st12 hM, ↓bM_st13 hM, ↓bM_st14 hM, ↓bM_st15 hM, ↓bM_st16 hM, ↓bM_st17 hM, ↓bM_st18 hM, ↓bM_st19 hM, ↓bM_st20 hM, ↓bM_st21 hM, ↓isRope_w hM lr' hk, ↓mhangs_w hM lr' hk, Int.toNat_add, Int.toNat_mul, Int.toNat_natCast, Int.reduceToNat, Nat.reduceAdd, Nat.reduceMul, k1, k2, ↓bnd e3, ↓isIn_w hv']
        by_cases cr : rch (ld I (c + 3)) (r : Int) x y
        · rw [i_bc_t cr, bc_t cr]; rfl
        · rw [i_bc_f cr, bc_f cr]; rfl
      · rw [jr]; exact (Fr.f0 _ (Or.inl rfl)).w
      · rw [s1]
        exact hR.1.cg (fun k hk => cJ _ (by unfold tmp; omega))
    · refine Both.q (v := -5) hR ?_ ?_
      · unfold mX10_severs
        simp (disch := omega) only [↓i_lt_t, ↓i_lt_f, ↓i_eq_t, ↓i_eq_f, ↓i_bi_t, ↓i_bi_f, ↓i_some, ↓bC_g0 hC, ↓bC_g1 hC, ↓bC_g2 hC, ↓bC_g3 hC, ↓bC_g4 hC, ↓bC_g5 hC, ↓bC_g6 hC, ↓bC_g7 hC, ↓bC_g8 hC, ↓bC_g9 hC, ↓bC_g10 hC, ↓bC_inv hC, ↓bL_gI hH, ↓bL_inv hH, ↓bL_g6 hH, ↓bL_g7 hH, ↓bL_g8 hH, ↓bL_g9 hH, ↓bL_g10 hH, ↓bL_g11 hH, ↓bL_g12 hH, ↓bL_g13 hH, ↓bL_g14 hH, ↓bL_g15 hH, ↓bL_g16 hH, ↓bL_g17 hH, ↓bL_ld1 hH, ↓bL_ld2 hH, ↓bL_ld3 hH, ↓bL_ld4 hH, ↓bL_ld5 hH, ↓bL_ld6 hH, ↓bL_ld7 hH, ↓bL_ld8 hH, ↓bL_ld9 hH, ↓bL_ld10 hH, ↓bL_ld11 hH, ↓bL_ld12 hH, ↓bL_st1 hH, ↓bL_st2 hH, ↓bL_st3 hH, ↓bL_st4 hH, ↓bL_st5 hH, ↓bL_st6 hH, ↓bL_st7 hH, ↓bL_st8 hH, ↓bL_st9 hH, ↓bL_st10 hH, ↓bL_st11 hH, ↓bL_st12 hH, ↓hasRope_w hH hk, Int.toNat_add, Int.toNat_mul, Int.toNat_natCast, Int.reduceToNat, Nat.reduceAdd, Nat.reduceMul]
      · unfold mX11_severs
        simp (disch := omega) only [↓i_lt_t, ↓i_lt_f, ↓i_eq_t, ↓i_eq_f, ↓i_bi_t, ↓i_bi_f, ↓i_some, ↓bM_gI hM, ↓bM_pI hM, ↓bM_inv hM, ↓bM_g1 hM, ↓bM_g2 hM, ↓bM_g3 hM, ↓bM_g4 hM, ↓bM_g15 hM, ↓bM_g16 hM, ↓bM_g22 hM, ↓bM_g23 hM, ↓bM_g24 hM, ↓bM_g25 hM, ↓bM_g28 hM, ↓bM_g29 hM, ↓bM_g30 hM, ↓bM_g32 hM, ↓bM_g33 hM, ↓bM_g34 hM, ↓bM_g36 hM, ↓bM_g37 hM, ↓bM_g41 hM, ↓bM_g42 hM, ↓bM_g43 hM, ↓bM_ld1 hM, ↓bM_ld2 hM, ↓bM_ld3 hM, ↓bM_ld4 hM, ↓bM_ld5 hM, ↓bM_ld6 hM, ↓bM_ld7 hM, ↓bM_ld8 hM, ↓bM_ld9 hM, ↓bM_ld10 hM, ↓bM_ld11 hM, ↓bM_ld12 hM, ↓bM_ld13 hM, ↓bM_ld14 hM, ↓bM_ld15 hM, ↓bM_ld16 hM, ↓bM_ld17 hM, ↓bM_ld18 hM, ↓bM_ld19 hM, ↓bM_ld20 hM, ↓bM_ld21 hM, ↓bM_st1 hM, ↓bM_st2 hM, ↓bM_st3 hM, ↓bM_st4 hM, ↓bM_st5 hM, ↓bM_st6 hM, ↓bM_st7 hM, ↓bM_st8 hM, ↓bM_st9 hM, ↓bM_st10 hM, ↓bM_st11 hM, ↓bM_st12 hM, ↓bM_st13 hM, ↓bM_st14 hM, ↓bM_st15 hM, ↓bM_st16 hM, ↓bM_st17 hM, ↓bM_st18 hM, ↓bM_st19 hM, ↓bM_st20 hM, ↓bM_st21 hM, ↓isRope_w hM lr' hk, ↓mhangs_w hM lr' hk]
  · refine Both.q (v := -2) hR ?_ ?_
    · unfold mX10_severs
      simp (disch := omega) only [↓i_lt_t, ↓i_lt_f, ↓i_eq_t, ↓i_eq_f, ↓i_bi_t, ↓i_bi_f, ↓i_some, ↓bC_g0 hC, ↓bC_g1 hC, ↓bC_g2 hC, ↓bC_g3 hC, ↓bC_g4 hC, ↓bC_g5 hC, ↓bC_g6 hC, ↓bC_g7 hC, ↓bC_g8 hC, ↓bC_g9 hC, ↓bC_g10 hC, ↓bC_inv hC, ↓bL_inv hH, ↓hasRope_w hH hk]
    · unfold mX11_severs
      simp (disch := omega) only [↓i_lt_t, ↓i_lt_f, ↓i_eq_t, ↓i_eq_f, ↓i_bi_t, ↓i_bi_f, ↓i_some, ↓bM_gI hM, ↓bM_pI hM, ↓bM_inv hM, ↓bM_g1 hM, ↓bM_g2 hM, ↓bM_g3 hM, ↓bM_g4 hM, ↓bM_g15 hM, ↓bM_g16 hM, ↓bM_g22 hM, ↓bM_g23 hM, ↓bM_g24 hM, ↓bM_g25 hM, ↓bM_g28 hM, ↓bM_g29 hM, ↓bM_g30 hM, ↓bM_g32 hM, ↓bM_g33 hM, ↓bM_g34 hM, ↓bM_g36 hM, ↓bM_g37 hM, ↓bM_g41 hM, ↓bM_g42 hM, ↓bM_g43 hM, ↓bM_ld1 hM, ↓bM_ld2 hM, ↓bM_ld3 hM, ↓bM_ld4 hM, ↓bM_ld5 hM, ↓bM_ld6 hM, ↓bM_ld7 hM, ↓bM_ld8 hM, ↓bM_ld9 hM, ↓bM_ld10 hM, ↓bM_ld11 hM, ↓bM_ld12 hM, ↓bM_ld13 hM, ↓bM_ld14 hM, ↓bM_ld15 hM, ↓bM_ld16 hM, ↓bM_ld17 hM, ↓bM_ld18 hM, ↓bM_ld19 hM, ↓bM_ld20 hM, ↓bM_ld21 hM, ↓bM_st1 hM, ↓bM_st2 hM, ↓bM_st3 hM, ↓bM_st4 hM, ↓bM_st5 hM, ↓bM_st6 hM, ↓bM_st7 hM, ↓bM_st8 hM, ↓bM_st9 hM, ↓bM_st10 hM, ↓bM_st11 hM, ↓bM_st12 hM, ↓bM_st13 hM, ↓bM_st14 hM, ↓bM_st15 hM, ↓bM_st16 hM, ↓bM_st17 hM, ↓bM_st18 hM, ↓bM_st19 hM, ↓bM_st20 hM, ↓bM_st21 hM, ↓isRope_w hM lr' hk]
end PM
