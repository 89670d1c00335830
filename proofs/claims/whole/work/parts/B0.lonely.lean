/-! the class's lonely one -/
def isLo (μ : Mem) (t : Nat) : Prop := mS μ t = (3, 7) ∧ mA μ t 1 = t + 1 ∧ mA μ t 2 = t + 2 ∧ mA μ t 3 = t + 3 ∧ mA μ t 4 = t + 4 ∧ mS μ (t + 1) = (20, 7) ∧ mS μ (t + 2) = (20, 7) ∧ mS μ (t + 3) = (24, 8) ∧ mS μ (t + 4) = (20, 10) ∧ ∀ i : Nat, i < 8 → isL μ (t + 5 + 13 * i) ∧ mA μ (t + 3) i = t + 5 + 13 * i
theorem isC.lo {μ : Mem} {c : Nat} (h : isC μ c) : isLo μ (c + 36) := h.2.2.2.2.2.2.2.2.2.1
theorem isLo.k {μ : Mem} {t : Nat} (h : isLo μ t) : (mS μ t).1 = 3 := by rw [h.1]
theorem isLo.l {μ : Mem} {t : Nat} (h : isLo μ t) {i : Nat} (hi : i < 8) : isL μ (t + 5 + 13 * i) := (h.2.2.2.2.2.2.2.2.2 i hi).1
section LO
variable {μ : Mem} {I J G : Nat → Nat → Int} {t a n : Nat} {l : Ld} {β : Type}
theorem bl_gI (h : isLo μ t) {k : Nat} {f : Int → Option β} : (gI (wi μ J) 3 t k).bind f = f (J t k) := bnd (e_gI h.k) f
theorem bl_pI (h : isLo μ t) {k : Nat} {x : Int} {f : Mem → Option β} : (pI (wi μ J) 3 t k x).bind f = f (wi μ (up2 J t k x)) := bnd (e_pI h.k) f
theorem bl_g1 (h : isLo μ t) {f : Nat → Option β} : (gA (wi μ J) 3 t 1).bind f = f (t + 1) := bnd ((e_gA h.k).trans (congrArg some h.2.1)) f
theorem bl_g2 (h : isLo μ t) {f : Nat → Option β} : (gA (wi μ J) 3 t 2).bind f = f (t + 2) := bnd ((e_gA h.k).trans (congrArg some h.2.2.1)) f
theorem bl_g3 (h : isLo μ t) {f : Nat → Option β} : (gA (wi μ J) 3 t 3).bind f = f (t + 3) := bnd ((e_gA h.k).trans (congrArg some h.2.2.2.1)) f
theorem bl_g4 (h : isLo μ t) {f : Nat → Option β} : (gA (wi μ J) 3 t 4).bind f = f (t + 4) := bnd ((e_gA h.k).trans (congrArg some h.2.2.2.2.1)) f
theorem bl_inv {ρ : Type} {X : Option ρ} (h : isLo μ t) {f : ρ → Option β} : (inv (wi μ J) 3 t X).bind f = X.bind f := by rw [e_inv h.k]
theorem bl_ld1 (h : isLo μ t) {i : Int} (h0 : 0 ≤ i) (h1 : i < 7) {f : Int → Option β} : (ldI (wi μ J) 0 (t + 1) i).bind f = f (J (t + 1) i.toNat) := bnd (e_ldI (L := 7) h.2.2.2.2.2.1 h0 (by omega) (by omega)) f
theorem bl_st2 (h : isLo μ t) {i x : Int} (h0 : 0 ≤ i) (h1 : i < 7) {f : Mem → Option β} : (stI (wi μ J) 0 (t + 2) i x).bind f = f (wi μ (up2 J (t + 2) i.toNat x)) := bnd (e_stI (L := 7) h.2.2.2.2.2.2.1 h0 (by omega) (by omega)) f
theorem bl_st4 (h : isLo μ t) {i x : Int} (h0 : 0 ≤ i) (h1 : i < 10) {f : Mem → Option β} : (stI (wi μ J) 0 (t + 4) i x).bind f = f (wi μ (up2 J (t + 4) i.toNat x)) := bnd (e_stI (L := 10) h.2.2.2.2.2.2.2.2.1 h0 (by omega) (by omega)) f
theorem bl_lda (h : isLo μ t) {i : Int} (h0 : 0 ≤ i) (h1 : i < 8) {f : Nat → Option β} : (ldA (wi μ J) 4 (t + 3) i).bind f = f (t + 5 + 13 * i.toNat) := bnd ((e_ldA (L := 8) h.2.2.2.2.2.2.2.1 h0 (by omega) (by omega)).trans (congrArg some (h.2.2.2.2.2.2.2.2.2 i.toNat (by omega)).2)) f
/-- what is told of a land, and does not move -/
def EqSt (l m : Ld) : Prop := ∀ k i : Nat, k ≤ 12 → i < lnL k → ¬ ((k = 0 ∧ i = 2) ∨ k = 3 ∨ k = 5 ∨ k = 6 ∨ k = 8 ∨ k = 12) → m k i = l k i
theorem EqL.st {l m : Ld} (h : EqL l m) : EqSt l m := fun k i hk hi _ => h k i hk hi
theorem EqSt.fx {l m k : Ld} (h : EqSt l m) (f : fxL l k) : EqSt k m := fun a i ha hi hn => by
  rw [h a i ha hi hn]
  have cs : a = 0 ∨ a = 1 ∨ a = 2 ∨ a = 4 ∨ a = 7 ∨ a = 9 ∨ a = 10 ∨ a = 11 := by omega
  rcases cs with rfl | rfl | rfl | rfl | rfl | rfl | rfl | rfl
  · exact (f.1 i (by omega)).symm
  · rw [f.2.1]
  · rw [f.2.2.1]
  · rw [f.2.2.2.1]
  · rw [f.2.2.2.2.1]
  · rw [f.2.2.2.2.2.1]
  · rw [f.2.2.2.2.2.2.1]
  · rw [f.2.2.2.2.2.2.2]
theorem tm_eq {L m l' : Ld} (h1 : EqSt L m) (h2 : EqL L l') : EqL L (tmL m l') := fun k i hk hi => by
  unfold tmL
  by_cases c : (k = 0 ∧ i = 2) ∨ ((k = 3 ∨ k = 5 ∨ k = 6 ∨ k = 8 ∨ k = 12) ∧ i < lnL k)
  · rw [if_pos c]; exact h2 k i hk hi
  · rw [if_neg c]
    exact h1 k i hk hi (fun z => c (by
      rcases z with z | z
      · exact Or.inl z
      · exact Or.inr ⟨z, hi⟩))
theorem fxL.sy {l m : Ld} (f : fxL l m) : fxL m l := ⟨fun j hj => (f.1 j hj).symm, f.2.1.symm, f.2.2.1.symm, f.2.2.2.1.symm, f.2.2.2.2.1.symm, f.2.2.2.2.2.1.symm, f.2.2.2.2.2.2.1.symm, f.2.2.2.2.2.2.2.symm⟩
theorem mt_cg {L l : Ld} (h : EqL L l) (hk : okL L) {q : Nat} (hq : q < 10) (d : Int) : mtT l q (2 * (L 0 1).toNat) d = mtT L q (2 * (L 0 1).toNat) d ∧ mtW l q (2 * (L 0 1).toNat) = mtW L q (2 * (L 0 1).toNat) := by
  have hz := hk.1
  have ow : ∀ b : Nat, b < 2 * (L 0 1).toNat → ∀ x : Int, ifo l q b x = ifo L q b x := fun b hb x => by
    have e : own l q b ↔ own L q b := by
      unfold own
      rw [h.b (k := 10) (i := b) (by decide) (by decide) (by omega), h.r (k := 9) (i := b / 2) (by decide) (by decide) (by omega)]
    by_cases c : own L q b
    · rw [ifo_t c, ifo_t (e.mpr c)]
    · rw [ifo_f c, ifo_f (fun z => c (e.mp z))]
  refine ⟨sm_cg _ (fun i hi => ?_), ?_⟩
  · rw [ow i hi, h.b (k := 12) (i := i) (by decide) (by decide) (by omega)]
  · unfold mtW
    rw [h.h (k := 3) (i := q) (by decide) (by decide) hq, sm_cg (g := fun b => ifo L q b (L 12 b)) _ (fun i hi => by rw [ow i hi, h.b (k := 12) (i := i) (by decide) (by decide) (by omega)])]
theorem mtW_rg (hk : okL l) {q : Nat} (hq : (q : Int) < l 0 0) : 0 ≤ mtW l q (2 * (l 0 1).toNat) ∧ mtW l q (2 * (l 0 1).toNat) ≤ 131 := by
  have hz := hk.1
  have g := hk.2.1 q hq
  have tm : ∀ i : Nat, i < 2 * (l 0 1).toNat → 0 ≤ ifo l q i (l 12 i) ∧ ifo l q i (l 12 i) ≤ 1 := fun i hi => by
    have g := hk.2.2.2 i (by omega)
    by_cases o : own l q i
    · rw [ifo_t o]; omega
    · rw [ifo_f o]; omega
  have s1 := sm_nn _ (fun i hi => (tm i hi).1)
  have s2 := sm_le _ (fun i hi => (tm i hi).2)
  unfold mtW
  omega
theorem mtT_rg (hk : okL l) {q : Nat} {d : Int} (hd : 0 ≤ d ∧ d ≤ 7) : 0 ≤ mtT l q (2 * (l 0 1).toNat) d ∧ mtT l q (2 * (l 0 1).toNat) d ≤ 128 := by
  have hz := hk.1
  have tm : ∀ i : Nat, i < 2 * (l 0 1).toNat → 0 ≤ ifo l q i ((d + l 12 i) / 2) ∧ ifo l q i ((d + l 12 i) / 2) ≤ 4 := fun i hi => by
    have g := hk.2.2.2 i (by omega)
    by_cases o : own l q i
    · rw [ifo_t o]; omega
    · rw [ifo_f o]; omega
  have s1 := sm_nn _ (fun i hi => (tm i hi).1)
  have s2 := sm_le _ (fun i hi => (tm i hi).2)
  unfold mtT
  omega
theorem mostToCome_eq (hT : isLo μ t) (hL : isL μ a) (hk : okL (ld J a)) {q : Nat} (hq : (q : Int) < ld J a 0 0) (h5 : J t 5 = (q : Int)) {d : Int} (hd : 0 ≤ d ∧ d ≤ 7) (hn : 20000 ≤ n) : mX2_mostToCome n t a d (wi μ J) = some (min (mtT (ld J a) q (2 * (ld J a 0 1).toNat) d) (mtW (ld J a) q (2 * (ld J a 0 1).toNat)), wi μ J) := by
  have hz := hk.1
  have hq10 : (q : Int) < 10 := by omega
  have tr := mtT_rg (q := q) hk hd
  have wr := mtW_rg hk hq
  unfold mX2_mostToCome
  simp (disch := omega) only [↓bL_gI hL, ↓bL_inv hL, ↓bL_g6 hL, ↓bL_g7 hL, ↓bL_g8 hL, ↓bL_g9 hL, ↓bL_g10 hL, ↓bL_g11 hL, ↓bL_g12 hL, ↓bL_g13 hL, ↓bL_g14 hL, ↓bL_g15 hL, ↓bL_g16 hL, ↓bL_g17 hL, ↓bL_ld1 hL, ↓bL_ld2 hL, ↓bL_ld3 hL, ↓bL_ld4 hL, ↓bL_ld5 hL, ↓bL_ld6 hL, ↓bL_ld7 hL, ↓bL_ld8 hL, ↓bL_ld9 hL, ↓bL_ld10 hL, ↓bL_ld11 hL, ↓bL_ld12 hL, ↓bL_st1 hL, ↓bL_st2 hL, ↓bL_st3 hL, ↓bL_st4 hL, ↓bL_st5 hL, ↓bL_st6 hL, ↓bL_st7 hL, ↓bL_st8 hL, ↓bL_st9 hL, ↓bL_st10 hL, ↓bL_st11 hL, ↓bL_st12 hL, ↓bl_gI hT, h5, Int.toNat_natCast]
  refine lp_ind (fun e (v : Int × Int × Int) ν => ∃ b : Nat, ν = wi μ J ∧ v = (sm (fun b => ifo (ld J a) q b ((d + ld J a 12 b) / 2)) b, ld J a 3 q + sm (fun b => ifo (ld J a) q b (ld J a 12 b)) b, (b : Int)) ∧ b + e = 2 * (ld J a 0 1).toNat) (fun X => X = some (min (mtT (ld J a) q (2 * (ld J a 0 1).toNat) d) (mtW (ld J a) q (2 * (ld J a 0 1).toNat)), wi μ J)) (fun e v ν nx hP hnx => ?_) n (2 * (ld J a 0 1).toNat) _ _ (by omega) ⟨0, rfl, by show _ = ((0 : Int), ld J a 3 q + 0, ((0 : Nat) : Int)); rw [Int.add_zero]; rfl, by omega⟩
  obtain ⟨b, rfl, rfl, h1⟩ := hP
  cases e with
  | zero =>
    have eb : b = 2 * (ld J a 0 1).toNat := by omega
    subst eb
    simp (disch := omega) only [↓i_lt_t, ↓i_lt_f, ↓i_eq_t, ↓i_eq_f, ↓i_bi_t, ↓i_bi_f, ↓i_some, ↓bL_gI hL, ↓bL_inv hL, ↓bL_g6 hL, ↓bL_g7 hL, ↓bL_g8 hL, ↓bL_g9 hL, ↓bL_g10 hL, ↓bL_g11 hL, ↓bL_g12 hL, ↓bL_g13 hL, ↓bL_g14 hL, ↓bL_g15 hL, ↓bL_g16 hL, ↓bL_g17 hL, ↓bL_ld1 hL, ↓bL_ld2 hL, ↓bL_ld3 hL, ↓bL_ld4 hL, ↓bL_ld5 hL, ↓bL_ld6 hL, ↓bL_ld7 hL, ↓bL_ld8 hL, ↓bL_ld9 hL, ↓bL_ld10 hL, ↓bL_ld11 hL, ↓bL_ld12 hL, ↓bL_st1 hL, ↓bL_st2 hL, ↓bL_st3 hL, ↓bL_st4 hL, ↓bL_st5 hL, ↓bL_st6 hL, ↓bL_st7 hL, ↓bL_st8 hL, ↓bL_st9 hL, ↓bL_st10 hL, ↓bL_st11 hL, ↓bL_st12 hL]
    unfold mtT at tr
    unfold mtW at wr
    rw [mMin_of (by omega) (by omega) (by omega) (by omega)]
    rfl
  | succ e =>
    have hb : (b : Int) < 2 * ld J a 0 1 := by omega
    have g := hk.2.2.2 b hb
    have g9 := hk.2.2.1 (b / 2) (by omega)
    have od := oDiv_of (x := (b : Int)) (y := 2) (by omega) (by omega) (by omega) (by omega)
    have td : ((b : Int) / 2).toNat = b / 2 := by omega
    by_cases c1 : ld J a 10 b = (q : Int)
    · by_cases c2 : ld J a 9 (b / 2) = 0
      · have o : own (ld J a) q b := ⟨c1, c2⟩
        by_cases c3 : ld J a 12 b = 0
        · have ov := oDiv_of (x := d + 0) (y := 2) (by omega) (by omega) (by omega) (by omega)
          simp (disch := omega) only [jn, ↓i_lt_t, ↓i_lt_f, ↓i_eq_t, ↓i_eq_f, ↓i_bi_t, ↓i_bi_f, ↓i_some, ↓bL_gI hL, ↓bL_inv hL, ↓bL_g6 hL, ↓bL_g7 hL, ↓bL_g8 hL, ↓bL_g9 hL, ↓bL_g10 hL, ↓bL_g11 hL, ↓bL_g12 hL, ↓bL_g13 hL, ↓bL_g14 hL, ↓bL_g15 hL, ↓bL_g16 hL, ↓bL_g17 hL, ↓bL_ld1 hL, ↓bL_ld2 hL, ↓bL_ld3 hL, ↓bL_ld4 hL, ↓bL_ld5 hL, ↓bL_ld6 hL, ↓bL_ld7 hL, ↓bL_ld8 hL, ↓bL_ld9 hL, ↓bL_ld10 hL, ↓bL_ld11 hL, ↓bL_ld12 hL, ↓bL_st1 hL, ↓bL_st2 hL, ↓bL_st3 hL, ↓bL_st4 hL, ↓bL_st5 hL, ↓bL_st6 hL, ↓bL_st7 hL, ↓bL_st8 hL, ↓bL_st9 hL, ↓bL_st10 hL, ↓bL_st11 hL, ↓bL_st12 hL, Int.toNat_natCast, ↓bl_gI hT, h5, od, td, ov]
          refine hnx e _ _ (by omega) ⟨b + 1, rfl, ?_, by omega⟩
          show _ = (sm _ b + ifo (ld J a) q b ((d + ld J a 12 b) / 2), ld J a 3 q + (sm _ b + ifo (ld J a) q b (ld J a 12 b)), _)
          rw [ifo_t o, ifo_t o, c3, Int.add_assoc]
          rfl
        · have e1 : ld J a 12 b = 1 := by omega
          have ov := oDiv_of (x := d + 1) (y := 2) (by omega) (by omega) (by omega) (by omega)
          simp (disch := omega) only [jn, ↓i_lt_t, ↓i_lt_f, ↓i_eq_t, ↓i_eq_f, ↓i_bi_t, ↓i_bi_f, ↓i_some, ↓bL_gI hL, ↓bL_inv hL, ↓bL_g6 hL, ↓bL_g7 hL, ↓bL_g8 hL, ↓bL_g9 hL, ↓bL_g10 hL, ↓bL_g11 hL, ↓bL_g12 hL, ↓bL_g13 hL, ↓bL_g14 hL, ↓bL_g15 hL, ↓bL_g16 hL, ↓bL_g17 hL, ↓bL_ld1 hL, ↓bL_ld2 hL, ↓bL_ld3 hL, ↓bL_ld4 hL, ↓bL_ld5 hL, ↓bL_ld6 hL, ↓bL_ld7 hL, ↓bL_ld8 hL, ↓bL_ld9 hL, ↓bL_ld10 hL, ↓bL_ld11 hL, ↓bL_ld12 hL, ↓bL_st1 hL, ↓bL_st2 hL, ↓bL_st3 hL, ↓bL_st4 hL, ↓bL_st5 hL, ↓bL_st6 hL, ↓bL_st7 hL, ↓bL_st8 hL, ↓bL_st9 hL, ↓bL_st10 hL, ↓bL_st11 hL, ↓bL_st12 hL, Int.toNat_natCast, ↓bl_gI hT, h5, od, td, ov]
          refine hnx e _ _ (by omega) ⟨b + 1, rfl, ?_, by omega⟩
          show _ = (sm _ b + ifo (ld J a) q b ((d + ld J a 12 b) / 2), ld J a 3 q + (sm _ b + ifo (ld J a) q b (ld J a 12 b)), _)
          rw [ifo_t o, ifo_t o, e1, Int.add_assoc]
          rfl
      · have o : ¬ own (ld J a) q b := fun z => c2 z.2
        simp (disch := omega) only [↓i_lt_t, ↓i_lt_f, ↓i_eq_t, ↓i_eq_f, ↓i_bi_t, ↓i_bi_f, ↓i_some, ↓bL_gI hL, ↓bL_inv hL, ↓bL_g6 hL, ↓bL_g7 hL, ↓bL_g8 hL, ↓bL_g9 hL, ↓bL_g10 hL, ↓bL_g11 hL, ↓bL_g12 hL, ↓bL_g13 hL, ↓bL_g14 hL, ↓bL_g15 hL, ↓bL_g16 hL, ↓bL_g17 hL, ↓bL_ld1 hL, ↓bL_ld2 hL, ↓bL_ld3 hL, ↓bL_ld4 hL, ↓bL_ld5 hL, ↓bL_ld6 hL, ↓bL_ld7 hL, ↓bL_ld8 hL, ↓bL_ld9 hL, ↓bL_ld10 hL, ↓bL_ld11 hL, ↓bL_ld12 hL, ↓bL_st1 hL, ↓bL_st2 hL, ↓bL_st3 hL, ↓bL_st4 hL, ↓bL_st5 hL, ↓bL_st6 hL, ↓bL_st7 hL, ↓bL_st8 hL, ↓bL_st9 hL, ↓bL_st10 hL, ↓bL_st11 hL, ↓bL_st12 hL, Int.toNat_natCast, ↓bl_gI hT, h5, od, td]
        refine hnx e _ _ (by omega) ⟨b + 1, rfl, ?_, by omega⟩
        show _ = (sm _ b + ifo (ld J a) q b ((d + ld J a 12 b) / 2), ld J a 3 q + (sm _ b + ifo (ld J a) q b (ld J a 12 b)), _)
        rw [ifo_f o, ifo_f o, Int.add_zero, Int.add_zero]
        rfl
    · have o : ¬ own (ld J a) q b := fun z => c1 z.1
      simp (disch := omega) only [↓i_lt_t, ↓i_lt_f, ↓i_eq_t, ↓i_eq_f, ↓i_bi_t, ↓i_bi_f, ↓i_some, ↓bL_gI hL, ↓bL_inv hL, ↓bL_g6 hL, ↓bL_g7 hL, ↓bL_g8 hL, ↓bL_g9 hL, ↓bL_g10 hL, ↓bL_g11 hL, ↓bL_g12 hL, ↓bL_g13 hL, ↓bL_g14 hL, ↓bL_g15 hL, ↓bL_g16 hL, ↓bL_g17 hL, ↓bL_ld1 hL, ↓bL_ld2 hL, ↓bL_ld3 hL, ↓bL_ld4 hL, ↓bL_ld5 hL, ↓bL_ld6 hL, ↓bL_ld7 hL, ↓bL_ld8 hL, ↓bL_ld9 hL, ↓bL_ld10 hL, ↓bL_ld11 hL, ↓bL_ld12 hL, ↓bL_st1 hL, ↓bL_st2 hL, ↓bL_st3 hL, ↓bL_st4 hL, ↓bL_st5 hL, ↓bL_st6 hL, ↓bL_st7 hL, ↓bL_st8 hL, ↓bL_st9 hL, ↓bL_st10 hL, ↓bL_st11 hL, ↓bL_st12 hL, Int.toNat_natCast, ↓bl_gI hT, h5]
      refine hnx e _ _ (by omega) ⟨b + 1, rfl, ?_, by omega⟩
      show _ = (sm _ b + ifo (ld J a) q b ((d + ld J a 12 b) / 2), ld J a 3 q + (sm _ b + ifo (ld J a) q b (ld J a 12 b)), _)
      rw [ifo_f o, ifo_f o, Int.add_zero, Int.add_zero]
      rfl
theorem pullMatters_eq (hT : isLo μ t) (hL : isL μ a) (hk : okL (ld J a)) {q r : Nat} (hq : (q : Int) < ld J a 0 0) (h5 : J t 5 = (q : Int)) (hr : (r : Int) < ld J a 0 1) : mX2_pullMatters n t a (r : Int) (wi μ J) = some (1 - bi (dbL (ld J a) r (bi (ld J a 10 (2 * r) = (q : Int))) (1 - bi (ld J a 10 (2 * r) = (q : Int))) = dbL (ld J a) r 0 0), wi μ J) := by
  have hz := hk.1
  have g1 := hk.2.2.2 (2 * r) (by omega)
  have g7 := hk.2.2.1 r hr
  have d0 := db_range hk hr 0 0
  have fin : ∀ X Y : Int, (X = 0 ∨ X = 1) → (Y = 0 ∨ Y = 1) → ((inv (wi μ J) 2 a (mX1_depthBehind n a (r : Int) X Y (wi μ J))).bind fun p33 => (inv p33.2 2 a (mX1_depthBehind n a (r : Int) 0 0 p33.2)).bind fun p40 => if eq32 p33.1 p40.1 then retZ 0 p40.2 else retZ 1 p40.2) = some (1 - bi (dbL (ld J a) r X Y = dbL (ld J a) r 0 0), wi μ J) := by
    intro X Y hX hY
    have d1 := db_range hk hr X Y
    rw [bL_inv hL, depthBehind_w hL hk hr hX hY]
    dsimp only
    rw [bL_inv hL, depthBehind_w hL hk hr (Or.inl rfl) (Or.inl rfl)]
    dsimp only
    by_cases c : dbL (ld J a) r X Y = dbL (ld J a) r 0 0
    · rw [i_eq_t c, bi_t c, retZ_0]; rfl
    · rw [i_eq_f (by omega), bi_f c, retZ_1]; rfl
  unfold mX2_pullMatters
  by_cases c : ld J a 10 (2 * r) = (q : Int)
  · have f := fin 1 0 (Or.inr rfl) (Or.inl rfl)
    rw [bi_t c]
    rw [bL_g15 hL, bL_ld10 hL (by omega) (by omega), tn2, bl_gI hT, h5]
    simp only [jn]
    rw [i_eq_t c, i_eq_f (by decide)]
    exact f
  · have f := fin 0 1 (Or.inl rfl) (Or.inr rfl)
    rw [bi_f c]
    rw [bL_g15 hL, bL_ld10 hL (by omega) (by omega), tn2, bl_gI hT, h5]
    simp only [jn]
    rw [i_eq_f (by omega), if_pos trivial]
    exact f
end LO
