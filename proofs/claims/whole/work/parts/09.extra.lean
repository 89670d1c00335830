/-! copies, grids, texts -/
/-! texts: their bytes, their coder, a byte -/
def isT (k : Nat) : Prop := 40 ≤ k ∧ k < 51
def tVal (μ : Mem) (a : Nat) : Option Nat := if 40 ≤ (mS μ a).1 ∧ (mS μ a).1 < 51 then some (mA μ a 0) else none
def tCod (μ : Mem) (a : Nat) : Option Int := if 40 ≤ (mS μ a).1 ∧ (mS μ a).1 < 51 then some 0 else none
def tLen (μ : Mem) (b : Nat) : Option Int := if 60 ≤ (mS μ b).1 ∧ (mS μ b).1 < 71 then some ((mS μ b).2 : Int) else none
def tAt (μ : Mem) (b : Nat) (i : Int) : Option Int := if 60 ≤ (mS μ b).1 ∧ (mS μ b).1 < 71 ∧ ix i (mS μ b).2 then some (mI μ b i.toNat) else none
def tInv {ρ : Type} (μ : Mem) (a : Nat) (f : Option ρ) : Option ρ := if 40 ≤ (mS μ a).1 ∧ (mS μ a).1 < 51 then f else none
def oI2c (x : Int) : Int := ((Int32.ofInt x).toUInt32 % 65536).toInt32.toInt
def retC (x : Int) (μ : Mem) : Option (Int × Mem) := if 0 ≤ x ∧ x < 65536 then some (x, μ) else none
def retB (x : Int) (μ : Mem) : Option (Int × Mem) := if x = 0 then some (x, μ) else none
def mMax (x y : Int) : Int := if lt32 x y then y else x
def mMin (x y : Int) : Int := if lt32 y x then y else x
def mAbs (x : Int) : Int := if le32 0 x then x else 0 - x
section SX
variable {ρ : Type} {X : Ctx} {Γ : Gm} {cc : ByteArray} {ym : MethodName} {nL fr lo N0 W0 pc : Nat} {ret : Option FieldType} {Q : ρ → Mem → State → Prop} {L : List (Option AV)} {S : List AV} {μ : Mem} {f f1 f2 : Option (ρ × Mem)}
theorem sn_copy {t idx a b : Nat} {i j n : Int} {g : Mem → Option (ρ × Mem)} (hd : decode cc pc = .ok (.invokestatic idx, 3)) (hw : Cond.methodLink ym.cls idx arraycopyName ∈ gw) (ht : t = 0 ∨ t = 2) (hfr : 1 ≤ fr) (hlo : 80 ≤ lo) (hS : (S.map ct).sum ≤ 8) (hk : ∀ μ1, Sn X Γ cc ym nL ret fr lo N0 W0 Q (pc + 3) L S μ1 (g μ1)) : Sn X Γ cc ym nL ret fr lo N0 W0 Q pc L (aI n :: aI j :: aA b :: aI i :: aA a :: S) μ ((cpI μ t a i b j n).bind g) := by
  intro r μ' hf
  unfold cpI at hf
  by_cases h : (mS μ a).1 = 20 + t ∧ (mS μ b).1 = 20 + t ∧ 0 ≤ i ∧ 0 ≤ j ∧ 0 ≤ n ∧ i + n ≤ ((mS μ a).2 : Int) ∧ j + n ≤ ((mS μ b).2 : Int) ∧ i + n < 2147483648 ∧ j + n < 2147483648
  · rw [if_pos h] at hf
    have hf : g (mS μ, up1 (mI μ) b (va_cpy (mI μ a) (mI μ b) i.toNat j.toNat n.toNat), mA μ, mN μ, mW μ) = some (r, μ') := hf
    refine ⟨(hk _ r μ' hf).1, fun hC hb H locs ls hH hl hv => ?_⟩
    have hts := hC.2.2.2.2.1
    have hfr' := hC.2.2.2.2.2.2.2.2.1
    have hlo' := hC.2.2.2.2.2.2.2.2.2.1
    obtain ⟨h1, h2, hi, hj, hn, hia, hjb, hr1, hr2⟩ := h
    obtain ⟨qa, rfl, hBa, ca, ba⟩ := hh_arr (t := t) hH (by omega) h1
    obtain ⟨qb, rfl, hBb, cb, bb⟩ := hh_arr (t := t) hH (by omega) h2
    have hK := hC.2.2.2.2.2.1.1.2 t _ (tyA_at Γ (by omega))
    have eav : ∀ (ν : Mem) (z : Nat), av ν t z = fun k => .int (Int32.ofInt (mI ν z k)) := fun ν z => funext fun k => if_pos (by omega)
    rw [eav] at ca cb
    have ci : (Int32.ofInt i).toNatClampNeg = i.toNat := Int32.toNatClampNeg_ofInt_of_le (by omega) (by omega)
    have cj : (Int32.ofInt j).toNatClampNeg = j.toNat := Int32.toNatClampNeg_ofInt_of_le (by omega) (by omega)
    have cn : (Int32.ofInt n).toNatClampNeg = n.toNat := Int32.toNatClampNeg_ofInt_of_le (by omega) (by omega)
    have ti : (Int32.ofInt i).toInt = i := Int32.toInt_ofInt_of_le (by omega) (by omega)
    have tj : (Int32.ofInt j).toInt = j := Int32.toInt_ofInt_of_le (by omega) (by omega)
    have tn : (Int32.ofInt n).toInt = n := Int32.toInt_ofInt_of_le (by omega) (by omega)
    have ng : ∀ z : Int32, 0 ≤ z.toInt → ¬ z < 0 := fun z hz hlt => by
      rw [Int32.lt_iff_toInt_lt] at hlt
      have : (0 : Int32).toInt = 0 := rfl
      omega
    have hprim : refKind (elT t) = false := by rcases ht with rfl | rfl <;> rfl
    have hfit : ∀ k : Nat, fits (elT t) (.int (Int32.ofInt (mI μ (qa + 1) k))) = true := fun k => by
      rcases ht with rfl | rfl
      · rfl
      · rcases ba rfl k with e | e <;> rw [e] <;> rfl
    intro T hT X1
    obtain ⟨-, k0, hk0, cm0, hkk0⟩ := hK.1 (mS μ (qa + 1)).2 (fun k => .int (Int32.ofInt (mI μ (qa + 1) k)))
    obtain ⟨-, k1, hk1, cm1, hkk1⟩ := hK.1 (mS μ (qb + 1)).2 (fun k => .int (Int32.ofInt (mI μ (qb + 1) k)))
    obtain ⟨vm', X', step⟩ := X1.arraycopy hC.1 hC.2.2.2.1 (hts _ hw) (hts _ nt_cp) (hts _ st_cp) (hts _ in_Sys) (src := qa) (dst := qb) (cs := arrV (gR Γ t) (mS μ (qa + 1)).2 (fun k => .int (Int32.ofInt (mI μ (qa + 1) k)))) (cd := arrV (gR Γ t) (mS μ (qb + 1)).2 (fun k => .int (Int32.ofInt (mI μ (qb + 1) k)))) (srcPos := Int32.ofInt i) (destPos := Int32.ofInt j) (n := Int32.ofInt n) (by rw [hT]; exact ca) (by rw [hT]; exact cb)
      (fun _ h => by cases h) (fun _ h => by cases h) (fun h => by cases h) (fun h => by cases h) hk0 hk1 hkk0 hkk1 (by simp [hprim]) (ng _ (by omega)) (ng _ (by omega)) (ng _ (by omega))
      (by rw [ti, tn, arrV_size]; omega)
      (by rw [tj, tn, arrV_size]; omega)
      (fun vm₁ _ k hk => by
        rw [cn] at hk
        have e : (arrV (gR Γ t) (mS μ (qa + 1)).2 (fun k => .int (Int32.ofInt (mI μ (qa + 1) k)))).slots.getD ((Int32.ofInt i).toNatClampNeg + k) .null = .int (Int32.ofInt (mI μ (qa + 1) (i.toNat + k))) := by
          rw [ci, Array.getD_eq_getD_getElem?, arrV_read _ _ (by omega)]
          rfl
        refine ⟨?_, ?_⟩
        · rw [e]
          exact hfit _
        · rw [e]
          exact trivial)
      (g := F0 (xM X) pc ls ((aI n :: aI j :: aA (qb + 1) :: aI i :: aA (qa + 1) :: S).map vl)) rfl (by rw [hC.2.2.1]; exact hv.1) (rest := S.map vl) rfl (by rw [hC.2.1]; exact hd) (show 1 ≤ (xR X).frames by omega) (show 2 * 0 + _ + _ ≤ (xR X).locals by
        rw [ct_sum]
        have : nativeFrameWords "java/lang/System" "arraycopy" 5 + 11 ≤ 72 := by decide
        omega)
    have e1 : copied (arrV (gR Γ t) (mS μ (qa + 1)).2 (fun k => .int (Int32.ofInt (mI μ (qa + 1) k)))) (arrV (gR Γ t) (mS μ (qb + 1)).2 (fun k => .int (Int32.ofInt (mI μ (qb + 1) k)))) (Int32.ofInt i) (Int32.ofInt j) (Int32.ofInt n) = arrV (gR Γ t) (mS μ (qb + 1)).2 (fun k => .int (Int32.ofInt (va_cpy (mI μ (qa + 1)) (mI μ (qb + 1)) (Int32.ofInt i).toNatClampNeg (Int32.ofInt j).toNatClampNeg (Int32.ofInt n).toNatClampNeg k))) := va_copied (fun z => .int (Int32.ofInt z)) (gR Γ t) (gR Γ t) (mI μ (qa + 1)) (mI μ (qb + 1)) (by rw [ci, cn]; omega)
    rw [ci, cj, cn] at e1
    rw [e1] at X' step
    have hlt : qb < H.size := (Array.getElem?_eq_some_iff.mp cb).1
    generalize hNew : arrV (gR Γ t) (mS μ (qb + 1)).2 (fun k => .int (Int32.ofInt (va_cpy (mI μ (qa + 1)) (mI μ (qb + 1)) i.toNat j.toNat n.toNat k))) = cN at X' step
    have hheap : ((T.setVm vm').setCell qb cN).heap = H.setIfInBounds qb cN := by rw [← hT]; rfl
    have hS1 : ∀ q : Nat, q ≠ qb → (H.setIfInBounds qb cN)[q]? = H[q]? := fun q hq => by simp [Array.getElem?_setIfInBounds, Ne.symm hq]
    have hS2 : (H.setIfInBounds qb cN)[qb]? = some cN := by simp [Array.getElem?_setIfInBounds, hlt]
    refine Exists.elim ((hk _ r μ' hf).2 hC hb (H.setIfInBounds qb cN) _ ls ?_ (fun q hq => ?_) hv _ hheap X') fun t2 h2 => ⟨t2, step t2 h2.1, h2.2⟩
    · refine hH.put hBb rfl rfl (fun q hq => up1_ne _ _ _ (by omega)) (fun _ _ => rfl) rfl (by simp) hS1 (fun ci' hc' hs' => by omega) (fun t' ht' hs' => ?_)
      obtain rfl : t = t' := by omega
      have eI : mI (mS μ, up1 (mI μ) (qb + 1) (va_cpy (mI μ (qa + 1)) (mI μ (qb + 1)) i.toNat j.toNat n.toNat), mA μ, mN μ, mW μ) (qb + 1) = va_cpy (mI μ (qa + 1)) (mI μ (qb + 1)) i.toNat j.toNat n.toNat := if_pos rfl
      refine ⟨by rw [hS2, ← hNew, eav, eI], fun e k => ?_⟩
      rw [eI]
      unfold va_cpy
      split
      · exact ba e _
      · exact bb e _
    · rcases List.mem_append.mp hq with h | h
      · exact hl q h
      · obtain ⟨z, -, hz⟩ := List.mem_map.mp h
        rw [← hz]
        exact hBb
  · rw [if_neg h] at hf
    cases hf
theorem hh_txt {H : Heap} {a : Nat} (hH : HH Γ μ (xS X) H) (h : 40 ≤ (mS μ a).1 ∧ (mS μ a).1 < 51) : ∃ k q : Nat, k < 11 ∧ (mS μ a).1 = 40 + k ∧ a = q + 1 ∧ q = gK Γ k ∧ mA μ a 0 = gV Γ k + 1 := by
  cases a with
  | zero => have := hH.1.2.2; omega
  | succ q =>
    obtain ⟨g1, g2, g3⟩ := (hH.2.2.2.2.1 q ((mS μ (q + 1)).1 - 40) (by omega)).1 (by omega)
    exact ⟨(mS μ (q + 1)).1 - 40, q, by omega, by omega, rfl, g1, g3⟩
theorem hh_byt {H : Heap} {a : Nat} (hH : HH Γ μ (xS X) H) (h : 60 ≤ (mS μ a).1 ∧ (mS μ a).1 < 71) : ∃ k q : Nat, k < 11 ∧ a = q + 1 ∧ q = gV Γ k ∧ (mS μ a).2 = kL.getD k 0 ∧ ∀ j : Nat, Int32.ofInt (mI μ a j) = (kB.getD k []).getD j 0 := by
  cases a with
  | zero => have := hH.1.2.2; omega
  | succ q =>
    obtain ⟨g1, g2, g3⟩ := (hH.2.2.2.2.1 q ((mS μ (q + 1)).1 - 60) (by omega)).2 (by omega)
    exact ⟨(mS μ (q + 1)).1 - 60, q, by omega, rfl, g1, g3⟩
theorem sn_tval {idx a : Nat} {g : Nat → Option (ρ × Mem)} (hd : decode cc pc = .ok (.getfield idx, 3)) (hw : Cond.fieldLink ym.cls idx "java/lang/String" "value" "[B" ∈ gw) (hk : ∀ x, Sn X Γ cc ym nL ret fr lo N0 W0 Q (pc + 3) L (aA x :: S) μ (g x)) : Sn X Γ cc ym nL ret fr lo N0 W0 Q pc L (aA a :: S) μ ((tVal μ a).bind g) := by
  intro r μ' hf
  unfold tVal at hf
  by_cases h : 40 ≤ (mS μ a).1 ∧ (mS μ a).1 < 51
  · rw [if_pos h] at hf
    refine ⟨(hk _ r μ' hf).1, fun hC hb H locs ls hH hl hv => ?_⟩
    have hgo := (hk _ r μ' hf).2 hC hb H locs ls hH hl hv
    obtain ⟨k, q, hk11, -, rfl, rfl, e2⟩ := hh_txt hH h
    obtain ⟨-, -, ⟨cf, kk, i, fd, cell, f1, f2, f3, f4, f5, -⟩, -⟩ := hH.2.2.2.2.2.1.1 k hk11
    rw [e2] at hgo
    exact W.getf hC.1 hC.2.1 hC.2.2.2.1 (hC.2.2.2.2.1 _ hw) f1 f2 f3 f4 f5 rfl rfl hd hgo
  · rw [if_neg h] at hf
    cases hf
theorem sn_tcod {idx a : Nat} {g : Int → Option (ρ × Mem)} (hd : decode cc pc = .ok (.getfield idx, 3)) (hw : Cond.fieldLink ym.cls idx "java/lang/String" "coder" "B" ∈ gw) (hk : ∀ x, Sn X Γ cc ym nL ret fr lo N0 W0 Q (pc + 3) L (aI x :: S) μ (g x)) : Sn X Γ cc ym nL ret fr lo N0 W0 Q pc L (aA a :: S) μ ((tCod μ a).bind g) := by
  intro r μ' hf
  unfold tCod at hf
  by_cases h : 40 ≤ (mS μ a).1 ∧ (mS μ a).1 < 51
  · rw [if_pos h] at hf
    refine ⟨(hk _ r μ' hf).1, fun hC hb H locs ls hH hl hv => ?_⟩
    have hgo := (hk _ r μ' hf).2 hC hb H locs ls hH hl hv
    obtain ⟨k, q, hk11, -, rfl, rfl, e2⟩ := hh_txt hH h
    obtain ⟨-, ⟨cf, kk, i, fd, cell, f1, f2, f3, f4, f5, -⟩, -⟩ := hH.2.2.2.2.2.1.1 k hk11
    exact W.getf hC.1 hC.2.1 hC.2.2.2.1 (hC.2.2.2.2.1 _ hw) f1 f2 f3 f4 f5 rfl rfl hd hgo
  · rw [if_neg h] at hf
    cases hf
theorem sn_tlen {a : Nat} {g : Int → Option (ρ × Mem)} (hd : decode cc pc = .ok (.arraylength, 1)) (hk : ∀ x, Sn X Γ cc ym nL ret fr lo N0 W0 Q (pc + 1) L (aI x :: S) μ (g x)) : Sn X Γ cc ym nL ret fr lo N0 W0 Q pc L (aA a :: S) μ ((tLen μ a).bind g) := by
  intro r μ' hf
  unfold tLen at hf
  by_cases h : 60 ≤ (mS μ a).1 ∧ (mS μ a).1 < 71
  · rw [if_pos h] at hf
    refine ⟨(hk _ r μ' hf).1, fun hC hb H locs ls hH hl hv => ?_⟩
    obtain ⟨k, q, hk11, rfl, rfl, e2, e3⟩ := hh_byt hH h
    obtain ⟨-, -, -, cell, f1, f2, f3, f4, f5, f6, -⟩ := hH.2.2.2.2.2.1.1 k hk11
    exact W.alen (n := Int32.ofInt ((mS μ (gV Γ k + 1)).2 : Nat)) hC.1 hC.2.1 f1 f2 (by rw [f5, e2, Int32.ofInt_eq_ofNat]) rfl rfl hd ((hk _ r μ' hf).2 hC hb H locs ls hH hl hv)
  · rw [if_neg h] at hf
    cases hf
theorem sn_tald {a : Nat} {i : Int} {g : Int → Option (ρ × Mem)} (hd : decode cc pc = .ok (.baload, 1)) (hk : ∀ x, Sn X Γ cc ym nL ret fr lo N0 W0 Q (pc + 1) L (aI x :: S) μ (g x)) : Sn X Γ cc ym nL ret fr lo N0 W0 Q pc L (aI i :: aA a :: S) μ ((tAt μ a i).bind g) := by
  intro r μ' hf
  unfold tAt at hf
  by_cases h : 60 ≤ (mS μ a).1 ∧ (mS μ a).1 < 71 ∧ ix i (mS μ a).2
  · rw [if_pos h] at hf
    refine ⟨(hk _ r μ' hf).1, fun hC hb H locs ls hH hl hv => ?_⟩
    obtain ⟨k, q, hk11, rfl, rfl, e2, e3⟩ := hh_byt hH ⟨h.1, h.2.1⟩
    obtain ⟨-, -, -, cell, f1, f2, f3, f4, f5, f6, -⟩ := hH.2.2.2.2.2.1.1 k hk11
    obtain ⟨h1, h2, h3⟩ := ix_in h.2.2
    refine W.bald (v := .int (Int32.ofInt (mI μ (gV Γ k + 1) i.toNat))) hC.1 hC.2.1 f1 f2 f3 (fun z => ?_) (by rw [h2, e3]; exact f6 _ (by omega)) rfl rfl hd ((hk _ r μ' hf).2 hC hb H locs ls hH hl hv)
    rcases z with z | z
    · exact h1 (Or.inl z)
    · rw [h2] at z
      omega
  · rw [if_neg h] at hf
    cases hf
theorem sn_cs {idx : Nat} (hd : decode cc pc = .ok (.getstatic idx, 3)) (hw : Cond.fieldLink ym.cls idx "java/lang/String" "COMPACT_STRINGS" "Z" ∈ gw) (hk : Sn X Γ cc ym nL ret fr lo N0 W0 Q (pc + 3) L (aI 1 :: S) μ f) : Sn X Γ cc ym nL ret fr lo N0 W0 Q pc L S μ f := fun r μ' hf => ⟨(hk r μ' hf).1, fun hC hb H locs ls hH hl hv => by
  obtain ⟨cf, kf, fi, fd, a1, cell, f1, f2, f3, f4, f5, f6, f7, -⟩ := hH.2.2.2.2.2.2.1
  exact W.gets hC.1 hC.2.1 hC.2.2.2.1 (hC.2.2.2.2.1 _ hw) f1 f2 f3 f4 f5 (fun z => by rw [z] at f6; cases f6) f7 rfl hd ((hk r μ' hf).2 hC hb H locs ls hH hl hv)⟩
theorem sn_fmt {idx : Nat} (hd : decode cc pc = .ok (.getstatic idx, 3)) (hw : Cond.fieldLink ym.cls idx "jdk/internal/util/Preconditions" "SIOOBE_FORMATTER" "Ljava/util/function/BiFunction;" ∈ gw) (hk : Sn X Γ cc ym nL ret fr lo N0 W0 Q (pc + 3) L (aA (mA μ 0 20) :: S) μ f) : Sn X Γ cc ym nL ret fr lo N0 W0 Q pc L S μ f := fun r μ' hf => ⟨(hk r μ' hf).1, fun hC hb H locs ls hH hl hv => by
  obtain ⟨cf, kf, fi, fd, a1, cell, f1, f2, f3, f4, f5, f6, f7, -⟩ := hH.2.2.2.2.2.2.2
  exact W.gets hC.1 hC.2.1 hC.2.2.2.1 (hC.2.2.2.2.1 _ hw) f1 f2 f3 f4 f5 (fun z => by rw [z] at f6; cases f6) f7 rfl hd ((hk r μ' hf).2 hC hb H locs ls hH hl hv)⟩
theorem sn_i2c {x : Int} (hd : decode cc pc = .ok (.i2c, 1)) (hk : Sn X Γ cc ym nL ret fr lo N0 W0 Q (pc + 1) L (aI (oI2c x) :: S) μ f) : Sn X Γ cc ym nL ret fr lo N0 W0 Q pc L (aI x :: S) μ f := fun r μ' hf => ⟨(hk r μ' hf).1, fun hC hb H locs ls hH hl hv => lv_i2c hC.1 hC.2.1 hd rfl (wx_top (congrArg Value.int (Int32.ofInt_toInt _)) ((hk r μ' hf).2 hC hb H locs ls hH hl hv))⟩
theorem sn_cret {x : Int} (hd : decode cc pc = .ok (.ireturn, 1)) : Sn X Γ cc ym nL (some .char) fr lo N0 W0 (Zm X Γ N0 W0 eI) pc L [aI x] μ (retC x μ) := by
  intro r μ' hf
  unfold retC at hf
  by_cases h : 0 ≤ x ∧ x < 65536
  · rw [if_pos h] at hf
    cases hf
    refine ⟨⟨Nat.le_refl _, Nat.le_refl _⟩, fun hC hb H locs ls hH hl hv => W.zret hC.1 hC.2.1 hC.2.2.2.2.2.2.1 ?_ (fun t ht hW => ⟨rfl, hH.end ht hW⟩) hl hd hC.2.2.2.2.2.2.2.1⟩
    have e : Int32.ofInt x = nI x.toNat := by
      rw [show nI x.toNat = Int32.ofInt (x.toNat : Int) from Int32.ofInt_eq_ofNat.symm, Int.toNat_of_nonneg h.1]
    rw [e]
    exact (pk_charN (by omega)).1
  · rw [if_neg h] at hf
    cases hf
theorem sn_bret {x : Int} (hd : decode cc pc = .ok (.ireturn, 1)) : Sn X Γ cc ym nL (some .byte) fr lo N0 W0 (Zm X Γ N0 W0 eI) pc L [aI x] μ (retB x μ) := by
  intro r μ' hf
  unfold retB at hf
  by_cases h : x = 0
  · rw [if_pos h] at hf
    cases hf
    exact ⟨⟨Nat.le_refl _, Nat.le_refl _⟩, fun hC hb H locs ls hH hl hv => W.zret hC.1 hC.2.1 hC.2.2.2.2.2.2.1 (by rw [h]; rfl) (fun t ht hW => ⟨rfl, hH.end ht hW⟩) hl hd hC.2.2.2.2.2.2.2.1⟩
  · rw [if_neg h] at hf
    cases hf
/-- a call on a text -/
theorem sn_callT {y : MethodName} {cc' : ByteArray} {maxL fr' lo' idx n a : Nat} {ret' : Option FieldType} {vs : List AV} {fx : Option (Int × Mem)} {g : Int × Mem → Option (ρ × Mem)} (hM : Mc y cc' maxL ret' fr' lo' eI (aA a :: vs) μ fx) (hd : decode cc pc = .ok (.invokevirtual idx, 3)) (hw : CW ym.cls idx y cc' maxL ret' n ∧ Cond.instanceMethod y ∈ gw ∧ Cond.selects y.cls y y ∈ gw) (hy : y.cls = "java/lang/String") (hn : vs.length = n) (hfr : fr' + 1 ≤ fr) (hlo : 8 + (maxL + 11) + lo' ≤ lo) (hS : (S.map ct).sum ≤ 8)
    (hk : ∀ p : Int × Mem, Sn X Γ cc ym nL ret fr lo N0 W0 Q (pc + 3) L (aI p.1 :: S) p.2 (g p)) : Sn X Γ cc ym nL ret fr lo N0 W0 Q pc L (vs.reverse ++ aA a :: S) μ ((tInv μ a fx).bind g) := by
  intro r μ' hf
  unfold tInv at hf
  by_cases h : 40 ≤ (mS μ a).1 ∧ (mS μ a).1 < 51
  · rw [if_pos h] at hf
    cases hfx : fx with
    | none => rw [hfx] at hf; cases hf
    | some z =>
      obtain ⟨x, μ1⟩ := z
      rw [hfx] at hf
      have hf : g (x, μ1) = some (r, μ') := hf
      obtain ⟨hm1, hMet⟩ := hM x μ1 hfx X
      obtain ⟨hm2, hgo⟩ := hk (x, μ1) r μ' hf
      have hm2 : mN μ1 ≤ mN μ' ∧ mW μ1 ≤ mW μ' := hm2
      refine ⟨⟨by omega, by omega⟩, fun hC hb H locs ls hH hl hv => ?_⟩
      have hts := hC.2.2.2.2.1
      obtain ⟨hb1, hb2, hb3, hb4⟩ := hb
      obtain ⟨k, q, hk11, -, rfl, rfl, -⟩ := hh_txt hH h
      obtain ⟨⟨cell, f1, f2, f3, -⟩, -⟩ := hH.2.2.2.2.2.1.1 k hk11
      refine cx_after (em := eI) (va_runV (Ts := gw) (own := ym.cls) (C := y.cls) (As := vs.map vl) (rest := S.map vl) (b := gK Γ k) ⟨hC.1, hC.2.1, hC.2.2.1, hC.2.2.2.1, hts⟩ (hMet (xL X) Γ) ⟨cx_callB hC hw.1 hfr hlo, hts _ hw.2.1, hts _ hw.2.2⟩ ⟨Pm.blind _ _ _, ⟨cell, f1, f2, by rw [hy]; exact f3⟩, fun U hU hW => ⟨by simp [vl, rv], by rw [hU]; exact hH.moved hW.alike, hC.2.2.2.2.2.1.warm hW⟩⟩ rfl (by rw [List.length_map]; exact hn) hv.1 ?_ ?_ hd ⟨show _ ≤ (xR X).cells by omega, show _ ≤ (xR X).slots by omega⟩) hm1 ⟨hb1, hb2, hb3, hb4⟩ hl hv (hgo hC)
      · show (vs.reverse ++ aA (gK Γ k + 1) :: S).map vl = _
        rw [List.map_append, List.map_reverse]
        rfl
      · show 2 * 0 + _ ≤ 8
        rw [ct_sum]
        omega
  · rw [if_neg h] at hf
    cases hf
theorem sn_mMax {idx : Nat} {x y : Int} (hd : decode cc pc = .ok (.invokestatic idx, 3)) (hw : Cond.methodLink ym.cls idx Lib.Math.max.name ∈ gw) (hfr : 1 ≤ fr) (hlo : 40 ≤ lo) (hS : (S.map ct).sum ≤ 8) (hk : Sn X Γ cc ym nL ret fr lo N0 W0 Q (pc + 3) L (aI (mMax x y) :: S) μ f) : Sn X Γ cc ym nL ret fr lo N0 W0 Q pc L (aI y :: aI x :: S) μ f := fun r μ' hf => ⟨(hk r μ' hf).1, fun hC hb H locs ls hH hl hv => by
  have hts := hC.2.2.2.2.1
  have hfr' := hC.2.2.2.2.2.2.2.2.1
  have hlo' := hC.2.2.2.2.2.2.2.2.2.1
  have hm := (hk r μ' hf).1
  have hg := (hk r μ' hf).2 hC hb H locs ls hH hl hv
  refine va_mmax hC.1 hC.2.1 (by rw [hC.2.2.1]; exact hv.1.symm) hC.2.2.2.1 (hts _ hw) (hts _ st_mmax) (hts _ in_J9) (hts _ co_mmax) (show 1 ≤ (xR X).frames by omega) (show _ ≤ (xR X).locals by rw [ct_sum]; omega) (show _ ≤ (xR X).cells by omega) (show _ ≤ (xR X).slots by omega) hd (wx_top ?_ hg)
  show Value.int (Int32.ofInt (if lt32 x y then y else x)) = _
  by_cases h : lt32 x y
  · rw [if_pos h, if_pos h]
  · rw [if_neg h, if_neg h]⟩
theorem sn_mMin {idx : Nat} {x y : Int} (hd : decode cc pc = .ok (.invokestatic idx, 3)) (hw : Cond.methodLink ym.cls idx Lib.Math.min.name ∈ gw) (hfr : 1 ≤ fr) (hlo : 40 ≤ lo) (hS : (S.map ct).sum ≤ 8) (hk : Sn X Γ cc ym nL ret fr lo N0 W0 Q (pc + 3) L (aI (mMin x y) :: S) μ f) : Sn X Γ cc ym nL ret fr lo N0 W0 Q pc L (aI y :: aI x :: S) μ f := fun r μ' hf => ⟨(hk r μ' hf).1, fun hC hb H locs ls hH hl hv => by
  have hts := hC.2.2.2.2.1
  have hfr' := hC.2.2.2.2.2.2.2.2.1
  have hlo' := hC.2.2.2.2.2.2.2.2.2.1
  have hm := (hk r μ' hf).1
  have hg := (hk r μ' hf).2 hC hb H locs ls hH hl hv
  refine va_mmin hC.1 hC.2.1 (by rw [hC.2.2.1]; exact hv.1.symm) hC.2.2.2.1 (hts _ hw) (hts _ st_mmin) (hts _ in_J9) (hts _ co_mmin) (show 1 ≤ (xR X).frames by omega) (show _ ≤ (xR X).locals by rw [ct_sum]; omega) (show _ ≤ (xR X).cells by omega) (show _ ≤ (xR X).slots by omega) hd (wx_top ?_ hg)
  show Value.int (Int32.ofInt (if lt32 y x then y else x)) = _
  by_cases h : lt32 y x
  · rw [if_pos h, if_pos h]
  · rw [if_neg h, if_neg h]⟩
theorem sn_mAbs {idx : Nat} {x : Int} (hd : decode cc pc = .ok (.invokestatic idx, 3)) (hw : Cond.methodLink ym.cls idx Lib.Math.abs.name ∈ gw) (hfr : 1 ≤ fr) (hlo : 40 ≤ lo) (hS : (S.map ct).sum ≤ 8) (hk : Sn X Γ cc ym nL ret fr lo N0 W0 Q (pc + 3) L (aI (mAbs x) :: S) μ f) : Sn X Γ cc ym nL ret fr lo N0 W0 Q pc L (aI x :: S) μ f := fun r μ' hf => ⟨(hk r μ' hf).1, fun hC hb H locs ls hH hl hv => by
  have hts := hC.2.2.2.2.1
  have hfr' := hC.2.2.2.2.2.2.2.2.1
  have hlo' := hC.2.2.2.2.2.2.2.2.2.1
  have hm := (hk r μ' hf).1
  have hg := (hk r μ' hf).2 hC hb H locs ls hH hl hv
  refine va_mabs hC.1 hC.2.1 (by rw [hC.2.2.1]; exact hv.1.symm) hC.2.2.2.1 (hts _ hw) (hts _ st_mabs) (hts _ in_J9) (hts _ co_mabs) (show 1 ≤ (xR X).frames by omega) (show _ ≤ (xR X).locals by rw [ct_sum]; omega) (show _ ≤ (xR X).cells by omega) (show _ ≤ (xR X).slots by omega) hd (wx_top ?_ hg)
  show Value.int (Int32.ofInt (if le32 0 x then x else 0 - x)) = _
  by_cases h : le32 0 x
  · rw [if_pos h, if_pos (show (0 : Int32) ≤ Int32.ofInt x from h)]
  · rw [if_neg h, if_neg (show ¬ (0 : Int32) ≤ Int32.ofInt x from h), Int32.ofInt_sub]
    rfl⟩
end SX
