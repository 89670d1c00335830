/-! copies, grids, texts -/
/-- a new grid: the outer row, then the inner ones -/
def nwM (μ : Mem) (n k : Int) : Option (Nat × Mem) := if n = 7 ∧ k = 7 then some (mN μ + 1, (up1 (fun a => if mN μ + 1 < a ∧ a ≤ mN μ + 8 then (20, 7) else mS μ a) (mN μ + 1) (26, 7), (fun a => if mN μ + 1 ≤ a ∧ a ≤ mN μ + 8 then (fun _ => 0) else mI μ a), (fun a => if a = mN μ + 1 then (fun j => if j < 7 then mN μ + 2 + j else 0) else if mN μ + 1 < a ∧ a ≤ mN μ + 8 then (fun _ => 0) else mA μ a), mN μ + 8, mW μ + 56)) else none
def sLen (μ : Mem) (a : Nat) : Option Int := if 40 ≤ (mS μ a).1 ∧ (mS μ a).1 < 51 then some ((kL.getD ((mS μ a).1 - 40) 0 : Nat) : Int) else none
def sAt (μ : Mem) (a : Nat) (i : Int) : Option Int := if 40 ≤ (mS μ a).1 ∧ (mS μ a).1 < 51 ∧ 0 ≤ i ∧ i < ((kL.getD ((mS μ a).1 - 40) 0 : Nat) : Int) then some (((kB.getD ((mS μ a).1 - 40) []).getD i.toNat 0).toInt) else none
def mMax (x y : Int) : Int := if lt32 x y then y else x
def mMin (x y : Int) : Int := if lt32 y x then y else x
def mAbs (x : Int) : Int := if le32 0 x then x else 0 - x
section SX
variable {ρ : Type} {X : Ctx} {Γ : Gm} {cc : ByteArray} {ym : MethodName} {nL fr lo N0 W0 pc : Nat} {ret : Option FieldType} {Q : ρ → Mem → State → Prop} {L : List (Option AV)} {S : List AV} {μ : Mem} {f f1 f2 : Option (ρ × Mem)}
theorem sn_copy {t idx a b : Nat} {i j n : Int} {g : Mem → Option (ρ × Mem)} (hd : decode cc pc = .ok (.invokestatic idx, 3)) (hw : Cond.methodLink ym.cls idx arraycopyName ∈ gw) (ht : t = 0 ∨ t = 2) (hfr : 1 ≤ fr) (hlo : 80 ≤ lo) (hS : (S.map ct).sum ≤ 8) (hk : ∀ μ1, Sn X Γ cc ym nL ret fr lo N0 W0 Q (pc + 3) L S μ1 (g μ1)) : Sn X Γ cc ym nL ret fr lo N0 W0 Q pc L (aI n :: aI j :: aA b :: aI i :: aA a :: S) μ ((cpI μ t a i b j n).bind g) := by
  intro r μ' hf
  unfold cpI at hf
  by_cases h : (mS μ a).1 = 20 + t ∧ (mS μ b).1 = 20 + t ∧ 0 ≤ i ∧ 0 ≤ j ∧ 0 ≤ n ∧ i + n ≤ ((mS μ a).2 : Int) ∧ j + n ≤ ((mS μ b).2 : Int) ∧ i + n < 2147483648 ∧ j + n < 2147483648
  · rw [if_pos h] at hf
    have hf : g (mS μ, up1 (mI μ) b (va_cpy (mI μ a) (mI μ b) i.toNat j.toNat n.toNat), mA μ, mN μ, mW μ) = some (r, μ') := hf
    refine ⟨(hk _ r μ' hf).1, fun hC hb H locs ls hH hl hv => ?_⟩
    have hts := hC.2.2.2.2.1
    have hfr' := hC.2.2.2.2.2.2.2.2.1
    have hlo' := hC.2.2.2.2.2.2.2.2.2.1
    obtain ⟨h1, h2, hi, hj, hn, hia, hjb, hr1, hr2⟩ := h
    obtain ⟨qa, rfl, hBa, ca, ba⟩ := hh_arr (t := t) hH (by omega) h1
    obtain ⟨qb, rfl, hBb, cb, bb⟩ := hh_arr (t := t) hH (by omega) h2
    have hK := hC.2.2.2.2.2.1.1.2 t _ (tyA_at Γ (by omega))
    have eav : ∀ (ν : Mem) (z : Nat), av ν t z = fun k => .int (Int32.ofInt (mI ν z k)) := fun ν z => funext fun k => if_pos (by omega)
    rw [eav] at ca cb
    have ci : (Int32.ofInt i).toNatClampNeg = i.toNat := Int32.toNatClampNeg_ofInt_of_le (by omega) (by omega)
    have cj : (Int32.ofInt j).toNatClampNeg = j.toNat := Int32.toNatClampNeg_ofInt_of_le (by omega) (by omega)
    have cn : (Int32.ofInt n).toNatClampNeg = n.toNat := Int32.toNatClampNeg_ofInt_of_le (by omega) (by omega)
    have ti : (Int32.ofInt i).toInt = i := Int32.toInt_ofInt_of_le (by omega) (by omega)
    have tj : (Int32.ofInt j).toInt = j := Int32.toInt_ofInt_of_le (by omega) (by omega)
    have tn : (Int32.ofInt n).toInt = n := Int32.toInt_ofInt_of_le (by omega) (by omega)
    have ng : ∀ z : Int32, 0 ≤ z.toInt → ¬ z < 0 := fun z hz hlt => by
      rw [Int32.lt_iff_toInt_lt] at hlt
      have : (0 : Int32).toInt = 0 := rfl
      omega
    have hprim : refKind (elT t) = false := by rcases ht with rfl | rfl <;> rfl
    have hfit : ∀ k : Nat, fits (elT t) (.int (Int32.ofInt (mI μ (qa + 1) k))) = true := fun k => by
      rcases ht with rfl | rfl
      · rfl
      · rcases ba rfl k with e | e <;> rw [e] <;> rfl
    intro T hT X1
    obtain ⟨-, k0, hk0, cm0, hkk0⟩ := hK.1 (mS μ (qa + 1)).2 (fun k => .int (Int32.ofInt (mI μ (qa + 1) k)))
    obtain ⟨-, k1, hk1, cm1, hkk1⟩ := hK.1 (mS μ (qb + 1)).2 (fun k => .int (Int32.ofInt (mI μ (qb + 1) k)))
    obtain ⟨vm', X', step⟩ := X1.arraycopy hC.1 hC.2.2.2.1 (hts _ hw) (hts _ nt_cp) (hts _ st_cp) (hts _ in_Sys) (src := qa) (dst := qb) (cs := arrV (gR Γ t) (mS μ (qa + 1)).2 (fun k => .int (Int32.ofInt (mI μ (qa + 1) k)))) (cd := arrV (gR Γ t) (mS μ (qb + 1)).2 (fun k => .int (Int32.ofInt (mI μ (qb + 1) k)))) (srcPos := Int32.ofInt i) (destPos := Int32.ofInt j) (n := Int32.ofInt n) (by rw [hT]; exact ca) (by rw [hT]; exact cb)
      (fun _ h => by cases h) (fun _ h => by cases h) (fun h => by cases h) (fun h => by cases h) hk0 hk1 hkk0 hkk1 (by simp [hprim]) (ng _ (by omega)) (ng _ (by omega)) (ng _ (by omega))
      (by rw [ti, tn, arrV_size]; omega)
      (by rw [tj, tn, arrV_size]; omega)
      (fun vm₁ _ k hk => by
        rw [cn] at hk
        have e : (arrV (gR Γ t) (mS μ (qa + 1)).2 (fun k => .int (Int32.ofInt (mI μ (qa + 1) k)))).slots.getD ((Int32.ofInt i).toNatClampNeg + k) .null = .int (Int32.ofInt (mI μ (qa + 1) (i.toNat + k))) := by
          rw [ci, Array.getD_eq_getD_getElem?, arrV_read _ _ (by omega)]
          rfl
        refine ⟨?_, ?_⟩
        · rw [e]
          exact hfit _
        · rw [e]
          exact trivial)
      (g := F0 (xM X) pc ls ((aI n :: aI j :: aA (qb + 1) :: aI i :: aA (qa + 1) :: S).map vl)) rfl (by rw [hC.2.2.1]; exact hv.1) (rest := S.map vl) rfl (by rw [hC.2.1]; exact hd) (show 1 ≤ (xR X).frames by omega) (show 2 * 0 + _ + _ ≤ (xR X).locals by
        rw [ct_sum]
        have : nativeFrameWords "java/lang/System" "arraycopy" 5 + 11 ≤ 72 := by decide
        omega)
    have e1 : copied (arrV (gR Γ t) (mS μ (qa + 1)).2 (fun k => .int (Int32.ofInt (mI μ (qa + 1) k)))) (arrV (gR Γ t) (mS μ (qb + 1)).2 (fun k => .int (Int32.ofInt (mI μ (qb + 1) k)))) (Int32.ofInt i) (Int32.ofInt j) (Int32.ofInt n) = arrV (gR Γ t) (mS μ (qb + 1)).2 (fun k => .int (Int32.ofInt (va_cpy (mI μ (qa + 1)) (mI μ (qb + 1)) (Int32.ofInt i).toNatClampNeg (Int32.ofInt j).toNatClampNeg (Int32.ofInt n).toNatClampNeg k))) := va_copied (fun z => .int (Int32.ofInt z)) (gR Γ t) (gR Γ t) (mI μ (qa + 1)) (mI μ (qb + 1)) (by rw [ci, cn]; omega)
    rw [ci, cj, cn] at e1
    rw [e1] at X' step
    have hlt : qb < H.size := (Array.getElem?_eq_some_iff.mp cb).1
    generalize hNew : arrV (gR Γ t) (mS μ (qb + 1)).2 (fun k => .int (Int32.ofInt (va_cpy (mI μ (qa + 1)) (mI μ (qb + 1)) i.toNat j.toNat n.toNat k))) = cN at X' step
    have hheap : ((T.setVm vm').setCell qb cN).heap = H.setIfInBounds qb cN := by rw [← hT]; rfl
    have hS1 : ∀ q : Nat, q ≠ qb → (H.setIfInBounds qb cN)[q]? = H[q]? := fun q hq => by simp [Array.getElem?_setIfInBounds, Ne.symm hq]
    have hS2 : (H.setIfInBounds qb cN)[qb]? = some cN := by simp [Array.getElem?_setIfInBounds, hlt]
    refine Exists.elim ((hk _ r μ' hf).2 hC hb (H.setIfInBounds qb cN) _ ls ?_ (fun q hq => ?_) hv _ hheap X') fun t2 h2 => ⟨t2, step t2 h2.1, h2.2⟩
    · refine hH.put hBb rfl rfl (fun q hq => up1_ne _ _ _ (by omega)) (fun _ _ => rfl) (by simp) hS1 (fun ci' hc' hs' => by omega) (fun t' ht' hs' => ?_)
      obtain rfl : t = t' := by omega
      have eI : mI (mS μ, up1 (mI μ) (qb + 1) (va_cpy (mI μ (qa + 1)) (mI μ (qb + 1)) i.toNat j.toNat n.toNat), mA μ, mN μ, mW μ) (qb + 1) = va_cpy (mI μ (qa + 1)) (mI μ (qb + 1)) i.toNat j.toNat n.toNat := if_pos rfl
      refine ⟨by rw [hS2, ← hNew, eav, eI], fun e k => ?_⟩
      rw [eI]
      unfold va_cpy
      split
      · exact ba e _
      · exact bb e _
    · rcases List.mem_append.mp hq with h | h
      · exact hl q h
      · obtain ⟨z, -, hz⟩ := List.mem_map.mp h
        rw [← hz]
        exact hBb
  · rw [if_neg h] at hf
    cases hf
theorem sn_multi {idx : Nat} {n k : Int} {g : Nat × Mem → Option (ρ × Mem)} (hd : decode cc pc = .ok (.multianewarray idx 2, 4)) (hk : ∀ p, Sn X Γ cc ym nL ret fr lo N0 W0 Q (pc + 4) L (aA p.1 :: S) p.2 (g p)) : Sn X Γ cc ym nL ret fr lo N0 W0 Q pc L (aI k :: aI n :: S) μ ((nwM μ n k).bind g) := by
  sorry
theorem sn_sLen {idx a : Nat} {g : Int → Option (ρ × Mem)} (hd : decode cc pc = .ok (.invokevirtual idx, 3)) (hw : Cond.methodLink ym.cls idx ⟨"java/lang/String", "length", "()I"⟩ ∈ gw) (hfr : 6 ≤ fr) (hlo : 200 ≤ lo) (hS : (S.map ct).sum ≤ 8) (hk : ∀ x, Sn X Γ cc ym nL ret fr lo N0 W0 Q (pc + 3) L (aI x :: S) μ (g x)) : Sn X Γ cc ym nL ret fr lo N0 W0 Q pc L (aA a :: S) μ ((sLen μ a).bind g) := by
  sorry
theorem sn_sAt {idx a : Nat} {i : Int} {g : Int → Option (ρ × Mem)} (hd : decode cc pc = .ok (.invokevirtual idx, 3)) (hw : Cond.methodLink ym.cls idx ⟨"java/lang/String", "charAt", "(I)C"⟩ ∈ gw) (hfr : 6 ≤ fr) (hlo : 200 ≤ lo) (hS : (S.map ct).sum ≤ 8) (hk : ∀ x, Sn X Γ cc ym nL ret fr lo N0 W0 Q (pc + 3) L (aI x :: S) μ (g x)) : Sn X Γ cc ym nL ret fr lo N0 W0 Q pc L (aI i :: aA a :: S) μ ((sAt μ a i).bind g) := by
  sorry
theorem sn_mMax {idx : Nat} {x y : Int} (hd : decode cc pc = .ok (.invokestatic idx, 3)) (hw : Cond.methodLink ym.cls idx Lib.Math.max.name ∈ gw) (hfr : 1 ≤ fr) (hlo : 40 ≤ lo) (hS : (S.map ct).sum ≤ 8) (hk : Sn X Γ cc ym nL ret fr lo N0 W0 Q (pc + 3) L (aI (mMax x y) :: S) μ f) : Sn X Γ cc ym nL ret fr lo N0 W0 Q pc L (aI y :: aI x :: S) μ f := fun r μ' hf => ⟨(hk r μ' hf).1, fun hC hb H locs ls hH hl hv => by
  have hts := hC.2.2.2.2.1
  have hfr' := hC.2.2.2.2.2.2.2.2.1
  have hlo' := hC.2.2.2.2.2.2.2.2.2.1
  have hm := (hk r μ' hf).1
  have hg := (hk r μ' hf).2 hC hb H locs ls hH hl hv
  refine va_mmax hC.1 hC.2.1 (by rw [hC.2.2.1]; exact hv.1.symm) hC.2.2.2.1 (hts _ hw) (hts _ st_mmax) (hts _ in_J9) (hts _ co_mmax) (show 1 ≤ (xR X).frames by omega) (show _ ≤ (xR X).locals by rw [ct_sum]; omega) (show _ ≤ (xR X).cells by omega) (show _ ≤ (xR X).slots by omega) hd (wx_top ?_ hg)
  show Value.int (Int32.ofInt (if lt32 x y then y else x)) = _
  by_cases h : lt32 x y
  · rw [if_pos h, if_pos h]
  · rw [if_neg h, if_neg h]⟩
theorem sn_mMin {idx : Nat} {x y : Int} (hd : decode cc pc = .ok (.invokestatic idx, 3)) (hw : Cond.methodLink ym.cls idx Lib.Math.min.name ∈ gw) (hfr : 1 ≤ fr) (hlo : 40 ≤ lo) (hS : (S.map ct).sum ≤ 8) (hk : Sn X Γ cc ym nL ret fr lo N0 W0 Q (pc + 3) L (aI (mMin x y) :: S) μ f) : Sn X Γ cc ym nL ret fr lo N0 W0 Q pc L (aI y :: aI x :: S) μ f := fun r μ' hf => ⟨(hk r μ' hf).1, fun hC hb H locs ls hH hl hv => by
  have hts := hC.2.2.2.2.1
  have hfr' := hC.2.2.2.2.2.2.2.2.1
  have hlo' := hC.2.2.2.2.2.2.2.2.2.1
  have hm := (hk r μ' hf).1
  have hg := (hk r μ' hf).2 hC hb H locs ls hH hl hv
  refine va_mmin hC.1 hC.2.1 (by rw [hC.2.2.1]; exact hv.1.symm) hC.2.2.2.1 (hts _ hw) (hts _ st_mmin) (hts _ in_J9) (hts _ co_mmin) (show 1 ≤ (xR X).frames by omega) (show _ ≤ (xR X).locals by rw [ct_sum]; omega) (show _ ≤ (xR X).cells by omega) (show _ ≤ (xR X).slots by omega) hd (wx_top ?_ hg)
  show Value.int (Int32.ofInt (if lt32 y x then y else x)) = _
  by_cases h : lt32 y x
  · rw [if_pos h, if_pos h]
  · rw [if_neg h, if_neg h]⟩
theorem sn_mAbs {idx : Nat} {x : Int} (hd : decode cc pc = .ok (.invokestatic idx, 3)) (hw : Cond.methodLink ym.cls idx Lib.Math.abs.name ∈ gw) (hfr : 1 ≤ fr) (hlo : 40 ≤ lo) (hS : (S.map ct).sum ≤ 8) (hk : Sn X Γ cc ym nL ret fr lo N0 W0 Q (pc + 3) L (aI (mAbs x) :: S) μ f) : Sn X Γ cc ym nL ret fr lo N0 W0 Q pc L (aI x :: S) μ f := fun r μ' hf => ⟨(hk r μ' hf).1, fun hC hb H locs ls hH hl hv => by
  have hts := hC.2.2.2.2.1
  have hfr' := hC.2.2.2.2.2.2.2.2.1
  have hlo' := hC.2.2.2.2.2.2.2.2.2.1
  have hm := (hk r μ' hf).1
  have hg := (hk r μ' hf).2 hC hb H locs ls hH hl hv
  refine va_mabs hC.1 hC.2.1 (by rw [hC.2.2.1]; exact hv.1.symm) hC.2.2.2.1 (hts _ hw) (hts _ st_mabs) (hts _ in_J9) (hts _ co_mabs) (show 1 ≤ (xR X).frames by omega) (show _ ≤ (xR X).locals by rw [ct_sum]; omega) (show _ ≤ (xR X).cells by omega) (show _ ≤ (xR X).slots by omega) hd (wx_top ?_ hg)
  show Value.int (Int32.ofInt (if le32 0 x then x else 0 - x)) = _
  by_cases h : le32 0 x
  · rw [if_pos h, if_pos (show (0 : Int32) ≤ Int32.ofInt x from h)]
  · rw [if_neg h, if_neg (show ¬ (0 : Int32) ≤ Int32.ofInt x from h), Int32.ofInt_sub]
    rfl⟩
end SX
