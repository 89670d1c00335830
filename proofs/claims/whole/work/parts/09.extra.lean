/-! copies, grids, texts -/
/-- a new grid: the outer row, then the inner ones -/
def nwM (μ : Mem) (n k : Int) : Option (Nat × Mem) := if n = 7 ∧ k = 7 then some (mN μ + 1, (up1 (fun a => if mN μ + 1 < a ∧ a ≤ mN μ + 8 then (20, 7) else mS μ a) (mN μ + 1) (26, 7), (fun a => if mN μ + 1 ≤ a ∧ a ≤ mN μ + 8 then (fun _ => 0) else mI μ a), (fun a => if a = mN μ + 1 then (fun j => if j < 7 then mN μ + 2 + j else 0) else if mN μ + 1 < a ∧ a ≤ mN μ + 8 then (fun _ => 0) else mA μ a), mN μ + 8, mW μ + 56)) else none
def sLen (μ : Mem) (a : Nat) : Option Int := if 40 ≤ (mS μ a).1 ∧ (mS μ a).1 < 51 then some ((kL.getD ((mS μ a).1 - 40) 0 : Nat) : Int) else none
def sAt (μ : Mem) (a : Nat) (i : Int) : Option Int := if 40 ≤ (mS μ a).1 ∧ (mS μ a).1 < 51 ∧ 0 ≤ i ∧ i < ((kL.getD ((mS μ a).1 - 40) 0 : Nat) : Int) then some (((kB.getD ((mS μ a).1 - 40) []).getD i.toNat 0).toInt) else none
def mMax (x y : Int) : Int := if lt32 x y then y else x
def mMin (x y : Int) : Int := if lt32 y x then y else x
def mAbs (x : Int) : Int := if le32 0 x then x else 0 - x
section SX
variable {ρ : Type} {X : Ctx} {Γ : Gm} {cc : ByteArray} {ym : MethodName} {nL fr lo N0 W0 pc : Nat} {ret : Option FieldType} {Q : ρ → Mem → State → Prop} {L : List (Option AV)} {S : List AV} {μ : Mem} {f f1 f2 : Option (ρ × Mem)}
theorem sn_copy {t idx a b : Nat} {i j n : Int} {g : Mem → Option (ρ × Mem)} (hd : decode cc pc = .ok (.invokestatic idx, 3)) (hw : Cond.methodLink ym.cls idx arraycopyName ∈ gw) (ht : t = 0 ∨ t = 2) (hfr : 1 ≤ fr) (hlo : 80 ≤ lo) (hS : (S.map ct).sum ≤ 8) (hk : ∀ μ1, Sn X Γ cc ym nL ret fr lo N0 W0 Q (pc + 3) L S μ1 (g μ1)) : Sn X Γ cc ym nL ret fr lo N0 W0 Q pc L (aI n :: aI j :: aA b :: aI i :: aA a :: S) μ ((cpI μ t a i b j n).bind g) := by
  sorry
theorem sn_multi {idx : Nat} {n k : Int} {g : Nat × Mem → Option (ρ × Mem)} (hd : decode cc pc = .ok (.multianewarray idx 2, 4)) (hk : ∀ p, Sn X Γ cc ym nL ret fr lo N0 W0 Q (pc + 4) L (aA p.1 :: S) p.2 (g p)) : Sn X Γ cc ym nL ret fr lo N0 W0 Q pc L (aI k :: aI n :: S) μ ((nwM μ n k).bind g) := by
  sorry
theorem sn_sLen {idx a : Nat} {g : Int → Option (ρ × Mem)} (hd : decode cc pc = .ok (.invokevirtual idx, 3)) (hw : Cond.methodLink ym.cls idx ⟨"java/lang/String", "length", "()I"⟩ ∈ gw) (hfr : 6 ≤ fr) (hlo : 200 ≤ lo) (hS : (S.map ct).sum ≤ 8) (hk : ∀ x, Sn X Γ cc ym nL ret fr lo N0 W0 Q (pc + 3) L (aI x :: S) μ (g x)) : Sn X Γ cc ym nL ret fr lo N0 W0 Q pc L (aA a :: S) μ ((sLen μ a).bind g) := by
  sorry
theorem sn_sAt {idx a : Nat} {i : Int} {g : Int → Option (ρ × Mem)} (hd : decode cc pc = .ok (.invokevirtual idx, 3)) (hw : Cond.methodLink ym.cls idx ⟨"java/lang/String", "charAt", "(I)C"⟩ ∈ gw) (hfr : 6 ≤ fr) (hlo : 200 ≤ lo) (hS : (S.map ct).sum ≤ 8) (hk : ∀ x, Sn X Γ cc ym nL ret fr lo N0 W0 Q (pc + 3) L (aI x :: S) μ (g x)) : Sn X Γ cc ym nL ret fr lo N0 W0 Q pc L (aI i :: aA a :: S) μ ((sAt μ a i).bind g) := by
  sorry
theorem sn_mMax {idx : Nat} {x y : Int} (hd : decode cc pc = .ok (.invokestatic idx, 3)) (hw : Cond.methodLink ym.cls idx Lib.Math.max.name ∈ gw) (hfr : 1 ≤ fr) (hlo : 40 ≤ lo) (hS : (S.map ct).sum ≤ 8) (hk : Sn X Γ cc ym nL ret fr lo N0 W0 Q (pc + 3) L (aI (mMax x y) :: S) μ f) : Sn X Γ cc ym nL ret fr lo N0 W0 Q pc L (aI y :: aI x :: S) μ f := fun r μ' hf => ⟨(hk r μ' hf).1, fun hC hb H locs ls hH hl hv => by
  have hts := hC.2.2.2.2.1
  have hfr' := hC.2.2.2.2.2.2.2.2.1
  have hlo' := hC.2.2.2.2.2.2.2.2.2.1
  have hm := (hk r μ' hf).1
  have hg := (hk r μ' hf).2 hC hb H locs ls hH hl hv
  refine va_mmax hC.1 hC.2.1 (by rw [hC.2.2.1]; exact hv.1.symm) hC.2.2.2.1 (hts _ hw) (hts _ st_mmax) (hts _ in_J9) (hts _ co_mmax) (show 1 ≤ (xR X).frames by omega) (show _ ≤ (xR X).locals by rw [ct_sum]; omega) (show _ ≤ (xR X).cells by omega) (show _ ≤ (xR X).slots by omega) hd (wx_top ?_ hg)
  show Value.int (Int32.ofInt (if lt32 x y then y else x)) = _
  by_cases h : lt32 x y
  · rw [if_pos h, if_pos h]
  · rw [if_neg h, if_neg h]⟩
theorem sn_mMin {idx : Nat} {x y : Int} (hd : decode cc pc = .ok (.invokestatic idx, 3)) (hw : Cond.methodLink ym.cls idx Lib.Math.min.name ∈ gw) (hfr : 1 ≤ fr) (hlo : 40 ≤ lo) (hS : (S.map ct).sum ≤ 8) (hk : Sn X Γ cc ym nL ret fr lo N0 W0 Q (pc + 3) L (aI (mMin x y) :: S) μ f) : Sn X Γ cc ym nL ret fr lo N0 W0 Q pc L (aI y :: aI x :: S) μ f := fun r μ' hf => ⟨(hk r μ' hf).1, fun hC hb H locs ls hH hl hv => by
  have hts := hC.2.2.2.2.1
  have hfr' := hC.2.2.2.2.2.2.2.2.1
  have hlo' := hC.2.2.2.2.2.2.2.2.2.1
  have hm := (hk r μ' hf).1
  have hg := (hk r μ' hf).2 hC hb H locs ls hH hl hv
  refine va_mmin hC.1 hC.2.1 (by rw [hC.2.2.1]; exact hv.1.symm) hC.2.2.2.1 (hts _ hw) (hts _ st_mmin) (hts _ in_J9) (hts _ co_mmin) (show 1 ≤ (xR X).frames by omega) (show _ ≤ (xR X).locals by rw [ct_sum]; omega) (show _ ≤ (xR X).cells by omega) (show _ ≤ (xR X).slots by omega) hd (wx_top ?_ hg)
  show Value.int (Int32.ofInt (if lt32 y x then y else x)) = _
  by_cases h : lt32 y x
  · rw [if_pos h, if_pos h]
  · rw [if_neg h, if_neg h]⟩
theorem sn_mAbs {idx : Nat} {x : Int} (hd : decode cc pc = .ok (.invokestatic idx, 3)) (hw : Cond.methodLink ym.cls idx Lib.Math.abs.name ∈ gw) (hfr : 1 ≤ fr) (hlo : 40 ≤ lo) (hS : (S.map ct).sum ≤ 8) (hk : Sn X Γ cc ym nL ret fr lo N0 W0 Q (pc + 3) L (aI (mAbs x) :: S) μ f) : Sn X Γ cc ym nL ret fr lo N0 W0 Q pc L (aI x :: S) μ f := fun r μ' hf => ⟨(hk r μ' hf).1, fun hC hb H locs ls hH hl hv => by
  have hts := hC.2.2.2.2.1
  have hfr' := hC.2.2.2.2.2.2.2.2.1
  have hlo' := hC.2.2.2.2.2.2.2.2.2.1
  have hm := (hk r μ' hf).1
  have hg := (hk r μ' hf).2 hC hb H locs ls hH hl hv
  refine va_mabs hC.1 hC.2.1 (by rw [hC.2.2.1]; exact hv.1.symm) hC.2.2.2.1 (hts _ hw) (hts _ st_mabs) (hts _ in_J9) (hts _ co_mabs) (show 1 ≤ (xR X).frames by omega) (show _ ≤ (xR X).locals by rw [ct_sum]; omega) (show _ ≤ (xR X).cells by omega) (show _ ≤ (xR X).slots by omega) hd (wx_top ?_ hg)
  show Value.int (Int32.ofInt (if le32 0 x then x else 0 - x)) = _
  by_cases h : le32 0 x
  · rw [if_pos h, if_pos (show (0 : Int32) ≤ Int32.ofInt x from h)]
  · rw [if_neg h, if_neg (show ¬ (0 : Int32) ≤ Int32.ofInt x from h), Int32.ofInt_sub]
    rfl⟩
end SX
