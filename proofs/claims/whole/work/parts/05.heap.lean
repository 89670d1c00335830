/-! fields and arrays -/
theorem fT_ok : ∀ (ci : Nat) (q : vw_C), vwCl[ci]? = some q → ∀ j, j < q.2.2 → fT ci j = .int ∨ (defaultValue (fT ci j) = .null ∧ fT ci j ≠ .int) := by
  intro ci q h
  match ci, h with
  | 0, h => cases h; decide +kernel
  | 1, h => cases h; decide +kernel
  | 2, h => cases h; decide +kernel
  | 3, h => cases h; decide +kernel
  | 4, h => cases h; decide +kernel
  | 5, h => cases h; decide +kernel
  | 6, h => cases h; decide +kernel
  | 7, h => cases h; decide +kernel
  | 8, h => cases h; decide +kernel
  | 9, h => cases h; decide +kernel
  | 10, h => cases h; decide +kernel
  | 11, h => cases h; decide +kernel
  | ci + 12, h => simp [vwCl] at h
def FL (own : String) (idx ci j : Nat) : Prop := ∃ q : vw_C, vwCl[ci]? = some q ∧ j < q.2.2 ∧ Cond.fieldLink own idx q.1 (q.2.1 j).2.1 (q.2.1 j).2.2.1 ∈ gw
theorem vwCl_lt {ci : Nat} {q : vw_C} (h : vwCl[ci]? = some q) : ci < 12 := (List.getElem?_eq_some_iff.mp h).1
theorem up2_ne {α : Type} (f : Nat → Nat → α) (a k : Nat) (x : α) {b : Nat} (h : b ≠ a) : up2 f a k x b = f b := by
  funext j
  exact if_neg fun q => h q.1
theorem up1_ne {α : Type} (f : Nat → α) (a : Nat) (x : α) {b : Nat} (h : b ≠ a) : up1 f a x b = f b := if_neg h
theorem ix_in {i : Int} {n : Nat} (h : ix i n) : ¬ (Int32.ofInt i < 0 ∨ n ≤ (Int32.ofInt i).toNatClampNeg) ∧ (Int32.ofInt i).toNatClampNeg = i.toNat ∧ i.toNat < n := by
  obtain ⟨h0, h1, h2⟩ := h
  have e : (Int32.ofInt i).toNatClampNeg = i.toNat := Int32.toNatClampNeg_ofInt_of_le (by omega) (by omega)
  have e2 : (Int32.ofInt i).toInt = i := Int32.toInt_ofInt_of_le (by omega) (by omega)
  refine ⟨fun h => ?_, e, by omega⟩
  rcases h with h | h
  · rw [Int32.lt_iff_toInt_lt, e2] at h
    have : (0 : Int32).toInt = 0 := rfl
    omega
  · rw [e] at h
    omega
theorem hh_arr {Γ : Gm} {μ : Mem} {U : State} {H : Heap} (hH : HH Γ μ U H) {t a : Nat} (ht : t < 7) (hs : (mS μ a).1 = 20 + t) : ∃ q, a = q + 1 ∧ gB Γ ≤ q ∧ H[q]? = some (arrV (gR Γ t) (mS μ a).2 (av μ t a)) ∧ (t = 2 → ∀ j : Nat, mI μ a j = 0 ∨ mI μ a j = 1) := by
  cases a with
  | zero => rw [hH.1.2.2] at hs; omega
  | succ q => exact ⟨q, rfl, hH.2.2.1 q t ht hs⟩
theorem av_sI (μ : Mem) {t : Nat} (a k : Nat) (x : Int) (ht : t < 3) : av (sI μ a k x) t a = updV (av μ t a) k (.int (Int32.ofInt x)) := by
  have e : ∀ (ν : Mem) (j : Nat), av ν t a j = .int (Int32.ofInt (mI ν a j)) := fun ν j => if_pos ht
  funext j
  unfold updV
  rw [e, e]
  show Value.int (Int32.ofInt (up2 (mI μ) a k x a j)) = _
  by_cases e : j = k
  · rw [up2, if_pos ⟨rfl, e⟩, if_pos e]
  · rw [up2, if_neg fun z => e z.2, if_neg e]
theorem av_sJ (μ : Mem) (a k : Nat) (x : Int) : av (sI μ a k x) 3 a = updV (av μ 3 a) k (.long (Int64.ofInt x)) := by
  funext j
  unfold av updV
  show Value.long (Int64.ofInt (up2 (mI μ) a k x a j)) = _
  by_cases e : j = k
  · rw [up2, if_pos ⟨rfl, e⟩, if_pos e]
  · rw [up2, if_neg fun z => e z.2, if_neg e]
    rfl
theorem av_sA (μ : Mem) {t : Nat} (a k : Nat) (b : Nat) (ht : 3 < t) : av (sA μ a k b) t a = updV (av μ t a) k (rv b) := by
  have e : ∀ (ν : Mem) (j : Nat), av ν t a j = rv (mA ν a j) := fun ν j => (if_neg (by omega)).trans (if_neg (by omega))
  funext j
  unfold updV
  rw [e, e]
  show rv (up2 (mA μ) a k b a j) = _
  by_cases e : j = k
  · rw [up2, if_pos ⟨rfl, e⟩, if_pos e]
  · rw [up2, if_neg fun z => e z.2, if_neg e]
theorem HH.stI {Γ : Gm} {μ : Mem} {U : State} {H H' : Heap} {a t : Nat} {k : Nat} {x : Int} {v : Value} (h : HH Γ μ U H) (ht : t < 4) (hs : (mS μ (a + 1)).1 = 20 + t) (hz : H'.size = H.size) (ho : ∀ q : Nat, q ≠ a → H'[q]? = H[q]?) (he : H'[a]? = some ((arrV (gR Γ t) (mS μ (a + 1)).2 (av μ t (a + 1))).setSlot k v)) (hv : av (sI μ (a + 1) k x) t (a + 1) = updV (av μ t (a + 1)) k v) (h2 : t = 2 → x = 0 ∨ x = 1) : HH Γ (sI μ (a + 1) k x) U H' := by
  obtain ⟨q, hq, hB, -, hb2⟩ := hh_arr h (by omega) hs
  obtain rfl : a = q := by omega
  refine h.put hB rfl rfl (fun q hq => up2_ne _ _ _ _ (by omega)) (fun _ _ => rfl) rfl hz ho (fun ci hc hs' => by omega) (fun t' ht' hs' => ?_)
  obtain rfl : t = t' := by omega
  refine ⟨by rw [he, arrV_store, hv], fun e j => ?_⟩
  show up2 (mI μ) (a + 1) k x (a + 1) j = 0 ∨ up2 (mI μ) (a + 1) k x (a + 1) j = 1
  by_cases ej : j = k
  · rw [up2, if_pos ⟨rfl, ej⟩]; exact h2 e
  · rw [up2, if_neg fun z => ej z.2]; exact hb2 e j
theorem locs_add {B : Nat} {locs : List Loc} {a k : Nat} (hl : ∀ q ∈ locs, B ≤ q.base) (ha : B ≤ a) : ∀ q ∈ locs ++ [(⟨a, k⟩ : Loc)], B ≤ q.base := by
  intro q hq
  rcases List.mem_append.mp hq with h | h
  · exact hl q h
  · rw [List.mem_singleton.mp h]; exact ha
section SH
variable {ρ : Type} {X : Ctx} {Γ : Gm} {cc : ByteArray} {ym : MethodName} {nL fr lo N0 W0 pc : Nat} {ret : Option FieldType} {Q : ρ → Mem → State → Prop} {L : List (Option AV)} {S : List AV} {μ : Mem} {f f1 f2 : Option (ρ × Mem)}
theorem sn_iald {a : Nat} {i : Int} {g : Int → Option (ρ × Mem)} (hd : decode cc pc = .ok (.iaload, 1)) (hk : ∀ x, Sn X Γ cc ym nL ret fr lo N0 W0 Q (pc + 1) L (aI x :: S) μ (g x)) : Sn X Γ cc ym nL ret fr lo N0 W0 Q pc L (aI i :: aA a :: S) μ ((ldI μ 0 a i).bind g) := by
  intro r μ' hf
  unfold ldI at hf
  by_cases h : (mS μ a).1 = 20 + 0 ∧ ix i (mS μ a).2
  · rw [if_pos h] at hf
    refine ⟨(hk _ r μ' hf).1, fun hC hb H locs ls hH hl hv => ?_⟩
    obtain ⟨q, rfl, hB, hcell, -⟩ := hh_arr hH (by decide) h.1
    obtain ⟨h1, h2, h3⟩ := ix_in h.2
    exact W.iald (v := .int (Int32.ofInt (mI μ (q + 1) i.toNat))) hC.1 hC.2.1 hcell ((hC.2.2.2.2.2.1.1.2 0 _ (tyA_at Γ (by decide))).1 _ _) (fun q => by cases q) (by rw [arrV_size]; exact h1) (by rw [h2, arrV_read _ _ h3]; rfl) rfl rfl hd ((hk _ r μ' hf).2 hC hb H locs ls hH hl hv)
  · rw [if_neg h] at hf
    cases hf
theorem sn_bald {a : Nat} {i : Int} {g : Int → Option (ρ × Mem)} (hd : decode cc pc = .ok (.baload, 1)) (hk : ∀ x, Sn X Γ cc ym nL ret fr lo N0 W0 Q (pc + 1) L (aI x :: S) μ (g x)) : Sn X Γ cc ym nL ret fr lo N0 W0 Q pc L (aI i :: aA a :: S) μ ((ldI μ 1 a i).bind g) := by
  intro r μ' hf
  unfold ldI at hf
  by_cases h : (mS μ a).1 = 20 + 1 ∧ ix i (mS μ a).2
  · rw [if_pos h] at hf
    refine ⟨(hk _ r μ' hf).1, fun hC hb H locs ls hH hl hv => ?_⟩
    obtain ⟨q, rfl, hB, hcell, -⟩ := hh_arr hH (by decide) h.1
    obtain ⟨h1, h2, h3⟩ := ix_in h.2
    exact W.bald (v := .int (Int32.ofInt (mI μ (q + 1) i.toNat))) hC.1 hC.2.1 hcell ((hC.2.2.2.2.2.1.1.2 1 _ (tyA_at Γ (by decide))).1 _ _) (fun q => by cases q) (by rw [arrV_size]; exact h1) (by rw [h2, arrV_read _ _ h3]; rfl) rfl rfl hd ((hk _ r μ' hf).2 hC hb H locs ls hH hl hv)
  · rw [if_neg h] at hf
    cases hf
theorem sn_zald {a : Nat} {i : Int} {g : Int → Option (ρ × Mem)} (hd : decode cc pc = .ok (.baload, 1)) (hk : ∀ x, Sn X Γ cc ym nL ret fr lo N0 W0 Q (pc + 1) L (aI x :: S) μ (g x)) : Sn X Γ cc ym nL ret fr lo N0 W0 Q pc L (aI i :: aA a :: S) μ ((ldI μ 2 a i).bind g) := by
  intro r μ' hf
  unfold ldI at hf
  by_cases h : (mS μ a).1 = 20 + 2 ∧ ix i (mS μ a).2
  · rw [if_pos h] at hf
    refine ⟨(hk _ r μ' hf).1, fun hC hb H locs ls hH hl hv => ?_⟩
    obtain ⟨q, rfl, hB, hcell, -⟩ := hh_arr hH (by decide) h.1
    obtain ⟨h1, h2, h3⟩ := ix_in h.2
    exact W.zald (v := .int (Int32.ofInt (mI μ (q + 1) i.toNat))) hC.1 hC.2.1 hcell ((hC.2.2.2.2.2.1.1.2 2 _ (tyA_at Γ (by decide))).1 _ _) (fun q => by cases q) (by rw [arrV_size]; exact h1) (by rw [h2, arrV_read _ _ h3]; rfl) rfl rfl hd ((hk _ r μ' hf).2 hC hb H locs ls hH hl hv)
  · rw [if_neg h] at hf
    cases hf
theorem sn_lald {a : Nat} {i : Int} {g : Int → Option (ρ × Mem)} (hd : decode cc pc = .ok (.laload, 1)) (hk : ∀ x, Sn X Γ cc ym nL ret fr lo N0 W0 Q (pc + 1) L (aJ x :: S) μ (g x)) : Sn X Γ cc ym nL ret fr lo N0 W0 Q pc L (aI i :: aA a :: S) μ ((ldI μ 3 a i).bind g) := by
  intro r μ' hf
  unfold ldI at hf
  by_cases h : (mS μ a).1 = 20 + 3 ∧ ix i (mS μ a).2
  · rw [if_pos h] at hf
    refine ⟨(hk _ r μ' hf).1, fun hC hb H locs ls hH hl hv => ?_⟩
    obtain ⟨q, rfl, hB, hcell, -⟩ := hh_arr hH (by decide) h.1
    obtain ⟨h1, h2, h3⟩ := ix_in h.2
    exact W.lald (v := .long (Int64.ofInt (mI μ (q + 1) i.toNat))) hC.1 hC.2.1 hcell ((hC.2.2.2.2.2.1.1.2 3 _ (tyA_at Γ (by decide))).1 _ _) (fun q => by cases q) (by rw [arrV_size]; exact h1) (by rw [h2, arrV_read _ _ h3]; rfl) rfl rfl hd ((hk _ r μ' hf).2 hC hb H locs ls hH hl hv)
  · rw [if_neg h] at hf
    cases hf
/-- the script's numbers -/
theorem sn_sald {a : Nat} {i : Int} {g : Int → Option (ρ × Mem)} (hd : decode cc pc = .ok (.iaload, 1)) (hk : ∀ x, Sn X Γ cc ym nL ret fr lo N0 W0 Q (pc + 1) L (aI x :: S) μ (g x)) : Sn X Γ cc ym nL ret fr lo N0 W0 Q pc L (aI i :: aA a :: S) μ ((ldI μ 7 a i).bind g) := by
  intro r μ' hf
  unfold ldI at hf
  by_cases h : (mS μ a).1 = 20 + 7 ∧ ix i (mS μ a).2
  · rw [if_pos h] at hf
    refine ⟨(hk _ r μ' hf).1, fun hC hb H locs ls hH hl hv => ?_⟩
    cases a with
    | zero => have := hH.1.2.2; omega
    | succ q =>
      obtain ⟨hB, cell, hcell, e1, e2, e3, e4⟩ := hH.2.2.2.1 q h.1
      obtain ⟨h1, h2, h3⟩ := ix_in h.2
      exact W.iald (v := .int (Int32.ofInt (mI μ (q + 1) i.toNat))) hC.1 hC.2.1 hcell e1 e2 (by rw [e3]; exact h1) (by rw [h2]; exact e4 _ h3) rfl rfl hd ((hk _ r μ' hf).2 hC hb H locs ls hH hl hv)
  · rw [if_neg h] at hf
    cases hf
theorem sn_slen {a : Nat} {g : Int → Option (ρ × Mem)} (hd : decode cc pc = .ok (.arraylength, 1)) (hk : ∀ x, Sn X Γ cc ym nL ret fr lo N0 W0 Q (pc + 1) L (aI x :: S) μ (g x)) : Sn X Γ cc ym nL ret fr lo N0 W0 Q pc L (aA a :: S) μ ((alen μ 7 a).bind g) := by
  intro r μ' hf
  unfold alen at hf
  by_cases h : (mS μ a).1 = 20 + 7
  · rw [if_pos h] at hf
    refine ⟨(hk _ r μ' hf).1, fun hC hb H locs ls hH hl hv => ?_⟩
    cases a with
    | zero => have := hH.1.2.2; omega
    | succ q =>
      obtain ⟨hB, cell, hcell, e1, e2, e3, e4⟩ := hH.2.2.2.1 q h
      exact W.alen (n := Int32.ofInt ((mS μ (q + 1)).2 : Nat)) hC.1 hC.2.1 hcell e1 (by rw [e3, Int32.ofInt_eq_ofNat]) rfl rfl hd ((hk _ r μ' hf).2 hC hb H locs ls hH hl hv)
  · rw [if_neg h] at hf
    cases hf
theorem sn_iale {a : Nat} {g : Int → Option (ρ × Mem)} (hd : decode cc pc = .ok (.arraylength, 1)) (hk : ∀ x, Sn X Γ cc ym nL ret fr lo N0 W0 Q (pc + 1) L (aI x :: S) μ (g x)) : Sn X Γ cc ym nL ret fr lo N0 W0 Q pc L (aA a :: S) μ ((alen μ 0 a).bind g) := by
  intro r μ' hf
  unfold alen at hf
  by_cases h : (mS μ a).1 = 20 + 0
  · rw [if_pos h] at hf
    refine ⟨(hk _ r μ' hf).1, fun hC hb H locs ls hH hl hv => ?_⟩
    obtain ⟨q, rfl, hB, hcell, -⟩ := hh_arr hH (by decide) h
    exact W.alen (n := Int32.ofInt ((mS μ (q + 1)).2 : Nat)) hC.1 hC.2.1 hcell ((hC.2.2.2.2.2.1.1.2 0 _ (tyA_at Γ (by decide))).1 _ _) (by rw [arrV_size, Int32.ofInt_eq_ofNat]) rfl rfl hd ((hk _ r μ' hf).2 hC hb H locs ls hH hl hv)
  · rw [if_neg h] at hf
    cases hf
theorem sn_lale {a : Nat} {g : Int → Option (ρ × Mem)} (hd : decode cc pc = .ok (.arraylength, 1)) (hk : ∀ x, Sn X Γ cc ym nL ret fr lo N0 W0 Q (pc + 1) L (aI x :: S) μ (g x)) : Sn X Γ cc ym nL ret fr lo N0 W0 Q pc L (aA a :: S) μ ((alen μ 3 a).bind g) := by
  intro r μ' hf
  unfold alen at hf
  by_cases h : (mS μ a).1 = 20 + 3
  · rw [if_pos h] at hf
    refine ⟨(hk _ r μ' hf).1, fun hC hb H locs ls hH hl hv => ?_⟩
    obtain ⟨q, rfl, hB, hcell, -⟩ := hh_arr hH (by decide) h
    exact W.alen (n := Int32.ofInt ((mS μ (q + 1)).2 : Nat)) hC.1 hC.2.1 hcell ((hC.2.2.2.2.2.1.1.2 3 _ (tyA_at Γ (by decide))).1 _ _) (by rw [arrV_size, Int32.ofInt_eq_ofNat]) rfl rfl hd ((hk _ r μ' hf).2 hC hb H locs ls hH hl hv)
  · rw [if_neg h] at hf
    cases hf
theorem sn_aald4 {a : Nat} {i : Int} {g : Nat → Option (ρ × Mem)} (hd : decode cc pc = .ok (.aaload, 1)) (hk : ∀ x, Sn X Γ cc ym nL ret fr lo N0 W0 Q (pc + 1) L (aA x :: S) μ (g x)) : Sn X Γ cc ym nL ret fr lo N0 W0 Q pc L (aI i :: aA a :: S) μ ((ldA μ 4 a i).bind g) := by
  intro r μ' hf
  unfold ldA at hf
  by_cases h : (mS μ a).1 = 20 + 4 ∧ ix i (mS μ a).2
  · rw [if_pos h] at hf
    refine ⟨(hk _ r μ' hf).1, fun hC hb H locs ls hH hl hv => ?_⟩
    obtain ⟨q, rfl, hB, hcell, -⟩ := hh_arr hH (by decide) h.1
    obtain ⟨h1, h2, h3⟩ := ix_in h.2
    exact W.aald (ty := elT 4) (v := rv (mA μ (q + 1) i.toNat)) hC.1 hC.2.1 hcell ((hC.2.2.2.2.2.1.1.2 4 _ (tyA_at Γ (by decide))).1 _ _) rfl (fun q => by cases q) (by rw [arrV_size]; exact h1) (by rw [h2, arrV_read _ _ h3]; rfl) rfl rfl hd ((hk _ r μ' hf).2 hC hb H locs ls hH hl hv)
  · rw [if_neg h] at hf
    cases hf
theorem sn_aald5 {a : Nat} {i : Int} {g : Nat → Option (ρ × Mem)} (hd : decode cc pc = .ok (.aaload, 1)) (hk : ∀ x, Sn X Γ cc ym nL ret fr lo N0 W0 Q (pc + 1) L (aA x :: S) μ (g x)) : Sn X Γ cc ym nL ret fr lo N0 W0 Q pc L (aI i :: aA a :: S) μ ((ldA μ 5 a i).bind g) := by
  intro r μ' hf
  unfold ldA at hf
  by_cases h : (mS μ a).1 = 20 + 5 ∧ ix i (mS μ a).2
  · rw [if_pos h] at hf
    refine ⟨(hk _ r μ' hf).1, fun hC hb H locs ls hH hl hv => ?_⟩
    obtain ⟨q, rfl, hB, hcell, -⟩ := hh_arr hH (by decide) h.1
    obtain ⟨h1, h2, h3⟩ := ix_in h.2
    exact W.aald (ty := elT 5) (v := rv (mA μ (q + 1) i.toNat)) hC.1 hC.2.1 hcell ((hC.2.2.2.2.2.1.1.2 5 _ (tyA_at Γ (by decide))).1 _ _) rfl (fun q => by cases q) (by rw [arrV_size]; exact h1) (by rw [h2, arrV_read _ _ h3]; rfl) rfl rfl hd ((hk _ r μ' hf).2 hC hb H locs ls hH hl hv)
  · rw [if_neg h] at hf
    cases hf
theorem sn_aald6 {a : Nat} {i : Int} {g : Nat → Option (ρ × Mem)} (hd : decode cc pc = .ok (.aaload, 1)) (hk : ∀ x, Sn X Γ cc ym nL ret fr lo N0 W0 Q (pc + 1) L (aA x :: S) μ (g x)) : Sn X Γ cc ym nL ret fr lo N0 W0 Q pc L (aI i :: aA a :: S) μ ((ldA μ 6 a i).bind g) := by
  intro r μ' hf
  unfold ldA at hf
  by_cases h : (mS μ a).1 = 20 + 6 ∧ ix i (mS μ a).2
  · rw [if_pos h] at hf
    refine ⟨(hk _ r μ' hf).1, fun hC hb H locs ls hH hl hv => ?_⟩
    obtain ⟨q, rfl, hB, hcell, -⟩ := hh_arr hH (by decide) h.1
    obtain ⟨h1, h2, h3⟩ := ix_in h.2
    exact W.aald (ty := elT 6) (v := rv (mA μ (q + 1) i.toNat)) hC.1 hC.2.1 hcell ((hC.2.2.2.2.2.1.1.2 6 _ (tyA_at Γ (by decide))).1 _ _) rfl (fun q => by cases q) (by rw [arrV_size]; exact h1) (by rw [h2, arrV_read _ _ h3]; rfl) rfl rfl hd ((hk _ r μ' hf).2 hC hb H locs ls hH hl hv)
  · rw [if_neg h] at hf
    cases hf
theorem sn_iast {a : Nat} {i x : Int} {g : Mem → Option (ρ × Mem)} (hd : decode cc pc = .ok (.iastore, 1)) (hk : ∀ μ1, Sn X Γ cc ym nL ret fr lo N0 W0 Q (pc + 1) L S μ1 (g μ1)) : Sn X Γ cc ym nL ret fr lo N0 W0 Q pc L (aI x :: aI i :: aA a :: S) μ ((stI μ 0 a i x).bind g) := by
  intro r μ' hf
  unfold stI at hf
  by_cases h : (mS μ a).1 = 20 + 0 ∧ ix i (mS μ a).2
  · rw [if_pos h] at hf
    refine ⟨(hk _ r μ' hf).1, fun hC hb H locs ls hH hl hv => ?_⟩
    obtain ⟨q, rfl, hB, hcell, -⟩ := hh_arr hH (by decide) h.1
    obtain ⟨h1, h2, h3⟩ := ix_in (show ix i (mS μ (q + 1)).2 from h.2)
    refine W.iast hC.1 hC.2.1 hcell ((hC.2.2.2.2.2.1.1.2 0 _ (tyA_at Γ (by decide))).1 _ _) (fun q => by cases q) (by rw [arrV_size]; exact h1) rfl rfl hd fun H' e1 e2 e3 => ?_
    rw [h2] at e1
    exact (hk _ r μ' hf).2 hC hb H' _ ls (hH.stI (t := 0) (x := x) (by decide) h.1 e2 e3 e1 (av_sI μ _ _ _ (by decide)) (fun e => by cases e)) (locs_add hl hB) hv
  · rw [if_neg h] at hf
    cases hf
theorem sn_bast {a : Nat} {i x : Int} {g : Mem → Option (ρ × Mem)} (hd : decode cc pc = .ok (.bastore, 1)) (hk : ∀ μ1, Sn X Γ cc ym nL ret fr lo N0 W0 Q (pc + 1) L S μ1 (g μ1)) : Sn X Γ cc ym nL ret fr lo N0 W0 Q pc L (aI x :: aI i :: aA a :: S) μ ((stI μ 1 a i (oI2b x)).bind g) := by
  intro r μ' hf
  unfold stI at hf
  by_cases h : (mS μ a).1 = 20 + 1 ∧ ix i (mS μ a).2
  · rw [if_pos h] at hf
    refine ⟨(hk _ r μ' hf).1, fun hC hb H locs ls hH hl hv => ?_⟩
    obtain ⟨q, rfl, hB, hcell, -⟩ := hh_arr hH (by decide) h.1
    obtain ⟨h1, h2, h3⟩ := ix_in (show ix i (mS μ (q + 1)).2 from h.2)
    refine W.bast hC.1 hC.2.1 hcell ((hC.2.2.2.2.2.1.1.2 1 _ (tyA_at Γ (by decide))).1 _ _) (fun q => by cases q) (by rw [arrV_size]; exact h1) rfl rfl hd fun H' e1 e2 e3 => ?_
    rw [h2] at e1
    exact (hk _ r μ' hf).2 hC hb H' _ ls (hH.stI (t := 1) (x := oI2b x) (by decide) h.1 e2 e3 e1 ((av_sI μ _ _ _ (by decide)).trans (by rw [show oI2b x = (Int32.ofInt x).toInt8.toInt32.toInt from rfl, Int32.ofInt_toInt]; rfl)) (fun e => by cases e)) (locs_add hl hB) hv
  · rw [if_neg h] at hf
    cases hf
theorem sn_zast {a : Nat} {i x : Int} {g : Mem → Option (ρ × Mem)} (hd : decode cc pc = .ok (.bastore, 1)) (hk : ∀ μ1, Sn X Γ cc ym nL ret fr lo N0 W0 Q (pc + 1) L S μ1 (g μ1)) : Sn X Γ cc ym nL ret fr lo N0 W0 Q pc L (aI x :: aI i :: aA a :: S) μ ((stZ μ a i x).bind g) := by
  intro r μ' hf
  unfold stZ at hf
  by_cases h : (mS μ a).1 = 22 ∧ ix i (mS μ a).2 ∧ (x = 0 ∨ x = 1)
  · rw [if_pos h] at hf
    refine ⟨(hk _ r μ' hf).1, fun hC hb H locs ls hH hl hv => ?_⟩
    obtain ⟨q, rfl, hB, hcell, -⟩ := hh_arr (t := 2) hH (by decide) h.1
    obtain ⟨h1, h2, h3⟩ := ix_in (show ix i (mS μ (q + 1)).2 from h.2.1)
    refine W.zast hC.1 hC.2.1 hcell ((hC.2.2.2.2.2.1.1.2 2 _ (tyA_at Γ (by decide))).1 _ _) (fun q => by cases q) (by rw [arrV_size]; exact h1) rfl rfl hd fun H' e1 e2 e3 => ?_
    rw [h2] at e1
    exact (hk _ r μ' hf).2 hC hb H' _ ls (hH.stI (t := 2) (x := x) (by decide) h.1 e2 e3 e1 ((av_sI μ _ _ _ (by decide)).trans (by rcases h.2.2 with e | e <;> rw [e] <;> rfl)) (fun _ => h.2.2)) (locs_add hl hB) hv
  · rw [if_neg h] at hf
    cases hf
theorem sn_last {a : Nat} {i x : Int} {g : Mem → Option (ρ × Mem)} (hd : decode cc pc = .ok (.lastore, 1)) (hk : ∀ μ1, Sn X Γ cc ym nL ret fr lo N0 W0 Q (pc + 1) L S μ1 (g μ1)) : Sn X Γ cc ym nL ret fr lo N0 W0 Q pc L (aJ x :: aI i :: aA a :: S) μ ((stI μ 3 a i x).bind g) := by
  intro r μ' hf
  unfold stI at hf
  by_cases h : (mS μ a).1 = 20 + 3 ∧ ix i (mS μ a).2
  · rw [if_pos h] at hf
    refine ⟨(hk _ r μ' hf).1, fun hC hb H locs ls hH hl hv => ?_⟩
    obtain ⟨q, rfl, hB, hcell, -⟩ := hh_arr hH (by decide) h.1
    obtain ⟨h1, h2, h3⟩ := ix_in (show ix i (mS μ (q + 1)).2 from h.2)
    refine W.last hC.1 hC.2.1 hcell ((hC.2.2.2.2.2.1.1.2 3 _ (tyA_at Γ (by decide))).1 _ _) (fun q => by cases q) (by rw [arrV_size]; exact h1) rfl rfl hd fun H' e1 e2 e3 => ?_
    rw [h2] at e1
    exact (hk _ r μ' hf).2 hC hb H' _ ls (hH.stI (t := 3) (x := x) (by decide) h.1 e2 e3 e1 (av_sJ μ _ _ _) (fun e => by cases e)) (locs_add hl hB) hv
  · rw [if_neg h] at hf
    cases hf
theorem sn_aast4 {a b : Nat} {i : Int} {g : Mem → Option (ρ × Mem)} (hd : decode cc pc = .ok (.aastore, 1)) (hk : ∀ μ1, Sn X Γ cc ym nL ret fr lo N0 W0 Q (pc + 1) L S μ1 (g μ1)) : Sn X Γ cc ym nL ret fr lo N0 W0 Q pc L (aA b :: aI i :: aA a :: S) μ ((stA μ 2 4 a i b).bind g) := by
  intro r μ' hf
  unfold stA at hf
  by_cases h : (mS μ a).1 = 20 + 4 ∧ ix i (mS μ a).2 ∧ (mS μ b).1 = 2
  · rw [if_pos h] at hf
    refine ⟨(hk _ r μ' hf).1, fun hC hb H locs ls hH hl hv => ?_⟩
    obtain ⟨q, rfl, hB, hcell, -⟩ := hh_arr hH (by decide) h.1
    obtain ⟨h1, h2, h3⟩ := ix_in h.2.1
    cases b with
    | zero => have := hH.1.2.2; omega
    | succ z =>
      obtain ⟨-, rr, g0, cellV, g1, g2, g3, -⟩ := hH.2.1 z 1 (by decide) h.2.2
      cases g0
      have hK := hC.2.2.2.2.2.1.1
      have hcls := (hK.1 1 _ rfl).2
      obtain ⟨kA, comp, k1, k2, k3, -⟩ := (hK.2 4 _ (tyA_at Γ (by decide))).2
      have hcomp : comp = (gD Γ).1 1 := Option.some.inj (k3.symm.trans hcls.1)
      subst hcomp
      obtain ⟨kC, hkC, -⟩ := hcls.2
      refine W.aast hC.1 hC.2.1 hcell (fun q h => by cases h) (fun h => by cases h) k1 k2 rfl hkC ⟨fun q => h1 (Or.inl q), by rw [arrV_size, h2]; exact h3⟩ g1 (fun q h => by rw [g3] at h; cases h) (by rw [g2]; exact hkC) (by rw [g2]; exact va_assign hcls) rfl rfl hd fun H' e1 e2 e3 => ?_
      rw [h2] at e1
      refine (hk _ r μ' hf).2 hC hb H' _ ls ?_ (locs_add hl hB) hv
      refine hH.put hB rfl rfl (fun _ _ => rfl) (fun q hq => up2_ne _ _ _ _ (by omega)) (show up2 (mA μ) (q + 1) i.toNat (z + 1) 0 = mA μ 0 from up2_ne _ _ _ _ (by omega)) e2 e3 (fun ci hc hs' => by omega) (fun t' ht' hs' => ?_)
      obtain rfl : 4 = t' := by omega
      exact ⟨by rw [e1, arrV_store, av_sA μ _ _ _ (by decide)]; rfl, fun e => by cases e⟩
  · rw [if_neg h] at hf
    cases hf
theorem sn_aast5 {a b : Nat} {i : Int} {g : Mem → Option (ρ × Mem)} (hd : decode cc pc = .ok (.aastore, 1)) (hk : ∀ μ1, Sn X Γ cc ym nL ret fr lo N0 W0 Q (pc + 1) L S μ1 (g μ1)) : Sn X Γ cc ym nL ret fr lo N0 W0 Q pc L (aA b :: aI i :: aA a :: S) μ ((stA μ 4 5 a i b).bind g) := by
  intro r μ' hf
  unfold stA at hf
  by_cases h : (mS μ a).1 = 20 + 5 ∧ ix i (mS μ a).2 ∧ (mS μ b).1 = 4
  · rw [if_pos h] at hf
    refine ⟨(hk _ r μ' hf).1, fun hC hb H locs ls hH hl hv => ?_⟩
    obtain ⟨q, rfl, hB, hcell, -⟩ := hh_arr hH (by decide) h.1
    obtain ⟨h1, h2, h3⟩ := ix_in h.2.1
    cases b with
    | zero => have := hH.1.2.2; omega
    | succ z =>
      obtain ⟨-, rr, g0, cellV, g1, g2, g3, -⟩ := hH.2.1 z 3 (by decide) h.2.2
      cases g0
      have hK := hC.2.2.2.2.2.1.1
      have hcls := (hK.1 3 _ rfl).2
      obtain ⟨kA, comp, k1, k2, k3, -⟩ := (hK.2 5 _ (tyA_at Γ (by decide))).2
      have hcomp : comp = (gD Γ).1 3 := Option.some.inj (k3.symm.trans hcls.1)
      subst hcomp
      obtain ⟨kC, hkC, -⟩ := hcls.2
      refine W.aast hC.1 hC.2.1 hcell (fun q h => by cases h) (fun h => by cases h) k1 k2 rfl hkC ⟨fun q => h1 (Or.inl q), by rw [arrV_size, h2]; exact h3⟩ g1 (fun q h => by rw [g3] at h; cases h) (by rw [g2]; exact hkC) (by rw [g2]; exact va_assign hcls) rfl rfl hd fun H' e1 e2 e3 => ?_
      rw [h2] at e1
      refine (hk _ r μ' hf).2 hC hb H' _ ls ?_ (locs_add hl hB) hv
      refine hH.put hB rfl rfl (fun _ _ => rfl) (fun q hq => up2_ne _ _ _ _ (by omega)) (show up2 (mA μ) (q + 1) i.toNat (z + 1) 0 = mA μ 0 from up2_ne _ _ _ _ (by omega)) e2 e3 (fun ci hc hs' => by omega) (fun t' ht' hs' => ?_)
      obtain rfl : 5 = t' := by omega
      exact ⟨by rw [e1, arrV_store, av_sA μ _ _ _ (by decide)]; rfl, fun e => by cases e⟩
  · rw [if_neg h] at hf
    cases hf
theorem sn_get {a idx ci j : Nat} {v : Value} {k ks : Nat} (hC : Cx X Γ cc ym nL ret fr lo) (hd : decode cc pc = .ok (.getfield idx, 3)) (hF : FL ym.cls idx ci j) {H : Heap} {locs : List Loc} {ls : Array Slot} {Q' : State → Prop} {rest : List Value} (hH : HH Γ μ (xS X) H) (hs : (mS μ a).1 = 1 + ci) (hv : fv μ ci a j = v)
    (hk : WX X H locs k ks Q' (F0 (xM X) (pc + 3) ls (v :: rest))) : WX X H locs k ks Q' (F0 (xM X) pc ls (rv a :: rest)) := by
  obtain ⟨q, hq, hj, hw⟩ := hF
  cases a with
  | zero => rw [hH.1.2.2] at hs; omega
  | succ b =>
    obtain ⟨-, kty, knm, kown⟩ := kc_all ci q hq
    have kin := gc_in hq
    obtain ⟨-, r, g1, cell, q1, q2, q3, q4⟩ := hH.2.1 b ci (vwCl_lt hq) hs
    cases hq.symm.trans g1
    obtain ⟨hS, hfc, kC, hkC, hkind⟩ := hC.2.2.2.2.2.1.1.1 ci _ hq
    obtain ⟨cf, kf, fi, fd, hi, hsl⟩ := hS j hj
    have hi2 := hi
    rw [kown j hj] at hi2
    refine W.getf (a := b) hC.1 hC.2.1 hC.2.2.2.1 (hC.2.2.2.2.1 _ hw) hi2 (u_facts hfc hkC (u_lays hC.2.2.2.2.1 kin hj) hi).1 q1 (by rw [q3]; exact fun h => by cases h) (v := v) ?_ rfl rfl hd hk
    rw [hsl, q4 j hj, hv]
theorem sn_getI {a idx ci j : Nat} {g : Int → Option (ρ × Mem)} (hd : decode cc pc = .ok (.getfield idx, 3)) (hF : FL ym.cls idx ci j) (hty : fT ci j = .int) (hk : ∀ x, Sn X Γ cc ym nL ret fr lo N0 W0 Q (pc + 3) L (aI x :: S) μ (g x)) : Sn X Γ cc ym nL ret fr lo N0 W0 Q pc L (aA a :: S) μ ((gI μ (1 + ci) a j).bind g) := by
  intro r μ' hf
  unfold gI at hf
  by_cases h : (mS μ a).1 = 1 + ci
  · rw [if_pos h] at hf
    exact ⟨(hk _ r μ' hf).1, fun hC hb H locs ls hH hl hv => sn_get hC hd hF hH h (v := .int (Int32.ofInt (mI μ a j))) (by unfold fv; rw [hty]) ((hk _ r μ' hf).2 hC hb H locs ls hH hl hv)⟩
  · rw [if_neg h] at hf
    cases hf
theorem sn_getA {a idx ci j : Nat} {g : Nat → Option (ρ × Mem)} (hd : decode cc pc = .ok (.getfield idx, 3)) (hF : FL ym.cls idx ci j) (hty : fT ci j ≠ .int) (hk : ∀ x, Sn X Γ cc ym nL ret fr lo N0 W0 Q (pc + 3) L (aA x :: S) μ (g x)) : Sn X Γ cc ym nL ret fr lo N0 W0 Q pc L (aA a :: S) μ ((gA μ (1 + ci) a j).bind g) := by
  intro r μ' hf
  unfold gA at hf
  by_cases h : (mS μ a).1 = 1 + ci
  · rw [if_pos h] at hf
    refine ⟨(hk _ r μ' hf).1, fun hC hb H locs ls hH hl hv => sn_get hC hd hF hH h (v := rv (mA μ a j)) ?_ ((hk _ r μ' hf).2 hC hb H locs ls hH hl hv)⟩
    unfold fv
    split
    · rename_i e; exact absurd e hty
    · rfl
  · rw [if_neg h] at hf
    cases hf
/-- a store into a field; fin: it is a final one, in a constructor -/
theorem sn_put {a idx ci j : Nat} {v : Value} {μ1 : Mem} {k ks : Nat} (hC : Cx X Γ cc ym nL ret fr lo) (hd : decode cc pc = .ok (.putfield idx, 3)) (hF : FL ym.cls idx ci j) {H : Heap} {locs : List Loc} {ls : Array Slot} {Q' : State → Prop} {rest : List Value} (hH : HH Γ μ (xS X) H) (hl : ∀ q ∈ locs, gB Γ ≤ q.base) (hs : (mS μ a).1 = 1 + ci)
    (hfin : (∀ q : vw_C, vwCl[ci]? = some q → (q.2.1 j).2.2.2 = false) ∨ ((xH X).name = "<init>" ∧ ∀ q : vw_C, vwCl[ci]? = some q → (q.2.1 j).2.2.2 = true ∧ q.1 = ym.cls)) (hn : narrow (fT ci j) v = v) (hfit : fits (fT ci j) v = true)
    (hS1 : mS μ1 = mS μ) (hN1 : mN μ1 = mN μ) (hI1 : ∀ b : Nat, b ≠ a → mI μ1 b = mI μ b) (hA1 : ∀ b : Nat, b ≠ a → mA μ1 b = mA μ b) (hv : ∀ i : Nat, fv μ1 ci a i = updV (fv μ ci a) j v i)
    (hk : ∀ (H' : Heap) (locs' : List Loc), HH Γ μ1 (xS X) H' → (∀ q ∈ locs', gB Γ ≤ q.base) → WX X H' locs' k ks Q' (F0 (xM X) (pc + 3) ls rest)) : WX X H locs k ks Q' (F0 (xM X) pc ls (v :: rv a :: rest)) := by
  obtain ⟨q, hq, hj, hw⟩ := hF
  cases a with
  | zero => rw [hH.1.2.2] at hs; omega
  | succ b =>
    obtain ⟨-, kty, knm, kown⟩ := kc_all ci q hq
    have kin := gc_in hq
    obtain ⟨hB, r, g1, cell, q1, q2, q3, q4⟩ := hH.2.1 b ci (vwCl_lt hq) hs
    cases hq.symm.trans g1
    have hap := va_apart (own := ym.cls) hC.2.2.2.2.1 kin (fT ci) kty knm hC.2.2.2.2.2.1.1 hq
    obtain ⟨hS, hfc, kC, hkC, hkind⟩ := hC.2.2.2.2.2.1.1.1 ci _ hq
    obtain ⟨cf, kf, fi, fd, hi, hsl⟩ := hS j hj
    have hst := (u_facts hfc hkC (u_lays hC.2.2.2.2.1 kin hj) hi).1
    have hlay := hC.2.2.2.2.1 _ (kin _ (u_in_lay hj))
    have hi2 := hi
    rw [kown j hj] at hi2
    have fin : ∀ (H' : Heap) (sl : Nat), H'[b]? = some (cell.setSlot fd.slot v) → H'.size = H.size → (∀ z, z ≠ b → H'[z]? = H[z]?) → WX X H' (locs ++ [⟨b, sl⟩]) k ks Q' (F0 (xM X) (pc + 3) ls rest) := by
      intro H' sl e1 e2 e3
      refine hk H' _ ?_ ?_
      · refine hH.put hB hS1 hN1 (fun z hz => hI1 _ (by omega)) (fun z hz => hA1 _ (by omega)) (hA1 _ (by omega)) e2 e3 (fun ci' hc' hs' => ?_) (fun t ht hs' => ?_)
        · have e : ci' = ci := by omega
          subst e
          refine ⟨q, hq, t_OB.to (V := updV (fv μ ci' (b + 1)) j v) ⟨_, e1, q2, q3, ?_⟩ (fun i _ => (hv i).symm)⟩
          rw [hsl]
          exact t_set q4 hap hj v
        · have := vwCl_lt hq
          omega
      · intro z hz
        rcases List.mem_append.mp hz with h | h
        · exact hl z h
        · rw [List.mem_singleton.mp h]
          exact hB
    rcases hfin with hf0 | ⟨hnm, hf1⟩
    · unfold u_lay at hlay
      rw [if_neg (by rw [hf0 q hq]; decide)] at hlay
      have h6 := u_store hfc hkC hkind hlay hi (kty j hj) hn hfit
      exact W.putK hC.1 hC.2.1 (f := fd) ⟨hC.2.2.2.1, hC.2.2.2.2.1 _ hw, ⟨_, _, _, hi2⟩, hst⟩ (by rw [q2]; exact h6) q1 q3 (by rw [hsl]; exact k2_hasslot (q4 j hj)) rfl rfl hd fun H' e1 e2 e3 => fin H' _ e1 e2 e3
    · obtain ⟨hf1, hdecl⟩ := hf1 q hq
      unfold u_lay at hlay
      rw [if_pos hf1] at hlay
      have hcf : (xM X).cls = cf := by
        obtain ⟨_, _, c', _, _, _, -, -, hf', -, -, -, hown2, -⟩ := Cond.laysFinal_spec hlay
        have e1 : c' = cf := by have := hi.symm.trans hf'; simp at this; exact this.1.symm
        rw [kown j hj, hdecl] at hown2
        rw [← e1]; exact Option.some.inj (hC.2.2.2.1.symm.trans hown2)
      have h6 := u_fits hfc hkC hkind (Or.inr hlay) hi (kty j hj) hn hfit
      exact W.putFinK hC.1 hC.2.1 hC.2.2.2.1 (hC.2.2.2.2.1 _ hw) hi2 hst hcf hnm (by rw [q2]; exact h6) q1 q3 (by rw [hsl]; exact k2_hasslot (q4 j hj)) rfl rfl hd fun H' e1 e2 e3 => fin H' _ e1 e2 e3
theorem sn_putI {a idx ci j : Nat} {x : Int} {g : Mem → Option (ρ × Mem)} (hd : decode cc pc = .ok (.putfield idx, 3)) (hF : FL ym.cls idx ci j) (hty : fT ci j = .int) (hfin : ∀ q : vw_C, vwCl[ci]? = some q → (q.2.1 j).2.2.2 = false) (hk : ∀ μ1, Sn X Γ cc ym nL ret fr lo N0 W0 Q (pc + 3) L S μ1 (g μ1)) : Sn X Γ cc ym nL ret fr lo N0 W0 Q pc L (aI x :: aA a :: S) μ ((pI μ (1 + ci) a j x).bind g) := by
  intro r μ' hf
  unfold pI at hf
  by_cases h : (mS μ a).1 = 1 + ci
  · rw [if_pos h] at hf
    refine ⟨(hk _ r μ' hf).1, fun hC hb H locs ls hH hl hv => ?_⟩
    refine sn_put (v := .int (Int32.ofInt x)) (μ1 := sI μ a j x) hC hd hF hH hl h (Or.inl hfin) (by rw [hty]; rfl) (by rw [hty]; rfl) rfl rfl (fun b hb => up2_ne _ _ _ _ hb) (fun _ _ => rfl) (fun i => ?_) (fun H' locs' hH' hl' => (hk _ r μ' hf).2 hC hb H' locs' ls hH' hl' hv)
    unfold updV
    by_cases e : i = j
    · subst e
      rw [if_pos rfl]
      unfold fv
      rw [hty]
      show Value.int (Int32.ofInt (up2 (mI μ) a i x a i)) = _
      rw [up2, if_pos ⟨rfl, rfl⟩]
    · rw [if_neg e]
      unfold fv
      split
      · show Value.int (Int32.ofInt (up2 (mI μ) a j x a i)) = _
        rw [up2, if_neg fun z => e z.2]
      · rfl
  · rw [if_neg h] at hf
    cases hf
theorem rv_nar {t : FieldType} (h : (∃ n, t = .object n) ∨ ∃ u, t = .array u) (b : Nat) : narrow t (rv b) = rv b ∧ fits t (rv b) = true := by
  rcases h with ⟨n, rfl⟩ | ⟨u, rfl⟩ <;> cases b <;> exact ⟨rfl, rfl⟩
theorem fv_putA (μ : Mem) {ci j : Nat} (a b i : Nat) (hty : fT ci j ≠ .int) : fv (sA μ a j b) ci a i = updV (fv μ ci a) j (rv b) i := by
  unfold updV
  by_cases e : i = j
  · subst e
    rw [if_pos rfl]
    unfold fv
    split
    · rename_i z; exact absurd z hty
    · show rv (up2 (mA μ) a i b a i) = _
      rw [up2, if_pos ⟨rfl, rfl⟩]
  · rw [if_neg e]
    unfold fv
    split
    · rfl
    · show rv (up2 (mA μ) a j b a i) = _
      rw [up2, if_neg fun z => e z.2]
theorem sn_putA {a b idx ci j : Nat} {g : Mem → Option (ρ × Mem)} (hd : decode cc pc = .ok (.putfield idx, 3)) (hF : FL ym.cls idx ci j) (hty : (∃ n, fT ci j = .object n) ∨ ∃ u, fT ci j = .array u) (hfin : (∀ q : vw_C, vwCl[ci]? = some q → (q.2.1 j).2.2.2 = false) ∨ (ym.name = "<init>" ∧ ∀ q : vw_C, vwCl[ci]? = some q → (q.2.1 j).2.2.2 = true ∧ q.1 = ym.cls)) (hk : ∀ μ1, Sn X Γ cc ym nL ret fr lo N0 W0 Q (pc + 3) L S μ1 (g μ1)) : Sn X Γ cc ym nL ret fr lo N0 W0 Q pc L (aA b :: aA a :: S) μ ((pA μ (1 + ci) a j b).bind g) := by
  intro r μ' hf
  unfold pA at hf
  by_cases h : (mS μ a).1 = 1 + ci
  · rw [if_pos h] at hf
    obtain ⟨n1, n2⟩ := rv_nar hty b
    refine ⟨(hk _ r μ' hf).1, fun hC hb H locs ls hH hl hv => ?_⟩
    exact sn_put (v := rv b) (μ1 := sA μ a j b) hC hd hF hH hl h (hfin.imp id fun z => ⟨hC.2.2.2.2.2.2.2.2.2.2.trans z.1, z.2⟩) n1 n2 rfl rfl (fun _ _ => rfl) (fun b' hb => up2_ne _ _ _ _ hb) (fun i => fv_putA μ a b i (fun z => by rcases hty with ⟨n, e⟩ | ⟨u, e⟩ <;> rw [z] at e <;> cases e)) (fun H' locs' hH' hl' => (hk _ r μ' hf).2 hC hb H' locs' ls hH' hl' hv)
  · rw [if_neg h] at hf
    cases hf
end SH
