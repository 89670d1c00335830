/-! the texts; words of the class, keys of the reference -/
/-- the texts lie where they lie, and tell what they tell -/
def isX (μ : Mem) (c : Nat) (I : Nat → Nat → Int) : Prop := ∀ k : Nat, k < 11 → (mS μ (mA μ 0 k)).1 = 40 + k ∧ mS μ (mA μ (mA μ 0 k) 0) = (60 + k, lnK k) ∧ mA μ (mA μ 0 k) 0 < c ∧ ∀ j : Nat, Int32.ofInt (I (mA μ (mA μ 0 k) 0) j) = (kB.getD k []).getD j 0
theorem isX.cg {μ : Mem} {c : Nat} {I J : Nat → Nat → Int} (h : isX μ c I) (e : ∀ b : Nat, b < c → J b = I b) : isX μ c J := fun k hk => by
  obtain ⟨h1, h2, h3, h4⟩ := h k hk
  exact ⟨h1, h2, h3, fun j => by rw [e _ h3]; exact h4 j⟩
theorem ch_ok : ∀ k : Nat, k < 11 → ∀ i : Nat, i < lnK k → (oI2c ((((kB.getD k []).getD i 0) &&& Int32.ofInt 255).toInt) = chI k i ∧ 32 ≤ chI k i ∧ chI k i ≤ 122) := by decide +kernel
theorem ln_ok : ∀ k : Nat, k < 11 → oShr ((lnK k : Nat) : Int) 0 = ((lnK k : Nat) : Int) ∧ lnK k ≤ 55 := by decide +kernel
section TX
variable {μ : Mem} {I J : Nat → Nat → Int} {c t m n z : Nat} {P : Nat → Int} {s : Ld} {β : Type}
theorem txt_w (hX : isX μ c J) {k : Nat} (hk : k < 11) {f : Nat → Option β} : (txt (wi μ J) k).bind f = f (mA μ 0 k) := bnd (show txt (wi μ J) k = some (mA μ 0 k) from if_pos (hX k hk).1) f
theorem length_w (hX : isX μ c J) {k : Nat} (hk : k < 11) {f : Int × Mem → Option β} : (tInv (wi μ J) (mA μ 0 k) (mJ0_length_8abf5 n (mA μ 0 k) (wi μ J))).bind f = f (((lnK k : Nat) : Int), wi μ J) := by
  obtain ⟨h1, h2, h3, h4⟩ := hX k hk
  have c1 : 40 ≤ (mS μ (mA μ 0 k)).1 ∧ (mS μ (mA μ 0 k)).1 < 51 := by omega
  have c2 : 60 ≤ (mS μ (mA μ (mA μ 0 k) 0)).1 ∧ (mS μ (mA μ (mA μ 0 k) 0)).1 < 71 := by rw [h2]; dsimp only; omega
  have e1 : tVal (wi μ J) (mA μ 0 k) = some (mA μ (mA μ 0 k) 0) := if_pos c1
  have e2 : tLen (wi μ J) (mA μ (mA μ 0 k) 0) = some ((lnK k : Nat) : Int) := by
    unfold tLen
    rw [wi_S, if_pos c2, h2]
  have e3 : tCod (wi μ J) (mA μ 0 k) = some 0 := if_pos c1
  have e4 : ∀ {ρ : Type} (X : Option ρ), tInv (wi μ J) (mA μ 0 k) X = X := fun X => if_pos c1
  rw [e4]
  unfold mJ0_length_8abf5
  rw [bnd e1, bnd e2, e4]
  unfold mJ0_coder_7d493
  rw [i_eq_f (by decide), bnd e3]
  show ((retB 0 (wi μ J)).bind _).bind f = _
  rw [show retB 0 (wi μ J) = some (0, wi μ J) from rfl]
  show f (oShr ((lnK k : Nat) : Int) 0, wi μ J) = _
  rw [(ln_ok k hk).1]
theorem charAt_w (hX : isX μ c J) {k i : Nat} (hk : k < 11) (hi : i < lnK k) {f : Int × Mem → Option β} : (tInv (wi μ J) (mA μ 0 k) (mJ0_charAt_5068e n (mA μ 0 k) (i : Int) (wi μ J))).bind f = f (chI k i, wi μ J) := by
  obtain ⟨h1, h2, h3, h4⟩ := hX k hk
  have ll := (ln_ok k hk).2
  have c1 : 40 ≤ (mS μ (mA μ 0 k)).1 ∧ (mS μ (mA μ 0 k)).1 < 51 := by omega
  have c2 : 60 ≤ (mS μ (mA μ (mA μ 0 k) 0)).1 ∧ (mS μ (mA μ (mA μ 0 k) 0)).1 < 71 := by rw [h2]; dsimp only; omega
  have e1 : tVal (wi μ J) (mA μ 0 k) = some (mA μ (mA μ 0 k) 0) := if_pos c1
  have e2 : tLen (wi μ J) (mA μ (mA μ 0 k) 0) = some ((lnK k : Nat) : Int) := by
    unfold tLen
    rw [wi_S, if_pos c2, h2]
  have e3 : tCod (wi μ J) (mA μ 0 k) = some 0 := if_pos c1
  have e4 : ∀ {ρ : Type} (X : Option ρ), tInv (wi μ J) (mA μ 0 k) X = X := fun X => if_pos c1
  have e5 : tAt (wi μ J) (mA μ (mA μ 0 k) 0) (i : Int) = some (J (mA μ (mA μ 0 k) 0) i) := by
    have := show tAt (wi μ J) (mA μ (mA μ 0 k) 0) (i : Int) = some (J (mA μ (mA μ 0 k) 0) (i : Int).toNat) from if_pos ⟨c2.1, c2.2, by omega, by rw [wi_S, h2]; dsimp only; omega, by omega⟩
    rw [Int.toNat_natCast] at this
    exact this
  obtain ⟨q1, q2, q3⟩ := ch_ok k hk i hi
  have e6 : oI2c (oAnd (J (mA μ (mA μ 0 k) 0) i) 255) = chI k i := by
    unfold oAnd
    rw [h4 i]
    exact q1
  have rc : ∀ ν : Mem, retC (chI k i) ν = some (chI k i, ν) := fun ν => if_pos ⟨by omega, by omega⟩
  rw [e4]
  unfold mJ0_charAt_5068e
  rw [e4]
  unfold mJ0_isLatin1_aae02
  rw [i_eq_f (by decide), bnd e3]
  show ((if eq32 (0 : Int) 0 then retZ 1 (wi μ J) else retZ 0 (wi μ J)).bind _).bind f = _
  rw [i_eq_t rfl, retZ_1]
  show ((if eq32 (1 : Int) 0 then none else _) : Option (Int × Mem)).bind f = _
  rw [i_eq_f (by decide), bnd e1]
  unfold mJ1_charAt_3b067
  rw [bnd e2]
  unfold mJ0_checkIndex_df160 mJ3_checkIndex_8e157
  rw [i_lt_f (by omega), i_lt_t (by omega)]
  show ((((tAt (wi μ J) (mA μ (mA μ 0 k) 0) (i : Int)).bind _).bind _).bind f) = _
  rw [bnd e5, e6, rc]
  show ((retC (chI k i) (wi μ J)).bind f) = _
  rw [rc]
  rfl
theorem isWord_eq (h : isTp μ t) (hO : tpO J t z P) (hX : isX μ c J) {p k : Nat} (hp : p ≤ z) (hT : tkC J t z P p) (hk : k < 10) (hn : 20000 ≤ n) : mX8_isWord n t (mA μ 0 k) (wi μ J) = some (bi (tK (bts P) z p = k), wi μ J) := by
  have hz9 := hO.2.1
  obtain ⟨t5, t6, t7, -⟩ := hT
  have rS := tS_rg (B := bts P) hp
  have rE := tE_rg (B := bts P) hp
  have ll := (ln_ok k (by omega)).2
  unfold mX8_isWord
  rw [bP_gI h, t5]
  by_cases cw : tK (bts P) z p ≤ 10
  · have e5 : ck (tK (bts P) z p) = 1 := by unfold ck; rw [if_neg (by omega), if_pos cw]
    have lett : tS (bts P) z p < z ∧ tK (bts P) z p = kwF (bts P) (tS (bts P) z p) (tE (bts P) z p) 0 10 := by
      unfold tK at cw ⊢
      by_cases c1 : tS (bts P) z p < z
      · rw [if_pos c1] at cw ⊢
        by_cases c2 : ltr (bts P (tS (bts P) z p))
        · rw [if_pos c2]; exact ⟨c1, rfl⟩
        · rw [if_neg c2] at cw
          exfalso
          split at cw
          · split at cw <;> omega
          · split at cw <;> omega
      · rw [if_neg c1] at cw; omega
    have iff := kwF_iff (B := bts P) (s := tS (bts P) z p) (e := tE (bts P) z p) hk
    rw [e5, i_eq_t rfl, bP_gI h, t7, bP_gI h, t6, length_w hX (by omega)]
    dsimp only
    rw [lett.2]
    generalize tS (bts P) z p = a at rS rE t6 t7 lett iff
    generalize tE (bts P) z p = e at rE t7 lett iff
    by_cases cl : e = a + lnK k
    · rw [i_eq_t (by omega)]
      refine lp_ind (fun d (v : Int) ν => ∃ i : Nat, ν = wi μ J ∧ v = (i : Int) ∧ i + d = lnK k ∧ ∀ j : Nat, j < i → bts P (a + j) = chI k j) (fun X => X = some (bi (kwF (bts P) a e 0 10 = k), wi μ J)) (fun d v ν nx hPP hnx => ?_) n (lnK k) _ _ (by omega) ⟨0, rfl, rfl, by omega, fun j hj => by omega⟩
      obtain ⟨i, rfl, rfl, h1, h2⟩ := hPP
      rw [length_w hX (by omega)]
      dsimp only
      cases d with
      | zero =>
        rw [i_lt_f (by omega), bi_t (iff.mpr ⟨cl, fun j hj => h2 j (by omega)⟩)]
        rfl
      | succ d =>
        have st := sgn_t (P := P) (show a + i < z by omega)
        have br := bts_rg P (a + i)
        obtain ⟨-, q2, q3⟩ := ch_ok k (by omega) i (by omega)
        rw [i_lt_t (by omega), bP_gI h, t6, bT_inv h, show (a : Int) + (i : Int) = ((a + i : Nat) : Int) from rfl, byteAt_w h hO (by omega), st]
        dsimp only
        rw [charAt_w hX (by omega) (by omega)]
        dsimp only
        by_cases cc : bts P (a + i) = chI k i
        · rw [i_eq_t cc]
          refine hnx d _ _ (by omega) ⟨i + 1, rfl, rfl, by omega, fun j hj => ?_⟩
          by_cases ej : j = i
          · subst ej; exact cc
          · exact h2 j (by omega)
        · rw [i_eq_f (by omega), bi_f (fun w => cc ((iff.mp w).2 i (by omega)))]
          rfl
    · rw [i_eq_f (by omega), bi_f (fun w => cl (iff.mp w).1)]
      rfl
  · have e5 : ck (tK (bts P) z p) ≠ 1 ∧ 0 ≤ ck (tK (bts P) z p) ∧ ck (tK (bts P) z p) ≤ 4 := by
      unfold ck
      split
      · omega
      · try rw [if_neg cw]
        split
        · omega
        · split <;> omega
    rw [i_eq_f (by omega), bi_f (by omega)]
    rfl
end TX
