/-! alone: told apart from both programs -/
theorem EqL.rf (l : Ld) : EqL l l := fun _ _ _ _ => rfl
theorem EqL.tr {l m k : Ld} (h1 : EqL l m) (h2 : EqL m k) : EqL l k := fun a i ha hi => (h2 a i ha hi).trans (h1 a i ha hi)
theorem EqL.up {l m : Ld} (h : EqL l m) (k i : Nat) (x : Int) : EqL (up2 l k i x) (up2 m k i x) := fun a j ha hj => by
  by_cases e : a = k ∧ j = i
  · obtain ⟨rfl, rfl⟩ := e
    rw [up2_s, up2_s]
  · rw [up2_n e, up2_n e]
    exact h a j ha hj
theorem ln_h {k : Nat} (h0 : k ≠ 0) (h7 : k < 7) : lnL k = 10 := by unfold lnL; rw [if_neg h0, if_pos h7]
theorem ln_r {k : Nat} (h7 : 7 ≤ k) (h10 : k < 10) : lnL k = 16 := by unfold lnL; rw [if_neg (by omega), if_neg (by omega), if_pos h10]
theorem ln_b {k : Nat} (h10 : 10 ≤ k) : lnL k = 32 := by unfold lnL; rw [if_neg (by omega), if_neg (by omega), if_neg (by omega)]
theorem EqL.h {l m : Ld} (h : EqL l m) {k i : Nat} (h0 : k ≠ 0) (h7 : k < 7) (hi : i < 10) : m k i = l k i := h k i (by omega) (by rw [ln_h h0 h7]; exact hi)
theorem EqL.r {l m : Ld} (h : EqL l m) {k i : Nat} (h7 : 7 ≤ k) (h10 : k < 10) (hi : i < 16) : m k i = l k i := h k i (by omega) (by rw [ln_r h7 h10]; exact hi)
theorem EqL.b {l m : Ld} (h : EqL l m) {k i : Nat} (h10 : 10 ≤ k) (hk : k ≤ 12) (hi : i < 32) : m k i = l k i := h k i hk (by rw [ln_b h10]; exact hi)
section EQ
variable {l m : Ld}
theorem EqL.db (h : EqL l m) (hk : okL l) {r : Nat} (hr : (r : Int) < l 0 1) (x y : Int) : dbL m r x y = dbL l r x y := by
  have hz := hk.1
  have g1 := hk.2.2.2 (2 * r) (by omega)
  have g2 := hk.2.2.2 (2 * r + 1) (by omega)
  unfold dbL dfL plL wtL
  rw [h.z (i := 4) (by decide), h.z (i := 3) (by decide), h.r (k := 8) (i := r) (by decide) (by decide) (by omega), h.r (k := 7) (i := r) (by decide) (by decide) (by omega), h.b (k := 10) (i := 2 * r) (by decide) (by decide) (by omega), h.b (k := 10) (i := 2 * r + 1) (by decide) (by decide) (by omega), h.b (k := 11) (i := 2 * r) (by decide) (by decide) (by omega), h.b (k := 11) (i := 2 * r + 1) (by decide) (by decide) (by omega), h.b (k := 12) (i := 2 * r) (by decide) (by decide) (by omega), h.b (k := 12) (i := 2 * r + 1) (by decide) (by decide) (by omega), h.h (k := 1) (i := (l 10 (2 * r)).toNat) (by decide) (by decide) (by omega), h.h (k := 1) (i := (l 10 (2 * r + 1)).toNat) (by decide) (by decide) (by omega)]
theorem EqL.dp (h : EqL l m) (hk : okL l) {b : Nat} (hb : (b : Int) < 2 * l 0 1) : dpL m b = dpL l b := by
  have hz := hk.1
  unfold dpL
  rw [h.r (k := 8) (i := b / 2) (by decide) (by decide) (by omega), h.r (k := 7) (i := b / 2) (by decide) (by decide) (by omega)]
theorem EqL.mv (h : EqL l m) (hk : okL l) (p : Nat → Int) {r : Nat} (hr : (r : Int) < l 0 1) : EqL (mvS p r l) (mvS p r m) := by
  have hz := hk.1
  unfold mvS
  rw [h.r (k := 9) (i := r) (by decide) (by decide) (by omega), h.b (k := 10) (i := 2 * r) (by decide) (by decide) (by omega), h.b (k := 10) (i := 2 * r + 1) (by decide) (by decide) (by omega), h.db hk hr]
  by_cases c : l 9 r = 0
  · rw [if_pos c, if_pos c]; exact h.up _ _ _
  · rw [if_neg c, if_neg c]; exact h
theorem EqL.fl (h : EqL l m) (hk : okL l) {b : Nat} (hb : (b : Int) < 2 * l 0 1) : EqL (flS b l) (flS b m) := by
  have hz := hk.1
  have g := hk.2.2.2 b hb
  unfold flS
  rw [h.r (k := 9) (i := b / 2) (by decide) (by decide) (by omega), h.b (k := 12) (i := b) (by decide) (by decide) (by omega), h.b (k := 10) (i := b) (by decide) (by decide) (by omega), h.h (k := 3) (i := (l 10 b).toNat) (by decide) (by decide) (by omega), h.h (k := 2) (i := (l 10 b).toNat) (by decide) (by decide) (by omega), h.dp hk hb]
  by_cases c : l 9 (b / 2) = 0 ∧ l 12 b = 0 ∧ 0 < l 3 (l 10 b).toNat ∧ l 2 (l 10 b).toNat ≤ dpL l b
  · rw [if_pos c, if_pos c]; exact (h.up _ _ _).up _ _ _
  · rw [if_neg c, if_neg c]; exact h
theorem EqL.dr {s t : Ld × Int} (h : EqL s.1 t.1) (e : s.2 = t.2) (hk : okL s.1) {b : Nat} (hb : (b : Int) < 2 * s.1 0 1) : EqL (drS b s).1 (drS b t).1 ∧ (drS b s).2 = (drS b t).2 := by
  have hz := hk.1
  have g := hk.2.2.2 b hb
  unfold drS thL
  rw [h.r (k := 9) (i := b / 2) (by decide) (by decide) (by omega), h.b (k := 12) (i := b) (by decide) (by decide) (by omega), h.b (k := 10) (i := b) (by decide) (by decide) (by omega), h.dp hk hb, h.h (k := 4) (i := (s.1 10 b).toNat) (by decide) (by decide) (by omega), h.z (i := 2) (by decide), h.h (k := 5) (i := (s.1 10 b).toNat) (by decide) (by decide) (by omega), h.h (k := 6) (i := (s.1 10 b).toNat) (by decide) (by decide) (by omega)]
  by_cases c : s.1 9 (b / 2) = 0 ∧ s.1 12 b ≠ 0 ∧ dpL s.1 b = 0
  · rw [if_pos c, if_pos c]
    by_cases c2 : eq32 (oAnd (oShr (s.1 4 (s.1 10 b).toNat) (oRem (s.1 0 2) 12)) 1) 1
    · rw [if_pos c2, if_pos c2]
      exact ⟨(h.up _ _ _).up _ _ _, by rw [e]⟩
    · rw [if_neg c2, if_neg c2]
      exact ⟨(h.up _ _ _).up _ _ _, by rw [e]⟩
  · rw [if_neg c, if_neg c]
    exact ⟨h, e⟩
theorem EqL.go (h : EqL l m) (hk : okL l) (p : Nat → Int) : EqL (goL p l).1 (goL p m).1 := by
  have hz := hk.1
  have e1 : m 0 1 = l 0 1 := h.z (by decide)
  have hmv : EqL (mvL p l) (mvL p m) := by
    unfold mvL
    rw [e1]
    have := itr_rel (step := mvS p) (step' := mvS p) (P := fun _ a b => EqL a b ∧ okL a ∧ a 0 1 = l 0 1) (l 0 1).toNat 0 l m ⟨h, hk, rfl⟩ (fun j a b _ hj hab => ⟨hab.1.mv hab.2.1 p (by omega), mvS_ok p hab.2.1 (by omega), ((mvS_fx p j a).1 1 (by decide)).trans hab.2.2⟩)
    exact this.1
  have okm := (mvL_ok p hk)
  have e2 : mvL p l 0 1 = l 0 1 := okm.2.1 1 (by decide)
  have hfl : EqL (flL (mvL p l)) (flL (mvL p m)) := by
    have e3 : mvL p m 0 1 = mvL p l 0 1 := hmv.z (by decide)
    unfold flL
    rw [e3]
    have := itr_rel (step := flS) (step' := flS) (P := fun _ a b => EqL a b ∧ okL a ∧ a 0 1 = mvL p l 0 1) (2 * (mvL p l 0 1).toNat) 0 (mvL p l) (mvL p m) ⟨hmv, okm.1, rfl⟩ (fun j a b _ hj hab => ⟨hab.1.fl hab.2.1 (by have := hab.2.1.1; omega), flS_ok hab.2.1 (by have := hab.2.1.1; omega), ((flS_fx j a).1 1 (by decide)).trans hab.2.2⟩)
    exact this.1
  have okf := flL_ok okm.1
  have hdr : EqL (drL (flL (mvL p l))).1 (drL (flL (mvL p m))).1 := by
    have e3 : flL (mvL p m) 0 1 = flL (mvL p l) 0 1 := hfl.z (by decide)
    unfold drL
    rw [e3]
    have := itr_rel (step := drS) (step' := drS) (P := fun _ (a b : Ld × Int) => EqL a.1 b.1 ∧ a.2 = b.2 ∧ okL a.1 ∧ a.1 0 1 = flL (mvL p l) 0 1) (2 * (flL (mvL p l) 0 1).toNat) 0 (flL (mvL p l), 0) (flL (mvL p m), 0) ⟨hfl, rfl, okf.1, rfl⟩ (fun j a b _ hj hab => ⟨(EqL.dr hab.1 hab.2.1 hab.2.2.1 (by have := hab.2.2.1.1; omega)).1, (EqL.dr hab.1 hab.2.1 hab.2.2.1 (by have := hab.2.2.1.1; omega)).2, drS_ok hab.2.2.1 (by have := hab.2.2.1.1; omega), ((drS_fx j a).1 1 (by decide)).trans hab.2.2.2⟩)
    exact this.1
  have h2 : (drL (flL (mvL p m))).1 0 2 = (drL (flL (mvL p l))).1 0 2 := hdr.z (by decide)
  unfold goL
  dsimp only
  rw [h2]
  by_cases c : (drL (flL (mvL p l))).1 0 2 < 9999
  · rw [if_pos c, if_pos c]; exact hdr.up _ _ _
  · rw [if_neg c, if_neg c]; exact hdr
end EQ
def pl1 (h : Nat) (q : Int) : Nat → Int := upA (fun _ => -1) h q
abbrev Am : Type := Int × (Nat → Int)
noncomputable def aF (h : Nat) (H0 : Int) (R : Nat) : Nat → Nat → Ld → (Nat → Int) → Am → Am
  | 0, _, l, row, M => if M.1 < hd l h - H0 then (hd l h - H0, row) else M
  | d + 1, k, l, row, M => itr (fun i M => @ite Am (awL l h i) (Classical.propDecidable _) (aF h H0 R d (k + 1) (goL (pl1 h ((i : Int) - 1)) l).1 (upA row k ((i : Int) - 1)) M) M) 0 (R + 1) M
/-- no row brings more than that -/
def lvB (h : Nat) (H0 : Int) (R : Nat) : Nat → Ld → Int → Prop
  | 0, l, X => hd l h - H0 ≤ X
  | d + 1, l, X => ∀ i : Nat, i ≤ R → awL l h i → lvB h H0 R d (goL (pl1 h ((i : Int) - 1)) l).1 X
theorem lvB_mono {h R : Nat} {H0 X Y : Int} (hXY : X ≤ Y) : ∀ (d : Nat) (l : Ld), lvB h H0 R d l X → lvB h H0 R d l Y
  | 0, l, z => Int.le_trans z hXY
  | d + 1, l, z => fun i hi ha => lvB_mono hXY d _ (z i hi ha)
theorem aF_ge {h R : Nat} {H0 : Int} : ∀ (d k : Nat) (l : Ld) (row : Nat → Int) (M : Am), M.1 ≤ (aF h H0 R d k l row M).1
  | 0, k, l, row, M => by
    show M.1 ≤ (if M.1 < hd l h - H0 then (hd l h - H0, row) else M).1
    by_cases c : M.1 < hd l h - H0
    · rw [if_pos c]; dsimp only; omega
    · rw [if_neg c]; exact Int.le_refl _
  | d + 1, k, l, row, M => by
    have := itr_inv (step := fun i M => @ite Am (awL l h i) (Classical.propDecidable _) (aF h H0 R d (k + 1) (goL (pl1 h ((i : Int) - 1)) l).1 (upA row k ((i : Int) - 1)) M) M) (P := fun _ (C : Am) => M.1 ≤ C.1) (R + 1) 0 M (Int.le_refl _) (fun j C _ _ hC => by
      try dsimp only
      by_cases c : awL l h j
      · rw [if_pos c]; exact Int.le_trans hC (aF_ge d (k + 1) _ _ C)
      · rw [if_neg c]; exact hC)
    exact this
theorem aF_lv {h R : Nat} {H0 : Int} : ∀ (d k : Nat) (l : Ld) (row : Nat → Int) (M : Am), lvB h H0 R d l (aF h H0 R d k l row M).1
  | 0, k, l, row, M => by
    show hd l h - H0 ≤ (if M.1 < hd l h - H0 then (hd l h - H0, row) else M).1
    by_cases c : M.1 < hd l h - H0
    · rw [if_pos c]; exact Int.le_refl _
    · rw [if_neg c]; omega
  | d + 1, k, l, row, M => by
    have := itr_inv (step := fun i M => @ite Am (awL l h i) (Classical.propDecidable _) (aF h H0 R d (k + 1) (goL (pl1 h ((i : Int) - 1)) l).1 (upA row k ((i : Int) - 1)) M) M) (P := fun j (C : Am) => ∀ i : Nat, i < j → awL l h i → lvB h H0 R d (goL (pl1 h ((i : Int) - 1)) l).1 C.1) (R + 1) 0 M (fun i hi => by omega) (fun j C _ _ hC i hi ha => by
      try dsimp only
      by_cases c : awL l h j
      · rw [if_pos c]
        by_cases e : i = j
        · subst e; exact aF_lv d (k + 1) _ _ C
        · exact lvB_mono (aF_ge d (k + 1) _ _ C) d _ (hC i (by omega) ha)
      · rw [if_neg c]
        by_cases e : i = j
        · subst e; exact absurd ha c
        · exact hC i (by omega) ha)
    exact fun i hi => this i (by omega)
theorem aF_no {h R : Nat} {H0 : Int} : ∀ (d k : Nat) (l : Ld) (row : Nat → Int) (M : Am), lvB h H0 R d l M.1 → aF h H0 R d k l row M = M
  | 0, k, l, row, M, z => by
    have z : hd l h - H0 ≤ M.1 := z
    exact if_neg (by omega)
  | d + 1, k, l, row, M, z => by
    have key : ∀ (c j : Nat), j + c ≤ R + 1 → itr (fun i M => @ite Am (awL l h i) (Classical.propDecidable _) (aF h H0 R d (k + 1) (goL (pl1 h ((i : Int) - 1)) l).1 (upA row k ((i : Int) - 1)) M) M) j c M = M := by
      intro c
      induction c with
      | zero => intro j _; rfl
      | succ c ih =>
        intro j hj
        show itr _ (j + 1) c _ = M
        have e : @ite Am (awL l h j) (Classical.propDecidable _) (aF h H0 R d (k + 1) (goL (pl1 h ((j : Int) - 1)) l).1 (upA row k ((j : Int) - 1)) M) M = M := by
          by_cases a : awL l h j
          · rw [if_pos a]; exact aF_no d (k + 1) _ _ M (z j (by omega) a)
          · rw [if_neg a]
        dsimp only
        rw [e]
        exact ih (j + 1) (by omega)
    exact key (R + 1) 0 (by omega)
