/-! alone: no more can come than time and water allow -/
theorem sm_upd {f g : Nat → Int} {j : Nat} : ∀ n : Nat, j < n → (∀ i : Nat, i < n → i ≠ j → f i = g i) → sm f n - f j = sm g n - g j
  | 0, hj, _ => by omega
  | n + 1, hj, h => by
    show sm f n + f n - f j = sm g n + g n - g j
    by_cases e : j = n
    · subst e
      rw [sm_cg (f := f) (g := g) j (fun i hi => h i (by omega) (by omega))]
      omega
    · have ih := sm_upd n (by omega) (fun i hi ne => h i (by omega) ne)
      have := h n (by omega) (fun z => e z.symm)
      omega
def own (l : Ld) (h b : Nat) : Prop := l 10 b = (h : Int) ∧ l 9 (b / 2) = 0
noncomputable def ifo (l : Ld) (h b : Nat) (x : Int) : Int := @ite Int (own l h b) (Classical.propDecidable _) x 0
theorem ifo_t {l : Ld} {h b : Nat} {x : Int} (g : own l h b) : ifo l h b x = x := if_pos g
theorem ifo_f {l : Ld} {h b : Nat} {x : Int} (g : ¬ own l h b) : ifo l h b x = 0 := if_neg g
noncomputable def mtT (l : Ld) (h R2 : Nat) (d : Int) : Int := sm (fun b => ifo l h b ((d + l 12 b) / 2)) R2
noncomputable def mtW (l : Ld) (h R2 : Nat) : Int := l 3 h + sm (fun b => ifo l h b (l 12 b)) R2
theorem own_fx {l m : Ld} (f : fxL l m) (h b : Nat) : own m h b ↔ own l h b := by
  unfold own
  rw [f.2.2.2.2.2.1, f.2.2.2.2.2.2.1]
theorem ifo_fx {l m : Ld} (f : fxL l m) (h b : Nat) (x : Int) : ifo m h b x = ifo l h b x := by
  by_cases c : own l h b
  · rw [ifo_t c, ifo_t ((own_fx f h b).mpr c)]
  · rw [ifo_f c, ifo_f (fun z => c ((own_fx f h b).mp z))]
section BD
variable {l : Ld}
/-- filling takes from the stock what it lays into buckets -/
theorem flS_W (hk : okL l) {h b R2 : Nat} (hb : b < R2) (hb2 : (b : Int) < 2 * l 0 1) : mtW (flS b l) h R2 = mtW l h R2 := by
  have g := hk.2.2.2 b hb2
  by_cases c : l 9 (b / 2) = 0 ∧ l 12 b = 0 ∧ 0 < l 3 (l 10 b).toNat ∧ l 2 (l 10 b).toNat ≤ dpL l b
  · have e : flS b l = up2 (up2 l 12 b 1) 3 (l 10 b).toNat (l 3 (l 10 b).toNat - 1) := if_pos c
    have fx := flS_fx b l
    unfold mtW
    rw [sm_cg (g := fun i => ifo l h i (flS b l 12 i)) R2 (fun i _ => ifo_fx fx h i _)]
    have su := sm_upd (f := fun i => ifo l h i (flS b l 12 i)) (g := fun i => ifo l h i (l 12 i)) (j := b) R2 hb (fun i _ ne => by
      try dsimp only
      rw [e, up2_row (by decide), up2_n (by omega)])
    try dsimp only at su
    have eb : flS b l 12 b = 1 := by rw [e, up2_row (by decide), up2_s]
    by_cases o : own l h b
    · rw [ifo_t o, ifo_t o, eb, c.2.1] at su
      have eh : (l 10 b).toNat = h := by have := o.1; omega
      have e3 : flS b l 3 h = l 3 h - 1 := by rw [e, eh, up2_s]
      rw [e3]
      omega
    · rw [ifo_f o, ifo_f o] at su
      have eh : (l 10 b).toNat ≠ h := fun z => o ⟨by omega, c.1⟩
      have e3 : flS b l 3 h = l 3 h := by rw [e, up2_n (by omega), up2_row (by decide)]
      rw [e3]
      omega
  · have e : flS b l = l := if_neg c
    rw [e]
/-- drinking: what a house has grows by what its buckets lose -/
theorem drS_W {s : Ld × Int} (hk : okL s.1) {h b R2 : Nat} (hb : b < R2) (hb2 : (b : Int) < 2 * s.1 0 1) : hd (drS b s).1 h + mtW (drS b s).1 h R2 = hd s.1 h + mtW s.1 h R2 ∧ (∀ i : Nat, i ≠ b → (drS b s).1 12 i = s.1 12 i) ∧ ((own s.1 h b ∧ s.1 12 b = 1 ∧ dpL s.1 b = 0 ∧ (drS b s).1 12 b = 0 ∧ hd (drS b s).1 h = hd s.1 h + 1) ∨ (¬ (own s.1 h b ∧ s.1 12 b = 1 ∧ dpL s.1 b = 0) ∧ hd (drS b s).1 h = hd s.1 h ∧ (own s.1 h b → (drS b s).1 12 b = s.1 12 b))) := by
  have g := hk.2.2.2 b hb2
  by_cases c : s.1 9 (b / 2) = 0 ∧ s.1 12 b ≠ 0 ∧ dpL s.1 b = 0
  · have e12 : s.1 12 b = 1 := by omega
    have fx := drS_fx b s
    have e : ∃ k : Nat, (k = 5 ∨ k = 6) ∧ (drS b s).1 = up2 (up2 s.1 12 b 0) k (s.1 10 b).toNat (s.1 k (s.1 10 b).toNat + 1) := by
      unfold drS
      rw [if_pos c]
      by_cases t : thL s.1 (s.1 10 b).toNat
      · rw [if_pos t]; exact ⟨5, Or.inl rfl, rfl⟩
      · rw [if_neg t]; exact ⟨6, Or.inr rfl, rfl⟩
    obtain ⟨k, hk5, e⟩ := e
    have eb : (drS b s).1 12 b = 0 := by rw [e, up2_row (by omega), up2_s]
    have ei : ∀ i : Nat, i ≠ b → (drS b s).1 12 i = s.1 12 i := fun i ne => by rw [e, up2_row (by omega), up2_n (by omega)]
    have e3 : (drS b s).1 3 h = s.1 3 h := by rw [e, up2_row (by omega), up2_row (by decide)]
    have su := sm_upd (f := fun i => ifo s.1 h i ((drS b s).1 12 i)) (g := fun i => ifo s.1 h i (s.1 12 i)) (j := b) R2 hb (fun i _ ne => by
      try dsimp only
      rw [ei i ne])
    try dsimp only at su
    have hw : mtW (drS b s).1 h R2 = s.1 3 h + sm (fun i => ifo s.1 h i ((drS b s).1 12 i)) R2 := by
      unfold mtW
      rw [e3, sm_cg (g := fun i => ifo s.1 h i ((drS b s).1 12 i)) R2 (fun i _ => ifo_fx fx h i _)]
    have hw0 : mtW s.1 h R2 = s.1 3 h + sm (fun i => ifo s.1 h i (s.1 12 i)) R2 := rfl
    by_cases o : own s.1 h b
    · rw [ifo_t o, ifo_t o, eb, e12] at su
      have eh : (s.1 10 b).toNat = h := by have := o.1; omega
      have eH : hd (drS b s).1 h = hd s.1 h + 1 := by
        unfold hd
        rw [e, eh]
        rcases hk5 with rfl | rfl
        · rw [up2_s, up2_row (by decide), up2_row (by decide)]; omega
        · rw [up2_s, up2_row (show (5 : Nat) ≠ 6 by decide), up2_row (show (5 : Nat) ≠ 12 by decide)]; omega
      exact ⟨by rw [hw, hw0, eH]; omega, ei, Or.inl ⟨o, e12, c.2.2, eb, eH⟩⟩
    · rw [ifo_f o, ifo_f o] at su
      have eh : (s.1 10 b).toNat ≠ h := fun z => o ⟨by omega, c.1⟩
      have eH : hd (drS b s).1 h = hd s.1 h := by
        unfold hd
        rw [e]
        rcases hk5 with rfl | rfl
        · rw [up2_n (by omega), up2_row (by decide), up2_row (by decide), up2_row (by decide)]
        · rw [up2_row (show (5 : Nat) ≠ 6 by decide), up2_row (show (5 : Nat) ≠ 12 by decide), up2_n (by omega), up2_row (by decide)]
      exact ⟨by rw [hw, hw0, eH]; omega, ei, Or.inr ⟨fun z => o z.1, eH, fun z => absurd z o⟩⟩
  · have e : drS b s = s := if_neg c
    rw [e]
    refine ⟨rfl, fun _ _ => rfl, Or.inr ⟨fun z => c ⟨z.1.2, by omega, z.2.2⟩, rfl, fun _ => rfl⟩⟩
theorem flL_12 (hk : okL l) {b : Nat} (hb : (b : Int) < 2 * l 0 1) : flL l 12 b = l 12 b ∨ (l 12 b = 0 ∧ flL l 12 b = 1 ∧ dpL (flL l) b ≠ 0) := by
  have hz := hk.1
  have main := itr_inv (step := flS) (P := fun j m => okL m ∧ fxL l m ∧ m 8 = l 8 ∧ (∀ i : Nat, j ≤ i → m 12 i = l 12 i) ∧ ∀ i : Nat, i < j → (i : Int) < 2 * l 0 1 → m 12 i = l 12 i ∨ (l 12 i = 0 ∧ m 12 i = 1 ∧ dpL l i ≠ 0)) (2 * (l 0 1).toNat) 0 l ⟨hk, fxL.rf, rfl, fun _ _ => rfl, fun i hi => by omega⟩ (fun j m _ hj hm => by
    obtain ⟨ok, fx, e8, h1, h2⟩ := hm
    have e01 : m 0 1 = l 0 1 := fx.1 1 (by decide)
    have hj2 : (j : Int) < 2 * m 0 1 := by omega
    refine ⟨flS_ok ok hj2, fx.tr (flS_fx j m), ?_, fun i hi => ?_, fun i hi hi2 => ?_⟩
    · unfold flS
      split
      · rw [up2_row (by decide), up2_row (by decide)]; exact e8
      · exact e8
    · unfold flS
      split
      · rw [up2_row (by decide), up2_n (by omega)]; exact h1 i (by omega)
      · exact h1 i (by omega)
    · by_cases ei : i = j
      · subst ei
        unfold flS
        by_cases c : m 9 (i / 2) = 0 ∧ m 12 i = 0 ∧ 0 < m 3 (m 10 i).toNat ∧ m 2 (m 10 i).toNat ≤ dpL m i
        · rw [if_pos c, up2_row (by decide), up2_s]
          right
          have g := ok.2.2.2 i hj2
          have g2 := ok.2.1 (m 10 i).toNat (by omega)
          have ed : dpL m i = dpL l i := by unfold dpL; rw [e8, fx.2.2.2.2.1]
          refine ⟨by rw [← h1 i (Nat.le_refl _)]; exact c.2.1, rfl, ?_⟩
          have := c.2.2.2
          omega
        · rw [if_neg c]; exact Or.inl (h1 i (Nat.le_refl _))
      · have o := h2 i (by omega) hi2
        have e : flS j m 12 i = m 12 i := by
          unfold flS
          split
          · rw [up2_row (by decide), up2_n (by omega)]
          · rfl
        rw [e]; exact o)
  obtain ⟨-, fx, e8, -, h2⟩ := main
  rw [Nat.zero_add] at h2
  have ed : dpL (flL l) b = dpL l b := by
    show dpL (itr flS 0 (2 * (l 0 1).toNat) l) b = _
    unfold dpL; rw [e8, fx.2.2.2.2.1]
  rw [ed]
  exact h2 b (by omega) hb
/-- an hour: what the house has, with what can come yet, doesn't grow -/
theorem goL_bd (hk : okL l) {h : Nat} (hh : (h : Int) < l 0 0) (p : Nat → Int) {d : Int} (hd0 : 0 ≤ d) : hd (goL p l).1 h + mtT (goL p l).1 h (2 * (l 0 1).toNat) d ≤ hd l h + mtT l h (2 * (l 0 1).toNat) (d + 1) ∧ hd (goL p l).1 h + mtW (goL p l).1 h (2 * (l 0 1).toNat) = hd l h + mtW l h (2 * (l 0 1).toNat) := by
  have hz := hk.1
  obtain ⟨ok1, fx1⟩ := mvL_ok p hk
  obtain ⟨ok2, fx2⟩ := flL_ok ok1
  -- moving changes depths alone
  have mv12 : mvL p l 12 = l 12 ∧ mvL p l 3 = l 3 ∧ mvL p l 5 = l 5 ∧ mvL p l 6 = l 6 := by
    have := itr_inv (step := mvS p) (P := fun _ m => m 12 = l 12 ∧ m 3 = l 3 ∧ m 5 = l 5 ∧ m 6 = l 6) (l 0 1).toNat 0 l ⟨rfl, rfl, rfl, rfl⟩ (fun j m _ _ hm => by
      unfold mvS
      split
      · rw [up2_row (by decide), up2_row (by decide), up2_row (by decide), up2_row (by decide)]; exact hm
      · exact hm)
    exact this
  have e01 : mvL p l 0 1 = l 0 1 := fx1.1 1 (by decide)
  have f01 : flL (mvL p l) 0 1 = l 0 1 := (fx2.1 1 (by decide)).trans e01
  have W1 : mtW (mvL p l) h (2 * (l 0 1).toNat) = mtW l h (2 * (l 0 1).toNat) := by
    unfold mtW
    rw [mv12.2.1, sm_cg (g := fun b => ifo l h b (l 12 b)) _ (fun i _ => by rw [ifo_fx fx1, mv12.1])]
  have H1 : hd (mvL p l) h = hd l h := by unfold hd; rw [mv12.2.2.1, mv12.2.2.2]
  -- filling
  have fl := itr_inv (step := flS) (P := fun _ m => okL m ∧ m 0 1 = l 0 1 ∧ mtW m h (2 * (l 0 1).toNat) = mtW l h (2 * (l 0 1).toNat) ∧ hd m h = hd l h) (2 * (mvL p l 0 1).toNat) 0 (mvL p l) ⟨ok1, e01, W1, H1⟩ (fun j m _ hj hm => by
    have hj2 : (j : Int) < 2 * m 0 1 := by omega
    refine ⟨flS_ok hm.1 hj2, ((flS_fx j m).1 1 (by decide)).trans hm.2.1, (flS_W hm.1 (by omega) hj2).trans hm.2.2.1, ?_⟩
    have q := flS_q j m
    unfold hd
    rw [q.1, q.2.1]
    exact hm.2.2.2)
  have W2 : mtW (flL (mvL p l)) h (2 * (l 0 1).toNat) = mtW l h (2 * (l 0 1).toNat) := fl.2.2.1
  have H2 : hd (flL (mvL p l)) h = hd l h := fl.2.2.2
  -- drinking
  have f12 := fun (b : Nat) (hb : (b : Int) < 2 * l 0 1) => flL_12 ok1 (b := b) (by rw [e01]; exact hb)
  generalize hm2 : flL (mvL p l) = m2 at *
  have fx02 : fxL l m2 := fx1.tr fx2
  -- what a bucket may still bring before it is drunk from
  generalize hX : (fun b : Nat => ifo l h b (@ite Int (m2 12 b = 1 ∧ dpL m2 b = 0) (Classical.propDecidable _) (1 + d / 2) ((d + m2 12 b) / 2))) = X
  have dr := itr_inv (step := drS) (P := fun j (z : Ld × Int) => okL z.1 ∧ fxL l z.1 ∧ z.1 0 = m2 0 ∧ z.1 8 = m2 8 ∧ hd z.1 h + mtW z.1 h (2 * (l 0 1).toNat) = hd l h + mtW l h (2 * (l 0 1).toNat) ∧ (∀ i : Nat, j ≤ i → z.1 12 i = m2 12 i) ∧ hd z.1 h + sm (fun b => if b < j then ifo l h b ((d + z.1 12 b) / 2) else X b) (2 * (l 0 1).toNat) = hd l h + sm X (2 * (l 0 1).toNat)) (2 * (m2 0 1).toNat) 0 (m2, 0) ⟨ok2, fx02, rfl, rfl, by dsimp only; rw [W2, H2], fun _ _ => rfl, by dsimp only; rw [H2, sm_cg (g := X) _ (fun i _ => if_neg (by omega))]⟩ (fun j z _ hj hz' => by
    obtain ⟨ok, fx, ez0, ez8, hW, hr12, hS⟩ := hz'
    have z01 : z.1 0 1 = l 0 1 := fx.1 1 (by decide)
    have hj2 : (j : Int) < 2 * z.1 0 1 := by omega
    obtain ⟨w1, w2, w3⟩ := drS_W (s := z) (h := h) ok (R2 := 2 * (l 0 1).toNat) (b := j) (by omega) hj2
    have gj := ok.2.2.2 j hj2
    have ed : dpL z.1 j = dpL m2 j := by unfold dpL; rw [ez8, fx.2.2.2.2.1, fx02.2.2.2.2.1]
    have e12 := hr12 j (Nat.le_refl _)
    refine ⟨drS_ok ok hj2, fx.tr (drS_fx j z), (drS_0 j z).trans ez0, ?_, w1.trans hW, fun i hi => by rw [w2 i (by omega)]; exact hr12 i (by omega), ?_⟩
    · unfold drS
      split
      · split
        · show up2 (up2 z.1 12 j 0) 5 (z.1 10 j).toNat (z.1 5 (z.1 10 j).toNat + 1) 8 = _
          rw [up2_row (by decide), up2_row (by decide)]; exact ez8
        · show up2 (up2 z.1 12 j 0) 6 (z.1 10 j).toNat (z.1 6 (z.1 10 j).toNat + 1) 8 = _
          rw [up2_row (by decide), up2_row (by decide)]; exact ez8
      · exact ez8
    · have su := sm_upd (f := fun b => if b < j + 1 then ifo l h b ((d + (drS j z).1 12 b) / 2) else X b) (g := fun b => if b < j then ifo l h b ((d + z.1 12 b) / 2) else X b) (j := j) (2 * (l 0 1).toNat) (by omega) (fun i _ ne => by
        try dsimp only
        by_cases lt : i < j
        · rw [if_pos (by omega), if_pos lt, w2 i ne]
        · rw [if_neg (by omega), if_neg lt])
      try dsimp only at su
      rw [if_pos (by omega), if_neg (by omega)] at su
      have oE : own z.1 h j ↔ own l h j := own_fx fx h j
      have xj : X j = ifo l h j (@ite Int (m2 12 j = 1 ∧ dpL m2 j = 0) (Classical.propDecidable _) (1 + d / 2) ((d + m2 12 j) / 2)) := by rw [← hX]
      rcases w3 with ⟨o, q1, q2, q3, q4⟩ | ⟨no, q1, q2⟩
      · rw [ifo_t (oE.mp o), q3] at su
        rw [xj, ifo_t (oE.mp o), if_pos ⟨by omega, by omega⟩] at su
        omega
      · by_cases o : own l h j
        · have q3 := q2 (oE.mpr o)
          rw [ifo_t o, q3, e12] at su
          rw [xj, ifo_t o, if_neg (fun w => no ⟨oE.mpr o, by omega, by omega⟩)] at su
          omega
        · rw [ifo_f o] at su
          rw [xj, ifo_f o] at su
          omega)
  rw [Nat.zero_add] at dr
  obtain ⟨okd, fxd, -, -, dW, -, dS⟩ := dr
  have e3 : (drL m2).1 = (itr drS 0 (2 * (m2 0 1).toNat) (m2, 0)).1 := rfl
  rw [← e3] at okd fxd dW dS
  have hg : ∀ k : Nat, k ≠ 0 → (goL p l).1 k = (drL m2).1 k := fun k hk0 => by
    show (if (drL (flL (mvL p l))).1 0 2 < 9999 then up2 (drL (flL (mvL p l))).1 0 2 ((drL (flL (mvL p l))).1 0 2 + 1) else (drL (flL (mvL p l))).1) k = _
    rw [hm2]
    split
    · exact up2_row hk0
    · rfl
  have fg : fxL l (goL p l).1 := (goL_ok p hk).2
  have Hg : hd (goL p l).1 h = hd (drL m2).1 h := by unfold hd; rw [hg 5 (by decide), hg 6 (by decide)]
  refine ⟨?_, ?_⟩
  · have tg : mtT (goL p l).1 h (2 * (l 0 1).toNat) d = sm (fun b => if b < 2 * (m2 0 1).toNat then ifo l h b ((d + (drL m2).1 12 b) / 2) else X b) (2 * (l 0 1).toNat) := by
      unfold mtT
      refine sm_cg _ (fun i hi => ?_)
      rw [if_pos (by omega), ifo_fx fg, hg 12 (by decide)]
    rw [tg, Hg, dS]
    have le : sm X (2 * (l 0 1).toNat) ≤ mtT l h (2 * (l 0 1).toNat) (d + 1) := by
      unfold mtT
      have term : ∀ i : Nat, i < 2 * (l 0 1).toNat → 0 ≤ ifo l h i ((d + 1 + l 12 i) / 2) - X i := fun i hi => by
        have hi2 : (i : Int) < 2 * l 0 1 := by omega
        have g0 := hk.2.2.2 i hi2
        have g2 := ok2.2.2.2 i (by omega)
        have g3 := f12 i hi2
        rw [mv12.1] at g3
        rw [← hX]
        try dsimp only
        by_cases o : own l h i
        · rw [ifo_t o, ifo_t o]
          by_cases cc : m2 12 i = 1 ∧ dpL m2 i = 0
          · rw [if_pos cc]
            rcases g3 with z | ⟨-, -, z⟩
            · omega
            · exact absurd cc.2 z
          · rw [if_neg cc]
            rcases g3 with z | ⟨z1, z2, -⟩ <;> omega
        · rw [ifo_f o, ifo_f o]; omega
      have s1 := sm_nn _ term
      have s2 := sm_add (fun i => ifo l h i ((d + 1 + l 12 i) / 2) - X i) X (2 * (l 0 1).toNat)
      have s3 := sm_cg (f := fun i => (ifo l h i ((d + 1 + l 12 i) / 2) - X i) + X i) (g := fun i => ifo l h i ((d + 1 + l 12 i) / 2)) (2 * (l 0 1).toNat) (fun i _ => by (try dsimp only); omega)
      omega
    omega
  · have wg : mtW (goL p l).1 h (2 * (l 0 1).toNat) = mtW (drL m2).1 h (2 * (l 0 1).toNat) := by
      unfold mtW
      rw [hg 3 (by decide), sm_cg (g := fun b => ifo (drL m2).1 h b ((drL m2).1 12 b)) _ (fun i _ => by rw [ifo_fx fg, ifo_fx fxd, hg 12 (by decide)])]
    rw [wg, Hg]
    exact dW
theorem lv_bd {h R : Nat} {H0 : Int} : ∀ (d : Nat) (l : Ld), okL l → (h : Int) < l 0 0 → lvB h H0 R d l (hd l h - H0 + min (mtT l h (2 * (l 0 1).toNat) d) (mtW l h (2 * (l 0 1).toNat)))
  | 0, l, hk, hh => by
    have hz := hk.1
    show hd l h - H0 ≤ _
    have t0 : 0 ≤ mtT l h (2 * (l 0 1).toNat) ((0 : Nat) : Int) := sm_nn _ (fun i hi => by
      have g := hk.2.2.2 i (by omega)
      by_cases o : own l h i
      · rw [ifo_t o]; omega
      · rw [ifo_f o]; omega)
    have w0 : 0 ≤ mtW l h (2 * (l 0 1).toNat) := by
      have g := hk.2.1 h hh
      have := sm_nn (f := fun b => ifo l h b (l 12 b)) (2 * (l 0 1).toNat) (fun i hi => by
        have g := hk.2.2.2 i (by omega)
        try dsimp only
        by_cases o : own l h i
        · rw [ifo_t o]; omega
        · rw [ifo_f o]; omega)
      unfold mtW
      omega
    omega
  | d + 1, l, hk, hh => fun i hi ha => by
    have hz := hk.1
    obtain ⟨ok', fx'⟩ := goL_ok (pl1 h ((i : Int) - 1)) hk
    have e0 : (goL (pl1 h ((i : Int) - 1)) l).1 0 0 = l 0 0 := fx'.1 0 (by decide)
    have e1 : (goL (pl1 h ((i : Int) - 1)) l).1 0 1 = l 0 1 := fx'.1 1 (by decide)
    have ih := lv_bd (h := h) (R := R) (H0 := H0) d (goL (pl1 h ((i : Int) - 1)) l).1 ok' (by rw [e0]; exact hh)
    rw [e1] at ih
    have bd := goL_bd hk hh (pl1 h ((i : Int) - 1)) (d := (d : Int)) (by omega)
    refine lvB_mono ?_ d _ ih
    have e : ((d + 1 : Nat) : Int) = (d : Int) + 1 := rfl
    rw [e]
    omega
/-- a pull that moves nothing -/
theorem goL_nm (hk : okL l) {h r : Nat} (hr : (r : Int) < l 0 1) (he : l 10 (2 * r) = (h : Int) ∨ l 10 (2 * r + 1) = (h : Int)) (hm : dbL l r (bi (l 10 (2 * r) = (h : Int))) (1 - bi (l 10 (2 * r) = (h : Int))) = dbL l r 0 0) : goL (pl1 h (r : Int)) l = goL (pl1 h (-1)) l := by
  have hz := hk.1
  have key : mvL (pl1 h (r : Int)) l = mvL (pl1 h (-1)) l := by
    unfold mvL
    refine itr_cg (P := fun j z => fxL l z ∧ z 11 = l 11 ∧ z 12 = l 12 ∧ ∀ i : Nat, j ≤ i → z 8 i = l 8 i) _ _ _ ⟨fxL.rf, rfl, rfl, fun _ _ => rfl⟩ (fun j z _ hj hz' => ?_)
    obtain ⟨fx, e11, e12, e8⟩ := hz'
    have hj1 : (j : Int) < l 0 1 := by omega
    have g1 := hk.2.2.2 (2 * j) (by omega)
    have g2 := hk.2.2.2 (2 * j + 1) (by omega)
    have e10 : z 10 = l 10 := fx.2.2.2.2.2.2.1
    refine ⟨?_, fx.tr (mvS_fx _ j z), ?_, ?_, fun i hi => ?_⟩
    · have pn : ∀ x : Nat, pl1 h (-1) x = -1 := fun x => by
        unfold pl1
        by_cases e : x = h
        · rw [e, upA_s]
        · rw [upA_n e]
      have ps : ∀ x : Nat, pl1 h (r : Int) x = if x = h then (r : Int) else -1 := fun x => by
        unfold pl1
        by_cases e : x = h
        · rw [e, upA_s, if_pos rfl]
        · rw [upA_n e, if_neg e]
      unfold mvS
      rw [pn, pn, ps, ps, e10]
      by_cases c9 : z 9 j = 0
      · rw [if_pos c9, if_pos c9, bi_f (show ¬ (-1 : Int) = (j : Int) by omega)]
        congr 1
        by_cases ej : j = r
        · subst ej
          have dE : ∀ x y : Int, dbL z j x y = dbL l j x y := fun x y => by
            unfold dbL dfL plL wtL
            rw [e8 j (Nat.le_refl _), fx.2.1, fx.2.2.2.2.1, e10, e11, e12, fx.1 4 (by decide), fx.1 3 (by decide)]
          rw [dE, dE, ← hm]
          have g3 := (hk.2.2.1 j hj1).2.2.2.2.2
          by_cases ef : l 10 (2 * j) = (h : Int)
          · have es : ¬ l 10 (2 * j + 1) = (h : Int) := fun z => g3 (ef.trans z.symm)
            rw [if_pos (show (l 10 (2 * j)).toNat = h by omega), if_neg (show ¬ (l 10 (2 * j + 1)).toNat = h by omega), bi_t rfl, bi_f (by omega), bi_t ef]
            rfl
          · rw [if_neg (show ¬ (l 10 (2 * j)).toNat = h by omega), if_pos (show (l 10 (2 * j + 1)).toNat = h by omega), bi_f (by omega), bi_t rfl, bi_f ef]
            rfl
        · have nb : ∀ x : Nat, bi ((if x = h then (r : Int) else -1) = (j : Int)) = 0 := fun x => by
            by_cases e : x = h
            · rw [if_pos e]; exact bi_f (by omega)
            · rw [if_neg e]; exact bi_f (by omega)
          rw [nb, nb]
      · rw [if_neg c9, if_neg c9]
    · unfold mvS
      split
      · rw [up2_row (by decide)]; exact e11
      · exact e11
    · unfold mvS
      split
      · rw [up2_row (by decide)]; exact e12
      · exact e12
    · unfold mvS
      split
      · rw [up2_n (by omega)]; exact e8 i (by omega)
      · exact e8 i (by omega)
  unfold goL
  rw [key]
end BD
