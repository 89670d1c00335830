/-! the reference's tokens -/
def ofK (k : Nat) : Nat := [1, 7, 13, 19, 26, 31, 36, 39, 46, 51, 55].getD k 0
theorem of_ok : ∀ k : Nat, k < 10 → (ofK (k + 1) = ofK k + lnK k + 1 ∧ chI 10 (ofK k + lnK k) = 32 ∧ ofK k + lnK k < 55 ∧ ∀ i : Nat, i < lnK k → (chI 10 (ofK k + i) = chI k i ∧ chI k i ≠ 32)) := by decide +kernel
theorem of_10 : ofK 10 = 55 ∧ lnK 10 = 55 ∧ ofK 0 = 1 := by decide
section MN
variable {μ : Mem} {I J : Nat → Nat → Int} {c t m n z : Nat} {P : Nat → Int} {s : Ld} {β : Type}
/-- the reference's tape as it is read -/
def rpO (s : Ld) (z : Nat) (P : Nat → Int) : Prop := s 0 8 = (z : Int) ∧ z ≤ 900 ∧ ∀ i : Nat, i < z → s 3 i = bts P i
theorem see_w (h : isM μ m) (hO : rpO s z P) {i : Nat} (hi : i < 2000) {f : Int × Mem → Option β} : (mX11_see n m (i : Int) (wi μ (wm I m s))).bind f = f (sgn P z i, wi μ (wm I m s)) := by
  obtain ⟨h8, hz, hb⟩ := hO
  unfold mX11_see sgn
  by_cases c : i < z
  · rw [bM_gI h, h8, i_lt_t (by omega), bM_g3 h, bM_ld3 h (by omega) (by omega), Int.toNat_natCast, hb i c, if_pos c]
    rfl
  · rw [bM_gI h, h8, i_lt_f (by omega), if_neg c]
    rfl
theorem isSmall_w {ν : Mem} {x : Int} (hx : -1 ≤ x ∧ x < 256) {f : Int × Mem → Option β} : (mX11_isSmall n x ν).bind f = f (bi (ltr x), ν) := by
  unfold mX11_isSmall
  by_cases c1 : x < 97
  · rw [i_lt_t (by omega), bi_f (by omega)]; rfl
  · by_cases c2 : 122 < x
    · rw [i_lt_f (by omega), i_lt_t (by omega), bi_f (by omega)]; rfl
    · rw [i_lt_f (by omega), i_lt_f (by omega), bi_t (by omega)]; rfl
theorem misDigit_w {ν : Mem} {x : Int} (hx : -1 ≤ x ∧ x < 256) {f : Int × Mem → Option β} : (mX11_isDigit n x ν).bind f = f (bi (dgt x), ν) := by
  unfold mX11_isDigit
  by_cases c1 : x < 48
  · rw [i_lt_t (by omega), bi_f (by omega)]; rfl
  · by_cases c2 : 57 < x
    · rw [i_lt_f (by omega), i_lt_t (by omega), bi_f (by omega)]; rfl
    · rw [i_lt_f (by omega), i_lt_f (by omega), bi_t (by omega)]; rfl
theorem keyAt_eq (h : isM μ m) (hO : rpO s z P) (hX : isX μ c (wm I m s)) {a e : Nat} (h6 : s 0 6 = (a : Int)) (h7 : s 0 7 = (e : Int)) (hae : a ≤ e) (hez : e ≤ z) (hn : 20000 ≤ n) : mX11_keyAt n m (wi μ (wm I m s)) = some (((kwF (bts P) a e 0 10 : Nat) : Int), wi μ (wm I m s)) := by
  have hz9 := hO.2.1
  unfold mX11_keyAt
  refine lp_ind (fun d (v : Int × Int) ν => ∃ k : Nat, ν = wi μ (wm I m s) ∧ v = ((k : Int), ((ofK k : Nat) : Int)) ∧ k + d = 10 ∧ kwF (bts P) a e k d = kwF (bts P) a e 0 10) (fun X => X = some (((kwF (bts P) a e 0 10 : Nat) : Int), wi μ (wm I m s))) (fun d v ν nx hPP hnx => ?_) n 10 _ _ (by omega) ⟨0, rfl, rfl, by omega, rfl⟩
  obtain ⟨k, rfl, rfl, h1, hV⟩ := hPP
  rw [txt_w hX (by decide), length_w hX (by decide)]
  dsimp only
  cases d with
  | zero =>
    have ek : k = 10 := by omega
    subst ek
    have hV' : 10 = kwF (bts P) a e 0 10 := hV
    rw [of_10.1, of_10.2.1, i_lt_f (by decide), ← hV']
    rfl
  | succ d =>
    obtain ⟨o1, o2, o3, o4⟩ := of_ok k (by omega)
    have ll := (ln_ok k (by omega)).2
    have l10 := of_10.2.1
    have hV' : @ite Nat (mtc (bts P) a e k) (Classical.propDecidable _) k (kwF (bts P) a e (k + 1) d) = kwF (bts P) a e 0 10 := hV
    rw [l10, i_lt_t (by omega)]
    -- the next word
    have skip : ¬ mtc (bts P) a e k → lp (fun nx97 (v97 : Int) (μ97 : Mem) =>
        (txt μ97 10).bind fun x97 =>
        (tInv μ97 x97 (mJ0_charAt_5068e n x97 v97 μ97)).bind fun p100 =>
        if eq32 p100.1 32 then
          nx (((k : Int) + 1), (v97 + 1)) p100.2
        else
        nx97 (v97 + 1) p100.2) n ((ofK k : Nat) : Int) (wi μ (wm I m s)) = some (((kwF (bts P) a e 0 10 : Nat) : Int), wi μ (wm I m s)) := by
      intro nm
      rw [if_neg nm] at hV'
      refine lp_ind (fun f (v : Int) ν => ∃ i : Nat, ν = wi μ (wm I m s) ∧ v = ((ofK k + i : Nat) : Int) ∧ i + f = lnK k) (fun X => X = some (((kwF (bts P) a e 0 10 : Nat) : Int), wi μ (wm I m s))) (fun f v ν nx2 hPP hnx2 => ?_) n (lnK k) _ _ (by omega) ⟨0, rfl, rfl, by omega⟩
      obtain ⟨i, rfl, rfl, h2⟩ := hPP
      rw [txt_w hX (by decide), charAt_w hX (by decide) (by omega)]
      dsimp only
      cases f with
      | zero =>
        have ei : i = lnK k := by omega
        subst ei
        rw [i_eq_t o2]
        refine hnx d _ _ (by omega) ⟨k + 1, rfl, ?_, by omega, hV'⟩
        rw [o1]
        rfl
      | succ f =>
        obtain ⟨q1, q2⟩ := o4 i (by omega)
        obtain ⟨-, r2, r3⟩ := ch_ok k (by omega) i (by omega)
        rw [q1, i_eq_f (by omega)]
        exact hnx2 f _ _ (by omega) ⟨i + 1, rfl, rfl, by omega⟩
    -- behind the comparing of signs
    have fin : ∀ i : Nat, i ≤ lnK k → (∀ j : Nat, j < i → bts P (a + j) = chI k j ∧ a + j < e) → (i < lnK k → ¬ (a + i < e ∧ bts P (a + i) = chI k i)) → ((txt (wi μ (wm I m s)) 10).bind fun x69 =>
        (tInv (wi μ (wm I m s)) x69 (mJ0_charAt_5068e n x69 (((ofK k : Nat) : Int) + (i : Int)) (wi μ (wm I m s)))).bind fun p74 =>
        if eq32 p74.1 32 then
          (gI p74.2 12 m 6).bind fun x83 =>
          (gI p74.2 12 m 7).bind fun x89 =>
          if eq32 (x83 + (i : Int)) x89 then
            some ((k : Int), p74.2)
          else
          lp (fun nx97 (v97 : Int) (μ97 : Mem) =>
          (txt μ97 10).bind fun x97 =>
          (tInv μ97 x97 (mJ0_charAt_5068e n x97 v97 μ97)).bind fun p100 =>
          if eq32 p100.1 32 then
            nx (((k : Int) + 1), (v97 + 1)) p100.2
          else
          nx97 (v97 + 1) p100.2) n ((ofK k : Nat) : Int) p74.2
        else
        lp (fun nx97 (v97 : Int) (μ97 : Mem) =>
        (txt μ97 10).bind fun x97 =>
        (tInv μ97 x97 (mJ0_charAt_5068e n x97 v97 μ97)).bind fun p100 =>
        if eq32 p100.1 32 then
          nx (((k : Int) + 1), (v97 + 1)) p100.2
        else
        nx97 (v97 + 1) p100.2) n ((ofK k : Nat) : Int) p74.2) = some (((kwF (bts P) a e 0 10 : Nat) : Int), wi μ (wm I m s)) := by
      intro i hi hm hno
      rw [txt_w hX (by decide), show ((ofK k : Nat) : Int) + (i : Int) = ((ofK k + i : Nat) : Int) from rfl, charAt_w hX (by decide) (by omega)]
      dsimp only
      by_cases ci : i = lnK k
      · subst ci
        rw [i_eq_t o2, bM_gI h, h6, bM_gI h, h7]
        by_cases ce : a + lnK k = e
        · have mt : mtc (bts P) a e k := ⟨ce.symm, fun j hj => (hm j hj).1⟩
          rw [if_pos mt] at hV'
          rw [i_eq_t (by omega), ← hV']
        · rw [i_eq_f (by omega)]
          exact skip (fun z => ce z.1.symm)
      · obtain ⟨q1, q2⟩ := o4 i (by omega)
        obtain ⟨-, r2, r3⟩ := ch_ok k (by omega) i (by omega)
        rw [q1, i_eq_f (by omega)]
        exact skip (fun z => hno (by omega) ⟨by have := z.1; omega, z.2 i (by omega)⟩)
    refine lp_ind (fun f (v : Int) ν => ∃ i : Nat, ν = wi μ (wm I m s) ∧ v = (i : Int) ∧ i + f = lnK k ∧ ∀ j : Nat, j < i → bts P (a + j) = chI k j ∧ a + j < e) (fun X => X = some (((kwF (bts P) a e 0 10 : Nat) : Int), wi μ (wm I m s))) (fun f v ν nx2 hPP hnx2 => ?_) n (lnK k) _ _ (by omega) ⟨0, rfl, rfl, by omega, fun j hj => by omega⟩
    obtain ⟨i, rfl, rfl, h2, h3⟩ := hPP
    have fi := fun hno => fin i (by omega) h3 hno
    simp only [jn]
    rw [txt_w hX (by decide), show ((ofK k : Nat) : Int) + (i : Int) = ((ofK k + i : Nat) : Int) from rfl, charAt_w hX (by decide) (by omega)]
    dsimp only
    cases f with
    | zero =>
      have ei : i = lnK k := by omega
      subst ei
      rw [i_eq_t o2]
      exact fi (fun z => by omega)
    | succ f =>
      obtain ⟨q1, q2⟩ := o4 i (by omega)
      obtain ⟨-, r2, r3⟩ := ch_ok k (by omega) i (by omega)
      rw [q1, i_eq_f (by omega), bM_gI h, h6, bM_gI h, h7]
      by_cases ce : a + i < e
      · have b3 : s 3 (a + i) = bts P (a + i) := hO.2.2 _ (by omega)
        have br := bts_rg P (a + i)
        rw [i_lt_t (by omega), bM_g3 h, bM_gI h, h6, bM_ld3 h (by omega) (by omega), show ((a : Int) + (i : Int)).toNat = a + i by omega, b3, txt_w hX (by decide), charAt_w hX (by decide) (by omega)]
        dsimp only
        rw [q1]
        by_cases cc : bts P (a + i) = chI k i
        · rw [i_eq_t cc]
          refine hnx2 f _ _ (by omega) ⟨i + 1, rfl, rfl, by omega, fun j hj => ?_⟩
          by_cases ej : j = i
          · subst ej; exact ⟨cc, ce⟩
          · exact h3 j (by omega)
        · rw [i_eq_f (by omega)]
          exact fi (fun _ z => cc z.2)
      · rw [i_lt_f (by omega)]
        exact fi (fun _ z => ce z.1)
/-- the reference stands at a token -/
def tkM (s : Ld) (z : Nat) (P : Nat → Int) (p : Nat) : Prop := s 0 9 = ((tK (bts P) z p : Nat) : Int) ∧ s 0 6 = ((tS (bts P) z p : Nat) : Int) ∧ s 0 7 = ((tE (bts P) z p : Nat) : Int) ∧ (tK (bts P) z p = 11 → s 0 10 = tV (bts P) z p)
/-- only the reference's own fields of the token have changed -/
def rpF (s u : Ld) : Prop := (∀ k : Nat, k ≠ 0 → u k = s k) ∧ ∀ j : Nat, j ≠ 6 → j ≠ 7 → j ≠ 9 → j ≠ 10 → u 0 j = s 0 j
theorem rpF.rf (s : Ld) : rpF s s := ⟨fun _ _ => rfl, fun _ _ _ _ _ => rfl⟩
theorem rpF.tr {s t u : Ld} (h1 : rpF s t) (h2 : rpF t u) : rpF s u := ⟨fun k hk => (h2.1 k hk).trans (h1.1 k hk), fun j a b c d => (h2.2 j a b c d).trans (h1.2 j a b c d)⟩
theorem rpF.up (s : Ld) {k : Nat} {x : Int} (hk : k = 6 ∨ k = 7 ∨ k = 9 ∨ k = 10) : rpF s (up2 s 0 k x) := ⟨fun b hb => up2_row hb, fun j a b c d => up2_n (by omega)⟩
theorem rpF.o {s u : Ld} (h : rpF s u) (hO : rpO s z P) : rpO u z P := ⟨(h.2 8 (by decide) (by decide) (by decide) (by decide)).trans hO.1, hO.2.1, fun i hi => by rw [h.1 3 (by decide)]; exact hO.2.2 i hi⟩
theorem next_eq (h : isM μ m) (hO : rpO s z P) (hX : isX μ c I) (hc : c ≤ m) {p : Nat} (h7 : s 0 7 = (p : Int)) (hp : p ≤ z) (hn : 20000 ≤ n) : ∃ u : Ld, mX11_next n m (wi μ (wm I m s)) = some ((), wi μ (wm I m u)) ∧ rpF s u ∧ tkM u z P p := by
  have hz9 := hO.2.1
  have hXs : ∀ u : Ld, isX μ c (wm I m u) := fun u => hX.cg (fun b hb => wm_out (by omega))
  unfold mX11_next
  rw [bM_gI h, h7, bM_pI h]
  refine lp_ind (fun d (_ : Unit) ν => ∃ (u : Ld) (w : Nat), ν = wi μ (wm I m u) ∧ w + d = z ∧ rpF s u ∧ u 0 6 = (w : Int) ∧ scn blk (bts P) z (z - w) w = tS (bts P) z p) (fun X => ∃ u : Ld, X = some ((), wi μ (wm I m u)) ∧ rpF s u ∧ tkM u z P p) (fun d q ν nx hPP hnx => ?_) n (z - p) _ _ (by omega) ⟨_, p, rfl, by omega, rpF.up s (by omega), up2_s, rfl⟩
  obtain ⟨u, w, rfl, h1, fu, u6, hV⟩ := hPP
  have hOu := fu.o hO
  have sr := sgn_rg P z w
  simp only [jn]
  rw [bM_gI h, u6, bM_inv h, see_w h hOu (by omega)]
  dsimp only
  by_cases cB : w < z ∧ blk (bts P w)
  · have st := sgn_t (P := P) cB.1
    rw [scn_t cB.1 cB.2] at hV
    rw [st]
    have br := bts_rg P w
    by_cases c10 : bts P w = 10
    · rw [i_eq_t c10, bM_gI h, u6, bM_pI h]
      exact hnx (d - 1) _ _ (by omega) ⟨_, w + 1, rfl, by omega, fu.tr (rpF.up u (by omega)), by rw [up2_s]; rfl, hV⟩
    · have c32 : bts P w = 32 := by have := cB.2; omega
      rw [i_eq_f (by omega), bM_gI h, u6, bM_inv h, see_w h hOu (by omega), st]
      dsimp only
      rw [i_eq_t c32, bM_gI h, u6, bM_pI h]
      exact hnx (d - 1) _ _ (by omega) ⟨_, w + 1, rfl, by omega, fu.tr (rpF.up u (by omega)), by rw [up2_s]; rfl, hV⟩
  · rw [scn_f cB] at hV
    have nb : sgn P z w ≠ 10 ∧ sgn P z w ≠ 32 := by
      unfold sgn
      by_cases c : w < z
      · rw [if_pos c]
        exact ⟨fun z => cB ⟨c, Or.inl z⟩, fun z => cB ⟨c, Or.inr z⟩⟩
      · rw [if_neg c]; decide
    rw [i_eq_f (by omega), bM_gI h, u6, bM_inv h, see_w h hOu (by omega)]
    dsimp only
    rw [i_eq_f (by omega), bM_gI h, u6, bM_pI h]
    generalize hu2 : up2 u 0 7 (w : Int) = u2
    have f2 : rpF s u2 := by rw [← hu2]; exact fu.tr (rpF.up u (by omega))
    have e6 : u2 0 6 = (w : Int) := by rw [← hu2, up2_n (by omega)]; exact u6
    have e7 : u2 0 7 = (w : Int) := by rw [← hu2, up2_s]
    have hO2 := f2.o hO
    rw [bM_gI h, e6, bM_gI h, hO2.1]
    by_cases c : w < z
    · have st := sgn_t (P := P) c
      have br := bts_rg P w
      rw [i_lt_t (by omega), bM_gI h, e6, bM_inv h, see_w h hO2 (by omega)]
      dsimp only
      rw [isSmall_w sr, st]
      dsimp only
      by_cases c2 : ltr (bts P w)
      · have eE : tE (bts P) z p = scn ltr (bts P) z (z - w) w := by unfold tE; rw [← hV, if_pos c, if_pos c2]
        have eK : tK (bts P) z p = kwF (bts P) w (tE (bts P) z p) 0 10 := by unfold tK; rw [← hV, if_pos c, if_pos c2]
        rw [i_bi_t c2]
        refine lp_ind (fun e (_ : Unit) ν => ∃ (x : Ld) (r : Nat), ν = wi μ (wm I m x) ∧ r + e = z ∧ w ≤ r ∧ rpF s x ∧ x 0 6 = (w : Int) ∧ x 0 7 = (r : Int) ∧ scn ltr (bts P) z (z - r) r = tE (bts P) z p) (fun X => ∃ u : Ld, X = some ((), wi μ (wm I m u)) ∧ rpF s u ∧ tkM u z P p) (fun e q ν nx2 hPP hnx2 => ?_) n (z - w) _ _ (by omega) ⟨u2, w, rfl, by omega, Nat.le_refl _, f2, e6, e7, eE.symm⟩
        obtain ⟨x, r, rfl, g1, g2, fx, x6, x7, hW⟩ := hPP
        have hOx := fx.o hO
        have sr2 := sgn_rg P z r
        rw [bM_gI h, x7, bM_inv h, see_w h hOx (by omega)]
        dsimp only
        rw [isSmall_w sr2]
        dsimp only
        by_cases c3 : r < z ∧ ltr (bts P r)
        · have st2 := sgn_t (P := P) c3.1
          rw [scn_t c3.1 c3.2] at hW
          rw [st2, i_bi_t c3.2, bM_gI h, x7, bM_pI h]
          exact hnx2 (e - 1) _ _ (by omega) ⟨_, r + 1, rfl, by omega, by omega, fx.tr (rpF.up x (by omega)), by rw [up2_n (by omega)]; exact x6, by rw [up2_s]; rfl, hW⟩
        · rw [scn_f c3] at hW
          have nl : ¬ ltr (sgn P z r) := by
            unfold sgn
            by_cases cz : r < z
            · rw [if_pos cz]; exact fun z => c3 ⟨cz, z⟩
            · rw [if_neg cz]; omega
          have ka := keyAt_eq (n := n) h hOx (hXs x) x6 x7 g2 (by omega) hn
          rw [i_bi_f nl, bM_inv h, bnd ka]
          dsimp only
          rw [bM_pI h]
          refine ⟨_, rfl, fx.tr (rpF.up x (by omega)), ?_, ?_, ?_, fun zz => ?_⟩
          · rw [up2_s, eK, ← hW]
          · rw [up2_n (by omega), x6, hV]
          · rw [up2_n (by omega), x7, hW]
          · have := kwF_le (B := bts P) (s := w) (e := tE (bts P) z p) 10 0
            omega
      · rw [i_bi_f c2, bM_gI h, e6, bM_inv h, see_w h hO2 (by omega)]
        dsimp only
        rw [misDigit_w sr, st]
        dsimp only
        by_cases c3 : dgt (bts P w)
        · have eE : tE (bts P) z p = scn dgt (bts P) z (z - w) w := by unfold tE; rw [← hV, if_pos c, if_neg c2, if_pos c3]
          have eK : tK (bts P) z p = if 4 < tE (bts P) z p - w then 14 else 11 := by unfold tK; rw [← hV, if_pos c, if_neg c2, if_pos c3]
          have eV : tV (bts P) z p = dgs (bts P) z w (z - w) w 0 := by unfold tV; rw [← hV]
          rw [i_bi_t c3, bM_pI h]
          refine lp_ind (fun e (_ : Unit) ν => ∃ (x : Ld) (r : Nat) (v : Int), ν = wi μ (wm I m x) ∧ r + e = z ∧ w ≤ r ∧ rpF s x ∧ x 0 6 = (w : Int) ∧ x 0 7 = (r : Int) ∧ x 0 10 = v ∧ scn dgt (bts P) z (z - r) r = tE (bts P) z p ∧ dgs (bts P) z w (z - r) r v = tV (bts P) z p) (fun X => ∃ u : Ld, X = some ((), wi μ (wm I m u)) ∧ rpF s u ∧ tkM u z P p) (fun e q ν nx2 hPP hnx2 => ?_) n (z - w) _ _ (by omega) ⟨_, w, 0, rfl, by omega, Nat.le_refl _, f2.tr (rpF.up u2 (by omega)), by rw [up2_n (by omega)]; exact e6, by rw [up2_n (by omega)]; exact e7, up2_s, eE.symm, eV.symm⟩
          obtain ⟨x, r, v, rfl, g1, g2, fx, x6, x7, x10, hW, hD⟩ := hPP
          have hOx := fx.o hO
          have sr2 := sgn_rg P z r
          try simp only [jn]
          rw [bM_gI h, x7, bM_inv h, see_w h hOx (by omega)]
          dsimp only
          rw [misDigit_w sr2]
          dsimp only
          by_cases c4 : r < z ∧ dgt (bts P r)
          · have st2 := sgn_t (P := P) c4.1
            rw [scn_t c4.1 c4.2] at hW
            rw [dgs_t c4.1 c4.2] at hD
            rw [st2, i_bi_t c4.2, bM_gI h, x7, bM_gI h, x6]
            by_cases c5 : r - w < 4
            · rw [if_pos c5] at hD
              have y7 : up2 x 0 10 (10 * v + bts P r - 48) 0 7 = (r : Int) := by rw [up2_n (by omega)]; exact x7
              rw [i_lt_t (by omega), bM_gI h, x10, bM_gI h, x7, bM_inv h, see_w h hOx (by omega), st2]
              dsimp only
              rw [bM_pI h, bM_gI h, y7, bM_pI h]
              exact hnx2 (e - 1) _ _ (by omega) ⟨_, r + 1, _, rfl, by omega, by omega, fx.tr ((rpF.up x (by omega)).tr (rpF.up _ (by omega))), by rw [up2_n (by omega), up2_n (by omega)]; exact x6, by rw [up2_s]; rfl, by rw [up2_n (by omega), up2_s], hW, hD⟩
            · rw [if_neg c5] at hD
              rw [i_lt_f (by omega), bM_gI h, x7, bM_pI h]
              exact hnx2 (e - 1) _ _ (by omega) ⟨_, r + 1, v, rfl, by omega, by omega, fx.tr (rpF.up x (by omega)), by rw [up2_n (by omega)]; exact x6, by rw [up2_s]; rfl, by rw [up2_n (by omega)]; exact x10, hW, hD⟩
          · rw [scn_f c4] at hW
            rw [dgs_f c4] at hD
            have nd : ¬ dgt (sgn P z r) := by
              unfold sgn
              by_cases cz : r < z
              · rw [if_pos cz]; exact fun z => c4 ⟨cz, z⟩
              · rw [if_neg cz]; omega
            rw [i_bi_f nd, bM_gI h, x7, bM_gI h, x6]
            rw [← hW] at eK
            by_cases c5 : 4 < r - w
            · rw [if_pos c5] at eK
              rw [i_lt_t (by omega), bM_pI h]
              exact ⟨_, rfl, fx.tr (rpF.up x (by omega)), by rw [up2_s, eK]; rfl, by rw [up2_n (by omega), x6, hV], by rw [up2_n (by omega), x7, hW], fun z => by omega⟩
            · rw [if_neg c5] at eK
              rw [i_lt_f (by omega), bM_pI h]
              exact ⟨_, rfl, fx.tr (rpF.up x (by omega)), by rw [up2_s, eK]; rfl, by rw [up2_n (by omega), x6, hV], by rw [up2_n (by omega), x7, hW], fun _ => by rw [up2_n (by omega), x10, hD]⟩
        · have eE : tE (bts P) z p = w + 1 := by unfold tE; rw [← hV, if_pos c, if_neg c2, if_neg c3]
          have eK : tK (bts P) z p = if bts P w = 59 then 12 else 14 := by unfold tK; rw [← hV, if_pos c, if_neg c2, if_neg c3]
          have f3 : rpF s (up2 u2 0 7 ((w : Int) + 1)) := f2.tr (rpF.up u2 (by omega))
          have y6 : up2 u2 0 7 ((w : Int) + 1) 0 6 = (w : Int) := by rw [up2_n (by omega)]; exact e6
          rw [i_bi_f c3, bM_gI h, e7, bM_pI h, bM_gI h, y6, bM_inv h, see_w h (f3.o hO) (by omega), st]
          dsimp only
          by_cases c4 : bts P w = 59
          · rw [if_pos c4] at eK
            rw [i_eq_t c4, bM_pI h]
            exact ⟨_, rfl, f3.tr (rpF.up _ (by omega)), by rw [up2_s, eK]; rfl, by rw [up2_n (by omega), y6, hV], by rw [up2_n (by omega), up2_s, eE]; rfl, fun z => by omega⟩
          · rw [if_neg c4] at eK
            rw [i_eq_f (by omega), bM_pI h]
            exact ⟨_, rfl, f3.tr (rpF.up _ (by omega)), by rw [up2_s, eK]; rfl, by rw [up2_n (by omega), y6, hV], by rw [up2_n (by omega), up2_s, eE]; rfl, fun z => by omega⟩
    · have eE : tE (bts P) z p = w := by unfold tE; rw [← hV, if_neg c]
      have eK : tK (bts P) z p = 13 := by unfold tK; rw [← hV, if_neg c]
      rw [i_lt_f (by omega), bM_pI h]
      exact ⟨_, rfl, f2.tr (rpF.up u2 (by omega)), by rw [up2_s, eK]; rfl, by rw [up2_n (by omega), e6, hV], by rw [up2_n (by omega), e7, eE], fun z => by omega⟩
end MN
