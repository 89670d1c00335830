/-! the class's search: a look ahead -/
def dbx (L : Ld) (r w : Nat) : Int := dbL L r ((w % 2 : Nat) : Int) ((w / 2 : Nat) : Int)
/-- the first way to pull a rope that brings it as deep -/
def lkP (L : Ld) (r w v : Nat) : Prop := v ≤ w ∧ dbx L r v = dbx L r w ∧ ∀ u : Nat, u < v → dbx L r u ≠ dbx L r w
def wiJ (n a : Nat) (b2 b3 v23 : Int) (μ23 : Mem) : Option (Int × Mem) := (gA μ23 5 a 10).bind fun x26 => (gA μ23 5 a 2).bind fun x31 => (ldI μ23 0 x31 b2).bind fun x35 => (inv μ23 2 x26 (mX1_emptyWeight n x26 ((2 * x35) + b3) μ23)).bind fun p40 => if eq32 v23 0 then some ((p40.1 + 0), p40.2) else (gA p40.2 5 a 10).bind fun x49 => (gI p40.2 2 x49 3).bind fun x52 => some ((p40.1 + x52), p40.2)
theorem weightIn_s {n a : Nat} {b1 b2 b3 : Int} (μ : Mem) : mX4_weightIn n a b1 b2 b3 μ = if eq32 (oLcmp (lAnd (lUshr b1 ((12 + (2 * b2)) + b3)) 1) 1) 0 then wiJ n a b2 b3 1 μ else wiJ n a b2 b3 0 μ := rfl
def flB (a : Nat) (b1 b2 : Int) : (Int × Int → Mem → Option (Int × Mem)) → Int × Int → Mem → Option (Int × Mem) := fun nx7 v7 μ7 => if lt32 v7.2 0 then some (v7.1, μ7) else (gA μ7 5 a 7).bind fun x13 => (ldI μ7 0 x13 ((4 * b1) + v7.2)).bind fun x22 => (gA μ7 5 a 7).bind fun x24 => (ldI μ7 0 x24 ((4 * b1) + b2)).bind fun x32 => if eq32 x22 x32 then nx7 (v7.2, (v7.2 + (-1))) μ7 else nx7 (v7.1, (v7.2 + (-1))) μ7
theorem firstLike_s {n a : Nat} {b1 b2 : Int} (μ : Mem) : mX4_firstLike n a b1 b2 μ = lp (flB a b1 b2) n (b2, (b2 - 1)) μ := rfl
def laJ (n a : Nat) (b1 v2 x15 e33 e40 : Int) (x56 : Nat) (v49 : Int) (nx49 : Int → Mem → Option (Unit × Mem)) (v73 v85 : Int) (μ85 : Mem) : Option (Unit × Mem) := (inv μ85 2 x56 (mX1_pullLean n x56 x15 v73 v85 μ85)).bind fun p85 => (gA p85.2 5 a 7).bind fun x91 => (gA p85.2 5 a 10).bind fun x101 => (inv p85.2 2 x101 (mX1_depthFrom n x101 x15 (oAnd (lUshr b1 (4 * v2)) 15) ((e33 - e40) + p85.1) p85.2)).bind fun p113 => (stI p113.2 0 x91 ((4 * v2) + v49) p113.1).bind fun μ116 => (gA μ116 5 a 8).bind fun x118 => (inv μ116 5 a (mX4_firstLike n a v2 v49 μ116)).bind fun p131 => (stI p131.2 0 x118 ((4 * v2) + v49) p131.1).bind fun μ134 => nx49 (v49 + 1) μ134
def laW (n a : Nat) (b1 v2 x15 e33 e40 : Int) (nx2 : Int → Mem → Option (Unit × Mem)) : (Int → Mem → Option (Unit × Mem)) → Int → Mem → Option (Unit × Mem) := fun nx49 v49 μ49 => if lt32 v49 4 then (gA μ49 5 a 10).bind fun x56 => if eq32 (oAnd v49 1) 0 then (if eq32 (oAnd v49 2) 0 then laJ n a b1 v2 x15 e33 e40 x56 v49 nx49 0 0 μ49 else laJ n a b1 v2 x15 e33 e40 x56 v49 nx49 0 1 μ49) else (if eq32 (oAnd v49 2) 0 then laJ n a b1 v2 x15 e33 e40 x56 v49 nx49 1 0 μ49 else laJ n a b1 v2 x15 e33 e40 x56 v49 nx49 1 1 μ49) else nx2 (v2 + 1) μ49
def laO (n a : Nat) (b1 : Int) : (Int → Mem → Option (Unit × Mem)) → Int → Mem → Option (Unit × Mem) := fun nx2 v2 μ2 => (gI μ2 5 a 3).bind fun x4 => if lt32 v2 x4 then (gA μ2 5 a 2).bind fun x11 => (ldI μ2 0 x11 v2).bind fun x15 => (inv μ2 5 a (mX4_weightIn n a b1 v2 0 μ2)).bind fun p33 => (inv p33.2 5 a (mX4_weightIn n a b1 v2 1 p33.2)).bind fun p40 => lp (laW n a b1 v2 x15 p33.1 p40.1 nx2) n 0 p40.2 else some ((), μ2)
theorem lookAhead_s {n a : Nat} {b1 : Int} (μ : Mem) : mX4_lookAhead n a b1 μ = lp (laO n a b1) n 0 μ := rfl
theorem and_12 : ∀ w : Nat, w < 4 → oAnd (w : Int) 1 = ((w % 2 : Nat) : Int) ∧ oAnd (w : Int) 2 = ((w / 2 * 2 : Nat) : Int) := by decide +kernel
section LA
variable {μ : Mem} {J : Nat → Nat → Int} {a c n o H R h X : Nat} {ro : Nat → Nat} {l L : Ld} {g : Int}
theorem fl_l (hE : isSe μ a c) {k w r : Nat} (hk : k < 3) (hw : w < 4) (hd : ∀ u : Nat, u ≤ w → J (a + 12) (4 * k + u) = dbx L r u) (hrg : ∀ u : Nat, 0 ≤ dbx L r u ∧ dbx L r u ≤ 9) : ∀ (j kk v : Nat), j ≤ w → j < kk → j ≤ v → v ≤ w → dbx L r v = dbx L r w → (∀ u : Nat, j ≤ u → u < v → dbx L r u ≠ dbx L r w) → ∃ v' : Nat, lp (flB a (k : Int) (w : Int)) kk ((v : Int), (j : Int) - 1) (wi μ J) = some ((v' : Int), wi μ J) ∧ lkP L r w v'
  | j, 0, v, h1, h2, h3, h4, h5, h6 => absurd h2 (by omega)
  | 0, kk + 1, v, h1, h2, h3, h4, h5, h6 => by
    refine ⟨v, ?_, h4, h5, fun u hu => h6 u (by omega) hu⟩
    generalize hB : lp (flB a (k : Int) (w : Int)) kk = slf
    show flB a (k : Int) (w : Int) (lp (flB a (k : Int) (w : Int)) kk) ((v : Int), ((0 : Nat) : Int) - 1) (wi μ J) = _
    rw [hB]
    unfold flB
    dsimp only
    rw [i_lt_t (by omega)]
  | j + 1, kk + 1, v, h1, h2, h3, h4, h5, h6 => by
    have e1 := hd j (by omega)
    have e2 := hd w (by omega)
    have r1 := hrg j
    have r2 := hrg w
    have ih := fl_l hE hk hw hd hrg j kk
    generalize hB : lp (flB a (k : Int) (w : Int)) kk = slf at ih
    show ∃ v' : Nat, flB a (k : Int) (w : Int) (lp (flB a (k : Int) (w : Int)) kk) ((v : Int), ((j + 1 : Nat) : Int) - 1) (wi μ J) = _ ∧ _
    rw [hB]
    unfold flB
    dsimp only
    rw [i_lt_f (by omega), bE_g7 hE, bE_ld12 hE (by omega) (by omega), show (4 * (k : Int) + (((j + 1 : Nat) : Int) - 1)).toNat = 4 * k + j by omega, e1, bE_g7 hE, bE_ld12 hE (by omega) (by omega), show (4 * (k : Int) + (w : Int)).toNat = 4 * k + w by omega, e2, show ((j + 1 : Nat) : Int) - 1 = (j : Int) by omega, show (j : Int) + -1 = (j : Int) - 1 by omega]
    by_cases cj : dbx L r j = dbx L r w
    · rw [i_eq_t cj]
      exact ih j (by omega) (by omega) (Nat.le_refl _) (by omega) cj (fun u a b => absurd a (by omega))
    · rw [i_eq_f (by omega)]
      exact ih v (by omega) (by omega) (by omega) h4 h5 (fun u a b => by
        by_cases cu : u = j
        · rw [cu]; exact cj
        · exact h6 u (by omega) b)
theorem firstLike_eq (hE : isSe μ a c) {k w r : Nat} (hk : k < 3) (hw : w < 4) (hd : ∀ u : Nat, u ≤ w → J (a + 12) (4 * k + u) = dbx L r u) (hrg : ∀ u : Nat, 0 ≤ dbx L r u ∧ dbx L r u ≤ 9) (hn : 20000 ≤ n) : ∃ v : Nat, mX4_firstLike n a (k : Int) (w : Int) (wi μ J) = some ((v : Int), wi μ J) ∧ lkP L r w v := by
  rw [firstLike_s]
  exact fl_l hE hk hw hd hrg w n w (Nat.le_refl _) (by omega) (Nat.le_refl _) (Nat.le_refl _) rfl (fun u a b => absurd a (by omega))
theorem lm_fx (hJ : envS J a c l o ro) (vl : vL l L) : (∀ j : Nat, j ≠ 2 → ld J (c + 3) 0 j = L 0 j) ∧ ld J (c + 3) 1 = L 1 ∧ ld J (c + 3) 2 = L 2 ∧ ld J (c + 3) 7 = L 7 ∧ ld J (c + 3) 10 = L 10 ∧ ld J (c + 3) 11 = L 11 := by
  obtain ⟨f0, f1, f2, f4, f7, f9, f10, f11⟩ := vl.2
  exact ⟨fun j hj => by rw [hJ.1 0 (by decide) (by decide), f0 j hj], by rw [hJ.1 1 (by decide) (by decide), f1], by rw [hJ.1 2 (by decide) (by decide), f2], by rw [hJ.1 7 (by decide) (by decide), f7], by rw [hJ.1 10 (by decide) (by decide), f10], by rw [hJ.1 11 (by decide) (by decide), f11]⟩
theorem weightIn_eq (hE : isSe μ a c) (hL : isL μ (c + 3)) (hJ : envS J a c l o ro) (vl : vL l L) (op : opn l o ro R) (ho : o ≤ 3) (hX : cdX X (fD o ro L) (fF o ro L) (fS H L) g) {k s : Nat} (hk : k < o) (hs : s < 2) : mX4_weightIn n a (X : Int) (k : Int) (s : Int) (wi μ J) = some (wtL L (2 * ro k + s), wi μ J) := by
  obtain ⟨x1, x2, x3, x4, x5, x6⟩ := hX
  obtain ⟨m0, m1, m2, m7, m10, m11⟩ := lm_fx hJ vl
  have rr := (op.2.1 k hk).1
  have r1 := op.1
  have k0 := vl.1.1
  have rL : (R : Int) = L 0 1 := by rw [vl.2.1 1 (by decide)]; exact r1
  have b0 := vl.1.2.2.2 (2 * ro k + s) (by omega)
  have xb := x3 (2 * k + s) (by omega)
  have ff : fF o ro L (2 * k + s) = L 12 (2 * ro k + s) := by
    unfold fF
    rw [if_pos (by omega), show (2 * k + s) / 2 = k by omega, show (2 * k + s) % 2 = s by omega]
  rw [ff] at xb
  have ew : mX1_emptyWeight n (c + 3) (2 * ((ro k : Nat) : Int) + (s : Int)) (wi μ J) = some (2 + L 11 (2 * ro k + s), wi μ J) := by
    have q := emptyWeight_eq (n := n) (I := J) (a := c + 3) (l := ld J (c + 3)) (i := 2 * ((ro k : Nat) : Int) + (s : Int)) hL (by omega) (by omega)
    rw [wiwl, show (2 * ((ro k : Nat) : Int) + (s : Int)).toNat = 2 * ro k + s by omega, m11] at q
    exact q
  have lb : lAnd (lUshr (X : Int) (12 + 2 * (k : Int) + (s : Int))) 1 = L 12 (2 * ro k + s) := by
    have d : X / 2 ^ (12 + (2 * k + s)) ≤ X := Nat.div_le_self _ _
    rw [show 12 + 2 * (k : Int) + (s : Int) = ((12 + (2 * k + s) : Nat) : Int) by omega, lUshr_n (by omega) (by omega), show (1 : Int) = ((1 : Nat) : Int) from rfl, lAnd_n (by omega) (by decide), Nat.and_one_is_mod]
    exact xb
  have tail : ∀ v : Int, v = L 12 (2 * ro k + s) → wiJ n a (k : Int) (s : Int) v (wi μ J) = some (wtL L (2 * ro k + s), wi μ J) := fun v ev => by
    unfold wiJ wtL
    rw [bE_g10 hE, bE_g2 hE, bE_ld9 hE (by omega) (by omega), Int.toNat_natCast, hJ.2.2 k hk, bL_inv hL, bnd ew]
    dsimp only
    rcases b0.2.2.2.2 with z | z
    · rw [i_eq_t (by omega), if_pos z]
    · rw [i_eq_f (by omega), if_neg (by omega), bE_g10 hE, bL_gI hL, m0 3 (by decide)]
  rw [weightIn_s, lb]
  rcases b0.2.2.2.2 with z | z
  · rw [i_le_f (by omega)]
    exact tail 0 z.symm
  · rw [i_le_t (by omega)]
    exact tail 1 z.symm
theorem dbx_rg (hk : okL L) {r : Nat} (hr : (r : Int) < L 0 1) (u : Nat) : 0 ≤ dbx L r u ∧ dbx L r u ≤ 9 := by
  have := db_range hk hr ((u % 2 : Nat) : Int) ((u / 2 : Nat) : Int)
  have := hk.2.2.1 r hr
  unfold dbx
  omega
/-- what a look ahead leaves -/
def laI (L : Ld) (ro : Nat → Nat) (J : Nat → Nat → Int) (a k w : Nat) : Prop := ∀ j u : Nat, u < 4 → (j < k ∨ (j = k ∧ u < w)) → J (a + 12) (4 * j + u) = dbx L (ro j) u ∧ ∃ v : Nat, J (a + 13) (4 * j + u) = (v : Int) ∧ lkP L (ro j) u v
theorem laJ_w (hE : isSe μ a c) (hL : isL μ (c + 3)) (hJ : envS J a c l o ro) (hm : okL (ld J (c + 3))) (vl : vL l L) (op : opn l o ro R) (ho : o ≤ 3) (hX : cdX X (fD o ro L) (fF o ro L) (fS H L) g) (hn : 20000 ≤ n) {k w : Nat} (hk : k < o) (hw : w < 4) (hI : laI L ro J a k w) (nx : Int → Mem → Option (Unit × Mem)) {x y : Int} (hx : x = ((w % 2 : Nat) : Int)) (hy : y = ((w / 2 : Nat) : Int)) : ∃ K : Nat → Nat → Int, laJ n a (X : Int) (k : Int) ((ro k : Nat) : Int) (wtL L (2 * ro k)) (wtL L (2 * ro k + 1)) (c + 3) (w : Int) nx x y (wi μ J) = nx ((w : Int) + 1) (wi μ K) ∧ (∀ b : Nat, b ≠ a + 12 → b ≠ a + 13 → K b = J b) ∧ laI L ro K a k (w + 1) := by
  obtain ⟨m0, m1, m2, m7, m10, m11⟩ := lm_fx hJ vl
  have rr := (op.2.1 k hk).1
  have r1 := op.1
  have rL : (R : Int) = L 0 1 := by rw [vl.2.1 1 (by decide)]; exact r1
  have k0 := vl.1.1
  have mr : ((ro k : Nat) : Int) < ld J (c + 3) 0 1 := by rw [m0 1 (by decide)]; omega
  have q8 := vl.1.2.2.1 (ro k) (by omega)
  have w0 := wt_range vl.1 (b := 2 * ro k) (by omega)
  have w1 := wt_range vl.1 (b := 2 * ro k + 1) (by omega)
  have pl := pullLean_eq (n := n) (I := J) (a := c + 3) (l := ld J (c + 3)) (r := ro k) (x := x) (y := y) hL hm mr (by omega) (by omega)
  have ep : plL (ld J (c + 3)) (ro k) x y = plL L (ro k) x y := by unfold plL; rw [m1, m10]
  have pr := pl_range vl.1 (r := ro k) (by omega) x y
  rw [wiwl, ep] at pl
  have ed : oAnd (lUshr (X : Int) (4 * (k : Int))) 15 = L 8 (ro k) := by
    have d : X / 2 ^ (4 * k) ≤ X := Nat.div_le_self _ _
    have x1 := hX.1
    have x2 := hX.2.1 k (by omega)
    rw [show fD o ro L k = L 8 (ro k) from if_pos hk] at x2
    rw [show 4 * (k : Int) = ((4 * k : Nat) : Int) by omega, lUshr_n (by omega) (by omega), show (15 : Int) = ((2 ^ 4 - 1 : Nat) : Int) from rfl, oAnd_m (by decide)]
    exact x2
  have df := depthFrom_eq (n := n) (I := J) (a := c + 3) (l := ld J (c + 3)) (r := ro k) (d := L 8 (ro k)) (e := wtL L (2 * ro k) - wtL L (2 * ro k + 1) + plL L (ro k) x y) hL hm mr (by omega) (by omega)
  have edf : dfL (ld J (c + 3)) (ro k) (L 8 (ro k)) (wtL L (2 * ro k) - wtL L (2 * ro k + 1) + plL L (ro k) x y) = dbx L (ro k) w := by
    unfold dbx dbL dfL
    rw [m0 4 (by decide), m7, hx, hy]
  rw [wiwl, edf] at df
  have i12 : (4 * (k : Int) + (w : Int)).toNat = 4 * k + w := by omega
  have hd : ∀ u : Nat, u ≤ w → up2 J (a + 12) (4 * k + w) (dbx L (ro k) w) (a + 12) (4 * k + u) = dbx L (ro k) u := fun u hu => by
    by_cases cu : u = w
    · rw [cu, up2_s]
    · rw [up2_n (by omega)]
      exact (hI k u (by omega) (Or.inr ⟨rfl, by omega⟩)).1
  obtain ⟨v, ef, lk⟩ := firstLike_eq (n := n) (J := up2 J (a + 12) (4 * k + w) (dbx L (ro k) w)) (r := ro k) hE (k := k) (by omega) hw hd (dbx_rg vl.1 (by omega)) hn
  refine ⟨up2 (up2 J (a + 12) (4 * k + w) (dbx L (ro k) w)) (a + 13) (4 * k + w) (v : Int), ?_, fun b b1 b2 => by rw [up2_row b2, up2_row b1], fun j u hu hc => ?_⟩
  · unfold laJ
    rw [bL_inv hL, bnd pl]
    dsimp only
    rw [bE_g7 hE, bE_g10 hE, ed, bL_inv hL, bnd df]
    dsimp only
    rw [bE_st12 hE (by omega) (by omega), i12, bE_g8 hE, bE_inv hE, bnd ef]
    dsimp only
    rw [bE_st13 hE (by omega) (by omega), i12]
  · rw [up2_row (show a + 12 ≠ a + 13 by omega)]
    by_cases cu : j = k ∧ u = w
    · obtain ⟨rfl, rfl⟩ := cu
      rw [up2_s, up2_s]
      exact ⟨rfl, v, rfl, lk⟩
    · rw [up2_n (by omega), up2_n (by omega), up2_row (by omega)]
      exact hI j u hu (by omega)
theorem laW_l (hE : isSe μ a c) (hL : isL μ (c + 3)) (ha : c + 15 < a) (vl : vL l L) (op : opn l o ro R) (ho : o ≤ 3) (hX : cdX X (fD o ro L) (fF o ro L) (fS H L) g) (hn : 20000 ≤ n) {k : Nat} (hk : k < o) (nx : Int → Mem → Option (Unit × Mem)) : ∀ (d kk w : Nat) (J : Nat → Nat → Int), w + d = 4 → d < kk → envS J a c l o ro → okL (ld J (c + 3)) → laI L ro J a k w → ∃ K : Nat → Nat → Int, lp (laW n a (X : Int) (k : Int) ((ro k : Nat) : Int) (wtL L (2 * ro k)) (wtL L (2 * ro k + 1)) nx) kk (w : Int) (wi μ J) = nx ((k : Int) + 1) (wi μ K) ∧ (∀ b : Nat, b ≠ a + 12 → b ≠ a + 13 → K b = J b) ∧ laI L ro K a (k + 1) 0
  | d, 0, w, J, h1, h2, hJ, hm, hI => absurd h2 (by omega)
  | 0, kk + 1, w, J, h1, h2, hJ, hm, hI => by
    refine ⟨J, ?_, fun _ _ _ => rfl, fun j u hu hc => hI j u hu (by omega)⟩
    generalize hB : lp (laW n a (X : Int) (k : Int) ((ro k : Nat) : Int) (wtL L (2 * ro k)) (wtL L (2 * ro k + 1)) nx) kk = slf
    show laW n a (X : Int) (k : Int) ((ro k : Nat) : Int) (wtL L (2 * ro k)) (wtL L (2 * ro k + 1)) nx (lp (laW n a (X : Int) (k : Int) ((ro k : Nat) : Int) (wtL L (2 * ro k)) (wtL L (2 * ro k + 1)) nx) kk) (w : Int) (wi μ J) = _
    rw [hB]
    unfold laW
    rw [i_lt_f (by omega)]
  | d + 1, kk + 1, w, J, h1, h2, hJ, hm, hI => by
    have ih := laW_l hE hL ha vl op ho hX hn hk nx d kk (w + 1)
    generalize hB : lp (laW n a (X : Int) (k : Int) ((ro k : Nat) : Int) (wtL L (2 * ro k)) (wtL L (2 * ro k + 1)) nx) kk = slf at ih
    have hw : w < 4 := by omega
    obtain ⟨o1, o2⟩ := and_12 w hw
    have go : ∀ x y : Int, x = ((w % 2 : Nat) : Int) → y = ((w / 2 : Nat) : Int) → ∃ K : Nat → Nat → Int, laJ n a (X : Int) (k : Int) ((ro k : Nat) : Int) (wtL L (2 * ro k)) (wtL L (2 * ro k + 1)) (c + 3) (w : Int) slf x y (wi μ J) = nx ((k : Int) + 1) (wi μ K) ∧ (∀ b : Nat, b ≠ a + 12 → b ≠ a + 13 → K b = J b) ∧ laI L ro K a (k + 1) 0 := fun x y hx hy => by
      obtain ⟨K, e, g1, g2⟩ := laJ_w (n := n) hE hL hJ hm vl op ho hX hn hk hw hI slf hx hy
      have nl : ∀ j : Nat, j ≤ 12 → ld K (c + 3) j = ld J (c + 3) j := fun j hj => g1 _ (by omega) (by omega)
      obtain ⟨M, e2, f1, f2⟩ := ih K (by omega) (by omega) ⟨fun j hj j9 => (nl j hj).trans (hJ.1 j hj j9), by rw [g1 a (by omega) (by omega)]; exact hJ.2.1, fun j hj => by rw [g1 (a + 9) (by omega) (by omega)]; exact hJ.2.2 j hj⟩ (hm.cg nl) g2
      exact ⟨M, e.trans e2, fun b b1 b2 => (f1 b b1 b2).trans (g1 b b1 b2), f2⟩
    show ∃ K : Nat → Nat → Int, laW n a (X : Int) (k : Int) ((ro k : Nat) : Int) (wtL L (2 * ro k)) (wtL L (2 * ro k + 1)) nx (lp (laW n a (X : Int) (k : Int) ((ro k : Nat) : Int) (wtL L (2 * ro k)) (wtL L (2 * ro k + 1)) nx) kk) (w : Int) (wi μ J) = _ ∧ _
    rw [hB]
    unfold laW
    rw [i_lt_t (by omega), bE_g10 hE, o1, o2]
    by_cases c1 : w % 2 = 0
    · rw [i_eq_t (x := ((w % 2 : Nat) : Int)) (y := 0) (by omega)]
      by_cases c2 : w / 2 = 0
      · rw [i_eq_t (x := ((w / 2 * 2 : Nat) : Int)) (y := 0) (by omega)]
        exact go 0 0 (by omega) (by omega)
      · rw [i_eq_f (x := ((w / 2 * 2 : Nat) : Int)) (y := 0) (by omega)]
        exact go 0 1 (by omega) (by omega)
    · rw [i_eq_f (x := ((w % 2 : Nat) : Int)) (y := 0) (by omega)]
      by_cases c2 : w / 2 = 0
      · rw [i_eq_t (x := ((w / 2 * 2 : Nat) : Int)) (y := 0) (by omega)]
        exact go 1 0 (by omega) (by omega)
      · rw [i_eq_f (x := ((w / 2 * 2 : Nat) : Int)) (y := 0) (by omega)]
        exact go 1 1 (by omega) (by omega)
theorem laO_l (hE : isSe μ a c) (hL : isL μ (c + 3)) (ha : c + 15 < a) (vl : vL l L) (op : opn l o ro R) (ho : o ≤ 3) (hX : cdX X (fD o ro L) (fF o ro L) (fS H L) g) (hn : 20000 ≤ n) : ∀ (d kk k : Nat) (J : Nat → Nat → Int), k + d = o → d < kk → envS J a c l o ro → okL (ld J (c + 3)) → laI L ro J a k 0 → ∃ K : Nat → Nat → Int, lp (laO n a (X : Int)) kk (k : Int) (wi μ J) = some ((), wi μ K) ∧ (∀ b : Nat, b ≠ a + 12 → b ≠ a + 13 → K b = J b) ∧ laI L ro K a o 0
  | d, 0, k, J, h1, h2, hJ, hm, hI => absurd h2 (by omega)
  | 0, kk + 1, k, J, h1, h2, hJ, hm, hI => by
    have ek : k = o := by omega
    subst ek
    refine ⟨J, ?_, fun _ _ _ => rfl, hI⟩
    generalize hB : lp (laO n a (X : Int)) kk = slf
    show laO n a (X : Int) (lp (laO n a (X : Int)) kk) (k : Int) (wi μ J) = _
    rw [hB]
    unfold laO
    rw [bE_gI hE, hJ.2.1, i_lt_f (by omega)]
  | d + 1, kk + 1, k, J, h1, h2, hJ, hm, hI => by
    have ih := laO_l hE hL ha vl op ho hX hn d kk (k + 1)
    generalize hB : lp (laO n a (X : Int)) kk = slf at ih
    have w0 := weightIn_eq (n := n) hE hL hJ vl op ho hX (k := k) (s := 0) (by omega) (by omega)
    have w1 := weightIn_eq (n := n) hE hL hJ vl op ho hX (k := k) (s := 1) (by omega) (by omega)
    have w0' : mX4_weightIn n a (X : Int) (k : Int) 0 (wi μ J) = some (wtL L (2 * ro k), wi μ J) := w0
    have w1' : mX4_weightIn n a (X : Int) (k : Int) 1 (wi μ J) = some (wtL L (2 * ro k + 1), wi μ J) := w1
    obtain ⟨K, e, g1, g2⟩ := laW_l (n := n) hE hL ha vl op ho hX hn (k := k) (by omega) slf 4 n 0 J (by omega) (by omega) hJ hm hI
    have nl : ∀ j : Nat, j ≤ 12 → ld K (c + 3) j = ld J (c + 3) j := fun j hj => g1 _ (by omega) (by omega)
    obtain ⟨M, e2, f1, f2⟩ := ih K (by omega) (by omega) ⟨fun j hj j9 => (nl j hj).trans (hJ.1 j hj j9), by rw [g1 a (by omega) (by omega)]; exact hJ.2.1, fun j hj => by rw [g1 (a + 9) (by omega) (by omega)]; exact hJ.2.2 j hj⟩ (hm.cg nl) g2
    refine ⟨M, ?_, fun b b1 b2 => (f1 b b1 b2).trans (g1 b b1 b2), f2⟩
    show laO n a (X : Int) (lp (laO n a (X : Int)) kk) (k : Int) (wi μ J) = _
    rw [hB]
    unfold laO
    rw [bE_gI hE, hJ.2.1, i_lt_t (by omega), bE_g2 hE, bE_ld9 hE (by omega) (by omega), Int.toNat_natCast, hJ.2.2 k (by omega), bE_inv hE, bnd w0']
    dsimp only
    rw [bE_inv hE, bnd w1']
    dsimp only
    exact e.trans e2
theorem lookAhead_eq (hE : isSe μ a c) (hL : isL μ (c + 3)) (ha : c + 15 < a) (vl : vL l L) (op : opn l o ro R) (ho : o ≤ 3) (hX : cdX X (fD o ro L) (fF o ro L) (fS H L) g) (hn : 20000 ≤ n) (hJ : envS J a c l o ro) (hm : okL (ld J (c + 3))) : ∃ K : Nat → Nat → Int, mX4_lookAhead n a (X : Int) (wi μ J) = some ((), wi μ K) ∧ (∀ b : Nat, b ≠ a + 12 → b ≠ a + 13 → K b = J b) ∧ laI L ro K a o 0 := by
  rw [lookAhead_s]
  exact laO_l (n := n) hE hL ha vl op ho hX hn o n 0 J (by omega) (by omega) hJ hm (fun j u hu hc => absurd hc (by omega))
end LA
