/-! the law's loop -/
def LI (a c L : Nat) (μ : Mem) (I : Nat → Nat → Int) : Prop := isC μ c ∧ isM μ (c + 193) ∧ hasS μ c ∧ RelC c I ∧ isX μ c I ∧ (∀ k : Nat, k < 11 → mA μ 0 k < c) ∧ (0 < c ∧ a < c) ∧ mS μ a = (20 + 7, L) ∧ ∀ j : Nat, j < L → -2147483648 ≤ I a j ∧ I a j < 2147483648
def LW (c W : Nat) (μ : Mem) : Prop := mW μ ≤ W ∧ (mN μ = c + 214 → mW μ + 20329 ≤ W)
section LQ
variable {μ : Mem} {I : Nat → Nat → Int} {n a c L W : Nat} {v : Int} {nx : Int → Mem → Option (Int × Mem)}
theorem LI.step {f g : Mem → Option (Int × Mem)} (h : LI a c L μ I) (hw : LW c W μ) (hB : BothS μ c I f g) : ∃ (r : Int) (ν : Mem) (J K : Nat → Nat → Int), f (wi μ I) = some (r, wi ν J) ∧ g (wi ν J) = some (r, wi ν K) ∧ LI a c L ν K ∧ LW c W ν ∧ J a = I a := by
  obtain ⟨r, ν, J, K, e1, e2, hR, hI, hG⟩ := hB
  obtain ⟨i1, i2, i3, i4, i5, i6, i7, i8, i9⟩ := h
  obtain ⟨g1, g2, g3, g4, g5⟩ := hG
  refine ⟨r, ν, J, K, e1, e2, ⟨g2, g3, g4, hR, fun k hk => ?_, fun k hk => ?_, i7, ?_, fun j hj => ?_⟩, ⟨?_, fun w => ?_⟩, (hI a i7.2).2⟩
  · obtain ⟨x1, x2, x3, x4⟩ := i5 k hk
    have t0 := i6 k hk
    have q1 : mA ν 0 k = mA μ 0 k := g1.2 0 k (by omega) (by omega)
    have q2 : mA ν (mA μ 0 k) 0 = mA μ (mA μ 0 k) 0 := g1.2 _ 0 (by omega) (by omega)
    rw [q1, q2, g1.1 _ (by omega), g1.1 _ (by omega)]
    refine ⟨x1, x2, x3, fun j => ?_⟩
    rw [(hI _ x3).1]
    exact x4 j
  · rw [g1.2 0 k (by omega) (by omega)]
    exact i6 k hk
  · rw [g1.1 a (by omega)]
    exact i8
  · rw [(hI a i7.2).1]
    exact i9 j hj
  · have := hw.1
    have := hw.2
    omega
  · have := hw.1
    have := hw.2
    omega
theorem LI.ld (h : LI a c L μ I) (hL : L ≤ 3072) {w : Int} (h0 : 0 ≤ w) (h1 : w < (L : Int)) : ldI (wi μ I) 7 a w = some (I a w.toNat) := e_ldI h.2.2.2.2.2.2.2.1 h0 h1 (by omega)
theorem LI.rg (h : LI a c L μ I) {w : Int} (h0 : 0 ≤ w) (h1 : w < (L : Int)) : -2147483648 ≤ I a w.toNat ∧ I a w.toNat < 2147483648 := h.2.2.2.2.2.2.2.2 w.toNat (by omega)
theorem LI.C (h : LI a c L μ I) : isC μ c := h.1
theorem LI.M (h : LI a c L μ I) : isM μ (c + 193) := h.2.1
theorem LI.S (h : LI a c L μ I) : hasS μ c := h.2.2.1
theorem LI.R (h : LI a c L μ I) : RelC c I := h.2.2.2.1
theorem LI.X (h : LI a c L μ I) : isX μ c I := h.2.2.2.2.1
theorem LI.ldJ {ν : Mem} {J K : Nat → Nat → Int} (h : LI a c L ν K) (hJ : J a = I a) (hL : L ≤ 3072) {w : Int} (h0 : 0 ≤ w) (h1 : w < (L : Int)) : ldI (wi ν J) 7 a w = some (I a w.toNat) := by rw [← hJ]; exact e_ldI h.2.2.2.2.2.2.2.1 h0 h1 (by omega)
/-- what a call of the law leaves -/
def LN (n a c L W : Nat) (nx : Int → Mem → Option (Int × Mem)) (v : Int) (X : Option (Int × Mem)) : Prop := ∃ (ν : Mem) (K : Nat → Nat → Int), X = nx (v + 6) (wi ν K) ∧ LI a c L ν K ∧ LW c W ν
theorem cmp_0 (x : Int) : eq32 (oLcmp x x) 0 := by
  have : lg_cmp (Int64.ofInt x) (Int64.ofInt x) = 0 := by
    unfold lg_cmp
    rw [if_neg (Int64.lt_irrefl), if_pos rfl]
  unfold eq32 oLcmp
  rw [this]
  rfl
theorem lr_64 (x y : Int) : -9223372036854775808 ≤ lOr x y ∧ lOr x y < 9223372036854775808 := by
  unfold lOr
  exact ⟨Int64.le_toInt _, Int64.toInt_lt _⟩

theorem lr_0 (h : LI a c L μ I) (hw : LW c W μ) (hL : L ≤ 3072) (hn : 20000 ≤ n) (h0 : 0 ≤ v) (h1 : v + 6 ≤ (L : Int)) : LN n a c L W nx v (lc_0 n a c (c + 193) nx v (wi μ I)) := by
  have r1 := h.rg (w := v + 1) (by omega) (by omega)
  have r2 := h.rg (w := v + 2) (by omega) (by omega)
  have r3 := h.rg (w := v + 3) (by omega) (by omega)
  have r4 := h.rg (w := v + 4) (by omega) (by omega)
  have r5 := h.rg (w := v + 5) (by omega) (by omega)
  obtain ⟨r, ν, J, K, e1, e2, hN, hW, hJ⟩ := h.step hw (Both.s (both_feed (n := n) (μ := μ) (c := c) (I := I) (a := I a (v + 1).toNat) (b := I a (v + 2).toNat) (x := I a (v + 3).toNat) (d := I a (v + 4).toNat) (e := I a (v + 5).toNat) h.C h.M h.R r1 r2 r3 r4 r5 (by omega)) h.C h.M h.S)
  refine ⟨ν, K, ?_, hN, hW⟩
  unfold lc_0
  rw [bnd (h.ld hL (by omega) (by omega)), bnd (h.ld hL (by omega) (by omega)), bnd (h.ld hL (by omega) (by omega)), bnd (h.ld hL (by omega) (by omega)), bnd (h.ld hL (by omega) (by omega)), C_inv h.C, bnd e1]
  dsimp only
  rw [bnd (hN.ldJ hJ hL (by omega) (by omega)), bnd (hN.ldJ hJ hL (by omega) (by omega)), bnd (hN.ldJ hJ hL (by omega) (by omega)), bnd (hN.ldJ hJ hL (by omega) (by omega)), bnd (hN.ldJ hJ hL (by omega) (by omega)), M_inv hN.M, bnd e2]
  exact if_pos rfl
theorem lr_1 (h : LI a c L μ I) (hw : LW c W μ) (hL : L ≤ 3072) (hn : 20000 ≤ n) (h0 : 0 ≤ v) (h1 : v + 6 ≤ (L : Int)) : LN n a c L W nx v (lc_1 n a c (c + 193) nx v (wi μ I)) := by
  have r1 := h.rg (w := v + 1) (by omega) (by omega)
  obtain ⟨r, ν, J, K, e1, e2, hN, hW, hJ⟩ := h.step hw (Both.s (both_land (n := n) (μ := μ) (c := c) (I := I) (b := I a (v + 1).toNat) h.C h.M h.R h.X r1 (by omega)) h.C h.M h.S)
  refine ⟨ν, K, ?_, hN, hW⟩
  unfold lc_1
  rw [bnd (h.ld hL (by omega) (by omega)), C_inv h.C, bnd e1]
  dsimp only
  rw [bnd (hN.ldJ hJ hL (by omega) (by omega)), M_inv hN.M, bnd e2]
  exact if_pos rfl
theorem lr_2 (h : LI a c L μ I) (hw : LW c W μ) (hL : L ≤ 3072) (hn : 20000 ≤ n) (h0 : 0 ≤ v) (h1 : v + 6 ≤ (L : Int)) : LN n a c L W nx v (lc_2 n a c (c + 193) nx v (wi μ I)) := by
  have r1 := h.rg (w := v + 1) (by omega) (by omega)
  obtain ⟨r, ν, J, K, e1, e2, hN, hW, hJ⟩ := h.step hw (Both.s (both_fault (n := n) (μ := μ) (c := c) (I := I) (b := I a (v + 1).toNat) h.C h.M h.R) h.C h.M h.S)
  refine ⟨ν, K, ?_, hN, hW⟩
  unfold lc_2
  rw [bnd (h.ld hL (by omega) (by omega)), C_inv h.C, bnd e1]
  dsimp only
  rw [bnd (hN.ldJ hJ hL (by omega) (by omega)), M_inv hN.M, bnd e2]
  exact if_pos rfl
theorem lr_3 (h : LI a c L μ I) (hw : LW c W μ) (hL : L ≤ 3072) (hn : 20000 ≤ n) (h0 : 0 ≤ v) (h1 : v + 6 ≤ (L : Int)) : LN n a c L W nx v (lc_3 n a c (c + 193) nx v (wi μ I)) := by
  have r1 := h.rg (w := v + 1) (by omega) (by omega)
  have r2 := h.rg (w := v + 2) (by omega) (by omega)
  obtain ⟨r, ν, J, K, e1, e2, hN, hW, hJ⟩ := h.step hw (Both.s (both_house (n := n) (μ := μ) (c := c) (I := I) (b := I a (v + 1).toNat) (x := I a (v + 2).toNat) h.C h.M h.R r1 r2 (by omega)) h.C h.M h.S)
  refine ⟨ν, K, ?_, hN, hW⟩
  unfold lc_3
  rw [bnd (h.ld hL (by omega) (by omega)), bnd (h.ld hL (by omega) (by omega)), C_inv h.C, bnd e1]
  dsimp only
  rw [bnd (hN.ldJ hJ hL (by omega) (by omega)), bnd (hN.ldJ hJ hL (by omega) (by omega)), M_inv hN.M, bnd e2]
  exact if_pos rfl
theorem lr_4 (h : LI a c L μ I) (hw : LW c W μ) (hL : L ≤ 3072) (hn : 20000 ≤ n) (h0 : 0 ≤ v) (h1 : v + 6 ≤ (L : Int)) : LN n a c L W nx v (lc_4 n a c (c + 193) nx v (wi μ I)) := by
  have r1 := h.rg (w := v + 1) (by omega) (by omega)
  have r2 := h.rg (w := v + 2) (by omega) (by omega)
  obtain ⟨r, ν, J, K, e1, e2, hN, hW, hJ⟩ := h.step hw (Both.s (both_rope (n := n) (μ := μ) (c := c) (I := I) (b := I a (v + 1).toNat) (x := I a (v + 2).toNat) h.C h.M h.R r1) h.C h.M h.S)
  refine ⟨ν, K, ?_, hN, hW⟩
  unfold lc_4
  rw [bnd (h.ld hL (by omega) (by omega)), bnd (h.ld hL (by omega) (by omega)), C_inv h.C, bnd e1]
  dsimp only
  rw [bnd (hN.ldJ hJ hL (by omega) (by omega)), bnd (hN.ldJ hJ hL (by omega) (by omega)), M_inv hN.M, bnd e2]
  exact if_pos rfl
theorem lr_5 (h : LI a c L μ I) (hw : LW c W μ) (hL : L ≤ 3072) (hn : 20000 ≤ n) (h0 : 0 ≤ v) (h1 : v + 6 ≤ (L : Int)) : LN n a c L W nx v (lc_5 n a c (c + 193) nx v (wi μ I)) := by
  obtain ⟨r, ν, J, K, e1, e2, hN, hW, hJ⟩ := h.step hw (Both.s (both_pass (n := n) (μ := μ) (c := c) (I := I)  h.C h.M h.R (by omega)) h.C h.M h.S)
  refine ⟨ν, K, ?_, hN, hW⟩
  unfold lc_5
  rw [C_inv h.C, bnd e1]
  dsimp only
  rw [M_inv hN.M, bnd e2]
  exact if_pos rfl
theorem lr_6 (h : LI a c L μ I) (hw : LW c W μ) (hL : L ≤ 3072) (hn : 20000 ≤ n) (h0 : 0 ≤ v) (h1 : v + 6 ≤ (L : Int)) : LN n a c L W nx v (lc_6 n a c (c + 193) nx v (wi μ I)) := by
  have r1 := h.rg (w := v + 1) (by omega) (by omega)
  have r2 := h.rg (w := v + 2) (by omega) (by omega)
  obtain ⟨r, ν, J, K, e1, e2, hN, hW, hJ⟩ := h.step hw (Both.s (both_pull (n := n) (μ := μ) (c := c) (I := I) (b := I a (v + 1).toNat) (x := I a (v + 2).toNat) h.C h.M h.R r1 r2 (by omega)) h.C h.M h.S)
  refine ⟨ν, K, ?_, hN, hW⟩
  unfold lc_6
  rw [bnd (h.ld hL (by omega) (by omega)), bnd (h.ld hL (by omega) (by omega)), C_inv h.C, bnd e1]
  dsimp only
  rw [bnd (hN.ldJ hJ hL (by omega) (by omega)), bnd (hN.ldJ hJ hL (by omega) (by omega)), M_inv hN.M, bnd e2]
  exact if_pos rfl
theorem lr_7 (h : LI a c L μ I) (hw : LW c W μ) (hL : L ≤ 3072) (hn : 20000 ≤ n) (h0 : 0 ≤ v) (h1 : v + 6 ≤ (L : Int)) : LN n a c L W nx v (lc_7 n a c (c + 193) nx v (wi μ I)) := by
  have r1 := h.rg (w := v + 1) (by omega) (by omega)
  have r2 := h.rg (w := v + 2) (by omega) (by omega)
  obtain ⟨r, ν, J, K, e1, e2, hN, hW, hJ⟩ := h.step hw (Both.s (both_judge (n := n) (μ := μ) (c := c) (I := I) (b := I a (v + 1).toNat) (x := I a (v + 2).toNat) h.C h.M h.R r1 r2 (by omega)) h.C h.M h.S)
  refine ⟨ν, K, ?_, hN, hW⟩
  unfold lc_7
  rw [bnd (h.ld hL (by omega) (by omega)), bnd (h.ld hL (by omega) (by omega)), C_inv h.C, bnd e1]
  dsimp only
  rw [bnd (hN.ldJ hJ hL (by omega) (by omega)), bnd (hN.ldJ hJ hL (by omega) (by omega)), M_inv hN.M, bnd e2]
  exact if_pos rfl
theorem lr_8 (h : LI a c L μ I) (hw : LW c W μ) (hL : L ≤ 3072) (hn : 20000 ≤ n) (h0 : 0 ≤ v) (h1 : v + 6 ≤ (L : Int)) : LN n a c L W nx v (lc_8 n a c (c + 193) nx v (wi μ I)) := by
  have r1 := h.rg (w := v + 1) (by omega) (by omega)
  obtain ⟨r, ν, J, K, e1, e2, hN, hW, hJ⟩ := h.step hw (Both.s (both_perform (n := n) (μ := μ) (c := c) (I := I) (b := I a (v + 1).toNat) h.C h.M h.R r1 (by omega)) h.C h.M h.S)
  refine ⟨ν, K, ?_, hN, hW⟩
  unfold lc_8
  rw [bnd (h.ld hL (by omega) (by omega)), C_inv h.C, bnd e1]
  dsimp only
  rw [bnd (hN.ldJ hJ hL (by omega) (by omega)), M_inv hN.M, bnd e2]
  exact if_pos rfl
theorem lr_9 (h : LI a c L μ I) (hw : LW c W μ) (hL : L ≤ 3072) (hn : 20000 ≤ n) (h0 : 0 ≤ v) (h1 : v + 6 ≤ (L : Int)) : LN n a c L W nx v (lc_9 n a c (c + 193) nx v (wi μ I)) := by
  have r1 := h.rg (w := v + 1) (by omega) (by omega)
  have r2 := h.rg (w := v + 2) (by omega) (by omega)
  obtain ⟨r, ν, J, K, e1, e2, hN, hW, hJ⟩ := h.step hw (Both.s (both_custom (n := n) (μ := μ) (c := c) (I := I) (b := I a (v + 1).toNat) (x := I a (v + 2).toNat) h.C h.M h.R r1 r2 (by omega)) h.C h.M h.S)
  refine ⟨ν, K, ?_, hN, hW⟩
  unfold lc_9
  rw [bnd (h.ld hL (by omega) (by omega)), bnd (h.ld hL (by omega) (by omega)), C_inv h.C, bnd e1]
  dsimp only
  rw [bnd (hN.ldJ hJ hL (by omega) (by omega)), bnd (hN.ldJ hJ hL (by omega) (by omega)), M_inv hN.M, bnd e2]
  exact if_pos rfl
theorem lr_10 (h : LI a c L μ I) (hw : LW c W μ) (hL : L ≤ 3072) (hn : 20000 ≤ n) (h0 : 0 ≤ v) (h1 : v + 6 ≤ (L : Int)) : LN n a c L W nx v (lc_10 n a c (c + 193) nx v (wi μ I)) := by
  have r1 := h.rg (w := v + 1) (by omega) (by omega)
  obtain ⟨r, ν, J, K, e1, e2, hN, hW, hJ⟩ := h.step hw (Both.s (both_live (n := n) (μ := μ) (c := c) (I := I) (b := I a (v + 1).toNat) h.C h.M h.R r1 (by omega)) h.C h.M h.S)
  refine ⟨ν, K, ?_, hN, hW⟩
  unfold lc_10
  rw [bnd (h.ld hL (by omega) (by omega)), C_inv h.C, bnd e1]
  dsimp only
  rw [bnd (hN.ldJ hJ hL (by omega) (by omega)), M_inv hN.M, bnd e2]
  exact if_pos rfl
theorem lr_11 (h : LI a c L μ I) (hw : LW c W μ) (hL : L ≤ 3072) (hn : 20000 ≤ n) (h0 : 0 ≤ v) (h1 : v + 6 ≤ (L : Int)) : LN n a c L W nx v (lc_11 n a c (c + 193) nx v (wi μ I)) := by
  have r1 := h.rg (w := v + 1) (by omega) (by omega)
  have r2 := h.rg (w := v + 2) (by omega) (by omega)
  obtain ⟨r, ν, J, K, e1, e2, hN, hW, hJ⟩ := h.step hw (Both.s (both_drought (n := n) (μ := μ) (c := c) (I := I) (x := I a (v + 1).toNat) (b := I a (v + 2).toNat) h.C h.M h.R r2 (by omega)) h.C h.M h.S)
  refine ⟨ν, K, ?_, hN, hW⟩
  unfold lc_11
  rw [bnd (h.ld hL (by omega) (by omega)), bnd (h.ld hL (by omega) (by omega)), C_inv h.C, bnd e1]
  dsimp only
  rw [bnd (hN.ldJ hJ hL (by omega) (by omega)), bnd (hN.ldJ hJ hL (by omega) (by omega)), M_inv hN.M, bnd e2]
  exact if_pos rfl
theorem lr_12 (h : LI a c L μ I) (hw : LW c W μ) (hL : L ≤ 3072) (hn : 20000 ≤ n) (h0 : 0 ≤ v) (h1 : v + 6 ≤ (L : Int)) : LN n a c L W nx v (lc_12 n a c (c + 193) nx v (wi μ I)) := by
  have r1 := h.rg (w := v + 1) (by omega) (by omega)
  obtain ⟨r, ν, J, K, e1, e2, hN, hW, hJ⟩ := h.step hw (Both.s (both_cut (n := n) (μ := μ) (c := c) (I := I) (b := I a (v + 1).toNat) h.C h.M h.R r1) h.C h.M h.S)
  refine ⟨ν, K, ?_, hN, hW⟩
  unfold lc_12
  rw [bnd (h.ld hL (by omega) (by omega)), C_inv h.C, bnd e1]
  dsimp only
  rw [bnd (hN.ldJ hJ hL (by omega) (by omega)), M_inv hN.M, bnd e2]
  exact if_pos rfl
theorem lr_13 (h : LI a c L μ I) (hw : LW c W μ) (hL : L ≤ 3072) (hn : 20000 ≤ n) (h0 : 0 ≤ v) (h1 : v + 6 ≤ (L : Int)) : LN n a c L W nx v (lc_13 n a c (c + 193) nx v (wi μ I)) := by
  have r1 := h.rg (w := v + 1) (by omega) (by omega)
  have r2 := h.rg (w := v + 2) (by omega) (by omega)
  have r3 := h.rg (w := v + 3) (by omega) (by omega)
  unfold lc_13
  rw [bnd (h.ld hL (by omega) (by omega)), bnd (h.ld hL (by omega) (by omega))]
  by_cases c2 : eq32 (I a (v + 2).toNat) 0
  · have q : True := trivial
    obtain ⟨r, ν, J, K, e1, e2, hN, hW, hJ⟩ := h.step hw (Both.s (both_stones (n := n) (μ := μ) (c := c) (I := I) (b := I a (v + 1).toNat) (t := 0) (x := I a (v + 3).toNat) h.C h.M h.R r1 r3) h.C h.M h.S)
    refine ⟨ν, K, ?_, hN, hW⟩
    unfold jn
    dsimp only
    rw [if_pos c2, bnd (h.ld hL (by omega) (by omega)), C_inv h.C, bnd e1]
    dsimp only
    rw [bnd (hN.ldJ hJ hL (by omega) (by omega)), bnd (hN.ldJ hJ hL (by omega) (by omega))]
    rw [if_pos c2, bnd (hN.ldJ hJ hL (by omega) (by omega)), M_inv hN.M, bnd e2]
    exact if_pos rfl
  · have q : True := trivial
    obtain ⟨r, ν, J, K, e1, e2, hN, hW, hJ⟩ := h.step hw (Both.s (both_stones (n := n) (μ := μ) (c := c) (I := I) (b := I a (v + 1).toNat) (t := 1) (x := I a (v + 3).toNat) h.C h.M h.R r1 r3) h.C h.M h.S)
    refine ⟨ν, K, ?_, hN, hW⟩
    unfold jn
    dsimp only
    rw [if_neg c2, bnd (h.ld hL (by omega) (by omega)), C_inv h.C, bnd e1]
    dsimp only
    rw [bnd (hN.ldJ hJ hL (by omega) (by omega)), bnd (hN.ldJ hJ hL (by omega) (by omega))]
    rw [if_neg c2, bnd (hN.ldJ hJ hL (by omega) (by omega)), M_inv hN.M, bnd e2]
    exact if_pos rfl
theorem lr_14 (h : LI a c L μ I) (hw : LW c W μ) (hL : L ≤ 3072) (hn : 20000 ≤ n) (h0 : 0 ≤ v) (h1 : v + 6 ≤ (L : Int)) : LN n a c L W nx v (lc_14 n a c (c + 193) nx v (wi μ I)) := by
  obtain ⟨r, ν, J, K, e1, e2, hN, hW, hJ⟩ := h.step hw (Both.s (both_rests (n := n) (μ := μ) (c := c) (I := I)  h.C h.M h.R (by omega)) h.C h.M h.S)
  refine ⟨ν, K, ?_, hN, hW⟩
  unfold lc_14
  rw [C_inv h.C, bnd e1]
  dsimp only
  rw [M_inv hN.M, bnd e2]
  exact if_pos rfl
theorem lr_15 (h : LI a c L μ I) (hw : LW c W μ) (hL : L ≤ 3072) (hn : 20000 ≤ n) (h0 : 0 ≤ v) (h1 : v + 6 ≤ (L : Int)) : LN n a c L W nx v (lc_15 n a c (c + 193) nx v (wi μ I)) := by
  obtain ⟨r, ν, J, K, e1, e2, hN, hW, hJ⟩ := h.step hw (Both.s (both_calm (n := n) (μ := μ) (c := c) (I := I)  h.C h.M h.R (by omega)) h.C h.M h.S)
  refine ⟨ν, K, ?_, hN, hW⟩
  unfold lc_15
  rw [C_inv h.C, bnd e1]
  dsimp only
  rw [M_inv hN.M, bnd e2]
  exact if_pos rfl
theorem lr_16 (h : LI a c L μ I) (hw : LW c W μ) (hL : L ≤ 3072) (hn : 20000 ≤ n) (h0 : 0 ≤ v) (h1 : v + 6 ≤ (L : Int)) : LN n a c L W nx v (lc_16 n a c (c + 193) nx v (wi μ I)) := by
  obtain ⟨r, ν, J, K, e1, e2, hN, hW, hJ⟩ := h.step hw (Both.s (both_even (n := n) (μ := μ) (c := c) (I := I)  h.C h.M h.R (by omega)) h.C h.M h.S)
  refine ⟨ν, K, ?_, hN, hW⟩
  unfold lc_16
  rw [C_inv h.C, bnd e1]
  dsimp only
  rw [M_inv hN.M, bnd e2]
  exact if_pos rfl
theorem lr_17 (h : LI a c L μ I) (hw : LW c W μ) (hL : L ≤ 3072) (hn : 20000 ≤ n) (h0 : 0 ≤ v) (h1 : v + 6 ≤ (L : Int)) : LN n a c L W nx v (lc_17 n a c (c + 193) nx v (wi μ I)) := by
  have r1 := h.rg (w := v + 1) (by omega) (by omega)
  have r2 := h.rg (w := v + 2) (by omega) (by omega)
  obtain ⟨r, ν, J, K, e1, e2, hN, hW, hJ⟩ := h.step hw (Both.s (both_lifts (n := n) (μ := μ) (c := c) (I := I) (b := I a (v + 1).toNat) (x := I a (v + 2).toNat) h.C h.M h.R r1 r2) h.C h.M h.S)
  refine ⟨ν, K, ?_, hN, hW⟩
  unfold lc_17
  rw [bnd (h.ld hL (by omega) (by omega)), bnd (h.ld hL (by omega) (by omega)), C_inv h.C, bnd e1]
  dsimp only
  rw [bnd (hN.ldJ hJ hL (by omega) (by omega)), bnd (hN.ldJ hJ hL (by omega) (by omega)), M_inv hN.M, bnd e2]
  exact if_pos rfl
theorem lr_18 (h : LI a c L μ I) (hw : LW c W μ) (hL : L ≤ 3072) (hn : 20000 ≤ n) (h0 : 0 ≤ v) (h1 : v + 6 ≤ (L : Int)) : LN n a c L W nx v (lc_18 n a c (c + 193) nx v (wi μ I)) := by
  obtain ⟨r, ν, J, K, e1, e2, hN, hW, hJ⟩ := h.step hw (Both.s (both_together (n := n) (μ := μ) (c := c) (I := I)  h.C h.M h.R (by omega)) h.C h.M h.S)
  refine ⟨ν, K, ?_, hN, hW⟩
  unfold lc_18
  rw [C_inv h.C, bnd e1]
  dsimp only
  rw [M_inv hN.M, bnd e2]
  exact if_pos rfl
theorem lr_19 (h : LI a c L μ I) (hw : LW c W μ) (hL : L ≤ 3072) (hn : 20000 ≤ n) (h0 : 0 ≤ v) (h1 : v + 6 ≤ (L : Int)) : LN n a c L W nx v (lc_19 n a c (c + 193) nx v (wi μ I)) := by
  obtain ⟨r, ν, J, K, e1, e2, hN, hW, hJ⟩ := h.step hw (Both.s (both_parted (n := n) (μ := μ) (c := c) (I := I)  h.C h.M h.R (by omega)) h.C h.M h.S)
  refine ⟨ν, K, ?_, hN, hW⟩
  unfold lc_19
  rw [C_inv h.C, bnd e1]
  dsimp only
  rw [M_inv hN.M, bnd e2]
  exact if_pos rfl
theorem lr_20 (h : LI a c L μ I) (hw : LW c W μ) (hL : L ≤ 3072) (hn : 20000 ≤ n) (h0 : 0 ≤ v) (h1 : v + 6 ≤ (L : Int)) : LN n a c L W nx v (lc_20 n a c (c + 193) nx v (wi μ I)) := by
  obtain ⟨r, ν, J, K, e1, e2, hN, hW, hJ⟩ := h.step hw (Both.s (both_ring (n := n) (μ := μ) (c := c) (I := I)  h.C h.M h.R (by omega)) h.C h.M h.S)
  refine ⟨ν, K, ?_, hN, hW⟩
  unfold lc_20
  rw [C_inv h.C, bnd e1]
  dsimp only
  rw [M_inv hN.M, bnd e2]
  exact if_pos rfl
theorem lr_21 (h : LI a c L μ I) (hw : LW c W μ) (hL : L ≤ 3072) (hn : 20000 ≤ n) (h0 : 0 ≤ v) (h1 : v + 6 ≤ (L : Int)) : LN n a c L W nx v (lc_21 n a c (c + 193) nx v (wi μ I)) := by
  have r1 := h.rg (w := v + 1) (by omega) (by omega)
  obtain ⟨r, ν, J, K, e1, e2, hN, hW, hJ⟩ := h.step hw (Both.s (both_neighbours (n := n) (μ := μ) (c := c) (I := I) (b := I a (v + 1).toNat) h.C h.M h.R r1 (by omega)) h.C h.M h.S)
  refine ⟨ν, K, ?_, hN, hW⟩
  unfold lc_21
  rw [bnd (h.ld hL (by omega) (by omega)), C_inv h.C, bnd e1]
  dsimp only
  rw [bnd (hN.ldJ hJ hL (by omega) (by omega)), M_inv hN.M, bnd e2]
  exact if_pos rfl
theorem lr_22 (h : LI a c L μ I) (hw : LW c W μ) (hL : L ≤ 3072) (hn : 20000 ≤ n) (h0 : 0 ≤ v) (h1 : v + 6 ≤ (L : Int)) : LN n a c L W nx v (lc_22 n a c (c + 193) nx v (wi μ I)) := by
  have r1 := h.rg (w := v + 1) (by omega) (by omega)
  obtain ⟨r, ν, J, K, e1, e2, hN, hW, hJ⟩ := h.step hw (Both.s (both_severs (n := n) (μ := μ) (c := c) (I := I) (b := I a (v + 1).toNat) h.C h.M h.R r1 (by omega)) h.C h.M h.S)
  refine ⟨ν, K, ?_, hN, hW⟩
  unfold lc_22
  rw [bnd (h.ld hL (by omega) (by omega)), C_inv h.C, bnd e1]
  dsimp only
  rw [bnd (hN.ldJ hJ hL (by omega) (by omega)), M_inv hN.M, bnd e2]
  exact if_pos rfl
theorem lr_23 (h : LI a c L μ I) (hw : LW c W μ) (hL : L ≤ 3072) (hn : 20000 ≤ n) (h0 : 0 ≤ v) (h1 : v + 6 ≤ (L : Int)) : LN n a c L W nx v (lc_23 n a c (c + 193) nx v (wi μ I)) := by
  have r1 := h.rg (w := v + 1) (by omega) (by omega)
  have r2 := h.rg (w := v + 2) (by omega) (by omega)
  obtain ⟨r, ν, J, K, e1, e2, hN, hW, hJ⟩ := h.step hw (both_soonest (n := n) (μ := μ) (c := c) (I := I) (b := I a (v + 1).toNat) (x := I a (v + 2).toNat) h.C h.M h.S h.R r1 r2 (by omega))
  refine ⟨ν, K, ?_, hN, hW⟩
  unfold lc_23
  rw [bnd (h.ld hL (by omega) (by omega)), bnd (h.ld hL (by omega) (by omega)), C_inv h.C, bnd e1]
  dsimp only
  rw [bnd (hN.ldJ hJ hL (by omega) (by omega)), bnd (hN.ldJ hJ hL (by omega) (by omega)), M_inv hN.M, bnd e2]
  exact if_pos rfl
theorem lr_24 (h : LI a c L μ I) (hw : LW c W μ) (hL : L ≤ 3072) (hn : 20000 ≤ n) (h0 : 0 ≤ v) (h1 : v + 6 ≤ (L : Int)) : LN n a c L W nx v (lc_24 n a c (c + 193) nx v (wi μ I)) := by
  have r1 := h.rg (w := v + 1) (by omega) (by omega)
  have r2 := h.rg (w := v + 2) (by omega) (by omega)
  obtain ⟨r, ν, J, K, e1, e2, hN, hW, hJ⟩ := h.step hw (both_loss (n := n) (μ := μ) (c := c) (I := I) (b := I a (v + 1).toNat) (x := I a (v + 2).toNat) h.C h.M h.S h.R r1 r2 (by omega))
  refine ⟨ν, K, ?_, hN, hW⟩
  unfold lc_24
  rw [bnd (h.ld hL (by omega) (by omega)), bnd (h.ld hL (by omega) (by omega)), C_inv h.C, bnd e1]
  dsimp only
  rw [bnd (hN.ldJ hJ hL (by omega) (by omega)), bnd (hN.ldJ hJ hL (by omega) (by omega)), M_inv hN.M, bnd e2]
  exact if_pos rfl
theorem lr_25 (h : LI a c L μ I) (hw : LW c W μ) (hL : L ≤ 3072) (hn : 20000 ≤ n) (h0 : 0 ≤ v) (h1 : v + 6 ≤ (L : Int)) : LN n a c L W nx v (lc_25 n a c (c + 193) nx v (wi μ I)) := by
  have r1 := h.rg (w := v + 1) (by omega) (by omega)
  have r2 := h.rg (w := v + 2) (by omega) (by omega)
  obtain ⟨r, ν, J, K, e1, e2, hN, hW, hJ⟩ := h.step hw (both_cheapest (n := n) (μ := μ) (c := c) (I := I) (b := I a (v + 1).toNat) (x := I a (v + 2).toNat) h.C h.M h.S h.R r1 r2 (by omega))
  refine ⟨ν, K, ?_, hN, hW⟩
  unfold lc_25
  rw [bnd (h.ld hL (by omega) (by omega)), bnd (h.ld hL (by omega) (by omega)), C_inv h.C, bnd e1]
  dsimp only
  rw [bnd (hN.ldJ hJ hL (by omega) (by omega)), bnd (hN.ldJ hJ hL (by omega) (by omega)), M_inv hN.M, bnd e2]
  exact if_pos rfl
theorem lr_26 (h : LI a c L μ I) (hw : LW c W μ) (hL : L ≤ 3072) (hn : 20000 ≤ n) (h0 : 0 ≤ v) (h1 : v + 6 ≤ (L : Int)) : LN n a c L W nx v (lc_26 n a c (c + 193) nx v (wi μ I)) := by
  have r1 := h.rg (w := v + 1) (by omega) (by omega)
  have r2 := h.rg (w := v + 2) (by omega) (by omega)
  have r3 := h.rg (w := v + 3) (by omega) (by omega)
  obtain ⟨r, ν, J, K, e1, e2, hN, hW, hJ⟩ := h.step hw (Both.s (both_alone (n := n) (μ := μ) (c := c) (I := I) (b := I a (v + 1).toNat) (x := I a (v + 2).toNat) (y := I a (v + 3).toNat) h.C h.M h.R r1 r2 r3 (by omega)) h.C h.M h.S)
  refine ⟨ν, K, ?_, hN, hW⟩
  unfold lc_26
  rw [bnd (h.ld hL (by omega) (by omega)), bnd (h.ld hL (by omega) (by omega)), bnd (h.ld hL (by omega) (by omega)), C_inv h.C, bnd e1]
  dsimp only
  rw [bnd (hN.ldJ hJ hL (by omega) (by omega)), bnd (hN.ldJ hJ hL (by omega) (by omega)), bnd (hN.ldJ hJ hL (by omega) (by omega)), M_inv hN.M, bnd e2]
  exact if_pos rfl
theorem lr_27 (h : LI a c L μ I) (hw : LW c W μ) (hL : L ≤ 3072) (hn : 20000 ≤ n) (h0 : 0 ≤ v) (h1 : v + 6 ≤ (L : Int)) : LN n a c L W nx v (lc_27 n a c (c + 193) nx v (wi μ I)) := by
  have r1 := h.rg (w := v + 1) (by omega) (by omega)
  obtain ⟨r, ν, J, K, e1, e2, hN, hW, hJ⟩ := h.step hw (Both.s (both_mate (n := n) (μ := μ) (c := c) (I := I) (b := I a (v + 1).toNat) h.C h.M h.R r1 (by omega)) h.C h.M h.S)
  refine ⟨ν, K, ?_, hN, hW⟩
  unfold lc_27
  rw [bnd (h.ld hL (by omega) (by omega)), C_inv h.C, bnd e1]
  dsimp only
  rw [bnd (hN.ldJ hJ hL (by omega) (by omega)), M_inv hN.M, bnd e2]
  exact if_pos rfl
theorem lr_28 (h : LI a c L μ I) (hw : LW c W μ) (hL : L ≤ 3072) (hn : 20000 ≤ n) (h0 : 0 ≤ v) (h1 : v + 6 ≤ (L : Int)) : LN n a c L W nx v (lc_28 n a c (c + 193) nx v (wi μ I)) := by
  have r1 := h.rg (w := v + 1) (by omega) (by omega)
  obtain ⟨r, ν, J, K, e1, e2, hN, hW, hJ⟩ := h.step hw (Both.s (both_dwellings (n := n) (μ := μ) (c := c) (I := I) (b := I a (v + 1).toNat) h.C h.M h.R r1 (by omega)) h.C h.M h.S)
  refine ⟨ν, K, ?_, hN, hW⟩
  unfold lc_28
  rw [bnd (h.ld hL (by omega) (by omega)), C_inv h.C, bnd e1]
  dsimp only
  rw [bnd (hN.ldJ hJ hL (by omega) (by omega)), M_inv hN.M, bnd e2]
  exact if_pos rfl
theorem lr_29 (h : LI a c L μ I) (hw : LW c W μ) (hL : L ≤ 3072) (hn : 20000 ≤ n) (h0 : 0 ≤ v) (h1 : v + 6 ≤ (L : Int)) : LN n a c L W nx v (lc_29 n a c (c + 193) nx v (wi μ I)) := by
  have r1 := h.rg (w := v + 1) (by omega) (by omega)
  obtain ⟨r, ν, J, K, e1, e2, hN, hW, hJ⟩ := h.step hw (Both.s (both_clash (n := n) (μ := μ) (c := c) (I := I) (b := I a (v + 1).toNat) h.C h.M h.R r1 (by omega)) h.C h.M h.S)
  refine ⟨ν, K, ?_, hN, hW⟩
  unfold lc_29
  rw [bnd (h.ld hL (by omega) (by omega)), C_inv h.C, bnd e1]
  dsimp only
  rw [bnd (hN.ldJ hJ hL (by omega) (by omega)), M_inv hN.M, bnd e2]
  exact if_pos rfl
theorem lr_30 (h : LI a c L μ I) (hw : LW c W μ) (hL : L ≤ 3072) (hn : 20000 ≤ n) (h0 : 0 ≤ v) (h1 : v + 6 ≤ (L : Int)) : LN n a c L W nx v (lc_30 n a c (c + 193) nx v (wi μ I)) := by
  have r1 := h.rg (w := v + 1) (by omega) (by omega)
  obtain ⟨r, ν, J, K, e1, e2, hN, hW, hJ⟩ := h.step hw (Both.s (both_seen (n := n) (μ := μ) (c := c) (I := I) (b := I a (v + 1).toNat) h.C h.M h.R r1 (by omega)) h.C h.M h.S)
  refine ⟨ν, K, ?_, hN, hW⟩
  unfold lc_30
  rw [bnd (h.ld hL (by omega) (by omega)), C_inv h.C, bnd e1]
  dsimp only
  rw [bnd (hN.ldJ hJ hL (by omega) (by omega)), M_inv hN.M, bnd e2]
  exact if_pos rfl
theorem lr_31 (h : LI a c L μ I) (hw : LW c W μ) (hL : L ≤ 3072) (hn : 20000 ≤ n) (h0 : 0 ≤ v) (h1 : v + 6 ≤ (L : Int)) : LN n a c L W nx v (lc_31 n a c (c + 193) nx v (wi μ I)) := by
  have r1 := h.rg (w := v + 1) (by omega) (by omega)
  obtain ⟨r, ν, J, K, e1, e2, hN, hW, hJ⟩ := h.step hw (Both.s (both_pulled (n := n) (μ := μ) (c := c) (I := I) (b := I a (v + 1).toNat) h.C h.M h.R r1 (by omega)) h.C h.M h.S)
  refine ⟨ν, K, ?_, hN, hW⟩
  unfold lc_31
  rw [bnd (h.ld hL (by omega) (by omega)), C_inv h.C, bnd e1]
  dsimp only
  rw [bnd (hN.ldJ hJ hL (by omega) (by omega)), M_inv hN.M, bnd e2]
  exact if_pos rfl
theorem lr_32 (h : LI a c L μ I) (hw : LW c W μ) (hL : L ≤ 3072) (hn : 20000 ≤ n) (h0 : 0 ≤ v) (h1 : v + 6 ≤ (L : Int)) : LN n a c L W nx v (lc_32 n a c (c + 193) nx v (wi μ I)) := by
  have r1 := h.rg (w := v + 1) (by omega) (by omega)
  have r2 := h.rg (w := v + 2) (by omega) (by omega)
  have r3 := h.rg (w := v + 3) (by omega) (by omega)
  obtain ⟨r, ν, J, K, e1, e2, hN, hW, hJ⟩ := h.step hw (Both.s (both_numbers (n := n) (μ := μ) (c := c) (I := I) (b := I a (v + 1).toNat) (x := I a (v + 2).toNat) (z := I a (v + 3).toNat) h.C h.M h.R r1 r2 r3 (by omega)) h.C h.M h.S)
  refine ⟨ν, K, ?_, hN, hW⟩
  unfold lc_32
  rw [bnd (h.ld hL (by omega) (by omega)), bnd (h.ld hL (by omega) (by omega)), bnd (h.ld hL (by omega) (by omega)), C_inv h.C, bnd e1]
  dsimp only
  rw [bnd (hN.ldJ hJ hL (by omega) (by omega)), bnd (hN.ldJ hJ hL (by omega) (by omega)), bnd (hN.ldJ hJ hL (by omega) (by omega)), M_inv hN.M, bnd e2]
  exact if_pos rfl
theorem lr_33 (h : LI a c L μ I) (hw : LW c W μ) (hL : L ≤ 3072) (hn : 20000 ≤ n) (h0 : 0 ≤ v) (h1 : v + 6 ≤ (L : Int)) : LN n a c L W nx v (lc_33 n a c (c + 193) nx v (wi μ I)) := by
  have r1 := h.rg (w := v + 1) (by omega) (by omega)
  have r2 := h.rg (w := v + 2) (by omega) (by omega)
  have r3 := h.rg (w := v + 3) (by omega) (by omega)
  have r4 := h.rg (w := v + 4) (by omega) (by omega)
  obtain ⟨r, ν, J, K, e1, e2, hN, hW, hJ⟩ := h.step hw (Both.s (both_write (n := n) (μ := μ) (c := c) (I := I) (b := I a (v + 1).toNat) (x := I a (v + 2).toNat) (v := (lOr (lShl (oI2l (I a (v + 3).toNat)) 32) (lAnd (oI2l (I a (v + 4).toNat)) 4294967295))) h.C h.M h.R r1 r2 (lr_64 _ _)) h.C h.M h.S)
  refine ⟨ν, K, ?_, hN, hW⟩
  unfold lc_33
  rw [bnd (h.ld hL (by omega) (by omega)), bnd (h.ld hL (by omega) (by omega)), bnd (h.ld hL (by omega) (by omega)), bnd (h.ld hL (by omega) (by omega)), C_inv h.C, bnd e1]
  dsimp only
  rw [bnd (hN.ldJ hJ hL (by omega) (by omega)), bnd (hN.ldJ hJ hL (by omega) (by omega)), bnd (hN.ldJ hJ hL (by omega) (by omega)), bnd (hN.ldJ hJ hL (by omega) (by omega)), M_inv hN.M, bnd e2]
  exact if_pos (cmp_0 _)
theorem lr_34 (h : LI a c L μ I) (hw : LW c W μ) (hL : L ≤ 3072) (hn : 20000 ≤ n) (h0 : 0 ≤ v) (h1 : v + 6 ≤ (L : Int)) : LN n a c L W nx v (lc_34 n a c (c + 193) nx v (wi μ I)) := by
  have r1 := h.rg (w := v + 1) (by omega) (by omega)
  obtain ⟨r, ν, J, K, e1, e2, hN, hW, hJ⟩ := h.step hw (Both.s (both_copy (n := n) (μ := μ) (c := c) (I := I) (b := I a (v + 1).toNat) h.C h.M h.R r1 (by omega)) h.C h.M h.S)
  refine ⟨ν, K, ?_, hN, hW⟩
  unfold lc_34
  rw [bnd (h.ld hL (by omega) (by omega)), C_inv h.C, bnd e1]
  dsimp only
  rw [bnd (hN.ldJ hJ hL (by omega) (by omega)), M_inv hN.M, bnd e2]
  exact if_pos rfl
theorem lr_35 (h : LI a c L μ I) (hw : LW c W μ) (hL : L ≤ 3072) (hn : 20000 ≤ n) (h0 : 0 ≤ v) (h1 : v + 6 ≤ (L : Int)) : LN n a c L W nx v (lc_35 n a c (c + 193) nx v (wi μ I)) := by
  have r1 := h.rg (w := v + 1) (by omega) (by omega)
  obtain ⟨r, ν, J, K, e1, e2, hN, hW, hJ⟩ := h.step hw (Both.s (both_image (n := n) (μ := μ) (c := c) (I := I) (b := I a (v + 1).toNat) h.C h.M h.R r1 (by omega)) h.C h.M h.S)
  refine ⟨ν, K, ?_, hN, hW⟩
  unfold lc_35
  rw [bnd (h.ld hL (by omega) (by omega)), C_inv h.C, bnd e1]
  dsimp only
  rw [bnd (hN.ldJ hJ hL (by omega) (by omega)), M_inv hN.M, bnd e2]
  exact if_pos rfl
theorem lr_36 (h : LI a c L μ I) (hw : LW c W μ) (hL : L ≤ 3072) (hn : 20000 ≤ n) (h0 : 0 ≤ v) (h1 : v + 6 ≤ (L : Int)) : LN n a c L W nx v (lc_36 n a c (c + 193) nx v (wi μ I)) := by
  have r1 := h.rg (w := v + 1) (by omega) (by omega)
  obtain ⟨r, ν, J, K, e1, e2, hN, hW, hJ⟩ := h.step hw (Both.s (both_restore (n := n) (μ := μ) (c := c) (I := I) (b := I a (v + 1).toNat) h.C h.M h.R r1 (by omega)) h.C h.M h.S)
  refine ⟨ν, K, ?_, hN, hW⟩
  unfold lc_36
  rw [bnd (h.ld hL (by omega) (by omega)), C_inv h.C, bnd e1]
  dsimp only
  rw [bnd (hN.ldJ hJ hL (by omega) (by omega)), M_inv hN.M, bnd e2]
  exact if_pos rfl
theorem lr_37 (h : LI a c L μ I) (hw : LW c W μ) (hL : L ≤ 3072) (hn : 20000 ≤ n) (h0 : 0 ≤ v) (h1 : v + 6 ≤ (L : Int)) : LN n a c L W nx v (lc_37 n a c (c + 193) nx v (wi μ I)) := by
  have r1 := h.rg (w := v + 1) (by omega) (by omega)
  obtain ⟨r, ν, J, K, e1, e2, hN, hW, hJ⟩ := h.step hw (Both.s (both_count (n := n) (μ := μ) (c := c) (I := I) (b := I a (v + 1).toNat) h.C h.M h.R (by omega)) h.C h.M h.S)
  refine ⟨ν, K, ?_, hN, hW⟩
  unfold lc_37
  rw [bnd (h.ld hL (by omega) (by omega)), C_inv h.C, bnd e1]
  dsimp only
  rw [bnd (hN.ldJ hJ hL (by omega) (by omega)), M_inv hN.M, bnd e2]
  exact if_pos rfl
theorem lr_all (h : LI a c L μ I) (hw : LW c W μ) (hL : L ≤ 3072) (hn : 20000 ≤ n) (h0 : 0 ≤ v) (h1 : v + 6 ≤ (L : Int)) : LN n a c L W nx v (lawB n a c (c + 193) nx v (wi μ I)) := by
  unfold lawB
  rw [bnd (e_alen h.2.2.2.2.2.2.2.1), i_lt_f (by omega), bnd (h.ld hL (by omega) (by omega))]
  generalize oAnd (I a v.toNat) 63 = x
  by_cases c0 : eq32 x 0
  · rw [if_pos c0]
    exact lr_0 h hw hL hn h0 h1
  rw [if_neg c0]
  by_cases c1 : eq32 x 1
  · rw [if_pos c1]
    exact lr_1 h hw hL hn h0 h1
  rw [if_neg c1]
  by_cases c2 : eq32 x 2
  · rw [if_pos c2]
    exact lr_2 h hw hL hn h0 h1
  rw [if_neg c2]
  by_cases c3 : eq32 x 3
  · rw [if_pos c3]
    exact lr_3 h hw hL hn h0 h1
  rw [if_neg c3]
  by_cases c4 : eq32 x 4
  · rw [if_pos c4]
    exact lr_4 h hw hL hn h0 h1
  rw [if_neg c4]
  by_cases c5 : eq32 x 5
  · rw [if_pos c5]
    exact lr_5 h hw hL hn h0 h1
  rw [if_neg c5]
  by_cases c6 : eq32 x 6
  · rw [if_pos c6]
    exact lr_6 h hw hL hn h0 h1
  rw [if_neg c6]
  by_cases c7 : eq32 x 7
  · rw [if_pos c7]
    exact lr_7 h hw hL hn h0 h1
  rw [if_neg c7]
  by_cases c8 : eq32 x 8
  · rw [if_pos c8]
    exact lr_8 h hw hL hn h0 h1
  rw [if_neg c8]
  by_cases c9 : eq32 x 9
  · rw [if_pos c9]
    exact lr_9 h hw hL hn h0 h1
  rw [if_neg c9]
  by_cases c10 : eq32 x 10
  · rw [if_pos c10]
    exact lr_10 h hw hL hn h0 h1
  rw [if_neg c10]
  by_cases c11 : eq32 x 11
  · rw [if_pos c11]
    exact lr_11 h hw hL hn h0 h1
  rw [if_neg c11]
  by_cases c12 : eq32 x 12
  · rw [if_pos c12]
    exact lr_12 h hw hL hn h0 h1
  rw [if_neg c12]
  by_cases c13 : eq32 x 13
  · rw [if_pos c13]
    exact lr_13 h hw hL hn h0 h1
  rw [if_neg c13]
  by_cases c14 : eq32 x 14
  · rw [if_pos c14]
    exact lr_14 h hw hL hn h0 h1
  rw [if_neg c14]
  by_cases c15 : eq32 x 15
  · rw [if_pos c15]
    exact lr_15 h hw hL hn h0 h1
  rw [if_neg c15]
  by_cases c16 : eq32 x 16
  · rw [if_pos c16]
    exact lr_16 h hw hL hn h0 h1
  rw [if_neg c16]
  by_cases c17 : eq32 x 17
  · rw [if_pos c17]
    exact lr_17 h hw hL hn h0 h1
  rw [if_neg c17]
  by_cases c18 : eq32 x 18
  · rw [if_pos c18]
    exact lr_18 h hw hL hn h0 h1
  rw [if_neg c18]
  by_cases c19 : eq32 x 19
  · rw [if_pos c19]
    exact lr_19 h hw hL hn h0 h1
  rw [if_neg c19]
  by_cases c20 : eq32 x 20
  · rw [if_pos c20]
    exact lr_20 h hw hL hn h0 h1
  rw [if_neg c20]
  by_cases c21 : eq32 x 21
  · rw [if_pos c21]
    exact lr_21 h hw hL hn h0 h1
  rw [if_neg c21]
  by_cases c22 : eq32 x 22
  · rw [if_pos c22]
    exact lr_22 h hw hL hn h0 h1
  rw [if_neg c22]
  by_cases c23 : eq32 x 23
  · rw [if_pos c23]
    exact lr_23 h hw hL hn h0 h1
  rw [if_neg c23]
  by_cases c24 : eq32 x 24
  · rw [if_pos c24]
    exact lr_24 h hw hL hn h0 h1
  rw [if_neg c24]
  by_cases c25 : eq32 x 25
  · rw [if_pos c25]
    exact lr_25 h hw hL hn h0 h1
  rw [if_neg c25]
  by_cases c26 : eq32 x 26
  · rw [if_pos c26]
    exact lr_26 h hw hL hn h0 h1
  rw [if_neg c26]
  by_cases c27 : eq32 x 27
  · rw [if_pos c27]
    exact lr_27 h hw hL hn h0 h1
  rw [if_neg c27]
  by_cases c28 : eq32 x 28
  · rw [if_pos c28]
    exact lr_28 h hw hL hn h0 h1
  rw [if_neg c28]
  by_cases c29 : eq32 x 29
  · rw [if_pos c29]
    exact lr_29 h hw hL hn h0 h1
  rw [if_neg c29]
  by_cases c30 : eq32 x 30
  · rw [if_pos c30]
    exact lr_30 h hw hL hn h0 h1
  rw [if_neg c30]
  by_cases c31 : eq32 x 31
  · rw [if_pos c31]
    exact lr_31 h hw hL hn h0 h1
  rw [if_neg c31]
  by_cases c32 : eq32 x 32
  · rw [if_pos c32]
    exact lr_32 h hw hL hn h0 h1
  rw [if_neg c32]
  by_cases c33 : eq32 x 33
  · rw [if_pos c33]
    exact lr_33 h hw hL hn h0 h1
  rw [if_neg c33]
  by_cases c34 : eq32 x 34
  · rw [if_pos c34]
    exact lr_34 h hw hL hn h0 h1
  rw [if_neg c34]
  by_cases c35 : eq32 x 35
  · rw [if_pos c35]
    exact lr_35 h hw hL hn h0 h1
  rw [if_neg c35]
  by_cases c36 : eq32 x 36
  · rw [if_pos c36]
    exact lr_36 h hw hL hn h0 h1
  rw [if_neg c36]
  by_cases c37 : eq32 x 37
  · rw [if_pos c37]
    exact lr_37 h hw hL hn h0 h1
  rw [if_neg c37]
  exact ⟨μ, I, rfl, h, hw⟩
theorem law_l (hL : L ≤ 3072) (hn : 20000 ≤ n) : ∀ (d k : Nat) (v : Int) (μ : Mem) (I : Nat → Nat → Int), LI a c L μ I → LW c W μ → 0 ≤ v → v ≤ 6 * 600 → (L : Int) - v ≤ d → d < k → ∃ (ν : Mem) (K : Nat → Nat → Int), lp (lawB n a c (c + 193)) k v (wi μ I) = some (1, wi ν K) ∧ LI a c L ν K ∧ LW c W ν
  | d, 0, v, μ, I, h, hw, h0, hv, hd, hk => absurd hk (by omega)
  | d, k + 1, v, μ, I, h, hw, h0, hv, hd, hk => by
    by_cases c1 : (L : Int) - 6 < v
    · refine ⟨μ, I, ?_, h, hw⟩
      show lawB n a c (c + 193) (lp (lawB n a c (c + 193)) k) v (wi μ I) = _
      unfold lawB
      rw [bnd (e_alen h.2.2.2.2.2.2.2.1), i_lt_t (by omega)]
      rfl
    · obtain ⟨ν, K, e, hN, hW⟩ := lr_all (nx := lp (lawB n a c (c + 193)) k) h hw hL hn h0 (by omega)
      obtain ⟨ν', K', e', hN', hW'⟩ := law_l hL hn (d - 1) k (v + 6) ν K hN hW (by omega) (by omega) (by omega) (by omega)
      exact ⟨ν', K', Eq.trans e e', hN', hW'⟩
end LQ
/-- the law answers 1 -/
theorem law_1 {n a L : Nat} {μ : Mem} (hn : 20000 ≤ n) (hL : L ≤ 3072) (ha : a ≤ mN μ) (hS : mS μ a = (27, L)) (hr : ∀ j : Nat, j < L → -2147483648 ≤ mI μ a j ∧ mI μ a j < 2147483648) (hx : isX μ (mN μ + 1) (mI μ)) (hk : ∀ k : Nat, k < 11 → mA μ 0 k < mN μ + 1) (h5 : ∀ b : Nat, b ≤ mN μ → (mS μ b).1 ≠ 2) : ∃ ν : Mem, mL_law n a μ = some (1, ν) ∧ mN ν ≤ mN μ + 230 ∧ mW ν ≤ mW μ + 48698 := by
  have qS : ∀ b : Nat, b ≤ mN μ → mS (sMm μ (mI μ) (mN μ)) b = mS μ b := fun b hb => if_pos hb
  have qI : ∀ b : Nat, b ≤ mN μ → mI (sMm μ (mI μ) (mN μ)) b = mI μ b := fun b hb => if_pos hb
  have qA : ∀ b j : Nat, b ≤ mN μ → mA (sMm μ (mI μ) (mN μ)) b j = mA μ b j := fun b j hb => by
    have e1 : mA (cMt μ (mI μ) (mN μ) m3T) b = mA μ b := if_pos hb
    refine (fix_A (fun w => h5 b hb ?_)).trans (congrFun e1 j)
    have e2 : mS (cMt μ (mI μ) (mN μ) m3T) b = mS μ b := if_pos hb
    rw [← e2]
    exact w.2
  have hLI : LI a (mN μ + 1) L (sMm μ (mI μ) (mN μ)) (mI (sMm μ (mI μ) (mN μ))) := by
    refine ⟨y_C, y_M, y_H, y_R, fun k h => ?_, fun k h => ?_, ⟨by omega, by omega⟩, ?_, fun j hj => ?_⟩
    · obtain ⟨x1, x2, x3, x4⟩ := hx k h
      have t0 := hk k h
      rw [qA 0 k (by omega), qA _ 0 (by omega), qS _ (by omega), qS _ (by omega), qI _ (by omega)]
      exact ⟨x1, x2, x3, x4⟩
    · rw [qA 0 k (by omega)]
      exact hk k h
    · rw [qS a ha]
      exact hS
    · rw [qI a ha]
      exact hr j hj
  have hLW : LW (mN μ + 1) (mW μ + 48698) (sMm μ (mI μ) (mN μ)) := by
    refine ⟨?_, fun _ => ?_⟩ <;> rw [y_W] <;> omega
  obtain ⟨ν, K, e, hN, hW⟩ := law_l hL hn L n 0 (sMm μ (mI μ) (mN μ)) _ hLI hLW (by omega) (by omega) (by omega) (by omega)
  refine ⟨wi ν K, ?_, ?_, hW.1⟩
  · rw [law_s μ hn]
    exact e
  · have := hN.S
    show mN ν ≤ mN μ + 230
    rcases this with ⟨-, e1⟩ | ⟨-, -, e1⟩ <;> omega
