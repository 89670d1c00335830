/-! the class's search: codes built out of fields, and taken apart -/
theorem lorS {x v p w : Nat} (h : x / 2 ^ p % 2 ^ w = 0) (hv : v < 2 ^ w) (hp : p < 63) (hb : x + v * 2 ^ p < 4611686018427387904) : lOr (x : Int) (lShl (v : Int) (p : Int)) = ((x + v * 2 ^ p : Nat) : Int) := by
  rw [lShl_n (by omega) (by omega), lOr_n (by omega) (by omega), or_fld h hv]
def pD (f : Nat → Nat) : Nat → Nat
  | 0 => 0
  | k + 1 => pD f k + f k * 16 ^ k
def pF (f : Nat → Nat) : Nat → Nat
  | 0 => 0
  | k + 1 => pF f k + (f (2 * k) + 2 * f (2 * k + 1)) * 4 ^ k
def pS (f : Nat → Nat) : Nat → Nat
  | 0 => 0
  | k + 1 => pS f k + f k * 128 ^ k
theorem pD_lt {f : Nat → Nat} (h : ∀ k : Nat, f k < 16) : ∀ k : Nat, pD f k < 16 ^ k
  | 0 => by show 0 < 1; decide
  | k + 1 => by
    have i := pD_lt h k
    have j := Nat.mul_le_mul_right (16 ^ k) (show f k ≤ 15 by have := h k; omega)
    rw [Nat.pow_succ]
    show pD f k + f k * 16 ^ k < _
    omega
theorem pF_lt {f : Nat → Nat} (h : ∀ k : Nat, f k < 2) : ∀ k : Nat, pF f k < 4 ^ k
  | 0 => by show 0 < 1; decide
  | k + 1 => by
    have i := pF_lt h k
    have j := Nat.mul_le_mul_right (4 ^ k) (show f (2 * k) + 2 * f (2 * k + 1) ≤ 3 by have := h (2 * k); have := h (2 * k + 1); omega)
    rw [Nat.pow_succ]
    show pF f k + (f (2 * k) + 2 * f (2 * k + 1)) * 4 ^ k < _
    omega
theorem pS_lt {f : Nat → Nat} (h : ∀ k : Nat, f k < 128) : ∀ k : Nat, pS f k < 128 ^ k
  | 0 => by show 0 < 1; decide
  | k + 1 => by
    have i := pS_lt h k
    have j := Nat.mul_le_mul_right (128 ^ k) (show f k ≤ 127 by have := h k; omega)
    rw [Nat.pow_succ]
    show pS f k + f k * 128 ^ k < _
    omega
theorem rope_or {k A B d f0 f1 : Nat} (hk : k < 3) (hA : A < 16 ^ k) (hB : B < 4 ^ k) (hd : d < 16) (h0 : f0 < 2) (h1 : f1 < 2) : lOr (lOr (lOr ((A + 4096 * B : Nat) : Int) (lShl (d : Int) (4 * (k : Int)))) (lShl (f0 : Int) (12 + 2 * (k : Int)))) (lShl (f1 : Int) (12 + 2 * (k : Int) + 1)) = ((A + d * 16 ^ k + 4096 * (B + (f0 + 2 * f1) * 4 ^ k) : Nat) : Int) := by
  have : k = 0 ∨ k = 1 ∨ k = 2 := by omega
  rcases this with rfl | rfl | rfl
  · have e1 := lorS (x := A + 4096 * B) (v := d) (p := 0) (w := 4) (by omega) (by omega) (by omega) (by omega)
    have e2 := lorS (x := A + 4096 * B + d * 2 ^ 0) (v := f0) (p := 12) (w := 1) (by omega) (by omega) (by omega) (by omega)
    have e3 := lorS (x := A + 4096 * B + d * 2 ^ 0 + f0 * 2 ^ 12) (v := f1) (p := 13) (w := 1) (by omega) (by omega) (by omega) (by omega)
    show lOr (lOr (lOr ((A + 4096 * B : Nat) : Int) (lShl (d : Int) ((0 : Nat) : Int))) (lShl (f0 : Int) ((12 : Nat) : Int))) (lShl (f1 : Int) ((13 : Nat) : Int)) = _
    rw [e1, e2, e3]
    congr 1
    omega
  · have e1 := lorS (x := A + 4096 * B) (v := d) (p := 4) (w := 4) (by omega) (by omega) (by omega) (by omega)
    have e2 := lorS (x := A + 4096 * B + d * 2 ^ 4) (v := f0) (p := 14) (w := 1) (by omega) (by omega) (by omega) (by omega)
    have e3 := lorS (x := A + 4096 * B + d * 2 ^ 4 + f0 * 2 ^ 14) (v := f1) (p := 15) (w := 1) (by omega) (by omega) (by omega) (by omega)
    show lOr (lOr (lOr ((A + 4096 * B : Nat) : Int) (lShl (d : Int) ((4 : Nat) : Int))) (lShl (f0 : Int) ((14 : Nat) : Int))) (lShl (f1 : Int) ((15 : Nat) : Int)) = _
    rw [e1, e2, e3]
    congr 1
    omega
  · have e1 := lorS (x := A + 4096 * B) (v := d) (p := 8) (w := 4) (by omega) (by omega) (by omega) (by omega)
    have e2 := lorS (x := A + 4096 * B + d * 2 ^ 8) (v := f0) (p := 16) (w := 1) (by omega) (by omega) (by omega) (by omega)
    have e3 := lorS (x := A + 4096 * B + d * 2 ^ 8 + f0 * 2 ^ 16) (v := f1) (p := 17) (w := 1) (by omega) (by omega) (by omega) (by omega)
    show lOr (lOr (lOr ((A + 4096 * B : Nat) : Int) (lShl (d : Int) ((8 : Nat) : Int))) (lShl (f0 : Int) ((16 : Nat) : Int))) (lShl (f1 : Int) ((17 : Nat) : Int)) = _
    rw [e1, e2, e3]
    congr 1
    omega
theorem stk_or {k X C s : Nat} (hk : k < 4) (hX : X < 262144) (hC : C < 128 ^ k) (hs : s < 128) : lOr ((X + 262144 * C : Nat) : Int) (lShl (s : Int) (18 + 7 * (k : Int))) = ((X + 262144 * (C + s * 128 ^ k) : Nat) : Int) := by
  have : k = 0 ∨ k = 1 ∨ k = 2 ∨ k = 3 := by omega
  rcases this with rfl | rfl | rfl | rfl
  · have e1 := lorS (x := X + 262144 * C) (v := s) (p := 18) (w := 7) (by omega) (by omega) (by omega) (by omega)
    show lOr ((X + 262144 * C : Nat) : Int) (lShl (s : Int) ((18 : Nat) : Int)) = _
    rw [e1]
    congr 1
    omega
  · have e1 := lorS (x := X + 262144 * C) (v := s) (p := 25) (w := 7) (by omega) (by omega) (by omega) (by omega)
    show lOr ((X + 262144 * C : Nat) : Int) (lShl (s : Int) ((25 : Nat) : Int)) = _
    rw [e1]
    congr 1
    omega
  · have e1 := lorS (x := X + 262144 * C) (v := s) (p := 32) (w := 7) (by omega) (by omega) (by omega) (by omega)
    show lOr ((X + 262144 * C : Nat) : Int) (lShl (s : Int) ((32 : Nat) : Int)) = _
    rw [e1]
    congr 1
    omega
  · have e1 := lorS (x := X + 262144 * C) (v := s) (p := 39) (w := 7) (by omega) (by omega) (by omega) (by omega)
    show lOr ((X + 262144 * C : Nat) : Int) (lShl (s : Int) ((39 : Nat) : Int)) = _
    rw [e1]
    congr 1
    omega
section FN
variable {D F S : Nat → Int} {g : Int} {o H : Nat}
theorem pD_3 (f : Nat → Nat) : pD f 3 = f 0 + 16 * f 1 + 256 * f 2 := by
  show 0 + f 0 * 16 ^ 0 + f 1 * 16 ^ 1 + f 2 * 16 ^ 2 = _
  omega
theorem pF_3 (f : Nat → Nat) : pF f 3 = f 0 + 2 * f 1 + 4 * f 2 + 8 * f 3 + 16 * f 4 + 32 * f 5 := by
  show 0 + (f 0 + 2 * f 1) * 4 ^ 0 + (f 2 + 2 * f 3) * 4 ^ 1 + (f 4 + 2 * f 5) * 4 ^ 2 = _
  omega
theorem pS_4 (f : Nat → Nat) : pS f 4 = f 0 + 128 * f 1 + 16384 * f 2 + 2097152 * f 3 := by
  show 0 + f 0 * 128 ^ 0 + f 1 * 128 ^ 1 + f 2 * 128 ^ 2 + f 3 * 128 ^ 3 = _
  omega
theorem i2n {x : Int} (h : 0 ≤ x) : ((x.toNat : Nat) : Int) = x := Int.toNat_of_nonneg h
/-- the code, out of whole numbers -/
theorem cdF_n (h : rgF D F S g) : cdF D F S g = ((pD (fun k => (D k).toNat) 3 + 4096 * pF (fun k => (F k).toNat) 3 + 262144 * pS (fun k => (S k).toNat) 4 + 70368744177664 * g.toNat : Nat) : Int) := by
  have b01 : ∀ b : Nat, 0 ≤ F b := fun b => by have := h.2.1 b; omega
  rw [pD_3, pF_3, pS_4]
  simp only [Int.natCast_add, Int.natCast_mul, i2n (h.1 0).1, i2n (h.1 1).1, i2n (h.1 2).1, i2n (b01 0), i2n (b01 1), i2n (b01 2), i2n (b01 3), i2n (b01 4), i2n (b01 5), i2n (h.2.2.1 0).1, i2n (h.2.2.1 1).1, i2n (h.2.2.1 2).1, i2n (h.2.2.1 3).1, i2n h.2.2.2.1]
  rfl
theorem pD_o {f : Nat → Nat} (ho : o ≤ 3) (hz : ∀ k : Nat, ¬ k < o → f k = 0) : pD f o = pD f 3 := by
  have : o = 0 ∨ o = 1 ∨ o = 2 ∨ o = 3 := by omega
  rcases this with rfl | rfl | rfl | rfl
  · simp only [pD, hz 0 (by omega), hz 1 (by omega), hz 2 (by omega), Nat.zero_mul, Nat.add_zero]
  · simp only [pD, hz 1 (by omega), hz 2 (by omega), Nat.zero_mul, Nat.add_zero]
  · simp only [pD, hz 2 (by omega), Nat.zero_mul, Nat.add_zero]
  · rfl
theorem pF_o {f : Nat → Nat} (ho : o ≤ 3) (hz : ∀ k : Nat, ¬ k < 2 * o → f k = 0) : pF f o = pF f 3 := by
  have : o = 0 ∨ o = 1 ∨ o = 2 ∨ o = 3 := by omega
  rcases this with rfl | rfl | rfl | rfl
  · simp only [pF, Nat.mul_zero, Nat.reduceMul, Nat.reduceAdd, hz 0 (by omega), hz 1 (by omega), hz 2 (by omega), hz 3 (by omega), hz 4 (by omega), hz 5 (by omega), Nat.zero_mul, Nat.add_zero]
  · simp only [pF, Nat.reduceMul, Nat.reduceAdd, hz 2 (by omega), hz 3 (by omega), hz 4 (by omega), hz 5 (by omega), Nat.mul_zero, Nat.zero_mul, Nat.add_zero]
  · simp only [pF, Nat.reduceMul, Nat.reduceAdd, hz 4 (by omega), hz 5 (by omega), Nat.mul_zero, Nat.zero_mul, Nat.add_zero]
  · rfl
theorem pS_o {f : Nat → Nat} (ho : H ≤ 4) (hz : ∀ k : Nat, ¬ k < H → f k = 0) : pS f H = pS f 4 := by
  have : H = 0 ∨ H = 1 ∨ H = 2 ∨ H = 3 ∨ H = 4 := by omega
  rcases this with rfl | rfl | rfl | rfl | rfl
  · simp only [pS, hz 0 (by omega), hz 1 (by omega), hz 2 (by omega), hz 3 (by omega), Nat.zero_mul, Nat.add_zero]
  · simp only [pS, hz 1 (by omega), hz 2 (by omega), hz 3 (by omega), Nat.zero_mul, Nat.add_zero]
  · simp only [pS, hz 2 (by omega), hz 3 (by omega), Nat.zero_mul, Nat.add_zero]
  · simp only [pS, hz 3 (by omega), Nat.zero_mul, Nat.add_zero]
  · rfl
end FN
def sH (n a : Nat) : (Int × Int → Mem → Option (Int × Mem)) → Int × Int → Mem → Option (Int × Mem) := fun nx110 v110 μ110 => (gA μ110 5 a 10).bind fun x112 => (gI μ110 2 x112 0).bind fun x115 => if lt32 v110.2 x115 then (gA μ110 5 a 10).bind fun x123 => (gA μ110 2 x123 8).bind fun x126 => (ldI μ110 0 x126 v110.2).bind fun x130 => nx110 ((lOr v110.1 (lShl (oI2l x130) (18 + (7 * v110.2)))), (v110.2 + 1)) μ110 else some (v110.1, μ110)
def sJ (n a : Nat) (nx4 : Int × Int → Mem → Option (Int × Mem)) (v4 : Int × Int) (x17 x30 v66 : Int) (μ66 : Mem) : Option (Int × Mem) := (gA μ66 5 a 10).bind fun x70 => (gA μ66 2 x70 17).bind fun x73 => (ldI μ66 2 x73 ((2 * x17) + 1)).bind fun x82 => if eq32 x82 0 then nx4 ((lOr (lOr (lOr v4.1 (lShl (oI2l x30) (4 * v4.2))) v66) 0), (v4.2 + 1)) μ66 else nx4 ((lOr (lOr (lOr v4.1 (lShl (oI2l x30) (4 * v4.2))) v66) (lShl 1 ((12 + (2 * v4.2)) + 1))), (v4.2 + 1)) μ66
def sR (n a : Nat) : (Int × Int → Mem → Option (Int × Mem)) → Int × Int → Mem → Option (Int × Mem) := fun nx4 v4 μ4 => (gI μ4 5 a 3).bind fun x6 => if lt32 v4.2 x6 then (gA μ4 5 a 2).bind fun x13 => (ldI μ4 0 x13 v4.2).bind fun x17 => (gA μ4 5 a 10).bind fun x22 => (gA μ4 2 x22 13).bind fun x25 => (ldI μ4 0 x25 x17).bind fun x30 => (gA μ4 5 a 10).bind fun x40 => (gA μ4 2 x40 17).bind fun x43 => (ldI μ4 2 x43 (2 * x17)).bind fun x50 => if eq32 x50 0 then sJ n a nx4 v4 x17 x30 0 μ4 else sJ n a nx4 v4 x17 x30 (lShl 1 (12 + (2 * v4.2))) μ4 else lp (sH n a) n (v4.1, 0) μ4
theorem stateNow_s {n a : Nat} (μ : Mem) : mX4_stateNow n a μ = lp (sR n a) n (0, 0) μ := rfl
theorem shl0 {p : Nat} (hp : p < 63) : lShl ((0 : Nat) : Int) (p : Int) = 0 := by
  rw [lShl_n (by omega) (by omega), Nat.zero_mul]
  rfl
section SN
variable {μ : Mem} {J : Nat → Nat → Int} {a c n o H R h : Nat} {ro : Nat → Nat} {l : Ld}
theorem sH_l (hE : isSe μ a c) (hL : isL μ (c + 3)) (hk : okL l) (hH : (H : Int) = l 0 0) (hH4 : H ≤ 4) (hJ : envS J a c l o ro) {X : Nat} (hX : X < 262144) : ∀ (d kk i : Nat), i + d = H → d < kk → lp (sH n a) kk (((X + 262144 * pS (fun k => (fS H l k).toNat) i : Nat) : Int), (i : Int)) (wi μ J) = some (((X + 262144 * pS (fun k => (fS H l k).toNat) H : Nat) : Int), wi μ J)
  | d, 0, i, h1, h2 => absurd h2 (by omega)
  | 0, kk + 1, i, h1, h2 => by
    have ei : i = H := by omega
    subst ei
    generalize hB : lp (sH n a) kk = slf
    show sH n a (lp (sH n a) kk) _ (wi μ J) = _
    rw [hB]
    unfold sH
    dsimp only
    rw [bE_g10 hE, bL_gI hL, hJ.1 0 (by decide) (by decide), i_lt_f (by omega)]
  | d + 1, kk + 1, i, h1, h2 => by
    have k0 := hk.1
    have e := sH_l hE hL hk hH hH4 hJ hX d kk (i + 1) (by omega) (by omega)
    have r := hk.2.1 i (by omega)
    have fe : fS H l i = l 3 i := if_pos (by omega)
    have lt : ∀ k : Nat, (fun k => (fS H l k).toNat) k < 128 := fun k => by
      show (fS H l k).toNat < 128
      unfold fS
      split
      · have := hk.2.1 k (by omega); omega
      · omega
    have so := stk_or (k := i) (s := (l 3 i).toNat) (by omega) hX (pS_lt lt i) (by omega)
    have se : pS (fun k => (fS H l k).toNat) (i + 1) = pS (fun k => (fS H l k).toNat) i + (l 3 i).toNat * 128 ^ i := by rw [← fe]; rfl
    rw [se] at e
    generalize hB : lp (sH n a) kk = slf at e
    show sH n a (lp (sH n a) kk) _ (wi μ J) = _
    rw [hB]
    unfold sH
    dsimp only
    rw [bE_g10 hE, bL_gI hL, hJ.1 0 (by decide) (by decide), i_lt_t (by omega), bE_g10 hE, bL_g8 hL, bL_ld3 hL (by omega) (by omega), Int.toNat_natCast, hJ.1 3 (by decide) (by decide), oI2l_of (by omega) (by omega), show l 3 i = (((l 3 i).toNat : Nat) : Int) by omega, so]
    exact e
theorem sR_l (hE : isSe μ a c) (hL : isL μ (c + 3)) (hk : okL l) (hH : (H : Int) = l 0 0) (hH4 : H ≤ 4) (op : opn l o ro R) (ho : o ≤ 3) (hJ : envS J a c l o ro) (hn : 20000 ≤ n) : ∀ (d kk i : Nat), i + d = o → d < kk → lp (sR n a) kk (((pD (fun k => (fD o ro l k).toNat) i + 4096 * pF (fun k => (fF o ro l k).toNat) i : Nat) : Int), (i : Int)) (wi μ J) = some (((pD (fun k => (fD o ro l k).toNat) o + 4096 * pF (fun k => (fF o ro l k).toNat) o + 262144 * pS (fun k => (fS H l k).toNat) H : Nat) : Int), wi μ J)
  | d, 0, i, h1, h2 => absurd h2 (by omega)
  | 0, kk + 1, i, h1, h2 => by
    have ei : i = o := by omega
    subst ei
    have rg := rg_of (ro := ro) (o := i) (g := 0) hk hH (fun k hk' => by have := (op.2.1 k hk').1; have := op.1; omega) (by omega)
    have a1 := pD_lt (f := fun k => (fD i ro l k).toNat) (fun k => by have := rg.1 k; omega) i
    have a2 := pF_lt (f := fun k => (fF i ro l k).toNat) (fun k => by have := rg.2.1 k; omega) i
    have b1 : (16 : Nat) ^ i ≤ 16 ^ 3 := Nat.pow_le_pow_right (by decide) ho
    have b2 : (4 : Nat) ^ i ≤ 4 ^ 3 := Nat.pow_le_pow_right (by decide) ho
    have e := sH_l (n := n) (X := pD (fun k => (fD i ro l k).toNat) i + 4096 * pF (fun k => (fF i ro l k).toNat) i) hE hL hk hH hH4 hJ (by omega) H n 0 (by omega) (by omega)
    generalize hB : lp (sR n a) kk = slf
    show sR n a (lp (sR n a) kk) _ (wi μ J) = _
    rw [hB]
    unfold sR
    dsimp only
    rw [bE_gI hE, hJ.2.1, i_lt_f (by omega)]
    exact e
  | d + 1, kk + 1, i, h1, h2 => by
    have k0 := hk.1
    have e := sR_l hE hL hk hH hH4 op ho hJ hn d kk (i + 1) (by omega) (by omega)
    have rr := (op.2.1 i (by omega)).1
    have r1 := op.1
    have q := hk.2.2.1 (ro i) (by omega)
    have b0 := (hk.2.2.2 (2 * ro i) (by omega)).2.2.2.2
    have b1 := (hk.2.2.2 (2 * ro i + 1) (by omega)).2.2.2.2
    have rg := rg_of (ro := ro) (o := o) (g := 0) hk hH (fun k hk' => by have := (op.2.1 k hk').1; omega) (by omega)
    have a1 := pD_lt (f := fun k => (fD o ro l k).toNat) (fun k => by have := rg.1 k; omega) i
    have a2 := pF_lt (f := fun k => (fF o ro l k).toNat) (fun k => by have := rg.2.1 k; omega) i
    have fd : fD o ro l i = l 8 (ro i) := if_pos (by omega)
    have ff0 : fF o ro l (2 * i) = l 12 (2 * ro i) := by
      unfold fF
      rw [if_pos (by omega), show 2 * i / 2 = i by omega, show 2 * i % 2 = 0 by omega]
      rfl
    have ff1 : fF o ro l (2 * i + 1) = l 12 (2 * ro i + 1) := by
      unfold fF
      rw [if_pos (by omega), show (2 * i + 1) / 2 = i by omega, show (2 * i + 1) % 2 = 1 by omega]
    have so := rope_or (k := i) (d := (l 8 (ro i)).toNat) (f0 := (l 12 (2 * ro i)).toNat) (f1 := (l 12 (2 * ro i + 1)).toNat) (by omega) a1 a2 (by omega) (by omega) (by omega)
    have s1 : pD (fun k => (fD o ro l k).toNat) (i + 1) = pD (fun k => (fD o ro l k).toNat) i + (l 8 (ro i)).toNat * 16 ^ i := by rw [← fd]; rfl
    have s2 : pF (fun k => (fF o ro l k).toNat) (i + 1) = pF (fun k => (fF o ro l k).toNat) i + ((l 12 (2 * ro i)).toNat + 2 * (l 12 (2 * ro i + 1)).toNat) * 4 ^ i := by rw [← ff0, ← ff1]; rfl
    rw [s1, s2, ← so] at e
    generalize hB : lp (sR n a) kk = slf at e
    show sR n a (lp (sR n a) kk) _ (wi μ J) = _
    rw [hB]
    have t0 : (2 * ((ro i : Nat) : Int)).toNat = 2 * ro i := by omega
    have t1 : (2 * ((ro i : Nat) : Int) + 1).toNat = 2 * ro i + 1 := by omega
    have o8 : (((l 8 (ro i)).toNat : Nat) : Int) = l 8 (ro i) := by omega
    rw [o8] at e
    have zp0 : lShl ((0 : Nat) : Int) (12 + 2 * (i : Int)) = 0 := by rw [show (12 + 2 * (i : Int)) = ((12 + 2 * i : Nat) : Int) by omega]; exact shl0 (by omega)
    have zp1 : lShl ((0 : Nat) : Int) (12 + 2 * (i : Int) + 1) = 0 := by rw [show (12 + 2 * (i : Int) + 1) = ((12 + 2 * i + 1 : Nat) : Int) by omega]; exact shl0 (by omega)
    have tail : ∀ v66 : Int, v66 = lShl (((l 12 (2 * ro i)).toNat : Nat) : Int) (12 + 2 * (i : Int)) → sJ n a slf (((pD (fun k => (fD o ro l k).toNat) i + 4096 * pF (fun k => (fF o ro l k).toNat) i : Nat) : Int), (i : Int)) ((ro i : Nat) : Int) (l 8 (ro i)) v66 (wi μ J) = some (((pD (fun k => (fD o ro l k).toNat) o + 4096 * pF (fun k => (fF o ro l k).toNat) o + 262144 * pS (fun k => (fS H l k).toNat) H : Nat) : Int), wi μ J) := fun v66 ev => by
      unfold sJ
      rw [bE_g10 hE, bL_g17 hL, bL_ld12 hL (by omega) (by omega), t1, hJ.1 12 (by decide) (by decide), oI2l_of (by omega) (by omega), ev]
      rcases b1 with b1 | b1
      · rw [b1, show (0 : Int).toNat = 0 from rfl, zp1] at e
        rw [i_eq_t b1]
        exact e
      · rw [b1, show (((1 : Int).toNat : Nat) : Int) = 1 from rfl] at e
        rw [i_eq_f (by omega)]
        exact e
    unfold sR
    dsimp only
    rw [bE_gI hE, hJ.2.1, i_lt_t (by omega), bE_g2 hE, bE_ld9 hE (by omega) (by omega), Int.toNat_natCast, hJ.2.2 i (by omega), bE_g10 hE, bL_g13 hL, bL_ld8 hL (by omega) (by omega), Int.toNat_natCast, hJ.1 8 (by decide) (by decide), bE_g10 hE, bL_g17 hL, bL_ld12 hL (by omega) (by omega), t0, hJ.1 12 (by decide) (by decide)]
    rcases b0 with b0 | b0
    · rw [i_eq_t b0]
      refine tail 0 ?_
      rw [b0, show (0 : Int).toNat = 0 from rfl, zp0]
    · rw [i_eq_f (by omega)]
      refine tail _ ?_
      rw [b0, show (((1 : Int).toNat : Nat) : Int) = 1 from rfl]
theorem stateNow_eq (hE : isSe μ a c) (hL : isL μ (c + 3)) (hk : okL l) (hH : (H : Int) = l 0 0) (hH4 : H ≤ 4) (op : opn l o ro R) (ho : o ≤ 3) (hJ : envS J a c l o ro) (hn : 20000 ≤ n) : mX4_stateNow n a (wi μ J) = some (kC o H h ro (hd l h) l, wi μ J) := by
  have rg := rg_of (ro := ro) (o := o) (g := hd l h - hd l h) hk hH (fun k hk' => by have := (op.2.1 k hk').1; have := op.1; omega) (by omega)
  have e := sR_l (n := n) hE hL hk hH hH4 op ho hJ hn o n 0 (by omega) (by omega)
  rw [stateNow_s]
  have e' : lp (sR n a) n (0, 0) (wi μ J) = _ := e
  rw [e']
  unfold kC
  rw [cdF_n rg, pD_o ho (fun k hk => by unfold fD; rw [if_neg hk]; rfl), pF_o ho (fun k hk => by unfold fF; rw [if_neg hk]; rfl), pS_o hH4 (fun k hk => by unfold fS; rw [if_neg hk]; rfl), show (hd l h - hd l h).toNat = 0 by omega, Nat.mul_zero, Nat.add_zero]
end SN
