/-! the reference at m: its object and the 21 rows behind it -/
def mSh : List (Nat × Nat × Nat) := [(0, 12, 44), (1, 20, 660), (2, 22, 2), (3, 20, 900), (4, 20, 220), (15, 20, 10), (16, 20, 220), (22, 20, 10), (23, 23, 3001), (24, 20, 8192), (25, 20, 3), (28, 23, 3001), (29, 20, 3001), (30, 20, 3001), (32, 20, 7), (33, 20, 7), (34, 20, 1760), (36, 20, 7), (37, 20, 7), (41, 20, 4), (42, 20, 4), (43, 23, 240)]
def isM (μ : Mem) (m : Nat) : Prop := mS μ m = (12, 44) ∧ ∀ (k : Nat) (q : Nat × Nat × Nat), 0 < k → mSh[k]? = some q → mA μ m q.1 = m + k ∧ mS μ (m + k) = q.2
theorem isM.k {μ : Mem} {m : Nat} (h : isM μ m) : (mS μ m).1 = 12 := by rw [h.1]
theorem M_gI {μ : Mem} {I : Nat → Nat → Int} {m k : Nat} (h : isM μ m) : gI (wi μ I) 12 m k = some (I m k) := e_gI h.k
theorem M_pI {μ : Mem} {I : Nat → Nat → Int} {m k : Nat} {x : Int} (h : isM μ m) : pI (wi μ I) 12 m k x = some (wi μ (up2 I m k x)) := e_pI h.k
theorem M_inv {ρ : Type} {μ : Mem} {I : Nat → Nat → Int} {m : Nat} {f : Option ρ} (h : isM μ m) : inv (wi μ I) 12 m f = f := e_inv h.k
theorem M_g1 {μ : Mem} {I : Nat → Nat → Int} {m : Nat} (h : isM μ m) : gA (wi μ I) 12 m 1 = some (m + 1) := by rw [e_gA h.k]; exact congrArg some (h.2 1 _ (by decide) rfl).1
theorem M_s1 {μ : Mem} {m : Nat} (h : isM μ m) : mS μ (m + 1) = (20, 660) := (h.2 1 _ (by decide) rfl).2
theorem M_ld1 {μ : Mem} {I : Nat → Nat → Int} {m : Nat} {i : Int} (h : isM μ m) (h0 : 0 ≤ i) (h1 : i < 660) : ldI (wi μ I) 0 (m + 1) i = some (I (m + 1) i.toNat) := e_ldI (M_s1 h) h0 (by omega) (by omega)
theorem M_st1 {μ : Mem} {I : Nat → Nat → Int} {m : Nat} {i x : Int} (h : isM μ m) (h0 : 0 ≤ i) (h1 : i < 660) : stI (wi μ I) 0 (m + 1) i x = some (wi μ (up2 I (m + 1) i.toNat x)) := e_stI (M_s1 h) h0 (by omega) (by omega)
theorem M_g2 {μ : Mem} {I : Nat → Nat → Int} {m : Nat} (h : isM μ m) : gA (wi μ I) 12 m 2 = some (m + 2) := by rw [e_gA h.k]; exact congrArg some (h.2 2 _ (by decide) rfl).1
theorem M_s2 {μ : Mem} {m : Nat} (h : isM μ m) : mS μ (m + 2) = (22, 2) := (h.2 2 _ (by decide) rfl).2
theorem M_ld2 {μ : Mem} {I : Nat → Nat → Int} {m : Nat} {i : Int} (h : isM μ m) (h0 : 0 ≤ i) (h1 : i < 2) : ldI (wi μ I) 2 (m + 2) i = some (I (m + 2) i.toNat) := e_ldI (M_s2 h) h0 (by omega) (by omega)
theorem M_st2 {μ : Mem} {I : Nat → Nat → Int} {m : Nat} {i x : Int} (h : isM μ m) (h0 : 0 ≤ i) (h1 : i < 2) (hx : x = 0 ∨ x = 1) : stZ (wi μ I) (m + 2) i x = some (wi μ (up2 I (m + 2) i.toNat x)) := e_stZ (M_s2 h) h0 (by omega) (by omega) hx
theorem M_g3 {μ : Mem} {I : Nat → Nat → Int} {m : Nat} (h : isM μ m) : gA (wi μ I) 12 m 3 = some (m + 3) := by rw [e_gA h.k]; exact congrArg some (h.2 3 _ (by decide) rfl).1
theorem M_s3 {μ : Mem} {m : Nat} (h : isM μ m) : mS μ (m + 3) = (20, 900) := (h.2 3 _ (by decide) rfl).2
theorem M_ld3 {μ : Mem} {I : Nat → Nat → Int} {m : Nat} {i : Int} (h : isM μ m) (h0 : 0 ≤ i) (h1 : i < 900) : ldI (wi μ I) 0 (m + 3) i = some (I (m + 3) i.toNat) := e_ldI (M_s3 h) h0 (by omega) (by omega)
theorem M_st3 {μ : Mem} {I : Nat → Nat → Int} {m : Nat} {i x : Int} (h : isM μ m) (h0 : 0 ≤ i) (h1 : i < 900) : stI (wi μ I) 0 (m + 3) i x = some (wi μ (up2 I (m + 3) i.toNat x)) := e_stI (M_s3 h) h0 (by omega) (by omega)
theorem M_g4 {μ : Mem} {I : Nat → Nat → Int} {m : Nat} (h : isM μ m) : gA (wi μ I) 12 m 4 = some (m + 4) := by rw [e_gA h.k]; exact congrArg some (h.2 4 _ (by decide) rfl).1
theorem M_s4 {μ : Mem} {m : Nat} (h : isM μ m) : mS μ (m + 4) = (20, 220) := (h.2 4 _ (by decide) rfl).2
theorem M_ld4 {μ : Mem} {I : Nat → Nat → Int} {m : Nat} {i : Int} (h : isM μ m) (h0 : 0 ≤ i) (h1 : i < 220) : ldI (wi μ I) 0 (m + 4) i = some (I (m + 4) i.toNat) := e_ldI (M_s4 h) h0 (by omega) (by omega)
theorem M_st4 {μ : Mem} {I : Nat → Nat → Int} {m : Nat} {i x : Int} (h : isM μ m) (h0 : 0 ≤ i) (h1 : i < 220) : stI (wi μ I) 0 (m + 4) i x = some (wi μ (up2 I (m + 4) i.toNat x)) := e_stI (M_s4 h) h0 (by omega) (by omega)
theorem M_g15 {μ : Mem} {I : Nat → Nat → Int} {m : Nat} (h : isM μ m) : gA (wi μ I) 12 m 15 = some (m + 5) := by rw [e_gA h.k]; exact congrArg some (h.2 5 _ (by decide) rfl).1
theorem M_s5 {μ : Mem} {m : Nat} (h : isM μ m) : mS μ (m + 5) = (20, 10) := (h.2 5 _ (by decide) rfl).2
theorem M_ld5 {μ : Mem} {I : Nat → Nat → Int} {m : Nat} {i : Int} (h : isM μ m) (h0 : 0 ≤ i) (h1 : i < 10) : ldI (wi μ I) 0 (m + 5) i = some (I (m + 5) i.toNat) := e_ldI (M_s5 h) h0 (by omega) (by omega)
theorem M_st5 {μ : Mem} {I : Nat → Nat → Int} {m : Nat} {i x : Int} (h : isM μ m) (h0 : 0 ≤ i) (h1 : i < 10) : stI (wi μ I) 0 (m + 5) i x = some (wi μ (up2 I (m + 5) i.toNat x)) := e_stI (M_s5 h) h0 (by omega) (by omega)
theorem M_g16 {μ : Mem} {I : Nat → Nat → Int} {m : Nat} (h : isM μ m) : gA (wi μ I) 12 m 16 = some (m + 6) := by rw [e_gA h.k]; exact congrArg some (h.2 6 _ (by decide) rfl).1
theorem M_s6 {μ : Mem} {m : Nat} (h : isM μ m) : mS μ (m + 6) = (20, 220) := (h.2 6 _ (by decide) rfl).2
theorem M_ld6 {μ : Mem} {I : Nat → Nat → Int} {m : Nat} {i : Int} (h : isM μ m) (h0 : 0 ≤ i) (h1 : i < 220) : ldI (wi μ I) 0 (m + 6) i = some (I (m + 6) i.toNat) := e_ldI (M_s6 h) h0 (by omega) (by omega)
theorem M_st6 {μ : Mem} {I : Nat → Nat → Int} {m : Nat} {i x : Int} (h : isM μ m) (h0 : 0 ≤ i) (h1 : i < 220) : stI (wi μ I) 0 (m + 6) i x = some (wi μ (up2 I (m + 6) i.toNat x)) := e_stI (M_s6 h) h0 (by omega) (by omega)
theorem M_g22 {μ : Mem} {I : Nat → Nat → Int} {m : Nat} (h : isM μ m) : gA (wi μ I) 12 m 22 = some (m + 7) := by rw [e_gA h.k]; exact congrArg some (h.2 7 _ (by decide) rfl).1
theorem M_s7 {μ : Mem} {m : Nat} (h : isM μ m) : mS μ (m + 7) = (20, 10) := (h.2 7 _ (by decide) rfl).2
theorem M_ld7 {μ : Mem} {I : Nat → Nat → Int} {m : Nat} {i : Int} (h : isM μ m) (h0 : 0 ≤ i) (h1 : i < 10) : ldI (wi μ I) 0 (m + 7) i = some (I (m + 7) i.toNat) := e_ldI (M_s7 h) h0 (by omega) (by omega)
theorem M_st7 {μ : Mem} {I : Nat → Nat → Int} {m : Nat} {i x : Int} (h : isM μ m) (h0 : 0 ≤ i) (h1 : i < 10) : stI (wi μ I) 0 (m + 7) i x = some (wi μ (up2 I (m + 7) i.toNat x)) := e_stI (M_s7 h) h0 (by omega) (by omega)
theorem M_g23 {μ : Mem} {I : Nat → Nat → Int} {m : Nat} (h : isM μ m) : gA (wi μ I) 12 m 23 = some (m + 8) := by rw [e_gA h.k]; exact congrArg some (h.2 8 _ (by decide) rfl).1
theorem M_s8 {μ : Mem} {m : Nat} (h : isM μ m) : mS μ (m + 8) = (23, 3001) := (h.2 8 _ (by decide) rfl).2
theorem M_ld8 {μ : Mem} {I : Nat → Nat → Int} {m : Nat} {i : Int} (h : isM μ m) (h0 : 0 ≤ i) (h1 : i < 3001) : ldI (wi μ I) 3 (m + 8) i = some (I (m + 8) i.toNat) := e_ldI (M_s8 h) h0 (by omega) (by omega)
theorem M_st8 {μ : Mem} {I : Nat → Nat → Int} {m : Nat} {i x : Int} (h : isM μ m) (h0 : 0 ≤ i) (h1 : i < 3001) : stI (wi μ I) 3 (m + 8) i x = some (wi μ (up2 I (m + 8) i.toNat x)) := e_stI (M_s8 h) h0 (by omega) (by omega)
theorem M_g24 {μ : Mem} {I : Nat → Nat → Int} {m : Nat} (h : isM μ m) : gA (wi μ I) 12 m 24 = some (m + 9) := by rw [e_gA h.k]; exact congrArg some (h.2 9 _ (by decide) rfl).1
theorem M_s9 {μ : Mem} {m : Nat} (h : isM μ m) : mS μ (m + 9) = (20, 8192) := (h.2 9 _ (by decide) rfl).2
theorem M_ld9 {μ : Mem} {I : Nat → Nat → Int} {m : Nat} {i : Int} (h : isM μ m) (h0 : 0 ≤ i) (h1 : i < 8192) : ldI (wi μ I) 0 (m + 9) i = some (I (m + 9) i.toNat) := e_ldI (M_s9 h) h0 (by omega) (by omega)
theorem M_st9 {μ : Mem} {I : Nat → Nat → Int} {m : Nat} {i x : Int} (h : isM μ m) (h0 : 0 ≤ i) (h1 : i < 8192) : stI (wi μ I) 0 (m + 9) i x = some (wi μ (up2 I (m + 9) i.toNat x)) := e_stI (M_s9 h) h0 (by omega) (by omega)
theorem M_g25 {μ : Mem} {I : Nat → Nat → Int} {m : Nat} (h : isM μ m) : gA (wi μ I) 12 m 25 = some (m + 10) := by rw [e_gA h.k]; exact congrArg some (h.2 10 _ (by decide) rfl).1
theorem M_s10 {μ : Mem} {m : Nat} (h : isM μ m) : mS μ (m + 10) = (20, 3) := (h.2 10 _ (by decide) rfl).2
theorem M_ld10 {μ : Mem} {I : Nat → Nat → Int} {m : Nat} {i : Int} (h : isM μ m) (h0 : 0 ≤ i) (h1 : i < 3) : ldI (wi μ I) 0 (m + 10) i = some (I (m + 10) i.toNat) := e_ldI (M_s10 h) h0 (by omega) (by omega)
theorem M_st10 {μ : Mem} {I : Nat → Nat → Int} {m : Nat} {i x : Int} (h : isM μ m) (h0 : 0 ≤ i) (h1 : i < 3) : stI (wi μ I) 0 (m + 10) i x = some (wi μ (up2 I (m + 10) i.toNat x)) := e_stI (M_s10 h) h0 (by omega) (by omega)
theorem M_g28 {μ : Mem} {I : Nat → Nat → Int} {m : Nat} (h : isM μ m) : gA (wi μ I) 12 m 28 = some (m + 11) := by rw [e_gA h.k]; exact congrArg some (h.2 11 _ (by decide) rfl).1
theorem M_s11 {μ : Mem} {m : Nat} (h : isM μ m) : mS μ (m + 11) = (23, 3001) := (h.2 11 _ (by decide) rfl).2
theorem M_ld11 {μ : Mem} {I : Nat → Nat → Int} {m : Nat} {i : Int} (h : isM μ m) (h0 : 0 ≤ i) (h1 : i < 3001) : ldI (wi μ I) 3 (m + 11) i = some (I (m + 11) i.toNat) := e_ldI (M_s11 h) h0 (by omega) (by omega)
theorem M_st11 {μ : Mem} {I : Nat → Nat → Int} {m : Nat} {i x : Int} (h : isM μ m) (h0 : 0 ≤ i) (h1 : i < 3001) : stI (wi μ I) 3 (m + 11) i x = some (wi μ (up2 I (m + 11) i.toNat x)) := e_stI (M_s11 h) h0 (by omega) (by omega)
theorem M_g29 {μ : Mem} {I : Nat → Nat → Int} {m : Nat} (h : isM μ m) : gA (wi μ I) 12 m 29 = some (m + 12) := by rw [e_gA h.k]; exact congrArg some (h.2 12 _ (by decide) rfl).1
theorem M_s12 {μ : Mem} {m : Nat} (h : isM μ m) : mS μ (m + 12) = (20, 3001) := (h.2 12 _ (by decide) rfl).2
theorem M_ld12 {μ : Mem} {I : Nat → Nat → Int} {m : Nat} {i : Int} (h : isM μ m) (h0 : 0 ≤ i) (h1 : i < 3001) : ldI (wi μ I) 0 (m + 12) i = some (I (m + 12) i.toNat) := e_ldI (M_s12 h) h0 (by omega) (by omega)
theorem M_st12 {μ : Mem} {I : Nat → Nat → Int} {m : Nat} {i x : Int} (h : isM μ m) (h0 : 0 ≤ i) (h1 : i < 3001) : stI (wi μ I) 0 (m + 12) i x = some (wi μ (up2 I (m + 12) i.toNat x)) := e_stI (M_s12 h) h0 (by omega) (by omega)
theorem M_g30 {μ : Mem} {I : Nat → Nat → Int} {m : Nat} (h : isM μ m) : gA (wi μ I) 12 m 30 = some (m + 13) := by rw [e_gA h.k]; exact congrArg some (h.2 13 _ (by decide) rfl).1
theorem M_s13 {μ : Mem} {m : Nat} (h : isM μ m) : mS μ (m + 13) = (20, 3001) := (h.2 13 _ (by decide) rfl).2
theorem M_ld13 {μ : Mem} {I : Nat → Nat → Int} {m : Nat} {i : Int} (h : isM μ m) (h0 : 0 ≤ i) (h1 : i < 3001) : ldI (wi μ I) 0 (m + 13) i = some (I (m + 13) i.toNat) := e_ldI (M_s13 h) h0 (by omega) (by omega)
theorem M_st13 {μ : Mem} {I : Nat → Nat → Int} {m : Nat} {i x : Int} (h : isM μ m) (h0 : 0 ≤ i) (h1 : i < 3001) : stI (wi μ I) 0 (m + 13) i x = some (wi μ (up2 I (m + 13) i.toNat x)) := e_stI (M_s13 h) h0 (by omega) (by omega)
theorem M_g32 {μ : Mem} {I : Nat → Nat → Int} {m : Nat} (h : isM μ m) : gA (wi μ I) 12 m 32 = some (m + 14) := by rw [e_gA h.k]; exact congrArg some (h.2 14 _ (by decide) rfl).1
theorem M_s14 {μ : Mem} {m : Nat} (h : isM μ m) : mS μ (m + 14) = (20, 7) := (h.2 14 _ (by decide) rfl).2
theorem M_ld14 {μ : Mem} {I : Nat → Nat → Int} {m : Nat} {i : Int} (h : isM μ m) (h0 : 0 ≤ i) (h1 : i < 7) : ldI (wi μ I) 0 (m + 14) i = some (I (m + 14) i.toNat) := e_ldI (M_s14 h) h0 (by omega) (by omega)
theorem M_st14 {μ : Mem} {I : Nat → Nat → Int} {m : Nat} {i x : Int} (h : isM μ m) (h0 : 0 ≤ i) (h1 : i < 7) : stI (wi μ I) 0 (m + 14) i x = some (wi μ (up2 I (m + 14) i.toNat x)) := e_stI (M_s14 h) h0 (by omega) (by omega)
theorem M_g33 {μ : Mem} {I : Nat → Nat → Int} {m : Nat} (h : isM μ m) : gA (wi μ I) 12 m 33 = some (m + 15) := by rw [e_gA h.k]; exact congrArg some (h.2 15 _ (by decide) rfl).1
theorem M_s15 {μ : Mem} {m : Nat} (h : isM μ m) : mS μ (m + 15) = (20, 7) := (h.2 15 _ (by decide) rfl).2
theorem M_ld15 {μ : Mem} {I : Nat → Nat → Int} {m : Nat} {i : Int} (h : isM μ m) (h0 : 0 ≤ i) (h1 : i < 7) : ldI (wi μ I) 0 (m + 15) i = some (I (m + 15) i.toNat) := e_ldI (M_s15 h) h0 (by omega) (by omega)
theorem M_st15 {μ : Mem} {I : Nat → Nat → Int} {m : Nat} {i x : Int} (h : isM μ m) (h0 : 0 ≤ i) (h1 : i < 7) : stI (wi μ I) 0 (m + 15) i x = some (wi μ (up2 I (m + 15) i.toNat x)) := e_stI (M_s15 h) h0 (by omega) (by omega)
theorem M_g34 {μ : Mem} {I : Nat → Nat → Int} {m : Nat} (h : isM μ m) : gA (wi μ I) 12 m 34 = some (m + 16) := by rw [e_gA h.k]; exact congrArg some (h.2 16 _ (by decide) rfl).1
theorem M_s16 {μ : Mem} {m : Nat} (h : isM μ m) : mS μ (m + 16) = (20, 1760) := (h.2 16 _ (by decide) rfl).2
theorem M_ld16 {μ : Mem} {I : Nat → Nat → Int} {m : Nat} {i : Int} (h : isM μ m) (h0 : 0 ≤ i) (h1 : i < 1760) : ldI (wi μ I) 0 (m + 16) i = some (I (m + 16) i.toNat) := e_ldI (M_s16 h) h0 (by omega) (by omega)
theorem M_st16 {μ : Mem} {I : Nat → Nat → Int} {m : Nat} {i x : Int} (h : isM μ m) (h0 : 0 ≤ i) (h1 : i < 1760) : stI (wi μ I) 0 (m + 16) i x = some (wi μ (up2 I (m + 16) i.toNat x)) := e_stI (M_s16 h) h0 (by omega) (by omega)
theorem M_g36 {μ : Mem} {I : Nat → Nat → Int} {m : Nat} (h : isM μ m) : gA (wi μ I) 12 m 36 = some (m + 17) := by rw [e_gA h.k]; exact congrArg some (h.2 17 _ (by decide) rfl).1
theorem M_s17 {μ : Mem} {m : Nat} (h : isM μ m) : mS μ (m + 17) = (20, 7) := (h.2 17 _ (by decide) rfl).2
theorem M_ld17 {μ : Mem} {I : Nat → Nat → Int} {m : Nat} {i : Int} (h : isM μ m) (h0 : 0 ≤ i) (h1 : i < 7) : ldI (wi μ I) 0 (m + 17) i = some (I (m + 17) i.toNat) := e_ldI (M_s17 h) h0 (by omega) (by omega)
theorem M_st17 {μ : Mem} {I : Nat → Nat → Int} {m : Nat} {i x : Int} (h : isM μ m) (h0 : 0 ≤ i) (h1 : i < 7) : stI (wi μ I) 0 (m + 17) i x = some (wi μ (up2 I (m + 17) i.toNat x)) := e_stI (M_s17 h) h0 (by omega) (by omega)
theorem M_g37 {μ : Mem} {I : Nat → Nat → Int} {m : Nat} (h : isM μ m) : gA (wi μ I) 12 m 37 = some (m + 18) := by rw [e_gA h.k]; exact congrArg some (h.2 18 _ (by decide) rfl).1
theorem M_s18 {μ : Mem} {m : Nat} (h : isM μ m) : mS μ (m + 18) = (20, 7) := (h.2 18 _ (by decide) rfl).2
theorem M_ld18 {μ : Mem} {I : Nat → Nat → Int} {m : Nat} {i : Int} (h : isM μ m) (h0 : 0 ≤ i) (h1 : i < 7) : ldI (wi μ I) 0 (m + 18) i = some (I (m + 18) i.toNat) := e_ldI (M_s18 h) h0 (by omega) (by omega)
theorem M_st18 {μ : Mem} {I : Nat → Nat → Int} {m : Nat} {i x : Int} (h : isM μ m) (h0 : 0 ≤ i) (h1 : i < 7) : stI (wi μ I) 0 (m + 18) i x = some (wi μ (up2 I (m + 18) i.toNat x)) := e_stI (M_s18 h) h0 (by omega) (by omega)
theorem M_g41 {μ : Mem} {I : Nat → Nat → Int} {m : Nat} (h : isM μ m) : gA (wi μ I) 12 m 41 = some (m + 19) := by rw [e_gA h.k]; exact congrArg some (h.2 19 _ (by decide) rfl).1
theorem M_s19 {μ : Mem} {m : Nat} (h : isM μ m) : mS μ (m + 19) = (20, 4) := (h.2 19 _ (by decide) rfl).2
theorem M_ld19 {μ : Mem} {I : Nat → Nat → Int} {m : Nat} {i : Int} (h : isM μ m) (h0 : 0 ≤ i) (h1 : i < 4) : ldI (wi μ I) 0 (m + 19) i = some (I (m + 19) i.toNat) := e_ldI (M_s19 h) h0 (by omega) (by omega)
theorem M_st19 {μ : Mem} {I : Nat → Nat → Int} {m : Nat} {i x : Int} (h : isM μ m) (h0 : 0 ≤ i) (h1 : i < 4) : stI (wi μ I) 0 (m + 19) i x = some (wi μ (up2 I (m + 19) i.toNat x)) := e_stI (M_s19 h) h0 (by omega) (by omega)
theorem M_g42 {μ : Mem} {I : Nat → Nat → Int} {m : Nat} (h : isM μ m) : gA (wi μ I) 12 m 42 = some (m + 20) := by rw [e_gA h.k]; exact congrArg some (h.2 20 _ (by decide) rfl).1
theorem M_s20 {μ : Mem} {m : Nat} (h : isM μ m) : mS μ (m + 20) = (20, 4) := (h.2 20 _ (by decide) rfl).2
theorem M_ld20 {μ : Mem} {I : Nat → Nat → Int} {m : Nat} {i : Int} (h : isM μ m) (h0 : 0 ≤ i) (h1 : i < 4) : ldI (wi μ I) 0 (m + 20) i = some (I (m + 20) i.toNat) := e_ldI (M_s20 h) h0 (by omega) (by omega)
theorem M_st20 {μ : Mem} {I : Nat → Nat → Int} {m : Nat} {i x : Int} (h : isM μ m) (h0 : 0 ≤ i) (h1 : i < 4) : stI (wi μ I) 0 (m + 20) i x = some (wi μ (up2 I (m + 20) i.toNat x)) := e_stI (M_s20 h) h0 (by omega) (by omega)
theorem M_g43 {μ : Mem} {I : Nat → Nat → Int} {m : Nat} (h : isM μ m) : gA (wi μ I) 12 m 43 = some (m + 21) := by rw [e_gA h.k]; exact congrArg some (h.2 21 _ (by decide) rfl).1
theorem M_s21 {μ : Mem} {m : Nat} (h : isM μ m) : mS μ (m + 21) = (23, 240) := (h.2 21 _ (by decide) rfl).2
theorem M_ld21 {μ : Mem} {I : Nat → Nat → Int} {m : Nat} {i : Int} (h : isM μ m) (h0 : 0 ≤ i) (h1 : i < 240) : ldI (wi μ I) 3 (m + 21) i = some (I (m + 21) i.toNat) := e_ldI (M_s21 h) h0 (by omega) (by omega)
theorem M_st21 {μ : Mem} {I : Nat → Nat → Int} {m : Nat} {i x : Int} (h : isM μ m) (h0 : 0 ≤ i) (h1 : i < 240) : stI (wi μ I) 3 (m + 21) i x = some (wi μ (up2 I (m + 21) i.toNat x)) := e_stI (M_s21 h) h0 (by omega) (by omega)
def wm (I : Nat → Nat → Int) (a : Nat) (l : Ld) : Nat → Nat → Int := fun b i => if a ≤ b ∧ b ≤ a + 21 then l (b - a) i else I b i
theorem wm_ld (I : Nat → Nat → Int) (a : Nat) : wm I a (ld I a) = I := by
  funext b i
  unfold wm ld
  by_cases h : a ≤ b ∧ b ≤ a + 21
  · rw [if_pos h, show a + (b - a) = b by omega]
  · rw [if_neg h]
theorem wm_at {I : Nat → Nat → Int} {a : Nat} {l : Ld} {k : Nat} (h : k ≤ 21) (i : Nat) : wm I a l (a + k) i = l k i := by
  unfold wm
  rw [if_pos (by omega), show a + k - a = k by omega]
theorem wm_0 {I : Nat → Nat → Int} {a : Nat} {l : Ld} (i : Nat) : wm I a l a i = l 0 i := wm_at (k := 0) (by decide) i
theorem wm_out {I : Nat → Nat → Int} {a : Nat} {l : Ld} {b : Nat} (h : b < a ∨ a + 21 < b) : wm I a l b = I b := by
  funext i
  unfold wm
  rw [if_neg (by omega)]
theorem wm_up {I : Nat → Nat → Int} {a : Nat} {l : Ld} {k i : Nat} {x : Int} (h : k ≤ 21) : up2 (wm I a l) (a + k) i x = wm I a (up2 l k i x) := by
  funext b j
  unfold up2 wm
  by_cases hb : a ≤ b ∧ b ≤ a + 21
  · rw [if_pos hb, if_pos hb]
    show _ = if b - a = k ∧ j = i then x else l (b - a) j
    by_cases e : b = a + k ∧ j = i
    · rw [if_pos e, if_pos (by omega)]
    · rw [if_neg e, if_neg (by omega)]
  · rw [if_neg hb, if_neg hb, if_neg (by omega)]
theorem wm_up0 {I : Nat → Nat → Int} {a : Nat} {l : Ld} {i : Nat} {x : Int} : up2 (wm I a l) a i x = wm I a (up2 l 0 i x) := wm_up (k := 0) (by decide)
theorem wm_wm {I : Nat → Nat → Int} {a : Nat} {l m : Ld} : wm (wm I a l) a m = wm I a m := by
  funext b i
  unfold wm
  split <;> rfl
theorem wm_row {I : Nat → Nat → Int} {a : Nat} {l : Ld} {k : Nat} (h : k ≤ 21) : wm I a l (a + k) = l k := funext fun i => wm_at h i
/-- what a loop of the reference does, told by a loop over something else -/
theorem lp_sim {α ρ σ : Type} {B : (α → Mem → Option (ρ × Mem)) → α → Mem → Option (ρ × Mem)} (step : Nat → σ → σ) (R : Nat) (P : Nat → σ → α → Mem → Prop) (Q : σ → Option (ρ × Mem) → Prop)
    (hs : ∀ (k : Nat) (s : σ) (a : α) (μ : Mem) (nx : α → Mem → Option (ρ × Mem)), k < R → P k s a μ → ∃ (a' : α) (μ' : Mem), P (k + 1) (step k s) a' μ' ∧ B nx a μ = nx a' μ')
    (hx : ∀ (s : σ) (a : α) (μ : Mem) (nx : α → Mem → Option (ρ × Mem)), P R s a μ → Q s (B nx a μ)) : ∀ (d k : Nat) (s : σ) (a : α) (μ : Mem) (n : Nat), k + d = R → d < n → P k s a μ → Q (itr step k d s) (lp B n a μ)
  | d, k, s, a, μ, 0, _, h, _ => absurd h (by omega)
  | 0, k, s, a, μ, n + 1, e, _, hi => by
    have e : k = R := by omega
    subst e
    exact hx s a μ (lp B n) hi
  | d + 1, k, s, a, μ, n + 1, e, h, hi => by
    obtain ⟨a', μ', h1, h2⟩ := hs k s a μ (lp B n) (by omega) hi
    show Q _ (B (lp B n) a μ)
    rw [h2]
    exact lp_sim step R P Q hs hx d (k + 1) (step k s) a' μ' n (by omega) (by omega) h1
/-! a land and the reference's row of it -/
def LR (l : Ld) (A : Nat → Int) : Prop := (A 0 = l 0 0 ∧ A 1 = l 0 1 ∧ A 3 = l 0 3 ∧ A 4 = l 0 4 ∧ A 5 = l 0 5) ∧
  (∀ h : Nat, (h : Int) < l 0 0 → A (6 + h) = l 1 h ∧ A (16 + h) = l 2 h ∧ A (26 + h) = l 3 h ∧ A (36 + h) = l 4 h ∧ A (46 + h) = l 5 h + l 6 h) ∧
  (∀ r : Nat, (r : Int) < l 0 1 → A (76 + r) = l 10 (2 * r) ∧ A (92 + r) = l 10 (2 * r + 1) ∧ A (108 + r) = l 7 r ∧ A (124 + r) = l 8 r ∧ A (140 + r) = l 11 (2 * r) ∧ A (156 + r) = l 11 (2 * r + 1) ∧ A (172 + r) = l 12 (2 * r) ∧ A (188 + r) = l 12 (2 * r + 1) ∧ A (204 + r) = l 9 r)
/-- the hour too, and what quenched and what was wasted -/
def LRq (l : Ld) (A : Nat → Int) : Prop := A 2 = l 0 2 ∧ ∀ h : Nat, (h : Int) < l 0 0 → A (56 + h) = l 5 h ∧ A (66 + h) = l 6 h
section MB
variable {μ : Mem} {I : Nat → Nat → Int} {m n : Nat} {s l : Ld}
theorem oI2l_of {x : Int} (h1 : -2147483648 ≤ x) (h2 : x < 2147483648) : oI2l x = x := Int32.toInt_ofInt_of_le (by omega) (by omega)
theorem lcmp_lt {x y : Int} (h1 : -9223372036854775808 ≤ x) (h2 : x < 9223372036854775808) (h3 : -9223372036854775808 ≤ y) (h4 : y < 9223372036854775808) : Int32.ofInt (oLcmp x y) < Int32.ofInt 0 ↔ x < y := by
  have ex : (Int64.ofInt x).toInt = x := Int64.toInt_ofInt_of_le (by omega) (by omega)
  have ey : (Int64.ofInt y).toInt = y := Int64.toInt_ofInt_of_le (by omega) (by omega)
  unfold oLcmp lg_cmp
  rw [Int32.ofInt_toInt]
  simp only [gt_iff_lt, Int64.lt_iff_toInt_lt, ← Int64.toInt_inj, ex, ey]
  by_cases c1 : y < x
  · rw [if_pos c1]; exact ⟨fun h => absurd h (by decide), fun h => absurd h (by omega)⟩
  · rw [if_neg c1]
    by_cases c2 : x = y
    · rw [if_pos c2]; exact ⟨fun h => absurd h (by decide), fun h => absurd h (by omega)⟩
    · rw [if_neg c2]; exact ⟨fun _ => by omega, fun _ => by decide⟩
theorem lcmp_gt {x y : Int} (h1 : -9223372036854775808 ≤ x) (h2 : x < 9223372036854775808) (h3 : -9223372036854775808 ≤ y) (h4 : y < 9223372036854775808) : Int32.ofInt 0 < Int32.ofInt (oLcmp x y) ↔ y < x := by
  have ex : (Int64.ofInt x).toInt = x := Int64.toInt_ofInt_of_le (by omega) (by omega)
  have ey : (Int64.ofInt y).toInt = y := Int64.toInt_ofInt_of_le (by omega) (by omega)
  unfold oLcmp lg_cmp
  rw [Int32.ofInt_toInt]
  simp only [gt_iff_lt, Int64.lt_iff_toInt_lt, ← Int64.toInt_inj, ex, ey]
  by_cases c1 : y < x
  · rw [if_pos c1]; exact ⟨fun _ => c1, fun _ => by decide⟩
  · rw [if_neg c1]
    by_cases c2 : x = y
    · rw [if_pos c2]; exact ⟨fun h => absurd h (by decide), fun h => absurd h (by omega)⟩
    · rw [if_neg c2]; exact ⟨fun h => absurd h (by decide), fun h => absurd h (by omega)⟩
theorem lcmp_eq {x y : Int} (h1 : -9223372036854775808 ≤ x) (h2 : x < 9223372036854775808) (h3 : -9223372036854775808 ≤ y) (h4 : y < 9223372036854775808) : Int32.ofInt (oLcmp x y) = Int32.ofInt 0 ↔ x = y := by
  have ex : (Int64.ofInt x).toInt = x := Int64.toInt_ofInt_of_le (by omega) (by omega)
  have ey : (Int64.ofInt y).toInt = y := Int64.toInt_ofInt_of_le (by omega) (by omega)
  unfold oLcmp lg_cmp
  rw [Int32.ofInt_toInt]
  simp only [gt_iff_lt, Int64.lt_iff_toInt_lt, ← Int64.toInt_inj, ex, ey]
  by_cases c1 : y < x
  · rw [if_pos c1]; exact ⟨fun h => absurd h (by decide), fun h => absurd h (by omega)⟩
  · rw [if_neg c1]
    by_cases c2 : x = y
    · rw [if_pos c2]; exact ⟨fun _ => c2, fun _ => by decide⟩
    · rw [if_neg c2]; exact ⟨fun h => absurd h (by decide), fun h => absurd h (by omega)⟩
theorem within_eq {μ : Mem} {n : Nat} {x y z : Int} (h1 : -9223372036854775808 ≤ x ∧ x < 9223372036854775808) (h2 : -9223372036854775808 ≤ y ∧ y < 9223372036854775808) (h3 : -9223372036854775808 ≤ z ∧ z < 9223372036854775808) : mX11_within n x y z μ = some (bi (y ≤ x ∧ x ≤ z), μ) := by
  unfold mX11_within
  simp (disch := omega) only [lcmp_lt, lcmp_gt]
  by_cases c1 : x < y
  · rw [if_pos c1, bi_f (by omega)]; rfl
  · rw [if_neg c1]
    by_cases c2 : z < x
    · rw [if_pos c2, bi_f (by omega)]; rfl
    · rw [if_neg c2, bi_t (by omega)]; rfl
end MB
