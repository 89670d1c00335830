/-! the class's search: its parts -/
def isSe (μ : Mem) (a c : Nat) : Prop := mS μ a = (5, 14) ∧ (mA μ a 2 = a + 9 ∧ mA μ a 4 = a + 10 ∧ mA μ a 5 = a + 11 ∧ mA μ a 7 = a + 12 ∧ mA μ a 8 = a + 13 ∧ mA μ a 9 = a + 14 ∧ mA μ a 10 = c + 3) ∧ (mS μ (a + 9) = (20, 3) ∧ mS μ (a + 10) = (20, 40) ∧ mS μ (a + 11) = (20, 40) ∧ mS μ (a + 12) = (20, 12) ∧ mS μ (a + 13) = (20, 12) ∧ mS μ (a + 14) = (20, 4)) ∧ isSS μ (a + 1) ∧ isSS μ (a + 5) ∧ ((mA μ a 0 = a + 1 ∧ mA μ a 1 = a + 5) ∨ (mA μ a 0 = a + 5 ∧ mA μ a 1 = a + 1))
section SE0
variable {μ : Mem} {J : Nat → Nat → Int} {a c : Nat} {β : Type}
theorem bE_gI (h : isSe μ a c) {k : Nat} {f : Int → Option β} : (gI (wi μ J) 5 a k).bind f = f (J a k) := bnd (e_gI (by rw [h.1])) f
theorem bE_pI (h : isSe μ a c) {k : Nat} {x : Int} {f : Mem → Option β} : (pI (wi μ J) 5 a k x).bind f = f (wi μ (up2 J a k x)) := bnd (e_pI (by rw [h.1])) f
theorem bE_inv {ρ : Type} {X : Option ρ} (h : isSe μ a c) {f : ρ → Option β} : (inv (wi μ J) 5 a X).bind f = X.bind f := by
  rw [show inv (wi μ J) 5 a X = X from if_pos (by rw [wi_S, h.1])]
theorem bE_g0 (h : isSe μ a c) {f : Nat → Option β} : (gA (wi μ J) 5 a 0).bind f = f (mA μ a 0) := bnd (e_gA (by rw [h.1])) f
theorem bE_g1 (h : isSe μ a c) {f : Nat → Option β} : (gA (wi μ J) 5 a 1).bind f = f (mA μ a 1) := bnd (e_gA (by rw [h.1])) f
theorem bE_g2 (h : isSe μ a c) {f : Nat → Option β} : (gA (wi μ J) 5 a 2).bind f = f (a + 9) := bnd ((e_gA (by rw [h.1])).trans (congrArg some h.2.1.1)) f
theorem bE_g4 (h : isSe μ a c) {f : Nat → Option β} : (gA (wi μ J) 5 a 4).bind f = f (a + 10) := bnd ((e_gA (by rw [h.1])).trans (congrArg some h.2.1.2.1)) f
theorem bE_g5 (h : isSe μ a c) {f : Nat → Option β} : (gA (wi μ J) 5 a 5).bind f = f (a + 11) := bnd ((e_gA (by rw [h.1])).trans (congrArg some h.2.1.2.2.1)) f
theorem bE_g7 (h : isSe μ a c) {f : Nat → Option β} : (gA (wi μ J) 5 a 7).bind f = f (a + 12) := bnd ((e_gA (by rw [h.1])).trans (congrArg some h.2.1.2.2.2.1)) f
theorem bE_g8 (h : isSe μ a c) {f : Nat → Option β} : (gA (wi μ J) 5 a 8).bind f = f (a + 13) := bnd ((e_gA (by rw [h.1])).trans (congrArg some h.2.1.2.2.2.2.1)) f
theorem bE_g9 (h : isSe μ a c) {f : Nat → Option β} : (gA (wi μ J) 5 a 9).bind f = f (a + 14) := bnd ((e_gA (by rw [h.1])).trans (congrArg some h.2.1.2.2.2.2.2.1)) f
theorem bE_g10 (h : isSe μ a c) {f : Nat → Option β} : (gA (wi μ J) 5 a 10).bind f = f (c + 3) := bnd ((e_gA (by rw [h.1])).trans (congrArg some h.2.1.2.2.2.2.2.2)) f
theorem bE_ld9 (h : isSe μ a c) {i : Int} (h0 : 0 ≤ i) (h1 : i < 3) {f : Int → Option β} : (ldI (wi μ J) 0 (a + 9) i).bind f = f (J (a + 9) i.toNat) := bnd (e_ldI (L := 3) (h.2.2.1.1) h0 (by omega) (by omega)) f
theorem bE_st9 (h : isSe μ a c) {i x : Int} (h0 : 0 ≤ i) (h1 : i < 3) {f : Mem → Option β} : (stI (wi μ J) 0 (a + 9) i x).bind f = f (wi μ (up2 J (a + 9) i.toNat x)) := bnd (e_stI (L := 3) (h.2.2.1.1) h0 (by omega) (by omega)) f
theorem bE_ld10 (h : isSe μ a c) {i : Int} (h0 : 0 ≤ i) (h1 : i < 40) {f : Int → Option β} : (ldI (wi μ J) 0 (a + 10) i).bind f = f (J (a + 10) i.toNat) := bnd (e_ldI (L := 40) (h.2.2.1.2.1) h0 (by omega) (by omega)) f
theorem bE_st10 (h : isSe μ a c) {i x : Int} (h0 : 0 ≤ i) (h1 : i < 40) {f : Mem → Option β} : (stI (wi μ J) 0 (a + 10) i x).bind f = f (wi μ (up2 J (a + 10) i.toNat x)) := bnd (e_stI (L := 40) (h.2.2.1.2.1) h0 (by omega) (by omega)) f
theorem bE_ld11 (h : isSe μ a c) {i : Int} (h0 : 0 ≤ i) (h1 : i < 40) {f : Int → Option β} : (ldI (wi μ J) 0 (a + 11) i).bind f = f (J (a + 11) i.toNat) := bnd (e_ldI (L := 40) (h.2.2.1.2.2.1) h0 (by omega) (by omega)) f
theorem bE_st11 (h : isSe μ a c) {i x : Int} (h0 : 0 ≤ i) (h1 : i < 40) {f : Mem → Option β} : (stI (wi μ J) 0 (a + 11) i x).bind f = f (wi μ (up2 J (a + 11) i.toNat x)) := bnd (e_stI (L := 40) (h.2.2.1.2.2.1) h0 (by omega) (by omega)) f
theorem bE_ld12 (h : isSe μ a c) {i : Int} (h0 : 0 ≤ i) (h1 : i < 12) {f : Int → Option β} : (ldI (wi μ J) 0 (a + 12) i).bind f = f (J (a + 12) i.toNat) := bnd (e_ldI (L := 12) (h.2.2.1.2.2.2.1) h0 (by omega) (by omega)) f
theorem bE_st12 (h : isSe μ a c) {i x : Int} (h0 : 0 ≤ i) (h1 : i < 12) {f : Mem → Option β} : (stI (wi μ J) 0 (a + 12) i x).bind f = f (wi μ (up2 J (a + 12) i.toNat x)) := bnd (e_stI (L := 12) (h.2.2.1.2.2.2.1) h0 (by omega) (by omega)) f
theorem bE_ld13 (h : isSe μ a c) {i : Int} (h0 : 0 ≤ i) (h1 : i < 12) {f : Int → Option β} : (ldI (wi μ J) 0 (a + 13) i).bind f = f (J (a + 13) i.toNat) := bnd (e_ldI (L := 12) (h.2.2.1.2.2.2.2.1) h0 (by omega) (by omega)) f
theorem bE_st13 (h : isSe μ a c) {i x : Int} (h0 : 0 ≤ i) (h1 : i < 12) {f : Mem → Option β} : (stI (wi μ J) 0 (a + 13) i x).bind f = f (wi μ (up2 J (a + 13) i.toNat x)) := bnd (e_stI (L := 12) (h.2.2.1.2.2.2.2.1) h0 (by omega) (by omega)) f
theorem bE_ld14 (h : isSe μ a c) {i : Int} (h0 : 0 ≤ i) (h1 : i < 4) {f : Int → Option β} : (ldI (wi μ J) 0 (a + 14) i).bind f = f (J (a + 14) i.toNat) := bnd (e_ldI (L := 4) (h.2.2.1.2.2.2.2.2) h0 (by omega) (by omega)) f
theorem bE_st14 (h : isSe μ a c) {i x : Int} (h0 : 0 ≤ i) (h1 : i < 4) {f : Mem → Option β} : (stI (wi μ J) 0 (a + 14) i x).bind f = f (wi μ (up2 J (a + 14) i.toNat x)) := bnd (e_stI (L := 4) (h.2.2.1.2.2.2.2.2) h0 (by omega) (by omega)) f
end SE0
