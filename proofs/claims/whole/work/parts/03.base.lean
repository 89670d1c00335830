/-- the tables' words that stay true under every call -/
def gw : List Cond := lw_tbl.filter goodWord
theorem gw_of {w : Cond} (h : w ∈ lw_tbl) (hg : goodWord w = true) : w ∈ gw := List.mem_filter.mpr ⟨h, hg⟩
theorem gw_warm {args a' : Array Value} {s U : State} (hW : s.WarmedH U.vm) (h : ∀ w ∈ gw, w.before args s = true) : ∀ w ∈ gw, w.before a' U = true := fun w hw => word_at hW (good_of_word (List.mem_filter.mp hw).2) (h w hw)
theorem gu_all : ∀ (ci : Nat) (q : vw_C), vwCl[ci]? = some q → (u_ws q.1 q.2.1 q.2.2).all goodWord = true := by
  intro ci q h
  match ci, h with
  | 0, h => cases h; decide +kernel
  | 1, h => cases h; decide +kernel
  | 2, h => cases h; decide +kernel
  | 3, h => cases h; decide +kernel
  | 4, h => cases h; decide +kernel
  | 5, h => cases h; decide +kernel
  | 6, h => cases h; decide +kernel
  | 7, h => cases h; decide +kernel
  | 8, h => cases h; decide +kernel
  | 9, h => cases h; decide +kernel
  | 10, h => cases h; decide +kernel
  | 11, h => cases h; decide +kernel
  | ci + 12, h => simp [vwCl] at h
theorem gc_in {ci : Nat} {q : vw_C} (h : vwCl[ci]? = some q) : ∀ w ∈ u_ws q.1 q.2.1 q.2.2, w ∈ gw := fun w hw => gw_of ((kc_all ci q h).1 w hw) (List.all_eq_true.mp (gu_all ci q h) w hw)
/-! THE ABSTRACT MEMORY. A reference is a number: 0 is null, q + 1 the cell q. A cell has a shape (kind, length); its whole numbers (ints and longs, as integers) and its references stand in two tables by address and place. Kinds: 1 + ci an object of the ci-th of vwCl, 20 + t an array (0 int, 1 byte, 2 boolean, 3 long, 4 Land, 5 NumberRow, 6 int[]), 27 the script, 40 + k the k-th text. -/
abbrev AV : Type := Int ⊕ Int ⊕ Nat
abbrev aI (x : Int) : AV := .inl x
abbrev aJ (x : Int) : AV := .inr (.inl x)
abbrev aA (a : Nat) : AV := .inr (.inr a)
def rv (a : Nat) : Value := match a with
  | 0 => .null
  | q + 1 => .ref q
def vl (v : AV) : Value := match v with
  | .inl x => .int (Int32.ofInt x)
  | .inr (.inl x) => .long (Int64.ofInt x)
  | .inr (.inr a) => rv a
def ct (v : AV) : Nat := match v with
  | .inl _ => 1
  | .inr (.inl _) => 2
  | .inr (.inr _) => 1
theorem rv_ct (a : Nat) : (rv a).category = 1 := by cases a <;> rfl
theorem vl_ct (v : AV) : (vl v).category = ct v := by
  rcases v with x | x | a
  · rfl
  · rfl
  · exact rv_ct a
abbrev Mem : Type := (Nat → Nat × Nat) × (Nat → Nat → Int) × (Nat → Nat → Nat) × Nat × Nat
def mS (μ : Mem) : Nat → Nat × Nat := μ.1
def mI (μ : Mem) : Nat → Nat → Int := μ.2.1
def mA (μ : Mem) : Nat → Nat → Nat := μ.2.2.1
/-- how many cells there are, and how many slots were made -/
def mN (μ : Mem) : Nat := μ.2.2.2.1
def mW (μ : Mem) : Nat := μ.2.2.2.2
def up1 {α : Type} (f : Nat → α) (a : Nat) (x : α) : Nat → α := fun b => if b = a then x else f b
def up2 {α : Type} (f : Nat → Nat → α) (a k : Nat) (x : α) : Nat → Nat → α := fun b j => if b = a ∧ j = k then x else f b j
def sI (μ : Mem) (a k : Nat) (x : Int) : Mem := (mS μ, up2 (mI μ) a k x, mA μ, mN μ, mW μ)
def sA (μ : Mem) (a k : Nat) (x : Nat) : Mem := (mS μ, mI μ, up2 (mA μ) a k x, mN μ, mW μ)
/-- a new cell of a shape, all its places 0, at the end; it has n slots -/
def nw (μ : Mem) (k n : Nat) : Mem := (up1 (mS μ) (mN μ + 1) (k, n), up1 (mI μ) (mN μ + 1) (fun _ => 0), up1 (mA μ) (mN μ + 1) (fun _ => 0), mN μ + 1, mW μ + n)
/-- an index within -/
abbrev ix (i : Int) (n : Nat) : Prop := 0 ≤ i ∧ i < (n : Int) ∧ i < 2147483648
abbrev lt32 (x y : Int) : Prop := Int32.ofInt x < Int32.ofInt y
abbrev le32 (x y : Int) : Prop := Int32.ofInt x ≤ Int32.ofInt y
abbrev eq32 (x y : Int) : Prop := Int32.ofInt x = Int32.ofInt y
def oAnd (x y : Int) : Int := (Int32.ofInt x &&& Int32.ofInt y).toInt
def oOr (x y : Int) : Int := (Int32.ofInt x ||| Int32.ofInt y).toInt
def oXor (x y : Int) : Int := (Int32.ofInt x ^^^ Int32.ofInt y).toInt
def oShl (x y : Int) : Int := (Int32.ofInt x <<< (Int32.ofInt y &&& 31)).toInt
def oShr (x y : Int) : Int := (Int32.ofInt x >>> (Int32.ofInt y &&& 31)).toInt
def oUshr (x y : Int) : Int := ((Int32.ofInt x).toUInt32 >>> ((Int32.ofInt y).toUInt32 &&& Int32.toUInt32 31)).toInt32.toInt
def oDiv (x y : Int) : Int := (Int32.ofInt x / Int32.ofInt y).toInt
def oRem (x y : Int) : Int := (Int32.ofInt x - Int32.ofInt x / Int32.ofInt y * Int32.ofInt y).toInt
def oI2b (x : Int) : Int := (Int32.ofInt x).toInt8.toInt32.toInt
def oI2s (x : Int) : Int := (Int32.ofInt x).toInt16.toInt32.toInt
def oI2l (x : Int) : Int := (Int32.ofInt x).toInt
def lAnd (x y : Int) : Int := (Int64.ofInt x &&& Int64.ofInt y).toInt
def lOr (x y : Int) : Int := (Int64.ofInt x ||| Int64.ofInt y).toInt
def lXor (x y : Int) : Int := (Int64.ofInt x ^^^ Int64.ofInt y).toInt
def lShl (x y : Int) : Int := (Int64.ofInt x <<< ((Int32.ofInt y).toInt64 &&& 63)).toInt
def lUshr (x y : Int) : Int := ((Int64.ofInt x).toUInt64 >>> ((Int32.ofInt y).toInt64.toUInt64 &&& Int64.toUInt64 63)).toInt64.toInt
def lDiv (x y : Int) : Int := (Int64.ofInt x / Int64.ofInt y).toInt
def lRem (x y : Int) : Int := (Int64.ofInt x - Int64.ofInt x / Int64.ofInt y * Int64.ofInt y).toInt
def oLcmp (x y : Int) : Int := (lg_cmp (Int64.ofInt x) (Int64.ofInt y)).toInt
def gI (μ : Mem) (C a k : Nat) : Option Int := if (mS μ a).1 = C then some (mI μ a k) else none
def gA (μ : Mem) (C a k : Nat) : Option Nat := if (mS μ a).1 = C then some (mA μ a k) else none
def pI (μ : Mem) (C a k : Nat) (x : Int) : Option Mem := if (mS μ a).1 = C then some (sI μ a k x) else none
def pA (μ : Mem) (C a k : Nat) (b : Nat) : Option Mem := if (mS μ a).1 = C then some (sA μ a k b) else none
/-- whole numbers out of an array of kind t (the script is kind 7) -/
def ldI (μ : Mem) (t a : Nat) (i : Int) : Option Int := if (mS μ a).1 = 20 + t ∧ ix i (mS μ a).2 then some (mI μ a i.toNat) else none
def ldA (μ : Mem) (t a : Nat) (i : Int) : Option Nat := if (mS μ a).1 = 20 + t ∧ ix i (mS μ a).2 then some (mA μ a i.toNat) else none
def stI (μ : Mem) (t a : Nat) (i x : Int) : Option Mem := if (mS μ a).1 = 20 + t ∧ ix i (mS μ a).2 then some (sI μ a i.toNat x) else none
def stZ (μ : Mem) (a : Nat) (i x : Int) : Option Mem := if (mS μ a).1 = 22 ∧ ix i (mS μ a).2 ∧ (x = 0 ∨ x = 1) then some (sI μ a i.toNat x) else none
/-- a reference to an object of kind C into an array of kind t -/
def stA (μ : Mem) (C t a : Nat) (i : Int) (b : Nat) : Option Mem := if (mS μ a).1 = 20 + t ∧ ix i (mS μ a).2 ∧ (mS μ b).1 = C then some (sA μ a i.toNat b) else none
def alen (μ : Mem) (t a : Nat) : Option Int := if (mS μ a).1 = 20 + t then some ((mS μ a).2 : Int) else none
/-- a new array -/
def nwA (μ : Mem) (t : Nat) (n : Int) : Option (Nat × Mem) := if 0 ≤ n ∧ n < 100000 then some (mN μ + 1, nw μ (20 + t) n.toNat) else none
/-- a call on a receiver of kind C -/
def inv {ρ : Type} (μ : Mem) (C a : Nat) (f : Option ρ) : Option ρ := if (mS μ a).1 = C then f else none
/-- System.arraycopy between arrays of one kind -/
def cpI (μ : Mem) (t a : Nat) (i : Int) (b : Nat) (j n : Int) : Option Mem := if (mS μ a).1 = 20 + t ∧ (mS μ b).1 = 20 + t ∧ 0 ≤ i ∧ 0 ≤ j ∧ 0 ≤ n ∧ i + n ≤ ((mS μ a).2 : Int) ∧ j + n ≤ ((mS μ b).2 : Int) ∧ i + n < 2147483648 ∧ j + n < 2147483648 then some (mS μ, up1 (mI μ) b (va_cpy (mI μ a) (mI μ b) i.toNat j.toNat n.toNat), mA μ, mN μ, mW μ) else none
/-- the words of the class, and the reference's one text of them -/
def kL : List Nat := [5, 5, 5, 6, 4, 4, 2, 6, 4, 3, 55]
def kB : List (List Int32) := [[104, 111, 117, 115, 101], [108, 101, 118, 101, 108], [115, 116, 111, 99, 107], [116, 104, 105, 114, 115, 116], [114, 111, 112, 101], [108, 111, 110, 103], [97, 116], [115, 116, 111, 110, 101, 115], [102, 117, 108, 108], [102, 108, 121], [32, 104, 111, 117, 115, 101, 32, 108, 101, 118, 101, 108, 32, 115, 116, 111, 99, 107, 32, 116, 104, 105, 114, 115, 116, 32, 114, 111, 112, 101, 32, 108, 111, 110, 103, 32, 97, 116, 32, 115, 116, 111, 110, 101, 115, 32, 102, 117, 108, 108, 32, 102, 108, 121, 32]]
def elT (t : Nat) : FieldType := match t with
  | 0 => .int
  | 1 => .byte
  | 2 => .boolean
  | 3 => .long
  | 4 => .object "TwoWells$Land"
  | 5 => .object "TwoWells$NumberRow"
  | _ => .array .int
def fv (μ : Mem) (ci a j : Nat) : Value := match fT ci j with
  | .int => .int (Int32.ofInt (mI μ a j))
  | _ => rv (mA μ a j)
def av (μ : Mem) (t a j : Nat) : Value := if t < 3 then .int (Int32.ofInt (mI μ a j)) else if t = 3 then .long (Int64.ofInt (mI μ a j)) else rv (mA μ a j)
/-- where the classes' numbers and slots are, the array classes, the texts and their bytes, from which cell on the system's own cells lie -/
abbrev Gm : Type := va_G × (Nat → ClassId) × (Nat → Nat) × (Nat → Nat) × Nat
abbrev gD (Γ : Gm) : va_G := Γ.1
abbrev gR (Γ : Gm) : Nat → ClassId := Γ.2.1
abbrev gK (Γ : Gm) : Nat → Nat := Γ.2.2.1
abbrev gV (Γ : Gm) : Nat → Nat := Γ.2.2.2.1
abbrev gB (Γ : Gm) : Nat := Γ.2.2.2.2
def tyA (Γ : Gm) : List (ClassId × FieldType) := (List.range 7).map fun t => (gR Γ t, elT t)
theorem tyA_at (Γ : Gm) {t : Nat} (h : t < 7) : (tyA Γ)[t]? = some (gR Γ t, elT t) := by
  unfold tyA
  rw [List.getElem?_map, List.getElem?_range h]
  rfl
/-- the texts: the class whose constant it is, its place in the pool, the text -/
def kT : List (String × Nat × String) := [("TwoWells$Tape", 52, "house"), ("TwoWells$Tape", 97, "level"), ("TwoWells$Tape", 105, "stock"), ("TwoWells$Tape", 109, "thirst"), ("TwoWells$Tape", 61, "rope"), ("TwoWells$Tape", 119, "long"), ("TwoWells$Tape", 125, "at"), ("TwoWells$Tape", 130, "stones"), ("TwoWells$Tape", 66, "full"), ("TwoWells$Tape", 74, "fly"), ("TwoWellsModel", 92, " house level stock thirst rope long at stones full fly ")]
/-- the private makers of the nested ones, by the outer one -/
def nT : List (String × Nat × MethodName) := [("TwoWells", 42, ⟨"TwoWells$Tally", "<init>", "()V"⟩), ("TwoWells", 49, ⟨"TwoWells$Ties", "<init>", "()V"⟩), ("TwoWells", 63, ⟨"TwoWells$Homes", "<init>", "()V"⟩), ("TwoWells", 70, ⟨"TwoWells$Sight", "<init>", "()V"⟩), ("TwoWells", 75, ⟨"TwoWells$NumberRow", "<init>", "()V"⟩), ("TwoWells", 9, ⟨"TwoWells$Tape", "<init>", "()V"⟩), ("TwoWells$Search", 13, ⟨"TwoWells$StateSet", "<init>", "()V"⟩)]
/-- what the texts and the classes are in a state -/
def KK (Γ : Gm) (U : State) : Prop := va_K (gD Γ) vwCl (tyA Γ) U ∧ (∀ (k : Nat) (q : String × Nat × String), kT[k]? = some q → vk_R q.1 q.2.1 q.2.2 (gK Γ k) U) ∧ (∀ q ∈ nT, va_Nw (.methodLinkNest q.1 q.2.1 q.2.2 "TwoWells") U) ∧ va_AO "TwoWells$Land" U ∧ va_AO "TwoWells$NumberRow" U ∧ (Cond.arrayOver (.array .int)).before #[] U = true
/-- the heap holds the memory -/
def HH (Γ : Gm) (μ : Mem) (U : State) (H : Heap) : Prop :=
  (H.size = mN μ ∧ gB Γ ≤ H.size ∧ (mS μ 0).1 = 0) ∧
  (∀ q ci : Nat, ci < 12 → (mS μ (q + 1)).1 = 1 + ci → gB Γ ≤ q ∧ ∃ r : vw_C, vwCl[ci]? = some r ∧ t_OB q ((gD Γ).1 ci) r.2.2 ((gD Γ).2 ci) H (fv μ ci (q + 1))) ∧
  (∀ q t : Nat, t < 7 → (mS μ (q + 1)).1 = 20 + t → gB Γ ≤ q ∧ H[q]? = some (arrV (gR Γ t) (mS μ (q + 1)).2 (av μ t (q + 1))) ∧ (t = 2 → ∀ j : Nat, mI μ (q + 1) j = 0 ∨ mI μ (q + 1) j = 1)) ∧
  (∀ q : Nat, (mS μ (q + 1)).1 = 27 → q < gB Γ ∧ ∃ cell : Cell, H[q]? = some cell ∧ U.isArrayOf cell .int ∧ cell.vm ≠ .unknown ∧ cell.slots.size = (mS μ (q + 1)).2 ∧ ∀ j : Nat, j < (mS μ (q + 1)).2 → cell.slots[j]? = some (.int (Int32.ofInt (mI μ (q + 1) j)))) ∧
  (∀ q k : Nat, k < 11 → ((mS μ (q + 1)).1 = 40 + k → q = gK Γ k ∧ q < gB Γ ∧ mA μ (q + 1) 0 = gV Γ k + 1) ∧ ((mS μ (q + 1)).1 = 60 + k → q = gV Γ k ∧ q < gB Γ ∧ (mS μ (q + 1)).2 = kL.getD k 0 ∧ ∀ j : Nat, Int32.ofInt (mI μ (q + 1) j) = (kB.getD k []).getD j 0)) ∧
  vk_S 11 kL kB (gK Γ) (gV Γ) (fun q => gB Γ ≤ q) U H ∧ va_Z "java/lang/String" "COMPACT_STRINGS" "Z" (.int 1) (fun q => gB Γ ≤ q) U H ∧ va_Z "jdk/internal/util/Preconditions" "SIOOBE_FORMATTER" "Ljava/util/function/BiFunction;" (rv (mA μ 0 20)) (fun q => gB Γ ≤ q) U H
theorem KK.warm {Γ : Gm} {s U : State} (hW : s.WarmedH U.vm) (h : KK Γ s) : KK Γ U := ⟨va_K.moved hW.alike h.1, fun k q hq => (h.2.1 k q hq).warm hW, fun q hq => (h.2.2.1 q hq).warmM hW, va_AO.moved hW.alike h.2.2.2.1, va_AO.moved hW.alike h.2.2.2.2.1, over_moved hW.alike h.2.2.2.2.2⟩
theorem HH.moved {Γ : Gm} {μ : Mem} {u U : State} {H : Heap} (hvm : u.vm.Alike U.vm) (h : HH Γ μ u H) : HH Γ μ U H := by
  obtain ⟨h0, h1, h2, h3, h4, h5, h6, h7⟩ := h
  exact ⟨h0, h1, h2, fun q hq => by
    obtain ⟨g0, cell, g1, g2, g3⟩ := h3 q hq
    exact ⟨g0, cell, g1, State.isArrayOf_alike hvm g2, g3⟩, h4, h5.moved hvm, h6.moved hvm, h7.moved hvm⟩
theorem ks_eq {n i : Nat} (h : n < 12) (hi : i < 12) (e : 1 + n = 1 + i) : n = i := by omega
/-- a store into one cell -/
theorem HH.put {Γ : Gm} {μ μ' : Mem} {U : State} {H H' : Heap} {a : Nat} (h : HH Γ μ U H) (hB : gB Γ ≤ a) (hS : mS μ' = mS μ) (hN : mN μ' = mN μ) (hI : ∀ q : Nat, q ≠ a → mI μ' (q + 1) = mI μ (q + 1)) (hA : ∀ q : Nat, q ≠ a → mA μ' (q + 1) = mA μ (q + 1)) (hA0 : mA μ' 0 = mA μ 0) (hz : H'.size = H.size) (ho : ∀ q : Nat, q ≠ a → H'[q]? = H[q]?)
    (hobj : ∀ ci : Nat, ci < 12 → (mS μ (a + 1)).1 = 1 + ci → ∃ r : vw_C, vwCl[ci]? = some r ∧ t_OB a ((gD Γ).1 ci) r.2.2 ((gD Γ).2 ci) H' (fv μ' ci (a + 1)))
    (harr : ∀ t : Nat, t < 7 → (mS μ (a + 1)).1 = 20 + t → H'[a]? = some (arrV (gR Γ t) (mS μ (a + 1)).2 (av μ' t (a + 1))) ∧ (t = 2 → ∀ j : Nat, mI μ' (a + 1) j = 0 ∨ mI μ' (a + 1) j = 1)) : HH Γ μ' U H' := by
  obtain ⟨h0, h1, h2, h3, h4, h5, h6, h7⟩ := h
  have old : ∀ q : Nat, q < H.size → ¬ gB Γ ≤ q → H'[q]? = H[q]? := fun q _ h => ho q (fun e => h (by rw [e]; exact hB))
  refine ⟨by rw [hz, hN, hS]; exact h0, fun q ci hci hk => ?_, fun q t ht hk => ?_, fun q hk => ?_, fun q k hk => ?_, h5.kept old, h6.kept old, by rw [hA0]; exact h7.kept old⟩
  · rw [hS] at hk
    refine ⟨(h1 q ci hci hk).1, ?_⟩
    by_cases e : q = a
    · subst e
      exact hobj ci hci hk
    · obtain ⟨-, r, g1, g2⟩ := h1 q ci hci hk
      refine ⟨r, g1, (g2.kept (ho q e)).to fun j _ => ?_⟩
      unfold fv
      rw [hI q e, hA q e]
  · rw [hS] at hk ⊢
    refine ⟨(h2 q t ht hk).1, ?_⟩
    by_cases e : q = a
    · subst e
      exact harr t ht hk
    · obtain ⟨-, g1, g2⟩ := h2 q t ht hk
      refine ⟨?_, by rw [hI q e]; exact g2⟩
      rw [ho q e, g1]
      congr 2
      funext j
      unfold av
      rw [hI q e, hA q e]
  · rw [hS] at hk ⊢
    obtain ⟨g0, cell, g1, g2⟩ := h3 q hk
    have e : q ≠ a := by omega
    refine ⟨g0, cell, by rw [ho q e]; exact g1, ?_⟩
    rw [hI q e]
    exact g2
  · rw [hS]
    refine ⟨fun hq => ?_, fun hq => ?_⟩
    · have g := (h4 q k hk).1 hq
      rw [hA q (by omega)]
      exact g
    · have g := (h4 q k hk).2 hq
      rw [hI q (by omega)]
      exact g
/-- a new cell at the end -/
theorem HH.push {Γ : Gm} {μ : Mem} {U : State} {H H' : Heap} {k n : Nat} (h : HH Γ μ U H) (hz : H'.size = H.size + 1) (ho : ∀ q : Nat, q < H.size → H'[q]? = H[q]?) (hk27 : k < 27)
    (hobj : ∀ ci : Nat, ci < 12 → k = 1 + ci → ∃ r : vw_C, vwCl[ci]? = some r ∧ t_OB H.size ((gD Γ).1 ci) r.2.2 ((gD Γ).2 ci) H' (fv (nw μ k n) ci (H.size + 1)))
    (harr : ∀ t : Nat, t < 7 → k = 20 + t → H'[H.size]? = some (arrV (gR Γ t) n (av (nw μ k n) t (H.size + 1)))) : HH Γ (nw μ k n) U H' := by
  obtain ⟨⟨hn, hB, hZ⟩, h1, h2, h3, h4, h5, h6, h7⟩ := h
  have old : ∀ q : Nat, q < H.size → ¬ gB Γ ≤ q → H'[q]? = H[q]? := fun q h _ => ho q h
  have eS : ∀ q : Nat, q ≠ H.size → mS (nw μ k n) (q + 1) = mS μ (q + 1) := fun q hq => if_neg (by omega)
  have eI : ∀ q : Nat, q ≠ H.size → mI (nw μ k n) (q + 1) = mI μ (q + 1) := fun q hq => if_neg (by omega)
  have eA : ∀ q : Nat, q ≠ H.size → mA (nw μ k n) (q + 1) = mA μ (q + 1) := fun q hq => if_neg (by omega)
  have sS : mS (nw μ k n) (H.size + 1) = (k, n) := if_pos (by omega)
  have eA0 : mA (nw μ k n) 0 = mA μ 0 := by
    show up1 (mA μ) (mN μ + 1) (fun _ => 0) 0 = mA μ 0
    unfold up1
    rw [if_neg (by omega)]
  have sI0 : mI (nw μ k n) (H.size + 1) = fun _ => 0 := if_pos (by omega)
  refine ⟨⟨by rw [hz, hn]; rfl, by omega, by show (if 0 = mN μ + 1 then (k, n) else mS μ 0).1 = 0; rw [if_neg (by omega)]; exact hZ⟩, fun q ci hci hk => ?_, fun q t ht hk => ?_, fun q hk => ?_, fun q j hj => ?_, h5.kept old, h6.kept old, by rw [eA0]; exact h7.kept old⟩
  · by_cases e : q = H.size
    · subst e
      rw [sS] at hk
      exact ⟨hB, hobj ci hci hk⟩
    · rw [eS q e] at hk
      obtain ⟨g0, r, g1, g2⟩ := h1 q ci hci hk
      obtain ⟨cell, g3, -⟩ := id g2
      have hlt : q < H.size := (Array.getElem?_eq_some_iff.mp g3).1
      refine ⟨g0, r, g1, (g2.kept (ho q hlt)).to fun j _ => ?_⟩
      unfold fv
      rw [eI q e, eA q e]
  · by_cases e : q = H.size
    · subst e
      rw [sS] at hk ⊢
      exact ⟨hB, harr t ht hk, fun _ j => by rw [sI0]; exact Or.inl rfl⟩
    · rw [eS q e] at hk ⊢
      obtain ⟨g0, g1, g2⟩ := h2 q t ht hk
      have hlt : q < H.size := (Array.getElem?_eq_some_iff.mp g1).1
      refine ⟨g0, ?_, by rw [eI q e]; exact g2⟩
      rw [ho q hlt, g1]
      congr 2
      funext j
      unfold av
      rw [eI q e, eA q e]
  · by_cases e : q = H.size
    · subst e
      rw [sS] at hk
      exact absurd hk (by show ¬ k = 27; omega)
    · rw [eS q e] at hk ⊢
      obtain ⟨g0, cell, g1, g2⟩ := h3 q hk
      have hlt : q < H.size := (Array.getElem?_eq_some_iff.mp g1).1
      refine ⟨g0, cell, by rw [ho q hlt]; exact g1, ?_⟩
      rw [eI q e]
      exact g2
  · by_cases e : q = H.size
    · subst e
      rw [sS]
      exact ⟨fun hq => absurd hq (by show ¬ k = 40 + j; omega), fun hq => absurd hq (by show ¬ k = 60 + j; omega)⟩
    · rw [eS q e, eA q e, eI q e]
      exact h4 q j hj
/-! the locals, by their places -/
def Lv (ls : Array Slot) (nL : Nat) (L : List (Option AV)) : Prop := ls.size = nL ∧ lv_wf ls ∧ ∀ (i : Nat) (v : AV), L[i]? = some (some v) → ls[i]? = some (.val (vl v))
def kq (o : Option (Option AV)) : Bool := match o with
  | some (some (.inr (.inl _))) => true
  | _ => false
def kl (L : List (Option AV)) (i : Nat) : List (Option AV) := match i with
  | 0 => L
  | j + 1 => cond (kq L[j]?) (L.set j none) L
def st1 (L : List (Option AV)) (i : Nat) (v : AV) : List (Option AV) := (kl L i).set i (some v)
def st2 (L : List (Option AV)) (i : Nat) (v : AV) : List (Option AV) := ((kl L i).set i (some v)).set (i + 1) none
theorem kq_f {v : AV} (h : kq (some (some v)) = false) : ¬ ct v = 2 := by
  rcases v with x | x | x
  · exact fun q => by cases q
  · cases h
  · exact fun q => by cases q
theorem kl_sub {L : List (Option AV)} {i j : Nat} {v : AV} (h : (kl L i)[j]? = some (some v)) : L[j]? = some (some v) ∧ ¬ (j + 1 = i ∧ ct v = 2) := by
  cases i with
  | zero => exact ⟨h, fun q => by omega⟩
  | succ n =>
    have h : (cond (kq L[n]?) (L.set n none) L)[j]? = some (some v) := h
    cases hk : kq L[n]? with
    | true =>
      rw [hk] at h
      have h : (L.set n none)[j]? = some (some v) := h
      by_cases e : j = n
      · subst e
        exfalso
        by_cases hl : j < L.length
        · rw [List.getElem?_set_self hl] at h
          cases h
        · rw [List.getElem?_eq_none (by simp; omega)] at h
          cases h
      · rw [List.getElem?_set_ne (fun q => e q.symm)] at h
        exact ⟨h, fun q => e (by omega)⟩
    | false =>
      rw [hk] at h
      have h9 : L[j]? = some (some v) := h
      refine ⟨h9, fun q => ?_⟩
      have e : j = n := by omega
      subst e
      rw [h9] at hk
      exact kq_f hk q.2
def lvl (L : List (Option AV)) : List (Nat × Value) := (List.range L.length).filterMap fun i => (L[i]?.getD none).map fun v => (i, vl v)
theorem Lv.has {ls : Array Slot} {nL : Nat} {L : List (Option AV)} (h : Lv ls nL L) : lv_has ls nL (lvl L) := by
  refine ⟨h.1, h.2.1, fun q hq => ?_⟩
  obtain ⟨i, -, hi⟩ := List.mem_filterMap.mp hq
  cases e : L[i]? with
  | none => rw [e] at hi; cases hi
  | some o =>
    cases o with
    | none => rw [e] at hi; cases hi
    | some v =>
      rw [e] at hi
      cases hi
      exact h.2.2 i v e
theorem lvl_mem {L : List (Option AV)} {i : Nat} {v : AV} (h : L[i]? = some (some v)) : (i, vl v) ∈ lvl L := by
  refine List.mem_filterMap.mpr ⟨i, List.mem_range.mpr (List.getElem?_eq_some_iff.mp h).1, ?_⟩
  rw [h]
  rfl
theorem lv9_st1 {ls : Array Slot} {nL : Nat} {L : List (Option AV)} (h : Lv ls nL L) {i : Nat} (hi : i < nL) {v : AV} (hc : ct v = 1) : ∃ ls', storeLocals ls i (vl v) = some ls' ∧ Lv ls' nL (st1 L i v) := by
  obtain ⟨ls', e, h1, h2, h3⟩ := lv_store1 h.has hi (show (vl v).category = 1 by rw [vl_ct]; exact hc)
  refine ⟨ls', e, h1, h2, fun j w hj => ?_⟩
  unfold st1 at hj
  by_cases hji : j = i
  · subst hji
    by_cases hl : j < (kl L j).length
    · simp [hl] at hj
      subst hj
      exact h3 _ List.mem_cons_self
    · rw [List.getElem?_eq_none (by simp; omega)] at hj
      cases hj
  · rw [List.getElem?_set_ne (fun q => hji q.symm)] at hj
    obtain ⟨g1, g2⟩ := kl_sub hj
    refine h3 (j, vl w) (List.mem_cons_of_mem _ (List.mem_filter.mpr ⟨lvl_mem g1, ?_⟩))
    simp only [vl_ct, Bool.and_eq_true, Bool.not_eq_true', beq_eq_false_iff_ne, ne_eq, Bool.and_eq_false_iff, beq_eq_false_iff_ne]
    refine ⟨hji, ?_⟩
    by_cases q : j + 1 = i
    · exact Or.inr fun z => g2 ⟨q, z⟩
    · exact Or.inl q
theorem lv9_st2 {ls : Array Slot} {nL : Nat} {L : List (Option AV)} (h : Lv ls nL L) {i : Nat} (hi : i + 1 < nL) {v : AV} (hc : ct v = 2) : ∃ ls', storeLocals ls i (vl v) = some ls' ∧ Lv ls' nL (st2 L i v) := by
  obtain ⟨ls', e, h1, h2, h3⟩ := lv_store2 h.has hi (show (vl v).category = 2 by rw [vl_ct]; exact hc)
  refine ⟨ls', e, h1, h2, fun j w hj => ?_⟩
  unfold st2 at hj
  by_cases hj1 : j = i + 1
  · subst hj1
    exfalso
    by_cases hl : i + 1 < ((kl L i).set i (some v)).length
    · rw [List.getElem?_set_self hl] at hj
      cases hj
    · rw [List.getElem?_eq_none (by simp at hl ⊢; omega)] at hj
      cases hj
  · rw [List.getElem?_set_ne (fun q => hj1 q.symm)] at hj
    by_cases hji : j = i
    · subst hji
      by_cases hl : j < (kl L j).length
      · simp [hl] at hj
        subst hj
        exact h3 _ List.mem_cons_self
      · rw [List.getElem?_eq_none (by simp; omega)] at hj
        cases hj
    · rw [List.getElem?_set_ne (fun q => hji q.symm)] at hj
      obtain ⟨g1, g2⟩ := kl_sub hj
      refine h3 (j, vl w) (List.mem_cons_of_mem _ (List.mem_filter.mpr ⟨lvl_mem g1, ?_⟩))
      simp only [vl_ct, Bool.and_eq_true, Bool.not_eq_true', beq_eq_false_iff_ne, ne_eq, Bool.and_eq_false_iff, beq_eq_false_iff_ne]
      refine ⟨hji, hj1, ?_⟩
      by_cases q : j + 1 = i
      · exact Or.inr fun z => g2 ⟨q, z⟩
      · exact Or.inl q
/-- fewer locals are known -/
def lm (M : List Bool) (L : List (Option AV)) : List (Option AV) := match M, L with
  | true :: M, v :: L => v :: lm M L
  | false :: M, _ :: L => none :: lm M L
  | _, _ => []
theorem lm_sub : ∀ (M : List Bool) (L : List (Option AV)) (i : Nat) (v : AV), (lm M L)[i]? = some (some v) → L[i]? = some (some v)
  | [], L, i, v, h => by simp [lm] at h
  | true :: M, [], i, v, h => by simp [lm] at h
  | false :: M, [], i, v, h => by simp [lm] at h
  | true :: M, w :: L, 0, v, h => h
  | true :: M, w :: L, i + 1, v, h => lm_sub M L i v h
  | false :: M, w :: L, 0, v, h => by simp [lm] at h
  | false :: M, w :: L, i + 1, v, h => lm_sub M L i v h
theorem Lv.mask {ls : Array Slot} {nL : Nat} {L : List (Option AV)} (h : Lv ls nL L) (M : List Bool) : Lv ls nL (lm M L) := ⟨h.1, h.2.1, fun i v hi => h.2.2 i v (lm_sub M L i v hi)⟩
/-- the locals at a method's entry -/
def eL (vs : List AV) : List (Option AV) := vs.flatMap fun v => if ct v = 2 then [some v, none] else [some v]
