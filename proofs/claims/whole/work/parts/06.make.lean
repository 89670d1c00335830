/-! new cells, copies, ends -/
def nwO (μ : Mem) (k n : Nat) : Option (Nat × Mem) := some (mN μ + 1, nw μ k n)
def retZ (x : Int) (μ : Mem) : Option (Int × Mem) := if x = 0 ∨ x = 1 then some (x, μ) else none
/-- the address of the k-th text stands in the cell 0 -/
def txt (μ : Mem) (k : Nat) : Option Nat := if (mS μ (mA μ 0 k)).1 = 40 + k then some (mA μ 0 k) else none
def Qm {ρ : Type} (Γ : Gm) (em : ρ → Option AV) (r : ρ) (μ' : Mem) : Array Value → State → Outcome → State → Prop := fun _ _ o t => o = .returned ((em r).map vl) ∧ HH Γ μ' t t.heap
/-- what a walk of a method's body comes to -/
def Zm {ρ : Type} (X : Ctx) (Γ : Gm) (N0 W0 : Nat) (em : ρ → Option AV) (r : ρ) (μ' : Mem) : State → Prop := MQ (xB X) (Qm Γ em r μ') (xA X) (xS X) (mN μ' - N0) (mW μ' - W0) (fun q => gB Γ ≤ q)
abbrev eI (x : Int) : Option AV := some (aI x)
abbrev eJ (x : Int) : Option AV := some (aJ x)
abbrev eA (x : Nat) : Option AV := some (aA x)
abbrev eV (_ : Unit) : Option AV := none
theorem HH.end {Γ : Gm} {μ : Mem} {s t : State} {H : Heap} (h : HH Γ μ s H) (ht : t.heap = H) (hW : s.WarmedH t.vm) : HH Γ μ t t.heap := ht ▸ h.moved hW.alike
section SM
variable {ρ : Type} {X : Ctx} {Γ : Gm} {cc : ByteArray} {ym : MethodName} {nL fr lo N0 W0 pc : Nat} {ret : Option FieldType} {Q : ρ → Mem → State → Prop} {L : List (Option AV)} {S : List AV} {μ : Mem} {f f1 f2 : Option (ρ × Mem)}
theorem sn_iret {x : Int} (hd : decode cc pc = .ok (.ireturn, 1)) : Sn X Γ cc ym nL (some .int) fr lo N0 W0 (Zm X Γ N0 W0 eI) pc L [aI x] μ (some (x, μ)) := by
  intro r μ' hf
  cases hf
  exact ⟨⟨Nat.le_refl _, Nat.le_refl _⟩, fun hC hb H locs ls hH hl hv => W.iret hC.1 hC.2.1 hC.2.2.2.2.2.2.1 (fun t ht hW => ⟨rfl, hH.end ht hW⟩) hl hd hC.2.2.2.2.2.2.2.1⟩
theorem sn_zret {x : Int} (hd : decode cc pc = .ok (.ireturn, 1)) : Sn X Γ cc ym nL (some .boolean) fr lo N0 W0 (Zm X Γ N0 W0 eI) pc L [aI x] μ (retZ x μ) := by
  intro r μ' hf
  unfold retZ at hf
  by_cases h : x = 0 ∨ x = 1
  · rw [if_pos h] at hf
    cases hf
    exact ⟨⟨Nat.le_refl _, Nat.le_refl _⟩, fun hC hb H locs ls hH hl hv => W.zret hC.1 hC.2.1 hC.2.2.2.2.2.2.1 (by rcases h with e | e <;> rw [e] <;> rfl) (fun t ht hW => ⟨rfl, hH.end ht hW⟩) hl hd hC.2.2.2.2.2.2.2.1⟩
  · rw [if_neg h] at hf
    cases hf
theorem sn_lret {x : Int} (hd : decode cc pc = .ok (.lreturn, 1)) : Sn X Γ cc ym nL (some .long) fr lo N0 W0 (Zm X Γ N0 W0 eJ) pc L [aJ x] μ (some (x, μ)) := by
  intro r μ' hf
  cases hf
  exact ⟨⟨Nat.le_refl _, Nat.le_refl _⟩, fun hC hb H locs ls hH hl hv => W.lret hC.1 hC.2.1 hC.2.2.2.2.2.2.1 (fun t ht hW => ⟨rfl, hH.end ht hW⟩) hl hd hC.2.2.2.2.2.2.2.1⟩
theorem sn_aret {a : Nat} {C : String} (hd : decode cc pc = .ok (.areturn, 1)) : Sn X Γ cc ym nL (some (.object C)) fr lo N0 W0 (Zm X Γ N0 W0 eA) pc L [aA a] μ (some (a, μ)) := by
  intro r μ' hf
  cases hf
  refine ⟨⟨Nat.le_refl _, Nat.le_refl _⟩, fun hC hb H locs ls hH hl hv => W.aret hC.1 hC.2.1 hC.2.2.2.2.2.2.1 (Or.inl ⟨C, rfl⟩) ?_ (fun t ht hW => ⟨rfl, hH.end ht hW⟩) hl hd hC.2.2.2.2.2.2.2.1⟩
  cases a with
  | zero => exact Or.inl rfl
  | succ q => exact Or.inr ⟨q, rfl⟩
theorem sn_vret (hd : decode cc pc = .ok (.return_, 1)) : Sn X Γ cc ym nL none fr lo N0 W0 (Zm X Γ N0 W0 eV) pc L [] μ (some ((), μ)) := by
  intro r μ' hf
  cases hf
  exact ⟨⟨Nat.le_refl _, Nat.le_refl _⟩, fun hC hb H locs ls hH hl hv => W.vret hC.1 hC.2.1 hC.2.2.2.2.2.2.1 (fun t ht hW => ⟨rfl, hH.end ht hW⟩) hl hd hC.2.2.2.2.2.2.2.1⟩
theorem nw_N (μ : Mem) (k n : Nat) : mN (nw μ k n) = mN μ + 1 := rfl
theorem nw_W (μ : Mem) (k n : Nat) : mW (nw μ k n) = mW μ + n := rfl
theorem sn_new {idx ci : Nat} {q : vw_C} {g : Nat × Mem → Option (ρ × Mem)} (hd : decode cc pc = .ok (.new idx, 3)) (hq : vwCl[ci]? = some q) (h1 : Cond.classLink ym.cls idx q.1 ∈ gw) (h2 : Cond.instantiable q.1 q.2.2 ∈ gw) (h3 : Cond.initialized q.1 ∈ gw) (hk : ∀ p, Sn X Γ cc ym nL ret fr lo N0 W0 Q (pc + 3) L (aA p.1 :: S) p.2 (g p)) : Sn X Γ cc ym nL ret fr lo N0 W0 Q pc L S μ ((nwO μ (1 + ci) q.2.2).bind g) := by
  intro r μ' hf
  have hf : g (mN μ + 1, nw μ (1 + ci) q.2.2) = some (r, μ') := hf
  obtain ⟨hm, hgo⟩ := hk _ r μ' hf
  have hm : mN μ + 1 ≤ mN μ' ∧ mW μ + q.2.2 ≤ mW μ' := hm
  refine ⟨⟨by omega, by omega⟩, fun hC hb H locs ls hH hl hv => ?_⟩
  have hts := hC.2.2.2.2.1
  have hKn := hC.2.2.2.2.2.1.1.1 ci q hq
  obtain ⟨hb1, hb2, hb3, hb4⟩ := hb
  refine W.newcK hC.1 hC.2.1 hC.2.2.2.1 (hts _ h1) (hts _ h2) (hts _ h3) rfl hd (show _ ≤ (xR X).cells by omega) (show _ ≤ (xR X).slots by omega) hKn.2.1 rfl fun H1 kC hkC e1 z1 o1 => ?_
  have hgo := hgo hC ⟨by show N0 ≤ mN μ + 1; omega, by show W0 ≤ mW μ + _; omega, hb3, hb4⟩ H1 locs ls ?_ hl hv
  · rw [nw_N, nw_W] at hgo
    rw [show mN μ + 1 - N0 = mN μ - N0 + 1 by omega, show mW μ + q.2.2 - W0 = mW μ - W0 + q.2.2 by omega] at hgo
    have e : vl (aA (mN μ + 1)) = .ref H.size := by rw [hH.1.1]; rfl
    exact wx_top e hgo
  · refine hH.push (k := 1 + ci) (n := q.2.2) z1 o1 (by have := vwCl_lt hq; omega) (fun ci' hc' he => ?_) (fun t ht he => by have := vwCl_lt hq; omega)
    obtain rfl : ci = ci' := by omega
    refine ⟨q, hq, (u_born (fT ci) hts (gc_in hq) hKn hkC e1 (kc_all ci q hq).2.1).to fun j hj => ?_⟩
    unfold fv
    have hI0 : mI (nw μ (1 + ci) q.2.2) (H.size + 1) j = 0 := by
      show up1 (mI μ) (mN μ + 1) (fun _ => 0) (H.size + 1) j = 0
      rw [up1, if_pos (by rw [hH.1.1])]
    have hA0 : mA (nw μ (1 + ci) q.2.2) (H.size + 1) j = 0 := by
      show up1 (mA μ) (mN μ + 1) (fun _ => 0) (H.size + 1) j = 0
      rw [up1, if_pos (by rw [hH.1.1])]
    rw [hI0, hA0]
    rcases fT_ok ci q hq j hj with e | ⟨e, e2⟩
    · rw [e]; rfl
    · rw [e]
      split
      · rename_i z; exact absurd z e2
      · rfl
theorem av_nw (μ : Mem) {t n N : Nat} (hn : N = mN μ) (ht : t < 7) : av (nw μ (20 + t) n) t (N + 1) = fun _ => defaultValue (elT t) := by
  subst hn
  have hI0 : ∀ j, mI (nw μ (20 + t) n) (mN μ + 1) j = 0 := fun j => by
    show up1 (mI μ) (mN μ + 1) (fun _ => 0) (mN μ + 1) j = 0
    rw [up1, if_pos rfl]
  have hA0 : ∀ j, mA (nw μ (20 + t) n) (mN μ + 1) j = 0 := fun j => by
    show up1 (mA μ) (mN μ + 1) (fun _ => 0) (mN μ + 1) j = 0
    rw [up1, if_pos rfl]
  funext j
  unfold av
  rw [hI0, hA0]
  match t, ht with
  | 0, _ => rfl
  | 1, _ => rfl
  | 2, _ => rfl
  | 3, _ => rfl
  | 4, _ => rfl
  | 5, _ => rfl
  | 6, _ => rfl
theorem n_ok {n : Int} (h : 0 ≤ n ∧ n < 100000) : ¬ Int32.ofInt n < 0 ∧ (Int32.ofInt n).toNatClampNeg = n.toNat := by
  have e : (Int32.ofInt n).toNatClampNeg = n.toNat := Int32.toNatClampNeg_ofInt_of_le (by omega) (by omega)
  have e2 : (Int32.ofInt n).toInt = n := Int32.toInt_ofInt_of_le (by omega) (by omega)
  refine ⟨fun z => ?_, e⟩
  rw [Int32.lt_iff_toInt_lt, e2] at z
  have : (0 : Int32).toInt = 0 := rfl
  omega
/-- a new array of numbers: t 0 int, 1 byte, 2 boolean, 3 long -/
theorem sn_newa {t : Nat} {n : Int} {at_ : ArrayType} {g : Nat × Mem → Option (ρ × Mem)} (hd : decode cc pc = .ok (.newarray at_, 2)) (ht : t < 4) (hat : newarray.typeOf at_ = elT t) (h1 : Cond.arrayClass (elT t) ∈ gw) (hk : ∀ p, Sn X Γ cc ym nL ret fr lo N0 W0 Q (pc + 2) L (aA p.1 :: S) p.2 (g p)) : Sn X Γ cc ym nL ret fr lo N0 W0 Q pc L (aI n :: S) μ ((nwA μ t n).bind g) := by
  intro r μ' hf
  unfold nwA at hf
  by_cases h : 0 ≤ n ∧ n < 100000
  · rw [if_pos h] at hf
    have hf : g (mN μ + 1, nw μ (20 + t) n.toNat) = some (r, μ') := hf
    obtain ⟨hm, hgo⟩ := hk _ r μ' hf
    have hm : mN μ + 1 ≤ mN μ' ∧ mW μ + n.toNat ≤ mW μ' := hm
    refine ⟨⟨by omega, by omega⟩, fun hC hb H locs ls hH hl hv => ?_⟩
    obtain ⟨hb1, hb2, hb3, hb4⟩ := hb
    obtain ⟨hn0, hn1⟩ := n_ok h
    have hK := hC.2.2.2.2.2.1.1.2 t _ (tyA_at Γ (by omega))
    refine va_newaK hC.1 hC.2.1 (hat ▸ hC.2.2.2.2.1 _ h1) rfl hd rfl hn0 hn1 ?_ (show _ ≤ (xR X).cells by omega) (show _ ≤ (xR X).slots by omega) rfl fun H1 cA e1 z1 o1 hAr hNm => ?_
    · rw [hat]
      have hcb : componentBytes (elT t) ≤ 8 := by
        match t, ht with
        | 0, _ => decide
        | 1, _ => decide
        | 2, _ => decide
        | 3, _ => decide
      have : n.toNat * componentBytes (elT t) ≤ 100000 * 8 := Nat.mul_le_mul (by omega) hcb
      omega
    · have hgo := hgo hC ⟨by show N0 ≤ mN μ + 1; omega, by show W0 ≤ mW μ + _; omega, hb3, hb4⟩ H1 locs ls ?_ hl hv
      · rw [nw_N, nw_W] at hgo
        rw [show mN μ + 1 - N0 = mN μ - N0 + 1 by omega, show mW μ + n.toNat - W0 = mW μ - W0 + n.toNat by omega] at hgo
        have e : vl (aA (mN μ + 1)) = .ref H.size := by rw [hH.1.1]; rfl
        exact wx_top e hgo
      · refine hH.push (k := 20 + t) (n := n.toNat) z1 o1 (by omega) (fun ci' hc' he => by omega) (fun t' ht' he => ?_)
        obtain rfl : t = t' := by omega
        have hcA : cA = gR Γ t := by
          have h9 : (xS X).vm.findClass ("[" ++ (elT t).toString) = some (gR Γ t) := by
            match t, ht, hK with
            | 0, _, hK => exact hK.2
            | 1, _, hK => exact hK.2
            | 2, _, hK => exact hK.2
            | 3, _, hK => exact hK.2
          rw [hat] at hNm
          exact Option.some.inj (hNm.symm.trans h9)
        rw [e1, hcA, av_nw μ hH.1.1 (by omega), hat]
  · rw [if_neg h] at hf
    cases hf
theorem sn_anew {t idx : Nat} {n : Int} {C : String} {g : Nat × Mem → Option (ρ × Mem)} (hd : decode cc pc = .ok (.anewarray idx, 3)) (ht : t = 4 ∨ t = 5) (hat : elT t = .object C) (hao : C = "TwoWells$Land" ∨ C = "TwoWells$NumberRow") (h1 : Cond.classLink ym.cls idx C ∈ gw) (hk : ∀ p, Sn X Γ cc ym nL ret fr lo N0 W0 Q (pc + 3) L (aA p.1 :: S) p.2 (g p)) : Sn X Γ cc ym nL ret fr lo N0 W0 Q pc L (aI n :: S) μ ((nwA μ t n).bind g) := by
  intro r μ' hf
  unfold nwA at hf
  by_cases h : 0 ≤ n ∧ n < 100000
  · rw [if_pos h] at hf
    have hf : g (mN μ + 1, nw μ (20 + t) n.toNat) = some (r, μ') := hf
    obtain ⟨hm, hgo⟩ := hk _ r μ' hf
    have hm : mN μ + 1 ≤ mN μ' ∧ mW μ + n.toNat ≤ mW μ' := hm
    refine ⟨⟨by omega, by omega⟩, fun hC hb H locs ls hH hl hv => ?_⟩
    obtain ⟨hb1, hb2, hb3, hb4⟩ := hb
    obtain ⟨hn0, hn1⟩ := n_ok h
    have hK := hC.2.2.2.2.2.1.1.2 t _ (tyA_at Γ (by omega))
    refine W.anew hC.1 hC.2.1 hC.2.2.2.1 (hC.2.2.2.2.1 _ h1) (va_AO.use (hao.elim (fun e => by rw [e]; exact hC.2.2.2.2.2.1.2.2.2.1) (fun e => by rw [e]; exact hC.2.2.2.2.2.1.2.2.2.2.1))) rfl hd rfl hn0 (by rw [hn1]; omega) (show _ ≤ (xR X).cells by omega) (show _ ≤ (xR X).slots by rw [hn1]; omega) fun cA kA comp f1 f2 f3 f4 => ?_
    rw [hn1]
    generalize hH1 : H.push ({ cls := cA, slots := Array.replicate n.toNat .null, vm := .none } : Cell) = H1
    have z1 : H1.size = H.size + 1 := by rw [← hH1, Array.size_push]
    have e1 : H1[H.size]? = some (arrV cA n.toNat (fun _ => .null)) := by rw [← hH1, Array.getElem?_push_size, ← arrV_new]
    have o1 : ∀ q : Nat, q < H.size → H1[q]? = H[q]? := fun q hq => by rw [← hH1, Array.getElem?_push, if_neg (Nat.ne_of_lt hq)]
    have hgo := hgo hC ⟨by show N0 ≤ mN μ + 1; omega, by show W0 ≤ mW μ + _; omega, hb3, hb4⟩ H1 locs ls ?_ hl hv
    · rw [nw_N, nw_W] at hgo
      rw [show mN μ + 1 - N0 = mN μ - N0 + 1 by omega, show mW μ + n.toNat - W0 = mW μ - W0 + n.toNat by omega] at hgo
      have e : vl (aA (mN μ + 1)) = .ref H.size := by rw [hH.1.1]; rfl
      exact wx_top e hgo
    · refine hH.push (k := 20 + t) (n := n.toNat) z1 o1 (by omega) (fun ci' hc' he => by omega) (fun t' ht' he => ?_)
      obtain rfl : t = t' := by omega
      have hcA : cA = gR Γ t := by
        obtain ⟨-, h9⟩ := hK
        have h9 : va_RA (xS X) (gR Γ t) (.object C) := hat ▸ h9
        obtain ⟨-, -, -, -, -, h9⟩ := h9
        exact Option.some.inj (f1.symm.trans h9)
      rw [e1, hcA, av_nw μ hH.1.1 (by omega), hat]
      rfl
  · rw [if_neg h] at hf
    cases hf
theorem sn_objInit {a idx ci : Nat} (hd : decode cc pc = .ok (.invokespecial idx, 3)) (hci : ci < 12) (h1 : Cond.methodLink ym.cls idx Lib.objectInit ∈ gw) (h2 : Cond.instanceMethod Lib.objectInit ∈ gw) (h3 : Cond.code Lib.objectInit ⟨#[0xb1]⟩ 1 none ∈ gw) (hfr : 1 ≤ fr) (hlo : 20 ≤ lo) (hS : (S.map ct).sum ≤ 8) (hk : Sn X Γ cc ym nL ret fr lo N0 W0 Q (pc + 3) L S μ f) : Sn X Γ cc ym nL ret fr lo N0 W0 Q pc L (aA a :: S) μ (inv μ (1 + ci) a f) := by
  intro r μ' hf
  unfold inv at hf
  by_cases h : (mS μ a).1 = 1 + ci
  · rw [if_pos h] at hf
    refine ⟨(hk r μ' hf).1, fun hC hb H locs ls hH hl hv => ?_⟩
    cases a with
    | zero => have := hH.1.2.2; omega
    | succ q =>
      have hts := hC.2.2.2.2.1
      have hfr' := hC.2.2.2.2.2.2.2.2.1
      have hlo' := hC.2.2.2.2.2.2.2.2.2.1
      refine W.objInit hC.1 hC.2.1 hC.2.2.2.1 (hts _ h1) (hts _ h2) (hts _ h3) rfl (by rw [hC.2.2.1]; exact hv.1) rfl hd (show 1 ≤ (xR X).frames by omega) (show _ ≤ (xR X).locals from ?_) ((hk r μ' hf).2 hC hb H locs ls hH hl hv)
      have e : (((S.map vl).map fun v => v.category)).sum = (S.map ct).sum := by
        rw [List.map_map]
        congr 1
        apply List.map_congr_left
        intro v _
        exact vl_ct v
      have e0 : (F0 (xM X) pc ls ((aA (q + 1) :: S).map vl)).monitorRoom = 0 := rfl
      rw [e0, e]
      omega
  · rw [if_neg h] at hf
    cases hf
theorem sn_ldcS {k idx : Nat} {tx : String} {g : Nat → Option (ρ × Mem)} (hd : decode cc pc = .ok (.ldc idx, 2)) (hk11 : k < 11) (hq : kT[k]? = some (ym.cls, idx, tx)) (hk : ∀ a, Sn X Γ cc ym nL ret fr lo N0 W0 Q (pc + 2) L (aA a :: S) μ (g a)) : Sn X Γ cc ym nL ret fr lo N0 W0 Q pc L S μ ((txt μ k).bind g) := by
  intro r μ' hf
  unfold txt at hf
  by_cases h : (mS μ (mA μ 0 k)).1 = 40 + k
  · rw [if_pos h] at hf
    refine ⟨(hk _ r μ' hf).1, fun hC hb H locs ls hH hl hv => ?_⟩
    have hgo := (hk _ r μ' hf).2 hC hb H locs ls hH hl hv
    cases ha : mA μ 0 k with
    | zero => rw [ha] at h; have := hH.1.2.2; omega
    | succ q =>
      rw [ha] at h hgo
      obtain ⟨e, -⟩ := (hH.2.2.2.2.1 q k hk11).1 h
      exact va_ldcS hC.1 hC.2.1 hC.2.2.2.1 (hC.2.2.2.2.2.1.2.1 k _ hq) hd (wx_top (congrArg Value.ref e) hgo)
  · rw [if_neg h] at hf
    cases hf
/-- a switch: the place that holds the number -/
theorem sn_swIn {x k dflt lo' hi' off : Int} {offs : Array Int} {len tgt : Nat} (hd : decode cc pc = .ok (.tableswitch dflt lo' hi' offs, len)) (hx : eq32 x k) (hk0 : (Int32.ofInt k).toInt = k) (hr : lo' ≤ k ∧ k ≤ hi') (ho : offs[(k - lo').toNat]? = some off) (ht : (pc : Int) + off = (tgt : Int)) (hk : Sn X Γ cc ym nL ret fr lo N0 W0 Q tgt L S μ f) : Sn X Γ cc ym nL ret fr lo N0 W0 Q pc L (aI x :: S) μ f := fun r μ' hf => ⟨(hk r μ' hf).1, fun hC hb H locs ls hH hl hv => lv_tableIn hC.1 hC.2.1 hd (by rw [show Int32.ofInt x = Int32.ofInt k from hx, hk0]; omega) (by rw [show Int32.ofInt x = Int32.ofInt k from hx, hk0]; omega) (by rw [show Int32.ofInt x = Int32.ofInt k from hx, hk0]; exact ho) ht ((hk r μ' hf).2 hC hb H locs ls hH hl hv)⟩
theorem sn_swOut {x dflt lo' hi' : Int} {offs : Array Int} {len tgt : Nat} (hd : decode cc pc = .ok (.tableswitch dflt lo' hi' offs, len)) (hx : (Int32.ofInt x).toInt < lo' ∨ hi' < (Int32.ofInt x).toInt) (ht : (pc : Int) + dflt = (tgt : Int)) (hk : Sn X Γ cc ym nL ret fr lo N0 W0 Q tgt L S μ f) : Sn X Γ cc ym nL ret fr lo N0 W0 Q pc L (aI x :: S) μ f := fun r μ' hf => ⟨(hk r μ' hf).1, fun hC hb H locs ls hH hl hv => lv_tableOut hC.1 hC.2.1 hd hx ht ((hk r μ' hf).2 hC hb H locs ls hH hl hv)⟩
theorem sw_ne {x k : Int} (h : ¬ eq32 x k) (hk0 : (Int32.ofInt k).toInt = k) : (Int32.ofInt x).toInt ≠ k := fun e => h (Int32.toInt_inj.mp (e.trans hk0.symm))
theorem sn_lsw {x dflt off : Int} {ps : Array (Int × Int)} {len tgt : Nat} (hd : decode cc pc = .ok (.lookupswitch dflt ps, len)) (hp : (ps.toList.zip (ps.toList.drop 1)).all (fun (a, next) => a.1 < next.1) = true) (ho : Op.lookupswitch.offset ps.toList dflt (Int32.ofInt x).toInt = off) (ht : (pc : Int) + off = (tgt : Int)) (hk : Sn X Γ cc ym nL ret fr lo N0 W0 Q tgt L S μ f) : Sn X Γ cc ym nL ret fr lo N0 W0 Q pc L (aI x :: S) μ f := fun r μ' hf => ⟨(hk r μ' hf).1, fun hC hb H locs ls hH hl hv => lv_lookup hC.1 hC.2.1 hd hp ho ht ((hk r μ' hf).2 hC hb H locs ls hH hl hv)⟩
end SM
