/-! a grid of seven rows of seven -/
def nwMm (μ : Mem) : Mem := (fun a => if a = mN μ + 1 then (26, 7) else if mN μ + 1 < a ∧ a ≤ mN μ + 8 then (20, 7) else mS μ a, (fun a => if mN μ + 1 ≤ a ∧ a ≤ mN μ + 8 then (fun _ => 0) else mI μ a), (fun a => if a = mN μ + 1 then (fun j => if j < 7 then mN μ + 2 + j else 0) else if mN μ + 1 < a ∧ a ≤ mN μ + 8 then (fun _ => 0) else mA μ a), mN μ + 8, mW μ + 56)
def nwM (μ : Mem) (n k : Int) : Option (Nat × Mem) := if n = 7 ∧ k = 7 then some (mN μ + 1, nwMm μ) else none
theorem hh_multi {Γ : Gm} {μ : Mem} {U : State} {H H' : Heap} (h : HH Γ μ U H) (hz : H'.size = H.size + 8) (ho : ∀ q : Nat, q < H.size → H'[q]? = H[q]?) (hout : H'[H.size]? = some (arrV (gR Γ 6) 7 (fun j => rv (if j < 7 then H.size + 2 + j else 0)))) (hin : ∀ j : Nat, j < 7 → H'[H.size + 1 + j]? = some (arrV (gR Γ 0) 7 (fun _ => .int 0))) : HH Γ (nwMm μ) U H' := by
  obtain ⟨⟨hn, hB, hZ⟩, h1, h2, h3, h4, h5, h6, h7⟩ := h
  have old : ∀ q : Nat, q < H.size → ¬ gB Γ ≤ q → H'[q]? = H[q]? := fun q h _ => ho q h
  have eN : mN (nwMm μ) = mN μ + 8 := rfl
  have eS0 : ∀ q : Nat, ¬ (mN μ ≤ q ∧ q < mN μ + 8) → mS (nwMm μ) (q + 1) = mS μ (q + 1) := fun q hq => by
    show (if q + 1 = mN μ + 1 then (26, 7) else if mN μ + 1 < q + 1 ∧ q + 1 ≤ mN μ + 8 then (20, 7) else mS μ (q + 1)) = _
    rw [if_neg (by omega), if_neg (by omega)]
  have eS1 : mS (nwMm μ) (H.size + 1) = (26, 7) := by
    show (if H.size + 1 = mN μ + 1 then (26, 7) else _) = _
    rw [if_pos (by omega)]
  have eS2 : ∀ q : Nat, mN μ < q → q < mN μ + 8 → mS (nwMm μ) (q + 1) = (20, 7) := fun q g1 g2 => by
    show (if q + 1 = mN μ + 1 then (26, 7) else if mN μ + 1 < q + 1 ∧ q + 1 ≤ mN μ + 8 then (20, 7) else mS μ (q + 1)) = _
    rw [if_neg (by omega), if_pos (by omega)]
  have eI0 : ∀ q : Nat, ¬ (mN μ ≤ q ∧ q < mN μ + 8) → mI (nwMm μ) (q + 1) = mI μ (q + 1) := fun q hq => by
    show (if mN μ + 1 ≤ q + 1 ∧ q + 1 ≤ mN μ + 8 then (fun _ => 0) else mI μ (q + 1)) = _
    rw [if_neg (by omega)]
  have eI1 : ∀ q : Nat, mN μ ≤ q → q < mN μ + 8 → mI (nwMm μ) (q + 1) = fun _ => 0 := fun q g1 g2 => by
    show (if mN μ + 1 ≤ q + 1 ∧ q + 1 ≤ mN μ + 8 then (fun _ => 0) else mI μ (q + 1)) = _
    rw [if_pos (by omega)]
  have eA0 : ∀ q : Nat, ¬ (mN μ ≤ q ∧ q < mN μ + 8) → mA (nwMm μ) (q + 1) = mA μ (q + 1) := fun q hq => by
    show (if q + 1 = mN μ + 1 then (fun j => if j < 7 then mN μ + 2 + j else 0) else if mN μ + 1 < q + 1 ∧ q + 1 ≤ mN μ + 8 then (fun _ => 0) else mA μ (q + 1)) = _
    rw [if_neg (by omega), if_neg (by omega)]
  have eA1 : mA (nwMm μ) (H.size + 1) = fun j => if j < 7 then H.size + 2 + j else 0 := by
    show (if H.size + 1 = mN μ + 1 then (fun j => if j < 7 then mN μ + 2 + j else 0) else _) = _
    rw [if_pos (by omega), hn]
  have eAz : mA (nwMm μ) 0 = mA μ 0 := by
    show (if 0 = mN μ + 1 then (fun j => if j < 7 then mN μ + 2 + j else 0) else if mN μ + 1 < 0 ∧ 0 ≤ mN μ + 8 then (fun _ => 0) else mA μ 0) = _
    rw [if_neg (by omega), if_neg (by omega)]
  have eSz : mS (nwMm μ) 0 = mS μ 0 := by
    show (if 0 = mN μ + 1 then (26, 7) else if mN μ + 1 < 0 ∧ 0 ≤ mN μ + 8 then (20, 7) else mS μ 0) = _
    rw [if_neg (by omega), if_neg (by omega)]
  refine ⟨⟨by rw [hz, eN, hn], by omega, by rw [eSz]; exact hZ⟩, fun q ci hci hk => ?_, fun q t ht hk => ?_, fun q hk => ?_, fun q j hj => ?_, h5.kept old, h6.kept old, by rw [eAz]; exact h7.kept old⟩
  · by_cases e : q = H.size
    · subst e; rw [eS1] at hk; exact absurd hk (by show ¬ 26 = 1 + ci; omega)
    · by_cases e2 : mN μ < q ∧ q < mN μ + 8
      · rw [eS2 q e2.1 e2.2] at hk; exact absurd hk (by show ¬ 20 = 1 + ci; omega)
      · rw [eS0 q (by omega)] at hk
        obtain ⟨g0, r, g1, g2⟩ := h1 q ci hci hk
        obtain ⟨cell, g3, -⟩ := id g2
        have hlt : q < H.size := (Array.getElem?_eq_some_iff.mp g3).1
        refine ⟨g0, r, g1, (g2.kept (ho q hlt)).to fun j _ => ?_⟩
        unfold fv
        rw [eI0 q (by omega), eA0 q (by omega)]
  · by_cases e : q = H.size
    · subst e
      rw [eS1] at hk ⊢
      have ht6 : t = 6 := by have : 26 = 20 + t := hk; omega
      subst ht6
      refine ⟨hB, ?_, fun z => by cases z⟩
      rw [hout]
      congr 2
      funext j
      show _ = rv (mA (nwMm μ) (H.size + 1) j)
      rw [eA1]
    · by_cases e2 : mN μ < q ∧ q < mN μ + 8
      · rw [eS2 q e2.1 e2.2] at hk ⊢
        have ht0 : t = 0 := by have : 20 = 20 + t := hk; omega
        subst ht0
        refine ⟨by omega, ?_, fun z => by cases z⟩
        have := hin (q - H.size - 1) (by omega)
        rw [show H.size + 1 + (q - H.size - 1) = q by omega] at this
        rw [this]
        congr 2
        funext j
        show _ = Value.int (Int32.ofInt (mI (nwMm μ) (q + 1) j))
        rw [eI1 q (by omega) e2.2]
        rfl
      · rw [eS0 q (by omega)] at hk ⊢
        obtain ⟨g0, g1, g2⟩ := h2 q t ht hk
        have hlt : q < H.size := (Array.getElem?_eq_some_iff.mp g1).1
        refine ⟨g0, ?_, by rw [eI0 q (by omega)]; exact g2⟩
        rw [ho q hlt, g1]
        congr 2
        funext j
        unfold av
        rw [eI0 q (by omega), eA0 q (by omega)]
  · by_cases e : q = H.size
    · subst e; rw [eS1] at hk; exact absurd hk (by show ¬ 26 = 27; omega)
    · by_cases e2 : mN μ < q ∧ q < mN μ + 8
      · rw [eS2 q e2.1 e2.2] at hk; exact absurd hk (by show ¬ 20 = 27; omega)
      · rw [eS0 q (by omega)] at hk ⊢
        obtain ⟨g0, cell, g1, g2⟩ := h3 q hk
        have hlt : q < H.size := (Array.getElem?_eq_some_iff.mp g1).1
        refine ⟨g0, cell, by rw [ho q hlt]; exact g1, ?_⟩
        rw [eI0 q (by omega)]
        exact g2
  · by_cases e : q = H.size
    · subst e; rw [eS1]; exact ⟨fun hq => absurd hq (by show ¬ 26 = 40 + j; omega), fun hq => absurd hq (by show ¬ 26 = 60 + j; omega)⟩
    · by_cases e2 : mN μ < q ∧ q < mN μ + 8
      · rw [eS2 q e2.1 e2.2]; exact ⟨fun hq => absurd hq (by show ¬ 20 = 40 + j; omega), fun hq => absurd hq (by show ¬ 20 = 60 + j; omega)⟩
      · rw [eS0 q (by omega), eA0 q (by omega), eI0 q (by omega)]
        exact h4 q j hj
theorem outer_eq (c : ClassId) (N h0 : Nat) : ∀ i : Nat, Jvm.Free.Multi.outerC c N h0 i = arrV c N (fun j => rv (if j < i then h0 + 2 + j else 0))
  | 0 => by
    show ({ cls := c, slots := Array.replicate N .null, vm := .none } : Cell) = _
    rw [arrV_new]
    refine congrArg (arrV c N) (funext fun j => ?_)
    rw [if_neg (by omega)]
    rfl
  | i + 1 => by
    show (Jvm.Free.Multi.outerC c N h0 i).setSlot i (.ref (h0 + 1 + i)) = _
    rw [outer_eq c N h0 i, arrV_store]
    refine congrArg (arrV c N) (funext fun j => ?_)
    unfold updV
    by_cases e : j = i
    · rw [if_pos e, if_pos (by omega), e]
      rw [show h0 + 2 + i = (h0 + 1 + i) + 1 by omega]
      rfl
    · rw [if_neg e]
      show rv (if j < i then h0 + 2 + j else 0) = _
      by_cases h : j < i
      · rw [if_pos h, if_pos (by omega)]
      · rw [if_neg h, if_neg (by omega)]
section SG
variable {ρ : Type} {X : Ctx} {Γ : Gm} {cc : ByteArray} {ym : MethodName} {nL fr lo N0 W0 pc : Nat} {ret : Option FieldType} {Q : ρ → Mem → State → Prop} {L : List (Option AV)} {S : List AV} {μ : Mem} {f f1 f2 : Option (ρ × Mem)}
theorem sn_multi {idx : Nat} {n k : Int} {g : Nat × Mem → Option (ρ × Mem)} (hd : decode cc pc = .ok (.multianewarray idx 2, 4)) (hw : Cond.classLink ym.cls idx "[[I" ∈ gw) (hk : ∀ p, Sn X Γ cc ym nL ret fr lo N0 W0 Q (pc + 4) L (aA p.1 :: S) p.2 (g p)) : Sn X Γ cc ym nL ret fr lo N0 W0 Q pc L (aI k :: aI n :: S) μ ((nwM μ n k).bind g) := by
  intro r μ' hf
  unfold nwM at hf
  by_cases h : n = 7 ∧ k = 7
  · rw [if_pos h] at hf
    obtain ⟨rfl, rfl⟩ := h
    have hf : g (mN μ + 1, nwMm μ) = some (r, μ') := hf
    obtain ⟨hm, hgo⟩ := hk _ r μ' hf
    have hm : mN μ + 8 ≤ mN μ' ∧ mW μ + 56 ≤ mW μ' := hm
    refine ⟨⟨by omega, by omega⟩, fun hC hb H locs ls hH hl hv => ?_⟩
    obtain ⟨hb1, hb2, hb3, hb4⟩ := hb
    have hts := hC.2.2.2.2.1
    intro T hT X1
    obtain ⟨vm₁, cA, comp, -, fA, fC, -, -, X', step⟩ := X1.multianewarray2F hC.1 (ty := .int) hC.2.2.2.1 (hts _ hw) hC.2.2.2.2.2.1.2.2.2.2.2 (hts _ ac_0) (n := 7) (k := 7) (rest := S.map vl) (g := F0 (xM X) pc ls ((aI 7 :: aI 7 :: S).map vl)) rfl (by rw [hC.2.1]; exact hd) rfl (by decide) (by decide) (by decide) (by decide) (by decide) rfl rfl (show _ ≤ (xR X).cells by show mN μ - N0 + (1 + 7) ≤ _; omega) (show _ ≤ (xR X).slots by show mW μ - W0 + (7 + 7 * 7) ≤ _; omega)
    have hTh : (T.setVm vm₁).heap = H := hT
    have hK := hC.2.2.2.2.2.1.1.2
    have ecA : cA = gR Γ 6 := Option.some.inj (fA.symm.trans (hK 6 _ (tyA_at Γ (by decide))).2)
    have eco : comp = gR Γ 0 := Option.some.inj (fC.symm.trans (hK 0 _ (tyA_at Γ (by decide))).2)
    obtain ⟨f1, f2, -, -⟩ := Jvm.Free.Multi.fill_facts (T.setVm vm₁) cA comp 7 7 (defaultValue .int) 7
    have f3 := fun (x : Nat) (hx : x < H.size) => Jvm.Free.Multi.fill_old (T.setVm vm₁) cA comp 7 7 (defaultValue .int) (a := x) (by rw [hTh]; exact hx) 7
    have f4 := fun (j : Nat) (hj : j < 7) => Jvm.Free.Multi.fill_inner (T.setVm vm₁) cA comp 7 7 (defaultValue .int) 7 j hj
    have e7 : (7 : Int32).toNatClampNeg = 7 := rfl
    rw [e7] at X' step
    rw [hTh] at f1 f2
    simp only [hTh] at f3 f4
    generalize Jvm.Free.Multi.fill (T.setVm vm₁) cA comp 7 7 (defaultValue .int) 7 = Fn at X' step f1 f2 f3 f4
    have hgo := hgo hC ⟨by show N0 ≤ mN μ + 8; omega, by show W0 ≤ mW μ + 56; omega, hb3, hb4⟩ Fn.heap locs ls (hh_multi hH (by rw [f1]) f3 (by rw [f2, ecA, outer_eq]) (fun j hj => by rw [f4 j hj, eco]; exact congrArg some (arrV_new _ _ _))) hl hv
    have ek : mN (nwMm μ) - N0 = mN μ - N0 + 1 + 7 := by show mN μ + 8 - N0 = _; omega
    have es : mW (nwMm μ) - W0 = mW μ - W0 + 7 + 7 * 7 := by show mW μ + 56 - W0 = _; omega
    rw [ek, es] at hgo
    obtain ⟨t2, a1, b1⟩ := hgo Fn rfl X'
    refine ⟨t2, step t2 ?_, b1⟩
    have e : vl (aA (mN μ + 1)) = .ref T.heap.size := by rw [hT, hH.1.1]; rfl
    rw [← e]
    exact a1
  · rw [if_neg h] at hf
    cases hf
end SG
