/-! a Land's fifth field is a whole number: its place among the references is free -/
def fixM (μ : Mem) : Mem := (mS μ, mI μ, (fun a j => if j = 5 ∧ (mS μ a).1 = 2 then a else mA μ a j), mN μ, mW μ)
theorem fix_A {μ : Mem} {a j : Nat} (h : ¬ (j = 5 ∧ (mS μ a).1 = 2)) : mA (fixM μ) a j = mA μ a j := if_neg h
theorem fix_5 {μ : Mem} {a : Nat} (h : (mS μ a).1 = 2) : mA (fixM μ) a 5 = a := if_pos ⟨rfl, h⟩
theorem HH.fix {Γ : Gm} {μ : Mem} {U : State} {H : Heap} (h : HH Γ μ U H) : HH Γ (fixM μ) U H := by
  obtain ⟨h0, h1, h2, h3, h4, h5, h6, h7⟩ := h
  refine ⟨h0, fun q ci hci hk => ?_, fun q t ht hk => ?_, h3, fun q k hk => ⟨fun hq => ?_, (h4 q k hk).2⟩, h5, h6, ?_⟩
  · obtain ⟨g0, r, g1, g2⟩ := h1 q ci hci hk
    refine ⟨g0, r, g1, g2.to fun j _ => ?_⟩
    by_cases c : j = 5 ∧ (mS μ (q + 1)).1 = 2
    · have hc : ci = 1 := by
        have hk' : (mS μ (q + 1)).1 = 1 + ci := hk
        omega
      rw [c.1, hc]
      rfl
    · unfold fv
      rw [fix_A c]
      rfl
  · obtain ⟨g0, g1, g2⟩ := h2 q t ht hk
    refine ⟨g0, ?_, g2⟩
    have e : av (fixM μ) t (q + 1) = av μ t (q + 1) := funext fun j => by
      unfold av
      rw [fix_A (by have hk' : (mS μ (q + 1)).1 = 20 + t := hk; omega)]
      rfl
    rw [e]
    exact g1
  · have e : mA (fixM μ) (q + 1) 0 = mA μ (q + 1) 0 := fix_A (by omega)
    rw [e]
    exact (h4 q k hk).1 hq
  · have e : mA (fixM μ) 0 20 = mA μ 0 20 := fix_A (by omega)
    rw [e]
    exact h7
theorem sn_fix {ρ : Type} {X : Ctx} {Γ : Gm} {cc : ByteArray} {ym : MethodName} {nL fr lo N0 W0 pc : Nat} {ret : Option FieldType} {Q : ρ → Mem → State → Prop} {L : List (Option AV)} {S : List AV} {μ : Mem} {f : Option (ρ × Mem)} (hk : Sn X Γ cc ym nL ret fr lo N0 W0 Q pc L S (fixM μ) f) : Sn X Γ cc ym nL ret fr lo N0 W0 Q pc L S μ f := fun r μ' hf => ⟨(hk r μ' hf).1, fun hC hb H locs ls hH hl hv => (hk r μ' hf).2 hC hb H locs ls hH.fix hl hv⟩
