/-! calls, loops, joins -/
theorem KK.same {Γ : Gm} {s U : State} (hv : s.vm = U.vm) (h : KK Γ s) : KK Γ U := by
  have hal : s.vm.Alike U.vm := by rw [hv]; exact Vm.Alike.refl _
  exact ⟨va_K.moved hal h.1, fun k q hq => (h.2.1 k q hq).same hv.symm, fun q hq => (h.2.2.1 q hq).same rfl hv, va_AO.moved hal h.2.2.2.1, va_AO.moved hal h.2.2.2.2.1, over_moved hal h.2.2.2.2.2⟩
def Pm (Γ : Gm) (vs : List AV) (μ : Mem) : Array Value → State → Prop := fun a U => a = (vs.map vl).toArray ∧ HH Γ μ U U.heap ∧ KK Γ U
/-- a method's contract at its arguments and a memory -/
def Mc {ρ : Type} (y : MethodName) (cc : ByteArray) (maxL : Nat) (ret : Option FieldType) (fr lo : Nat) (em : ρ → Option AV) (vs : List AV) (μ : Mem) (fx : Option (ρ × Mem)) : Prop :=
  ∀ (r : ρ) (μ' : Mem), fx = some (r, μ') → ∀ (_ : Ctx), (mN μ ≤ mN μ' ∧ mW μ ≤ mW μ') ∧ ∀ (l : Launch) (Γ : Gm), Met l y (.code y cc maxL ret :: gw) { frames := fr, cells := mN μ' - mN μ, slots := mW μ' - mW μ, locals := lo } (Pm Γ vs μ) (Qm Γ em r μ') (mN μ' - mN μ) (mW μ' - mW μ) (fun q => gB Γ ≤ q)
theorem Pm.blind (Γ : Gm) (vs : List AV) (μ : Mem) : FrameBlind (Pm Γ vs μ) := fun a U g mk h => ⟨h.1, HH.moved (u := U) (U := U.calling g mk a) (Vm.Alike.refl U.vm) h.2.1, h.2.2.same rfl⟩
theorem eL_args : ∀ (vs : List AV) (k i : Nat) (v : AV), (eL vs)[i]? = some (some v) → (k + i, vl v) ∈ lv_args k (vs.map vl)
  | [], k, i, v, h => by simp [eL] at h
  | w :: vs, k, i, v, h => by
    have e : eL (w :: vs) = (if ct w = 2 then [some w, none] else [some w]) ++ eL vs := rfl
    rw [e] at h
    show (k + i, vl v) ∈ (k, vl w) :: lv_args (if (vl w).category = 2 then k + 2 else k + 1) (vs.map vl)
    rw [vl_ct]
    by_cases hc : ct w = 2
    · rw [if_pos hc] at h ⊢
      match i, h with
      | 0, h => cases h; exact List.mem_cons_self
      | 1, h => cases h
      | i + 2, h =>
        have := eL_args vs (k + 2) i v h
        rw [show k + (i + 2) = k + 2 + i by omega]
        exact List.mem_cons_of_mem _ this
    · rw [if_neg hc] at h ⊢
      match i, h with
      | 0, h => cases h; exact List.mem_cons_self
      | i + 1, h =>
        have := eL_args vs (k + 1) i v h
        rw [show k + (i + 1) = k + 1 + i by omega]
        exact List.mem_cons_of_mem _ this
theorem eL_len : ∀ (vs : List AV), (lg_sl (vs.map vl)).length = (eL vs).length
  | [] => rfl
  | w :: vs => by
    have e : eL (w :: vs) = (if ct w = 2 then [some w, none] else [some w]) ++ eL vs := rfl
    have e2 : lg_sl ((w :: vs).map vl) = (if (vl w).category = 2 then [.val (vl w), .second] else [.val (vl w)]) ++ lg_sl (vs.map vl) := rfl
    rw [e, e2, vl_ct, List.length_append, List.length_append, eL_len vs]
    by_cases hc : ct w = 2
    · rw [if_pos hc, if_pos hc]; rfl
    · rw [if_neg hc, if_neg hc]; rfl
/-- a method's contract out of the walk of its body -/
theorem mc_of {ρ : Type} {y : MethodName} {cc : ByteArray} {maxL : Nat} {ret : Option FieldType} {fr lo : Nat} {em : ρ → Option AV} {vs : List AV} {μ : Mem} {fx : Option (ρ × Mem)} {L0 : List (Option AV)} {k : Nat} (hy : plainName y.cls = true) (hL0 : L0 = eL vs ++ List.replicate k none) (hk : L0.length = maxL)
    (hb : ∀ (X : Ctx) (Γ : Gm), Sn X Γ cc y maxL ret fr lo (mN μ) (mW μ) (Zm X Γ (mN μ) (mW μ) em) 0 L0 [] μ fx) : Mc y cc maxL ret fr lo em vs μ fx := by
  intro r μ' hf X0
  refine ⟨(hb X0 (((fun _ => 0), fun _ _ => 0), (fun _ => 0), (fun _ => 0), (fun _ => 0), 0) r μ' hf).1, fun l Γ => ?_⟩
  refine Met.ofW (cc := cc) (maxL := maxL) (ret := ret) hy rfl ?_
  intro p e s m args below meth c s₁ B hml hv
  obtain ⟨rfl, hH, hK⟩ := hv
  have hts := atoms_spec (ws := .code y cc maxL ret :: gw) B.pre
  have hown : s.vm.findClass y.cls = some m.cls := findClass_of_methodNamed B.named
  have hl := lv_entry (vs.map vl) (n := maxL) (by rw [eL_len, ← hk, hL0, List.length_append]; omega)
  rw [lg_entry_eq]
  generalize (lg_sl (vs.map vl) ++ List.replicate (maxL - (lg_sl (vs.map vl)).length) Slot.unset).toArray = ls at hl ⊢
  have hgo := (hb (p, l, e, (headSpec (.code y cc maxL ret :: gw) { frames := fr, cells := mN μ' - mN μ, slots := mW μ' - mW μ, locals := lo }).room, s, m, (vs.map vl).toArray, below, meth, c) Γ r μ' hf).2 ⟨B.exec, B.bytes, hml, hown, fun w hw => hts w (List.mem_cons_of_mem _ hw), hK, B.returns, B.notSynchronized, Nat.le_refl _, Nat.le_refl _, (name_of_methodNamed B.named B.method).1⟩ ⟨Nat.le_refl _, Nat.le_refl _, Nat.le_refl _, Nat.le_refl _⟩ s.heap [] ls hH (fun q hq => by cases hq) ⟨hl.1, hl.2.1, fun i v hi => ?_⟩
  · rw [Nat.sub_self, Nat.sub_self] at hgo
    exact hgo
  · rw [hL0] at hi
    by_cases h : i < (eL vs).length
    · rw [List.getElem?_append_left h] at hi
      have := eL_args vs 0 i v hi
      rw [Nat.zero_add] at this
      exact hl.2.2 _ this
    · rw [List.getElem?_append_right (by omega)] at hi
      rw [List.getElem?_replicate] at hi
      split at hi <;> cases hi
/-- the words of a call -/
def CW (own : String) (idx : Nat) (y : MethodName) (cc : ByteArray) (maxL : Nat) (ret : Option FieldType) (n : Nat) : Prop :=
  Cond.initialized y.cls ∈ gw ∧ Cond.code y cc maxL ret ∈ gw ∧ (y.cls ≠ "java/lang/invoke/MethodHandle" ∧ y.cls ≠ "java/lang/invoke/VarHandle" ∧ (parseMethodDescriptor y.desc).map (fun d => d.parameters.length) = some n) ∧ Cond.methodLink own idx y ∈ gw
theorem ct_sum (S : List AV) : ((S.map vl).map fun v => v.category).sum = (S.map ct).sum := by
  rw [List.map_map]
  congr 1
  apply List.map_congr_left
  intro v _
  exact vl_ct v
theorem par_n {y : MethodName} {n : Nat} (h : (parseMethodDescriptor y.desc).map (fun d => d.parameters.length) = some n) : ∀ sig, parseMethodDescriptor y.desc = some sig → n = sig.parameters.length := by
  intro sig hs
  rw [hs] at h
  exact (Option.some.inj h).symm
section SC
variable {ρ σ : Type} {X : Ctx} {Γ : Gm} {cc cc' : ByteArray} {ym y : MethodName} {nL fr lo N0 W0 pc maxL fr' lo' idx n : Nat} {ret ret' : Option FieldType} {Q : ρ → Mem → State → Prop} {L : List (Option AV)} {S : List AV} {μ : Mem} {f f1 f2 : Option (ρ × Mem)} {em : σ → Option AV} {vs : List AV} {fx : Option (σ × Mem)} {g : σ × Mem → Option (ρ × Mem)}
theorem cx_callB {m1 s1 : Nat} (hC : Cx X Γ cc ym nL ret fr lo) (hw : CW ym.cls idx y cc' maxL ret' n) (hfr : fr' + 1 ≤ fr) (hlo : 8 + (maxL + 11) + lo' ≤ lo) : CallB (xR X) (xS X) (xA X) ym.cls idx y cc' maxL ret' (.code y cc' maxL ret' :: gw) { frames := fr', cells := m1, slots := s1, locals := lo' } m1 s1 n := by
  obtain ⟨w1, w2, w3, w4⟩ := hw
  have hts := hC.2.2.2.2.1
  have hfr' := hC.2.2.2.2.2.2.2.2.1
  have hlo' := hC.2.2.2.2.2.2.2.2.2.1
  refine ⟨rfl, rfl, show fr' + 1 ≤ _ by omega, show 8 + (maxL + 11) + lo' ≤ _ by omega, fun w hw a' U hW => ?_, List.mem_cons_self, hts _ w2, hts _ w1, ⟨w3.1, w3.2.1⟩, par_n w3.2.2, hts _ w4⟩
  have hg : w ∈ gw := by
    rcases List.mem_cons.mp hw with e | e
    · rw [e]; exact w2
    · exact e
  exact gw_warm hW hts w hg
/-- behind a call -/
theorem cx_after {μ' μ1 : Mem} {x : σ} {st : List Value} {H : Heap} {locs : List Loc} {ls : Array Slot} {a : Array Value} {Q' : State → Prop}
    (hr : va_Run (xP X) (xL X) X.2.2.1 (xR X) (xS X) (xM X) (xA X) (xB X) (xH X) (xC X) H locs (mN μ - N0) (mW μ - W0) (mN μ1 - mN μ) (mW μ1 - mW μ) (F0 (xM X) pc ls st) (S.map vl) (Qm Γ em x μ1 a) (fun q => gB Γ ≤ q)) (hm1 : mN μ ≤ mN μ1 ∧ mW μ ≤ mW μ1) (hb : N0 ≤ mN μ ∧ W0 ≤ mW μ ∧ mN μ' - N0 ≤ (xR X).cells ∧ mW μ' - W0 ≤ (xR X).slots) (hl : ∀ q ∈ locs, gB Γ ≤ q.base) (hv : Lv ls nL L)
    (hgo : Go X Γ nL N0 W0 Q' μ' (pc + 3) L ((em x).toList ++ S) μ1) : WX X H locs (mN μ - N0) (mW μ - W0) Q' (F0 (xM X) pc ls st) := by
  intro T hT Y
  obtain ⟨v, st₀, t, T', L', h0, X', hL', e1, e2, ⟨hv', hHt⟩, stp⟩ := hr T hT Y
  rw [show mN μ - N0 + (mN μ1 - mN μ) = mN μ1 - N0 by omega, show mW μ - W0 + (mW μ1 - mW μ) = mW μ1 - W0 by omega] at X'
  have hv' : v = (em x).map vl := by injection hv'
  subst hv'
  have hH1 : HH Γ μ1 (xS X) T'.heap := by
    rw [e1]
    refine HH.moved ?_ hHt
    rw [← e2]
    exact X'.warmed.alike.symm
  obtain ⟨t2, a1, b1⟩ := hgo ⟨by omega, by omega, hb.2.2.1, hb.2.2.2⟩ T'.heap (locs ++ L') ls hH1 (fun q hq => by
    rcases List.mem_append.mp hq with h | h
    · exact hl q h
    · exact hL' q h) hv T' rfl X'
  refine ⟨t2, stp t2 ?_, b1⟩
  have e : ((em x).toList ++ S).map vl = ((em x).map vl).toList ++ S.map vl := by cases em x <;> rfl
  rw [e] at a1
  exact a1
theorem sn_callV {a ci : Nat} {q : vw_C} (hM : Mc y cc' maxL ret' fr' lo' em (aA a :: vs) μ fx) (hd : decode cc pc = .ok (.invokevirtual idx, 3)) (hw : CW ym.cls idx y cc' maxL ret' n ∧ Cond.instanceMethod y ∈ gw ∧ Cond.selects y.cls y y ∈ gw) (hq : vwCl[ci]? = some q) (hy : y.cls = q.1) (hn : vs.length = n) (hfr : fr' + 1 ≤ fr) (hlo : 8 + (maxL + 11) + lo' ≤ lo) (hS : (S.map ct).sum ≤ 8)
    (hk : ∀ p : σ × Mem, Sn X Γ cc ym nL ret fr lo N0 W0 Q (pc + 3) L ((em p.1).toList ++ S) p.2 (g p)) : Sn X Γ cc ym nL ret fr lo N0 W0 Q pc L (vs.reverse ++ aA a :: S) μ ((inv μ (1 + ci) a fx).bind g) := by
  intro r μ' hf
  unfold inv at hf
  by_cases h : (mS μ a).1 = 1 + ci
  · rw [if_pos h] at hf
    cases hfx : fx with
    | none => rw [hfx] at hf; cases hf
    | some z =>
      obtain ⟨x, μ1⟩ := z
      rw [hfx] at hf
      have hf : g (x, μ1) = some (r, μ') := hf
      obtain ⟨hm1, hMet⟩ := hM x μ1 hfx X
      obtain ⟨hm2, hgo⟩ := hk (x, μ1) r μ' hf
      have hm2 : mN μ1 ≤ mN μ' ∧ mW μ1 ≤ mW μ' := hm2
      refine ⟨⟨by omega, by omega⟩, fun hC hb H locs ls hH hl hv => ?_⟩
      have hts := hC.2.2.2.2.1
      have hKn := hC.2.2.2.2.2.1.1.1 ci q hq
      obtain ⟨hb1, hb2, hb3, hb4⟩ := hb
      cases a with
      | zero => have := hH.1.2.2; omega
      | succ b =>
        obtain ⟨-, rr, g0, cellV, g1, g2, g3, -⟩ := hH.2.1 b ci (vwCl_lt hq) h
        cases hq.symm.trans g0
        refine cx_after (va_runV (Ts := gw) (own := ym.cls) (C := y.cls) (As := vs.map vl) (rest := S.map vl) (b := b) ⟨hC.1, hC.2.1, hC.2.2.1, hC.2.2.2.1, hts⟩ (hMet (xL X) Γ) ⟨cx_callB hC hw.1 hfr hlo, hts _ hw.2.1, hts _ hw.2.2⟩ ⟨Pm.blind _ _ _, ⟨cellV, g1, by rw [g3]; rfl, by rw [hy, g2]; exact hKn.2.1⟩, fun U hU hW => ⟨by simp [vl, rv], by rw [hU]; exact hH.moved hW.alike, hC.2.2.2.2.2.1.warm hW⟩⟩ rfl (by rw [List.length_map]; exact hn) hv.1 ?_ ?_ hd ⟨show _ ≤ (xR X).cells by omega, show _ ≤ (xR X).slots by omega⟩) hm1 ⟨hb1, hb2, hb3, hb4⟩ hl hv (hgo hC)
        · show (vs.reverse ++ aA (b + 1) :: S).map vl = _
          rw [List.map_append, List.map_reverse]
          rfl
        · show 2 * 0 + _ ≤ 8
          rw [ct_sum]
          omega
  · rw [if_neg h] at hf
    cases hf
theorem sn_callS (hM : Mc y cc' maxL ret' fr' lo' em vs μ fx) (hd : decode cc pc = .ok (.invokestatic idx, 3)) (hw : CW ym.cls idx y cc' maxL ret' n ∧ Cond.static y ∈ gw) (hn : vs.length = n) (hfr : fr' + 1 ≤ fr) (hlo : 8 + (maxL + 11) + lo' ≤ lo) (hS : (S.map ct).sum ≤ 8)
    (hk : ∀ p : σ × Mem, Sn X Γ cc ym nL ret fr lo N0 W0 Q (pc + 3) L ((em p.1).toList ++ S) p.2 (g p)) : Sn X Γ cc ym nL ret fr lo N0 W0 Q pc L (vs.reverse ++ S) μ (fx.bind g) := by
  intro r μ' hf
  cases hfx : fx with
  | none => rw [hfx] at hf; cases hf
  | some z =>
    obtain ⟨x, μ1⟩ := z
    rw [hfx] at hf
    have hf : g (x, μ1) = some (r, μ') := hf
    obtain ⟨hm1, hMet⟩ := hM x μ1 hfx X
    obtain ⟨hm2, hgo⟩ := hk (x, μ1) r μ' hf
    have hm2 : mN μ1 ≤ mN μ' ∧ mW μ1 ≤ mW μ' := hm2
    refine ⟨⟨by omega, by omega⟩, fun hC hb H locs ls hH hl hv => ?_⟩
    have hts := hC.2.2.2.2.1
    obtain ⟨hb1, hb2, hb3, hb4⟩ := hb
    refine cx_after (va_runS (Ts := gw) (own := ym.cls) (As := vs.map vl) (rest := S.map vl) ⟨hC.1, hC.2.1, hC.2.2.1, hC.2.2.2.1, hts⟩ (hMet (xL X) Γ) ⟨cx_callB hC hw.1 hfr hlo, hts _ hw.2⟩ ⟨Pm.blind _ _ _, fun U hU hW => ⟨rfl, by rw [hU]; exact hH.moved hW.alike, hC.2.2.2.2.2.1.warm hW⟩⟩ rfl (by rw [List.length_map]; exact hn) hv.1 ?_ ?_ hd ⟨show _ ≤ (xR X).cells by omega, show _ ≤ (xR X).slots by omega⟩) hm1 ⟨hb1, hb2, hb3, hb4⟩ hl hv (hgo hC)
    · show (vs.reverse ++ S).map vl = _
      rw [List.map_append, List.map_reverse]
    · show 2 * 0 + _ ≤ 8
      rw [ct_sum]
      omega
theorem sn_callI {a : Nat} {g : Unit × Mem → Option (ρ × Mem)} {fx : Option (Unit × Mem)} (hM : Mc y cc' maxL none fr' lo' eV (aA a :: vs) μ fx) (hd : decode cc pc = .ok (.invokespecial idx, 3)) (hw : CW ym.cls idx y cc' maxL none n ∧ Cond.instanceMethod y ∈ gw) (hy1 : y.name = "<init>") (hn : vs.length = n) (hfr : fr' + 1 ≤ fr) (hlo : 8 + (maxL + 11) + lo' ≤ lo) (hS : (S.map ct).sum ≤ 8)
    (hk : ∀ p : Unit × Mem, Sn X Γ cc ym nL ret fr lo N0 W0 Q (pc + 3) L S p.2 (g p)) : Sn X Γ cc ym nL ret fr lo N0 W0 Q pc L (vs.reverse ++ aA a :: S) μ (if a = 0 then none else fx.bind g) := by
  intro r μ' hf
  cases a with
  | zero => cases hf
  | succ b =>
    rw [if_neg (Nat.succ_ne_zero b)] at hf
    cases hfx : fx with
    | none => rw [hfx] at hf; cases hf
    | some z =>
      obtain ⟨x, μ1⟩ := z
      rw [hfx] at hf
      have hf : g (x, μ1) = some (r, μ') := hf
      obtain ⟨hm1, hMet⟩ := hM x μ1 hfx X
      obtain ⟨hm2, hgo⟩ := hk (x, μ1) r μ' hf
      have hm2 : mN μ1 ≤ mN μ' ∧ mW μ1 ≤ mW μ' := hm2
      refine ⟨⟨by omega, by omega⟩, fun hC hb H locs ls hH hl hv => ?_⟩
      have hts := hC.2.2.2.2.1
      obtain ⟨hb1, hb2, hb3, hb4⟩ := hb
      refine cx_after (va_runI (Ts := gw) (own := ym.cls) (As := vs.map vl) (rest := S.map vl) (b := b) ⟨hC.1, hC.2.1, hC.2.2.1, hC.2.2.2.1, hts⟩ (hMet (xL X) Γ) ⟨cx_callB hC hw.1 hfr hlo, hy1, hts _ hw.2⟩ ⟨Pm.blind _ _ _, fun U hU hW => ⟨rfl, by rw [hU]; exact hH.moved hW.alike, hC.2.2.2.2.2.1.warm hW⟩⟩ rfl (by rw [List.length_map]; exact hn) hv.1 ?_ ?_ hd ⟨show _ ≤ (xR X).cells by omega, show _ ≤ (xR X).slots by omega⟩) hm1 ⟨hb1, hb2, hb3, hb4⟩ hl hv (hgo hC)
      · show (vs.reverse ++ aA (b + 1) :: S).map vl = _
        rw [List.map_append, List.map_reverse]
        rfl
      · show 2 * 0 + _ ≤ 8
        rw [ct_sum]
        omega
/-- a private maker of a nested one -/
theorem sn_callN {a : Nat} {g : Unit × Mem → Option (ρ × Mem)} {fx : Option (Unit × Mem)} (hM : Mc y cc' maxL none fr' lo' eV (aA a :: vs) μ fx) (hd : decode cc pc = .ok (.invokespecial idx, 3)) (hw : Cond.initialized y.cls ∈ gw ∧ Cond.code y cc' maxL none ∈ gw ∧ (y.cls ≠ "java/lang/invoke/MethodHandle" ∧ y.cls ≠ "java/lang/invoke/VarHandle" ∧ (parseMethodDescriptor y.desc).map (fun d => d.parameters.length) = some n) ∧ (ym.cls, idx, y) ∈ nT ∧ Cond.instanceMethod y ∈ gw) (hy1 : y.name = "<init>") (hn : vs.length = n) (hfr : fr' + 1 ≤ fr) (hlo : 8 + (maxL + 11) + lo' ≤ lo) (hS : (S.map ct).sum ≤ 8)
    (hk : ∀ p : Unit × Mem, Sn X Γ cc ym nL ret fr lo N0 W0 Q (pc + 3) L S p.2 (g p)) : Sn X Γ cc ym nL ret fr lo N0 W0 Q pc L (vs.reverse ++ aA a :: S) μ (if a = 0 then none else fx.bind g) := by
  intro r μ' hf
  cases a with
  | zero => cases hf
  | succ b =>
    rw [if_neg (Nat.succ_ne_zero b)] at hf
    cases hfx : fx with
    | none => rw [hfx] at hf; cases hf
    | some z =>
      obtain ⟨x, μ1⟩ := z
      rw [hfx] at hf
      have hf : g (x, μ1) = some (r, μ') := hf
      obtain ⟨hm1, hMet⟩ := hM x μ1 hfx X
      obtain ⟨hm2, hgo⟩ := hk (x, μ1) r μ' hf
      have hm2 : mN μ1 ≤ mN μ' ∧ mW μ1 ≤ mW μ' := hm2
      refine ⟨⟨by omega, by omega⟩, fun hC hb H locs ls hH hl hv => ?_⟩
      have hts := hC.2.2.2.2.1
      have hfr' := hC.2.2.2.2.2.2.2.2.1
      have hlo' := hC.2.2.2.2.2.2.2.2.2.1
      obtain ⟨hb1, hb2, hb3, hb4⟩ := hb
      obtain ⟨w1, w2, w3, w4, w5⟩ := hw
      refine cx_after (va_runIN (Ts := gw) (own := ym.cls) (host := "TwoWells") (As := vs.map vl) (rest := S.map vl) (b := b) ⟨hC.1, hC.2.1, hC.2.2.1, hC.2.2.2.1, hts⟩ (hMet (xL X) Γ) ⟨⟨⟨rfl, rfl, show fr' + 1 ≤ (xR X).frames by omega, show 8 + (maxL + 11) + lo' ≤ (xR X).locals by omega, fun w hw a' U hW => ?_, List.mem_cons_self⟩, hts _ w2, hts _ w1, ⟨w3.1, w3.2.1⟩, par_n w3.2.2, va_Nw.use rfl (hC.2.2.2.2.2.1.2.2.1 _ w4)⟩, hy1, hts _ w5⟩ ⟨Pm.blind _ _ _, fun U hU hW => ⟨rfl, by rw [hU]; exact hH.moved hW.alike, hC.2.2.2.2.2.1.warm hW⟩⟩ rfl (by rw [List.length_map]; exact hn) hv.1 ?_ ?_ hd ⟨show _ ≤ (xR X).cells by omega, show _ ≤ (xR X).slots by omega⟩) hm1 ⟨hb1, hb2, hb3, hb4⟩ hl hv (hgo hC)
      · have hg : w ∈ gw := by
          rcases List.mem_cons.mp hw with e | e
          · rw [e]; exact w2
          · exact e
        exact gw_warm hW hts w hg
      · show (vs.reverse ++ aA (b + 1) :: S).map vl = _
        rw [List.map_append, List.map_reverse]
        rfl
      · show 2 * 0 + _ ≤ 8
        rw [ct_sum]
        omega
theorem sn_callVI {a ci : Nat} {q : vw_C} {fx : Option (Int × Mem)} {g : Int × Mem → Option (ρ × Mem)} (hM : Mc y cc' maxL ret' fr' lo' eI (aA a :: vs) μ fx) (hd : decode cc pc = .ok (.invokevirtual idx, 3)) (hw : CW ym.cls idx y cc' maxL ret' n ∧ Cond.instanceMethod y ∈ gw ∧ Cond.selects y.cls y y ∈ gw) (hq : vwCl[ci]? = some q) (hy : y.cls = q.1) (hn : vs.length = n) (hfr : fr' + 1 ≤ fr) (hlo : 8 + (maxL + 11) + lo' ≤ lo) (hS : (S.map ct).sum ≤ 8)
    (hk : ∀ p : Int × Mem, Sn X Γ cc ym nL ret fr lo N0 W0 Q (pc + 3) L (aI p.1 :: S) p.2 (g p)) : Sn X Γ cc ym nL ret fr lo N0 W0 Q pc L (vs.reverse ++ aA a :: S) μ ((inv μ (1 + ci) a fx).bind g) := sn_callV hM hd hw hq hy hn hfr hlo hS hk
theorem sn_callSI {fx : Option (Int × Mem)} {g : Int × Mem → Option (ρ × Mem)} (hM : Mc y cc' maxL ret' fr' lo' eI vs μ fx) (hd : decode cc pc = .ok (.invokestatic idx, 3)) (hw : CW ym.cls idx y cc' maxL ret' n ∧ Cond.static y ∈ gw) (hn : vs.length = n) (hfr : fr' + 1 ≤ fr) (hlo : 8 + (maxL + 11) + lo' ≤ lo) (hS : (S.map ct).sum ≤ 8)
    (hk : ∀ p : Int × Mem, Sn X Γ cc ym nL ret fr lo N0 W0 Q (pc + 3) L (aI p.1 :: S) p.2 (g p)) : Sn X Γ cc ym nL ret fr lo N0 W0 Q pc L (vs.reverse ++ S) μ (fx.bind g) := sn_callS hM hd hw hn hfr hlo hS hk
theorem sn_callVJ {a ci : Nat} {q : vw_C} {fx : Option (Int × Mem)} {g : Int × Mem → Option (ρ × Mem)} (hM : Mc y cc' maxL ret' fr' lo' eJ (aA a :: vs) μ fx) (hd : decode cc pc = .ok (.invokevirtual idx, 3)) (hw : CW ym.cls idx y cc' maxL ret' n ∧ Cond.instanceMethod y ∈ gw ∧ Cond.selects y.cls y y ∈ gw) (hq : vwCl[ci]? = some q) (hy : y.cls = q.1) (hn : vs.length = n) (hfr : fr' + 1 ≤ fr) (hlo : 8 + (maxL + 11) + lo' ≤ lo) (hS : (S.map ct).sum ≤ 8)
    (hk : ∀ p : Int × Mem, Sn X Γ cc ym nL ret fr lo N0 W0 Q (pc + 3) L (aJ p.1 :: S) p.2 (g p)) : Sn X Γ cc ym nL ret fr lo N0 W0 Q pc L (vs.reverse ++ aA a :: S) μ ((inv μ (1 + ci) a fx).bind g) := sn_callV hM hd hw hq hy hn hfr hlo hS hk
theorem sn_callSJ {fx : Option (Int × Mem)} {g : Int × Mem → Option (ρ × Mem)} (hM : Mc y cc' maxL ret' fr' lo' eJ vs μ fx) (hd : decode cc pc = .ok (.invokestatic idx, 3)) (hw : CW ym.cls idx y cc' maxL ret' n ∧ Cond.static y ∈ gw) (hn : vs.length = n) (hfr : fr' + 1 ≤ fr) (hlo : 8 + (maxL + 11) + lo' ≤ lo) (hS : (S.map ct).sum ≤ 8)
    (hk : ∀ p : Int × Mem, Sn X Γ cc ym nL ret fr lo N0 W0 Q (pc + 3) L (aJ p.1 :: S) p.2 (g p)) : Sn X Γ cc ym nL ret fr lo N0 W0 Q pc L (vs.reverse ++ S) μ (fx.bind g) := sn_callS hM hd hw hn hfr hlo hS hk
theorem sn_callVA {a ci : Nat} {q : vw_C} {fx : Option (Nat × Mem)} {g : Nat × Mem → Option (ρ × Mem)} (hM : Mc y cc' maxL ret' fr' lo' eA (aA a :: vs) μ fx) (hd : decode cc pc = .ok (.invokevirtual idx, 3)) (hw : CW ym.cls idx y cc' maxL ret' n ∧ Cond.instanceMethod y ∈ gw ∧ Cond.selects y.cls y y ∈ gw) (hq : vwCl[ci]? = some q) (hy : y.cls = q.1) (hn : vs.length = n) (hfr : fr' + 1 ≤ fr) (hlo : 8 + (maxL + 11) + lo' ≤ lo) (hS : (S.map ct).sum ≤ 8)
    (hk : ∀ p : Nat × Mem, Sn X Γ cc ym nL ret fr lo N0 W0 Q (pc + 3) L (aA p.1 :: S) p.2 (g p)) : Sn X Γ cc ym nL ret fr lo N0 W0 Q pc L (vs.reverse ++ aA a :: S) μ ((inv μ (1 + ci) a fx).bind g) := sn_callV hM hd hw hq hy hn hfr hlo hS hk
theorem sn_callSA {fx : Option (Nat × Mem)} {g : Nat × Mem → Option (ρ × Mem)} (hM : Mc y cc' maxL ret' fr' lo' eA vs μ fx) (hd : decode cc pc = .ok (.invokestatic idx, 3)) (hw : CW ym.cls idx y cc' maxL ret' n ∧ Cond.static y ∈ gw) (hn : vs.length = n) (hfr : fr' + 1 ≤ fr) (hlo : 8 + (maxL + 11) + lo' ≤ lo) (hS : (S.map ct).sum ≤ 8)
    (hk : ∀ p : Nat × Mem, Sn X Γ cc ym nL ret fr lo N0 W0 Q (pc + 3) L (aA p.1 :: S) p.2 (g p)) : Sn X Γ cc ym nL ret fr lo N0 W0 Q pc L (vs.reverse ++ S) μ (fx.bind g) := sn_callS hM hd hw hn hfr hlo hS hk
theorem sn_callVV {a ci : Nat} {q : vw_C} {fx : Option (Unit × Mem)} {g : Unit × Mem → Option (ρ × Mem)} (hM : Mc y cc' maxL ret' fr' lo' eV (aA a :: vs) μ fx) (hd : decode cc pc = .ok (.invokevirtual idx, 3)) (hw : CW ym.cls idx y cc' maxL ret' n ∧ Cond.instanceMethod y ∈ gw ∧ Cond.selects y.cls y y ∈ gw) (hq : vwCl[ci]? = some q) (hy : y.cls = q.1) (hn : vs.length = n) (hfr : fr' + 1 ≤ fr) (hlo : 8 + (maxL + 11) + lo' ≤ lo) (hS : (S.map ct).sum ≤ 8)
    (hk : ∀ p : Unit × Mem, Sn X Γ cc ym nL ret fr lo N0 W0 Q (pc + 3) L (S) p.2 (g p)) : Sn X Γ cc ym nL ret fr lo N0 W0 Q pc L (vs.reverse ++ aA a :: S) μ ((inv μ (1 + ci) a fx).bind g) := sn_callV hM hd hw hq hy hn hfr hlo hS hk
theorem sn_callSV {fx : Option (Unit × Mem)} {g : Unit × Mem → Option (ρ × Mem)} (hM : Mc y cc' maxL ret' fr' lo' eV vs μ fx) (hd : decode cc pc = .ok (.invokestatic idx, 3)) (hw : CW ym.cls idx y cc' maxL ret' n ∧ Cond.static y ∈ gw) (hn : vs.length = n) (hfr : fr' + 1 ≤ fr) (hlo : 8 + (maxL + 11) + lo' ≤ lo) (hS : (S.map ct).sum ≤ 8)
    (hk : ∀ p : Unit × Mem, Sn X Γ cc ym nL ret fr lo N0 W0 Q (pc + 3) L (S) p.2 (g p)) : Sn X Γ cc ym nL ret fr lo N0 W0 Q pc L (vs.reverse ++ S) μ (fx.bind g) := sn_callS hM hd hw hn hfr hlo hS hk
end SC
/-! loops and joins: the body takes what comes next as a function -/
def lp {α ρ : Type} (B : (α → Mem → Option (ρ × Mem)) → α → Mem → Option (ρ × Mem)) : Nat → α → Mem → Option (ρ × Mem)
  | 0, _, _ => none
  | n + 1, a, μ => B (lp B n) a μ
def jn {α ρ : Type} (J : α → Mem → Option (ρ × Mem)) (B : (α → Mem → Option (ρ × Mem)) → Option (ρ × Mem)) : Option (ρ × Mem) := B J
section SL
variable {ρ α : Type} {X : Ctx} {Γ : Gm} {cc : ByteArray} {ym : MethodName} {nL fr lo N0 W0 pc pcj : Nat} {ret : Option FieldType} {Q : ρ → Mem → State → Prop} {L : List (Option AV)} {S : List AV} {μ : Mem}
theorem sn_lp {B : (α → Mem → Option (ρ × Mem)) → α → Mem → Option (ρ × Mem)} {La : α → List (Option AV)} (hB : ∀ nx : α → Mem → Option (ρ × Mem), (∀ a μ, Sn X Γ cc ym nL ret fr lo N0 W0 Q pc (La a) S μ (nx a μ)) → ∀ a μ, Sn X Γ cc ym nL ret fr lo N0 W0 Q pc (La a) S μ (B nx a μ)) : ∀ (n : Nat) (a : α) (μ : Mem), Sn X Γ cc ym nL ret fr lo N0 W0 Q pc (La a) S μ (lp B n a μ)
  | 0, a, μ => sn_none
  | n + 1, a, μ => hB (lp B n) (sn_lp hB n) a μ
theorem sn_jn {J : α → Mem → Option (ρ × Mem)} {B : (α → Mem → Option (ρ × Mem)) → Option (ρ × Mem)} {La : α → List (Option AV)} {Sa : α → List AV} (hJ : ∀ a μ, Sn X Γ cc ym nL ret fr lo N0 W0 Q pcj (La a) (Sa a) μ (J a μ)) (hB : ∀ j : α → Mem → Option (ρ × Mem), (∀ a μ, Sn X Γ cc ym nL ret fr lo N0 W0 Q pcj (La a) (Sa a) μ (j a μ)) → Sn X Γ cc ym nL ret fr lo N0 W0 Q pc L S μ (B j)) : Sn X Γ cc ym nL ret fr lo N0 W0 Q pc L S μ (jn J B) := hB J hJ
end SL
