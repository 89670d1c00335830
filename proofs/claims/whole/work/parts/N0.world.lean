/-! the world in which the law begins -/
def fdK (f : Nat → Nat) (q : Nat) : Nat → Option Nat
  | 0 => none
  | n + 1 => if f n = q then some n else fdK f q n
theorem fdK_some {f : Nat → Nat} {q k : Nat} : ∀ {n : Nat}, fdK f q n = some k → k < n ∧ f k = q
  | 0, h => by cases h
  | n + 1, h => by
    have h' : (if f n = q then some n else fdK f q n) = some k := h
    by_cases c : f n = q
    · rw [if_pos c] at h'
      cases h'
      exact ⟨by omega, c⟩
    · rw [if_neg c] at h'
      have := fdK_some h'
      exact ⟨by omega, this.2⟩
theorem fdK_no {f : Nat → Nat} {q : Nat} : ∀ {n : Nat}, (∀ k : Nat, k < n → f k ≠ q) → fdK f q n = none
  | 0, h => rfl
  | n + 1, h => by
    show (if f n = q then some n else fdK f q n) = none
    rw [if_neg (h n (by omega))]
    exact fdK_no fun k hk => h k (by omega)
theorem fdK_at {f : Nat → Nat} {k : Nat} : ∀ {n : Nat}, k < n → (∀ j : Nat, j < n → f j = f k → j = k) → fdK f (f k) n = some k
  | 0, h, _ => absurd h (by omega)
  | n + 1, h, hi => by
    show (if f n = f k then some n else fdK f (f k) n) = some k
    by_cases c : f n = f k
    · rw [if_pos c, hi n (by omega) c]
    · rw [if_neg c]
      have : k ≠ n := fun e => c (by rw [e])
      exact fdK_at (by omega) fun j hj e => hi j (by omega) e
section WO
variable (b L : Nat) (xs : Nat → Int32) (aK aV : Nat → Nat) (fm N : Nat)
def zS (a : Nat) : Nat × Nat := match a with
  | 0 => (0, 0)
  | q + 1 => if q = b then (27, L) else match fdK aK q 11 with
    | some k => (40 + k, 0)
    | none => match fdK aV q 11 with
      | some k => (60 + k, kL.getD k 0)
      | none => (0, 0)
def zI (a : Nat) : Nat → Int := match a with
  | 0 => fun _ => 0
  | q + 1 => if q = b then (fun j => (xs j).toInt) else match fdK aV q 11 with
    | some k => fun j => ((kB.getD k []).getD j 0).toInt
    | none => fun _ => 0
def zA (a : Nat) : Nat → Nat := match a with
  | 0 => fun k => if k = 20 then fm else aK k + 1
  | q + 1 => match fdK aK q 11 with
    | some k => fun _ => aV k + 1
    | none => fun _ => 0
def zM : Mem := (zS b L aK aV, zI b xs aV, zA aK aV fm, N, 0)
end WO
section WP
variable {b L : Nat} {xs : Nat → Int32} {aK aV : Nat → Nat} {fm N : Nat}
theorem zS_b : zS b L aK aV (b + 1) = (27, L) := if_pos rfl
theorem zS_cs (q : Nat) : (q = b ∧ zS b L aK aV (q + 1) = (27, L)) ∨ (q ≠ b ∧ ∃ k : Nat, k < 11 ∧ fdK aK q 11 = some k ∧ aK k = q ∧ zS b L aK aV (q + 1) = (40 + k, 0)) ∨ (q ≠ b ∧ ∃ k : Nat, k < 11 ∧ fdK aV q 11 = some k ∧ aV k = q ∧ zS b L aK aV (q + 1) = (60 + k, kL.getD k 0)) ∨ zS b L aK aV (q + 1) = (0, 0) := by
  by_cases c : q = b
  · exact Or.inl ⟨c, if_pos c⟩
  have e : zS b L aK aV (q + 1) = match fdK aK q 11 with | some k => (40 + k, 0) | none => match fdK aV q 11 with | some k => (60 + k, kL.getD k 0) | none => (0, 0) := if_neg c
  cases h1 : fdK aK q 11 with
  | some k =>
    rw [h1] at e
    obtain ⟨g1, g2⟩ := fdK_some h1
    exact Or.inr (Or.inl ⟨c, k, g1, rfl, g2, e⟩)
  | none =>
    rw [h1] at e
    cases h2 : fdK aV q 11 with
    | some k =>
      rw [h2] at e
      obtain ⟨g1, g2⟩ := fdK_some h2
      exact Or.inr (Or.inr (Or.inl ⟨c, k, g1, rfl, g2, e⟩))
    | none =>
      rw [h2] at e
      exact Or.inr (Or.inr (Or.inr e))
/-- the texts lie apart -/
def apart (b : Nat) (aK aV : Nat → Nat) : Prop := (∀ i j : Nat, i < 11 → j < 11 → aK i = aK j → i = j) ∧ (∀ i j : Nat, i < 11 → j < 11 → aV i = aV j → i = j) ∧ (∀ i j : Nat, i < 11 → j < 11 → aK i ≠ aV j) ∧ ∀ i : Nat, i < 11 → aK i ≠ b ∧ aV i ≠ b
theorem zX (h : apart b aK aV) (hv : ∀ k : Nat, k < 11 → aV k < N) : isX (zM b L xs aK aV fm N) (mN (zM b L xs aK aV fm N) + 1) (mI (zM b L xs aK aV fm N)) := by
  intro k hk
  obtain ⟨h1, h2, h3, h4⟩ := h
  have a0 : mA (zM b L xs aK aV fm N) 0 k = aK k + 1 := if_neg (by omega)
  have fK : fdK aK (aK k) 11 = some k := fdK_at hk fun j hj e => h1 j k hj hk e
  have fV : fdK aV (aV k) 11 = some k := fdK_at hk fun j hj e => h2 j k hj hk e
  have fN : fdK aK (aV k) 11 = none := fdK_no fun j hj e => h3 j k hj hk e
  have a1 : mA (zM b L xs aK aV fm N) (aK k + 1) 0 = aV k + 1 := by
    show (match fdK aK (aK k) 11 with | some k => fun _ => aV k + 1 | none => fun _ => 0) 0 = aV k + 1
    rw [fK]
  have s1 : mS (zM b L xs aK aV fm N) (aK k + 1) = (40 + k, 0) := by
    show (if aK k = b then (27, L) else match fdK aK (aK k) 11 with | some k => (40 + k, 0) | none => match fdK aV (aK k) 11 with | some k => (60 + k, kL.getD k 0) | none => (0, 0)) = _
    rw [if_neg (h4 k hk).1, fK]
  have s2 : mS (zM b L xs aK aV fm N) (aV k + 1) = (60 + k, kL.getD k 0) := by
    show (if aV k = b then (27, L) else match fdK aK (aV k) 11 with | some k => (40 + k, 0) | none => match fdK aV (aV k) 11 with | some k => (60 + k, kL.getD k 0) | none => (0, 0)) = _
    rw [if_neg (h4 k hk).2, fN, fV]
  have i2 : mI (zM b L xs aK aV fm N) (aV k + 1) = fun j => ((kB.getD k []).getD j 0).toInt := by
    show (if aV k = b then (fun j => (xs j).toInt) else match fdK aV (aV k) 11 with | some k => fun j => ((kB.getD k []).getD j 0).toInt | none => fun _ => 0) = _
    rw [if_neg (h4 k hk).2, fV]
  rw [a0, a1, s1, s2, i2]
  refine ⟨rfl, rfl, ?_, fun j => Int32.ofInt_toInt _⟩
  have := hv k hk
  show aV k + 1 < N + 1
  omega
theorem zH {Γ : Gm} {s : State} (hX : va_X b L xs s s.heap) (hb : b < s.heap.size) (hB : gB Γ = s.heap.size) (hN : N = s.heap.size) (eK : gK Γ = aK) (eV : gV Γ = aV) (hS : vk_S 11 kL kB aK aV (fun q => s.heap.size ≤ q) s s.heap) (hZ : va_Z "java/lang/String" "COMPACT_STRINGS" "Z" (.int 1) (fun q => s.heap.size ≤ q) s s.heap) (hF : va_Z "jdk/internal/util/Preconditions" "SIOOBE_FORMATTER" "Ljava/util/function/BiFunction;" (rv fm) (fun q => s.heap.size ≤ q) s s.heap) : HH Γ (zM b L xs aK aV fm N) s s.heap := by
  have kv : ∀ k : Nat, k < 11 → aK k < s.heap.size ∧ aV k < s.heap.size := fun k hk => by
    obtain ⟨⟨c1, -, -, -, g1⟩, -, -, ⟨c2, -, -, -, -, -, -, g2⟩⟩ := hS.1 k hk
    exact ⟨Nat.not_le.mp g1, Nat.not_le.mp g2⟩
  refine ⟨⟨hN.symm, by rw [hB]; exact Nat.le_refl _, rfl⟩, fun q ci hci hk => ?_, fun q t ht hk => ?_, fun q hk => ?_, fun q k hk => ⟨fun hq => ?_, fun hq => ?_⟩, ?_, ?_, ?_⟩
  · have hk' : (zS b L aK aV (q + 1)).1 = 1 + ci := hk
    rcases zS_cs (b := b) (L := L) (aK := aK) (aV := aV) q with ⟨-, e⟩ | ⟨-, k, -, -, -, e⟩ | ⟨-, k, -, -, -, e⟩ | e <;> rw [e] at hk' <;> dsimp only at hk' <;> omega
  · have hk' : (zS b L aK aV (q + 1)).1 = 20 + t := hk
    rcases zS_cs (b := b) (L := L) (aK := aK) (aV := aV) q with ⟨-, e⟩ | ⟨-, k, -, -, -, e⟩ | ⟨-, k, -, -, -, e⟩ | e <;> rw [e] at hk' <;> dsimp only at hk' <;> omega
  · have hk' : (zS b L aK aV (q + 1)).1 = 27 := hk
    have hq : q = b := by
      rcases zS_cs (b := b) (L := L) (aK := aK) (aV := aV) q with ⟨c, e⟩ | ⟨-, k, -, -, -, e⟩ | ⟨-, k, -, -, -, e⟩ | e
      · exact c
      · rw [e] at hk'; dsimp only at hk'; omega
      · rw [e] at hk'; dsimp only at hk'; omega
      · rw [e] at hk'; dsimp only at hk'; omega
    subst hq
    obtain ⟨scr, x1, x2, x3, x4, x5⟩ := hX
    have eS : mS (zM q L xs aK aV fm N) (q + 1) = (27, L) := zS_b
    rw [eS, hB]
    refine ⟨hb, scr, x1, x2, x3, x4, fun j hj => ?_⟩
    rw [x5 j hj]
    have eI : mI (zM q L xs aK aV fm N) (q + 1) = fun j => (xs j).toInt := if_pos rfl
    rw [eI]
    exact congrArg (fun v => some (Value.int v)) (Int32.ofInt_toInt _).symm
  · have hq' : (zS b L aK aV (q + 1)).1 = 40 + k := hq
    rcases zS_cs (b := b) (L := L) (aK := aK) (aV := aV) q with ⟨c, e⟩ | ⟨-, i, hi, g1, g2, e⟩ | ⟨-, i, -, -, -, e⟩ | e
    · rw [e] at hq'; dsimp only at hq'; omega
    · rw [e] at hq'
      have : i = k := by dsimp only at hq'; omega
      subst this
      rw [eK, eV, hB]
      refine ⟨g2.symm, by rw [← g2]; exact (kv i hi).1, ?_⟩
      show (match fdK aK q 11 with | some k => fun _ => aV k + 1 | none => fun _ => 0) 0 = aV i + 1
      rw [g1]
    · rw [e] at hq'; dsimp only at hq'; omega
    · rw [e] at hq'; dsimp only at hq'; omega
  · have hq' : (zS b L aK aV (q + 1)).1 = 60 + k := hq
    rcases zS_cs (b := b) (L := L) (aK := aK) (aV := aV) q with ⟨c, e⟩ | ⟨-, i, hi, -, -, e⟩ | ⟨c, i, hi, g1, g2, e⟩ | e
    · rw [e] at hq'; dsimp only at hq'; omega
    · rw [e] at hq'; dsimp only at hq'; omega
    · have e' : mS (zM b L xs aK aV fm N) (q + 1) = (60 + i, kL.getD i 0) := e
      rw [e] at hq'
      have : i = k := by dsimp only at hq'; omega
      subst this
      rw [eV, hB, e']
      refine ⟨g2.symm, by rw [← g2]; exact (kv i hi).2, rfl, fun j => ?_⟩
      have eI : mI (zM b L xs aK aV fm N) (q + 1) = fun j => ((kB.getD i []).getD j 0).toInt := by
        show (if q = b then (fun j => (xs j).toInt) else match fdK aV q 11 with | some k => fun j => ((kB.getD k []).getD j 0).toInt | none => fun _ => 0) = _
        rw [if_neg c, g1]
      rw [eI]
      exact Int32.ofInt_toInt _
    · rw [e] at hq'; dsimp only at hq'; omega
  · rw [eK, eV, hB]
    exact hS
  · rw [hB]
    exact hZ
  · rw [hB]
    exact hF
end WP
theorem kB_ne : ∀ i : Nat, i < 11 → ∀ j : Nat, j < 11 → kL.getD i 0 = kL.getD j 0 → (∀ k : Nat, k < kL.getD i 0 → (kB.getD i []).getD k 0 = (kB.getD j []).getD k 0) → i = j := by decide +kernel
theorem kL_sm : ∀ i : Nat, i < 11 → kL.getD i 0 < 100 := by decide
theorem apart_of {b L : Nat} {xs : Nat → Int32} {aK aV : Nat → Nat} {s : State} (hX : va_X b L xs s s.heap) (hS : vk_S 11 kL kB aK aV (fun q => s.heap.size ≤ q) s s.heap) (hf : heapFits s = true) : apart b aK aV := by
  obtain ⟨h1, h2⟩ := hS
  refine ⟨h2, fun i j hi hj e => ?_, fun i j hi hj e => ?_, fun i hi => ⟨fun e => ?_, fun e => ?_⟩⟩
  · obtain ⟨-, -, -, ⟨c1, p1, -, -, -, p2, p3, -⟩⟩ := h1 i hi
    obtain ⟨-, -, -, ⟨c2, q1, -, -, -, q2, q3, -⟩⟩ := h1 j hj
    rw [e] at p1
    have ec : c1 = c2 := Option.some.inj (p1.symm.trans q1)
    subst ec
    have hl : kL.getD i 0 = kL.getD j 0 := by
      have w := p2.symm.trans q2
      have a := kL_sm i hi
      have c := kL_sm j hj
      have w1 := congrArg Int32.toInt w
      rw [Int32.toInt_ofNat_of_lt (by omega), Int32.toInt_ofNat_of_lt (by omega)] at w1
      omega
    refine kB_ne i hi j hj hl fun k hk => ?_
    have a := p3 k hk
    have c := q3 k (by omega)
    have := Option.some.inj (a.symm.trans c)
    exact Value.int.inj this
  · obtain ⟨-, -, ⟨cf, kf, fi, f, c1, -, -, p1, -, p2, -⟩, -⟩ := h1 i hi
    obtain ⟨-, -, -, ⟨c2, q1, q2, -, -⟩⟩ := h1 j hj
    rw [e] at p1
    have ec : c1 = c2 := Option.some.inj (p1.symm.trans q1)
    subst ec
    have lt := (Array.getElem?_eq_some_iff.mp p1)
    have hc : cellFits s c1 = true := by
      obtain ⟨l1, l2⟩ := lt
      rw [← l2]
      exact (Array.all_eq_true_iff_forall_mem.mp hf) _ (Array.getElem_mem l1)
    have hi2 : f.slot < c1.slots.size := (Array.getElem?_eq_some_iff.mp p2).1
    have h3 := (List.all_eq_true.mp hc) f.slot (List.mem_range.mpr hi2)
    rw [p2] at h3
    obtain ⟨w0, k, w1, comp, w2⟩ := q2
    have h4 : s.fitsSlot c1.cls c1.vm f.slot (.ref (aV i)) = true := h3
    have h5 : s.slotType? c1.cls c1.vm f.slot = some .byte := by
      unfold State.slotType?
      rw [w1]
      cases hv : c1.vm with
      | statics q => exact absurd hv (w0 q)
      | _ => simp [w2]
    unfold State.fitsSlot at h4
    rw [h5] at h4
    exact Bool.noConfusion h4
  · obtain ⟨-, -, ⟨cf, kf, fi, f, c1, -, -, p1, -, p2, -⟩, -⟩ := h1 i hi
    obtain ⟨scr, x1, x2, x3, x4, x5⟩ := hX
    rw [e] at p1
    have ec : c1 = scr := Option.some.inj (p1.symm.trans x1)
    subst ec
    have hi2 : f.slot < c1.slots.size := (Array.getElem?_eq_some_iff.mp p2).1
    have := x5 f.slot (by omega)
    rw [p2] at this
    cases this
  · obtain ⟨-, -, -, ⟨c1, p1, p2, -, -⟩⟩ := h1 i hi
    obtain ⟨scr, x1, x2, x3, x4, x5⟩ := hX
    rw [e] at p1
    have ec : c1 = scr := Option.some.inj (p1.symm.trans x1)
    subst ec
    obtain ⟨w0, k, w1, comp, w2⟩ := p2
    obtain ⟨v0, k', v1, comp', v2⟩ := x2
    have ek : k = k' := Option.some.inj (w1.symm.trans v1)
    subst ek
    rw [w2] at v2
    cases v2
