/-! what the tables and the start give -/
theorem ra_p {args : Array Value} {s : State} {t : FieldType} (h : (Cond.arrayClass t).before args s = true) (ho : ∀ C : String, t ≠ .object C) : ∃ c : ClassId, ArrOfT s c t ∧ va_RA s c t := by
  obtain ⟨c, k, comp, g1, g2, g3⟩ := Cond.arrayClass_spec h
  have ha : ArrOfT s c t := fun n z => ⟨fun q w => (by cases w), k, g2, comp, g3⟩
  refine ⟨c, ha, ?_⟩
  cases t
  case object C => exact absurd rfl (ho C)
  all_goals exact g1
theorem ra_o {args : Array Value} {s : State} {C : String} (h : (Cond.arrayOver (.object C)).before args s = true) : ∃ c : ClassId, ArrOfT s c (.object C) ∧ va_RA s c (.object C) := by
  obtain ⟨comp, c, k, g1, -, g2, g3, g4⟩ := Cond.arrayOver_spec h
  have ha : ArrOfT s c (.object C) := fun n z => ⟨fun q w => (by cases w), k, g2, comp, g3⟩
  exact ⟨c, ha, k, comp, g2, g3, g1, g4⟩
theorem ra_a {args : Array Value} {s : State} {t : FieldType} (h : (Cond.arrayOver (.array t)).before args s = true) : ∃ c : ClassId, ArrOfT s c (.array t) ∧ va_RA s c (.array t) := by
  obtain ⟨comp, c, k, -, -, g2, g3, g4⟩ := arrayOverA_spec h
  have ha : ArrOfT s c (.array t) := fun n z => ⟨fun q w => (by cases w), k, g2, comp, g3⟩
  exact ⟨c, ha, g4⟩
/-- the texts as terms -/
def tmT (k : Nat) : Term := match kT[k]? with
  | some q => .string q.1 q.2.1
  | none => .string "" 0
def zlS : List Cond := flatC (Jvm.Cond.and given_1 narrow_1)
theorem in_x : ∀ i : Nat, i < 11 → (Cond.exactly (tmT i) "java/lang/String") ∈ zlS := by decide +kernel
theorem in_c : ∀ i : Nat, i < 11 → (Cond.eq (.field (tmT i) "java/lang/String" "coder" "B") (.int 0)) ∈ zlS := by decide +kernel
theorem in_r : ∀ i : Nat, i < 11 → (Cond.arrayOf (.field (tmT i) "java/lang/String" "value" "[B") .byte) ∈ zlS := by decide +kernel
theorem in_l : ∀ i : Nat, i < 11 → (Cond.eq (.length (.field (tmT i) "java/lang/String" "value" "[B")) (.int (Int32.ofNat (kL.getD i 0)))) ∈ zlS := by decide +kernel
theorem in_e : ∀ i : Nat, i < 11 → ∀ j : Nat, j < kL.getD i 0 → (Cond.eq (.elem (.field (tmT i) "java/lang/String" "value" "[B") (.int (Int32.ofNat j))) (.int ((kB.getD i []).getD j 0))) ∈ zlS := by decide +kernel
theorem in_n : ∀ i : Nat, i < 11 → ∀ j : Nat, j < 11 → i ≠ j → (Cond.not (Cond.eq (tmT i) (tmT j))) ∈ zlS ∨ (Cond.not (Cond.eq (tmT j) (tmT i))) ∈ zlS := by decide +kernel
theorem in_z : (Cond.eq (.static "java/lang/String" "COMPACT_STRINGS" "Z") (.int 1)) ∈ zlS := by decide +kernel
theorem in_f : (Cond.isRef (.static "jdk/internal/util/Preconditions" "SIOOBE_FORMATTER" "Ljava/util/function/BiFunction;")) ∈ zlS := by decide +kernel
theorem tb_s : ∀ q ∈ kT, (Cond.stringRef q.1 q.2.1 q.2.2) ∈ lw_tbl := by decide +kernel
theorem tb_n : ∀ q ∈ nT, (Cond.methodLinkNest q.1 q.2.1 q.2.2 "TwoWells") ∈ lw_tbl := by decide +kernel
theorem tb_a : (Cond.arrayClass .int ∈ lw_tbl ∧ Cond.arrayClass .byte ∈ lw_tbl) ∧ (Cond.arrayClass .boolean ∈ lw_tbl ∧ Cond.arrayClass .long ∈ lw_tbl) ∧ (Cond.arrayOver (.object "TwoWells$Land") ∈ lw_tbl ∧ Cond.arrayOver (.object "TwoWells$NumberRow") ∈ lw_tbl) ∧ Cond.arrayOver (.array .int) ∈ lw_tbl := by decide +kernel
theorem tb_z : (Cond.laysStatic "java/lang/String" "COMPACT_STRINGS" "Z" ∈ lw_tbl ∧ Cond.initialized "java/lang/String" ∈ lw_tbl) ∧ Cond.laysStatic "jdk/internal/util/Preconditions" "SIOOBE_FORMATTER" "Ljava/util/function/BiFunction;" ∈ lw_tbl ∧ Cond.initialized "jdk/internal/util/Preconditions" ∈ lw_tbl := by decide +kernel
theorem tb_i : ∀ q ∈ vwCl, Cond.instantiable q.1 q.2.2 ∈ lw_tbl := by
  refine List.forall_mem_cons.mpr ⟨by decide +kernel, List.forall_mem_cons.mpr ⟨by decide +kernel, List.forall_mem_cons.mpr ⟨by decide +kernel, List.forall_mem_cons.mpr ⟨by decide +kernel, List.forall_mem_cons.mpr ⟨by decide +kernel, List.forall_mem_cons.mpr ⟨by decide +kernel, List.forall_mem_cons.mpr ⟨by decide +kernel, List.forall_mem_cons.mpr ⟨by decide +kernel, List.forall_mem_cons.mpr ⟨by decide +kernel, List.forall_mem_cons.mpr ⟨by decide +kernel, List.forall_mem_cons.mpr ⟨by decide +kernel, List.forall_mem_cons.mpr ⟨by decide +kernel, fun _ h => absurd h List.not_mem_nil⟩⟩⟩⟩⟩⟩⟩⟩⟩⟩⟩⟩
theorem start_K {args : Array Value} {s : State} {aK aV : Nat → Nat} (hts : ∀ w ∈ lw_tbl, w.before args s = true) (hE : ∀ i : Nat, i < 11 → (tmT i).eval args s none [] s = some (.ref (aK i))) : ∃ Γ : Gm, KK Γ s ∧ gK Γ = aK ∧ gV Γ = aV ∧ gB Γ = s.heap.size := by
  have hc : ∀ c : Nat, ∃ d : ClassId × (Nat → Nat), ∀ q : vw_C, vwCl[c]? = some q → u_Kn s q.1 q.2.1 q.2.2 d.1 d.2 := fun c => by
    cases hq : vwCl[c]? with
    | none => exact ⟨(0, fun _ => 0), fun q w => by cases w⟩
    | some q =>
      obtain ⟨cC, iS, hk⟩ := u_known (C := q.1) (T := q.2.1) (N := q.2.2) (n := q.2.2) hts (kc_all c q hq).1 (hts _ (tb_i q (List.mem_of_getElem? hq)))
      exact ⟨(cC, iS), fun q' w => by cases w; exact hk⟩
  obtain ⟨dd, hdd⟩ := Classical.axiomOfChoice hc
  obtain ⟨⟨t0, t1⟩, ⟨t2, t3⟩, ⟨t4, t5⟩, t6⟩ := tb_a
  have hr : ∀ t : Nat, ∃ c : ClassId, t < 7 → ArrOfT s c (elT t) ∧ va_RA s c (elT t) := fun t => by
    match t with
    | 0 => obtain ⟨c, h⟩ := ra_p (hts _ t0) (fun _ h => by cases h); exact ⟨c, fun _ => h⟩
    | 1 => obtain ⟨c, h⟩ := ra_p (hts _ t1) (fun _ h => by cases h); exact ⟨c, fun _ => h⟩
    | 2 => obtain ⟨c, h⟩ := ra_p (hts _ t2) (fun _ h => by cases h); exact ⟨c, fun _ => h⟩
    | 3 => obtain ⟨c, h⟩ := ra_p (hts _ t3) (fun _ h => by cases h); exact ⟨c, fun _ => h⟩
    | 4 => obtain ⟨c, h⟩ := ra_o (hts _ t4); exact ⟨c, fun _ => h⟩
    | 5 => obtain ⟨c, h⟩ := ra_o (hts _ t5); exact ⟨c, fun _ => h⟩
    | 6 => obtain ⟨c, h⟩ := ra_a (hts _ t6); exact ⟨c, fun _ => h⟩
    | t + 7 => exact ⟨0, fun h => absurd h (by omega)⟩
  obtain ⟨rr, hrr⟩ := Classical.axiomOfChoice hr
  refine ⟨((fun c => (dd c).1, fun c => (dd c).2), rr, aK, aV, s.heap.size), ⟨⟨fun c q hq => hdd c q hq, fun k q hq => ?_⟩, fun k q hq => ?_, fun q hq => va_Nw.of rfl (hts _ (tb_n q hq)), va_AO.of (hts _ t4), va_AO.of (hts _ t5), over_moved (Vm.Alike.refl _) (hts _ t6)⟩, rfl, rfl, rfl⟩
  · have lt : k < 7 := by
      have := (List.getElem?_eq_some_iff.mp hq).1
      unfold tyA at this
      rw [List.length_map, List.length_range] at this
      exact this
    rw [tyA_at _ lt] at hq
    cases hq
    exact hrr k lt
  · have lt : k < 11 := (List.getElem?_eq_some_iff.mp hq).1
    refine vk_R.of (hts _ (tb_s q (List.mem_of_getElem? hq))) ?_
    have := hE k lt
    unfold tmT at this
    rw [hq] at this
    exact this
