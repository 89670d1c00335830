/-! the law's walk, from its entry to its end -/
def R_law : String := "TwoWellsLaw"
def lw_P (b : Addr) (xs : List Int32) (args : Array Value) (s : State) : Prop := args = #[.ref b] ∧ s.IntsAt b xs ∧ xs.length ≤ 3072 ∧ (Jvm.Cond.and given_1 narrow_1).before args s = true ∧ heapFits s = true
def lw_Q (_ : Array Value) (s : State) (o : Outcome) (t : State) : Prop := o = .returned (some (.int 1)) ∧ Framed s o t [] 600000 7302250
def lw_Z (below : List Frame) (a : Array Value) (s : State) : State → Prop := fun t => ∃ o, t.status = .running ∧ Ended t below o ∧ lw_Q a s o t
theorem fr_end {s t : State} {o : Outcome} {L : List Loc} {k n : Nat} (h : FrameEnd s o t L k n) (hb : ∀ q ∈ L, s.heap.size ≤ q.base) (hk : k ≤ 600000) (hn : n ≤ 7302250) : Framed s o t [] 600000 7302250 := by
  obtain ⟨h1, h2, h3⟩ := h
  obtain ⟨a1, a2, a3, a4, a5, a6⟩ := h3.mono hk hn
  refine ⟨h1, h2, a1, a2, a3, a4, a5, fun a c hc => ?_⟩
  obtain ⟨c', x1, x2, x3, x4⟩ := a6 a c hc
  refine ⟨c', x1, x2, x3, fun i _ => x4 i fun hm => ?_⟩
  have := hb _ hm
  have lt := (Array.getElem?_eq_some_iff.mp hc).1
  exact absurd lt (Nat.not_lt.mpr this)
def lw_At (p : Program) (s : State) (m : MethodId) (meth : Method) (c : Code) (b L : Nat) (xs : Nat → Int32) : Prop :=
  p.tables.exec = Jvm.exec ∧ c.code = code ∧ meth.sig.returnType = ret ∧ c.maxLocals = 4 ∧ s.vm.findClass R_law = some m.cls ∧ (∀ w ∈ lw_tbl, w.before #[Value.ref b] s = true) ∧ va_X b L xs s s.heap ∧ b < s.heap.size ∧ meth.locks = false ∧ (Jvm.Cond.and given_1 narrow_1).before #[Value.ref b] s = true ∧ heapFits s = true
theorem whole_start {p : Program} {e : Env} {s : State} {m : MethodId} {below : List Frame} {meth : Method} {c : Code} (l : Launch) {b L : Nat} {xs : Nat → Int32} (hL : L ≤ 3072) (C0 : lw_At p s m meth c b L xs) : W p l e room_1 s m #[Value.ref b] below meth c s.heap [] 0 0 (lw_Z below #[Value.ref b] s) (entryFrame m ([Value.ref b] : List Value).toArray 4) := by
  obtain ⟨hx, hb, hr, hml, hown, hts, hX, hbl, hlocks, hgv, hfit⟩ := C0
  have hs : ∀ c ∈ zlS, c.before #[Value.ref b] s = true := flat_of_before _ hgv
  have hA : ∀ a : Nat, a < s.heap.size → ¬ (fun q : Nat => s.heap.size ≤ q) a := fun a h => Nat.not_le.mpr h
  obtain ⟨aK, aV, hS, hE⟩ := vk_Sof (A := fun q : Nat => s.heap.size ≤ q) (tm := tmT) (len := kL) (byt := kB) (N := 11) (args := #[Value.ref b]) (s := s) (fun i hi => Nat.lt_trans (kL_sm i hi) (by decide)) (fun i hi => hs _ (in_x i hi)) (fun i hi => hs _ (in_c i hi)) (fun i hi => hs _ (in_r i hi)) (fun i hi => hs _ (in_l i hi)) (fun i hi j hj => hs _ (in_e i hi j hj)) (fun i j hi hj hij => (in_n i hi j hj hij).imp (fun h => hs _ h) (fun h => hs _ h)) hA
  have hZ : va_Z "java/lang/String" "COMPACT_STRINGS" "Z" (.int 1) (fun q => s.heap.size ≤ q) s s.heap := va_Zof (hts _ tb_z.1.1) (hts _ tb_z.1.2) (va_eqi (hs _ in_z)) hA
  obtain ⟨fm, hF⟩ : ∃ fm : Nat, va_Z "jdk/internal/util/Preconditions" "SIOOBE_FORMATTER" "Ljava/util/function/BiFunction;" (rv fm) (fun q => s.heap.size ≤ q) s s.heap := by
    rcases va_Zqof (hts _ tb_z.2.1) (hts _ tb_z.2.2) (hs _ in_f) hA with h | ⟨t, h⟩
    · exact ⟨0, h⟩
    · exact ⟨t + 1, h⟩
  obtain ⟨Γ, hK, eK, eV, eB⟩ := start_K (aV := aV) hts hE
  have hap := apart_of hX hS hfit
  have kv : ∀ k : Nat, k < 11 → aK k < s.heap.size ∧ aV k < s.heap.size := fun k hk => by
    obtain ⟨⟨c1, -, -, -, g1⟩, -, -, ⟨c2, -, -, -, -, -, -, g2⟩⟩ := hS.1 k hk
    exact ⟨Nat.not_le.mp g1, Nat.not_le.mp g2⟩
  have hH : HH Γ (zM b L xs aK aV fm s.heap.size) s s.heap := zH hX hbl eB rfl eK eV hS hZ hF
  obtain ⟨ν, eL1, eN1, eW1⟩ := law_1 (n := 20000) (a := b + 1) (L := L) (μ := zM b L xs aK aV fm s.heap.size) (Nat.le_refl _) hL (by show b + 1 ≤ s.heap.size; omega) zS_b (fun j hj => by
    have e1 : mI (zM b L xs aK aV fm s.heap.size) (b + 1) = fun j => (xs j).toInt := if_pos rfl
    rw [e1]
    exact ⟨Int32.le_toInt _, Int32.toInt_lt _⟩) (zX hap fun k hk => (kv k hk).2) (fun k hk => by
    have a0 : mA (zM b L xs aK aV fm s.heap.size) 0 k = aK k + 1 := if_neg (by omega)
    rw [a0]
    have := (kv k hk).1
    show aK k + 1 < s.heap.size + 1
    omega) (fun q _ => by
    cases q with
    | zero => show (0 : Nat) ≠ 2; decide
    | succ q =>
      show (zS b L aK aV (q + 1)).1 ≠ 2
      rcases zS_cs (b := b) (L := L) (aK := aK) (aV := aV) q with ⟨-, e⟩ | ⟨-, k, -, -, -, e⟩ | ⟨-, k, -, -, -, e⟩ | e <;> rw [e] <;> dsimp only <;> omega)
  have hN0 : mN (zM b L xs aK aV fm s.heap.size) = s.heap.size := rfl
  have hW0 : mW (zM b L xs aK aV fm s.heap.size) = 0 := rfl
  have hl := lv_entry ([.ref b]) (n := 4) (Nat.le_of_ble_eq_true rfl)
  rw [lg_entry_eq]
  generalize (lg_sl ([.ref b]) ++ List.replicate (4 - (lg_sl ([.ref b])).length) Slot.unset).toArray = ls at hl ⊢
  have hl : lv_has ls 4 [(0, .ref b)] := hl
  have hv : Lv ls 4 [some (aA (b + 1)), none, none, none] := by
    refine ⟨hl.1, hl.2.1, fun i v hi => ?_⟩
    match i, hi with
    | 0, hi => cases hi; exact hl.2.2 _ List.mem_cons_self
    | 1, hi => cases hi
    | 2, hi => cases hi
    | 3, hi => cases hi
    | i + 4, hi => simp at hi
  have hgo := (sL_law 20000 (b + 1) (zM b L xs aK aV fm s.heap.size) meth.name (p, l, e, room_1, s, m, #[Value.ref b], below, meth, c) Γ 1 ν eL1).2 ⟨hx, hb, hml, hown, fun w hw => hts w (List.mem_filter.mp hw).1, hK, hr, hlocks, (show 63 ≤ room_1.frames by decide), (show 1656 ≤ room_1.locals by decide), rfl⟩ ⟨Nat.le_refl _, Nat.le_refl _, by
    show mN ν - mN (zM b L xs aK aV fm s.heap.size) ≤ 600000
    omega, by
    show mW ν - mW (zM b L xs aK aV fm s.heap.size) ≤ 7302250
    omega⟩ s.heap [] ls hH (fun q hq => by cases hq) hv
  rw [Nat.sub_self, Nat.sub_self] at hgo
  intro T hT X
  obtain ⟨t, a1, o, b1, b2, b3, L', b4, b5⟩ := hgo T hT X
  refine ⟨t, a1, o, b1, b2, b3.1, fr_end b4 (fun q hq => ?_) (by omega) (by omega)⟩
  have := b5 q hq
  rw [eB] at this
  exact this
