/-! an hour of a land -/
section HR
variable {μ : Mem} {I : Nat → Nat → Int} {a n : Nat} {l : Ld}
/-- the moving of one rope -/
def mvS (pl : Nat → Int) (r : Nat) (l : Ld) : Ld := if l 9 r = 0 then up2 l 8 r (dbL l r (bi (pl (l 10 (2 * r)).toNat = r)) (bi (pl (l 10 (2 * r + 1)).toNat = r))) else l
/-- the filling of one bucket -/
def flS (b : Nat) (l : Ld) : Ld := if l 9 (b / 2) = 0 ∧ l 12 b = 0 ∧ 0 < l 3 (l 10 b).toNat ∧ l 2 (l 10 b).toNat ≤ dpL l b then up2 (up2 l 12 b 1) 3 (l 10 b).toNat (l 3 (l 10 b).toNat - 1) else l
/-- the drinking of one bucket -/
def drS (b : Nat) (s : Ld × Int) : Ld × Int := if s.1 9 (b / 2) = 0 ∧ s.1 12 b ≠ 0 ∧ dpL s.1 b = 0 then (if thL s.1 (s.1 10 b).toNat then (up2 (up2 s.1 12 b 0) 5 (s.1 10 b).toNat (s.1 5 (s.1 10 b).toNat + 1), s.2 + 1) else (up2 (up2 s.1 12 b 0) 6 (s.1 10 b).toNat (s.1 6 (s.1 10 b).toNat + 1), s.2 + 1)) else s
/-- rows that an hour leaves as they are: all but stock, quenched, wasted, depth, filled; of the scalars all but the hour -/
def fxL (l m : Ld) : Prop := (∀ j : Nat, j ≠ 2 → m 0 j = l 0 j) ∧ m 1 = l 1 ∧ m 2 = l 2 ∧ m 4 = l 4 ∧ m 7 = l 7 ∧ m 9 = l 9 ∧ m 10 = l 10 ∧ m 11 = l 11
theorem fxL.rf : fxL l l := ⟨fun _ _ => rfl, rfl, rfl, rfl, rfl, rfl, rfl, rfl⟩
theorem fxL.tr {l m k : Ld} (h1 : fxL l m) (h2 : fxL m k) : fxL l k := ⟨fun j hj => (h2.1 j hj).trans (h1.1 j hj), h2.2.1.trans h1.2.1, h2.2.2.1.trans h1.2.2.1, h2.2.2.2.1.trans h1.2.2.2.1, h2.2.2.2.2.1.trans h1.2.2.2.2.1, h2.2.2.2.2.2.1.trans h1.2.2.2.2.2.1, h2.2.2.2.2.2.2.1.trans h1.2.2.2.2.2.2.1, h2.2.2.2.2.2.2.2.trans h1.2.2.2.2.2.2.2⟩
theorem up2_row {α : Type} {f : Nat → Nat → α} {a k b : Nat} {x : α} (h : b ≠ a) : up2 f a k x b = f b := up2_ne f a k x h
theorem fx_up {l : Ld} {k i : Nat} {x : Int} (h : k = 3 ∨ k = 5 ∨ k = 6 ∨ k = 8 ∨ k = 12) : fxL l (up2 l k i x) := ⟨fun j _ => up2_n (by omega), up2_row (by omega), up2_row (by omega), up2_row (by omega), up2_row (by omega), up2_row (by omega), up2_row (by omega), up2_row (by omega)⟩
theorem mvS_fx (pl : Nat → Int) (r : Nat) (l : Ld) : fxL l (mvS pl r l) := by
  unfold mvS
  split
  · exact fx_up (by omega)
  · exact fxL.rf
theorem flS_fx (b : Nat) (l : Ld) : fxL l (flS b l) := by
  unfold flS
  split
  · exact (fx_up (k := 12) (by omega)).tr (fx_up (by omega))
  · exact fxL.rf
theorem drS_fx (b : Nat) (s : Ld × Int) : fxL s.1 (drS b s).1 := by
  unfold drS
  split
  · split
    · exact (fx_up (k := 12) (by omega)).tr (fx_up (by omega))
    · exact (fx_up (k := 12) (by omega)).tr (fx_up (by omega))
  · exact fxL.rf
/-- what is bounded stays so, where the rows that change keep their bounds -/
theorem okL.fx {l m : Ld} (hk : okL l) (hf : fxL l m) (h3 : ∀ h : Nat, (h : Int) < l 0 0 → 0 ≤ m 3 h ∧ m 3 h ≤ 99) (h8 : ∀ r : Nat, (r : Int) < l 0 1 → 0 ≤ m 8 r ∧ m 8 r ≤ l 7 r) (h12 : ∀ b : Nat, (b : Int) < 2 * l 0 1 → m 12 b = 0 ∨ m 12 b = 1) : okL m := by
  obtain ⟨f0, f1, f2, f4, f7, f9, f10, f11⟩ := hf
  obtain ⟨k0, k1, k2, k3⟩ := hk
  have e0 := f0 0 (by omega)
  have e1 := f0 1 (by omega)
  have e3 := f0 3 (by omega)
  have e4 := f0 4 (by omega)
  refine ⟨by omega, fun h hh => ?_, fun r hr => ?_, fun b hb => ?_⟩
  · have g := k1 h (by omega)
    have g2 := h3 h (by omega)
    rw [f1, f2, f4]
    omega
  · have g := k2 r (by omega)
    have g2 := h8 r (by omega)
    rw [f7, f9, f10]
    omega
  · have g := k3 b (by omega)
    have g2 := h12 b (by omega)
    rw [f10, f11, e0]
    omega
theorem mvS_ok (pl : Nat → Int) {r : Nat} (hk : okL l) (hr : (r : Int) < l 0 1) : okL (mvS pl r l) := by
  refine hk.fx (mvS_fx pl r l) (fun h hh => ?_) (fun q hq => ?_) (fun b hb => ?_)
  · have g := hk.2.1 h hh
    unfold mvS
    split
    · rw [up2_n (by omega)]; omega
    · omega
  · have g := hk.2.2.1 q hq
    unfold mvS
    split
    · by_cases e : q = r
      · subst e
        rw [up2_s]
        exact db_range hk hr _ _
      · rw [up2_n (by omega)]; omega
    · omega
  · have g := hk.2.2.2 b hb
    unfold mvS
    split
    · rw [up2_n (by omega)]; omega
    · omega
theorem flS_ok {b : Nat} (hk : okL l) (hb : (b : Int) < 2 * l 0 1) : okL (flS b l) := by
  have e := hk.2.2.2 b hb
  refine hk.fx (flS_fx b l) (fun h hh => ?_) (fun q hq => ?_) (fun c hc => ?_)
  · have g := hk.2.1 h hh
    unfold flS
    split
    · by_cases e : h = (l 10 b).toNat
      · subst e
        rw [up2_s]; omega
      · rw [up2_n (by omega), up2_n (by omega)]; omega
    · omega
  · have g := hk.2.2.1 q hq
    unfold flS
    split
    · rw [up2_n (by omega), up2_n (by omega)]; omega
    · omega
  · have g := hk.2.2.2 c hc
    unfold flS
    split
    · rw [up2_n (by omega)]
      by_cases e : c = b
      · subst e; rw [up2_s]; omega
      · rw [up2_n (by omega)]; omega
    · omega
theorem drS_ok {b : Nat} {s : Ld × Int} (hk : okL s.1) (hb : (b : Int) < 2 * s.1 0 1) : okL (drS b s).1 := by
  refine hk.fx (drS_fx b s) (fun h hh => ?_) (fun q hq => ?_) (fun c hc => ?_)
  · have g := hk.2.1 h hh
    unfold drS
    split
    · split
      · dsimp only; rw [up2_n (by omega), up2_n (by omega)]; omega
      · dsimp only; rw [up2_n (by omega), up2_n (by omega)]; omega
    · omega
  · have g := hk.2.2.1 q hq
    unfold drS
    split
    · split
      · dsimp only; rw [up2_n (by omega), up2_n (by omega)]; omega
      · dsimp only; rw [up2_n (by omega), up2_n (by omega)]; omega
    · omega
  · have g := hk.2.2.2 c hc
    unfold drS
    split
    · split
      · dsimp only; rw [up2_n (by omega)]
        by_cases e : c = b
        · subst e; rw [up2_s]; omega
        · rw [up2_n (by omega)]; omega
      · dsimp only; rw [up2_n (by omega)]
        by_cases e : c = b
        · subst e; rw [up2_s]; omega
        · rw [up2_n (by omega)]; omega
    · omega
theorem fill_eq (h : isL μ a) (hk : okL l) (hn : 100 ≤ n) : mX1_fill n a (wi μ (wl I a l)) = some ((), wi μ (wl I a (itr flS 0 (2 * (l 0 1).toNat) l))) := by
  have hz := hk.1
  unfold mX1_fill
  refine lp_run (fun k _ => (k : Int)) (fun _ s => wi μ (wl I a s)) flS (2 * (l 0 1).toNat) (fun s => some ((), wi μ (wl I a s))) (fun _ s => okL s ∧ fxL l s) (fun k s nx hlt hi => ?_) (fun s nx hi => ?_) (2 * (l 0 1).toNat) 0 l n (by omega) (by omega) ⟨hk, fxL.rf⟩
  · obtain ⟨hs, hf⟩ := hi
    have hz' := hs.1
    have e1 := hf.1 1 (by omega)
    have hb : (k : Int) < 2 * s 0 1 := by omega
    refine ⟨⟨flS_ok hs hb, hf.tr (flS_fx k s)⟩, ?_⟩
    have g := hs.2.2.2 k hb
    have g2 := hs.2.2.1 (k / 2) (by omega)
    have g3 := hs.2.1 (s 10 k).toNat (by omega)
    have g4 := dp_range hs hb
    simp (disch := omega) only [L_gI h, wl_0, Option.bind_some, lt32_iff, L_g15 h, L_ld10 h, wl_at, Int.toNat_natCast, L_g14 h, oDiv_of, L_ld9 h, tnd, eq32_iff, L_g17 h, L_ld12 h, L_g8 h, L_ld3 h, L_inv h, depthOf_eq h hs hb, L_g7 h, L_ld2 h]
    rw [if_pos (by omega)]
    unfold flS
    by_cases c1 : s 9 (k / 2) = 0
    · rw [if_pos c1]
      by_cases c2 : s 12 k = 0
      · rw [if_pos c2]
        by_cases c3 : 0 < s 3 (s 10 k).toNat
        · rw [if_pos c3]
          by_cases c4 : dpL s k < s 2 (s 10 k).toNat
          · rw [if_pos c4, if_neg (by omega)]; rfl
          · rw [if_neg c4, if_pos ⟨c1, c2, c3, by omega⟩]
            simp (disch := omega) only [L_st12 h, Option.bind_some, wl_up, L_g8 h, L_ld3 h, L_st3 h, wl_at, Int.toNat_natCast, up2_n]
            rfl
        · rw [if_neg c3, if_neg (by omega)]; rfl
      · rw [if_neg c2, if_neg (by omega)]; rfl
    · rw [if_neg c1, if_neg (by omega)]; rfl
  · obtain ⟨hs, hf⟩ := hi
    have hz' := hs.1
    have e1 := hf.1 1 (by omega)
    simp (disch := omega) only [L_gI h, wl_0, Option.bind_some, lt32_iff]
    rw [if_neg (by omega)]
theorem drink_eq (h : isL μ a) (hk : okL l) (hn : 100 ≤ n) : mX1_drink n a (wi μ (wl I a l)) = some ((itr drS 0 (2 * (l 0 1).toNat) (l, 0)).2, wi μ (wl I a (itr drS 0 (2 * (l 0 1).toNat) (l, 0)).1)) := by
  have hz := hk.1
  unfold mX1_drink
  refine lp_run (fun k s => (s.2, (k : Int))) (fun _ s => wi μ (wl I a s.1)) drS (2 * (l 0 1).toNat) (fun s => some (s.2, wi μ (wl I a s.1))) (fun _ s => okL s.1 ∧ fxL l s.1) (fun k s nx hlt hi => ?_) (fun s nx hi => ?_) (2 * (l 0 1).toNat) 0 (l, 0) n (by omega) (by omega) ⟨hk, fxL.rf⟩
  · obtain ⟨hs, hf⟩ := hi
    have hz' := hs.1
    have e1 := hf.1 1 (by omega)
    have hb : (k : Int) < 2 * s.1 0 1 := by omega
    refine ⟨⟨drS_ok hs hb, hf.tr (drS_fx k s)⟩, ?_⟩
    have g := hs.2.2.2 k hb
    have g2 := hs.2.2.1 (k / 2) (by omega)
    have g3 := hs.2.1 (s.1 10 k).toNat (by omega)
    have g4 := dp_range hs hb
    simp (disch := omega) only [L_gI h, wl_0, Option.bind_some, lt32_iff, L_g15 h, L_ld10 h, wl_at, Int.toNat_natCast, L_g14 h, oDiv_of, L_ld9 h, tnd, eq32_iff, L_g17 h, L_ld12 h, L_inv h, depthOf_eq h hs hb]
    rw [if_pos (by omega)]
    unfold drS
    by_cases c1 : s.1 9 (k / 2) = 0
    · rw [if_pos c1]
      by_cases c2 : s.1 12 k = 0
      · rw [if_pos c2, if_neg (by omega)]; rfl
      · rw [if_neg c2]
        by_cases c3 : dpL s.1 k = 0
        · rw [if_pos c3, if_pos ⟨c1, c2, c3⟩]
          have et : thL (up2 s.1 12 k 0) (s.1 10 k).toNat ↔ thL s.1 (s.1 10 k).toNat := by
            unfold thL
            rw [up2_n (by omega), up2_n (by omega)]
          simp (disch := omega) only [L_st12 h, Option.bind_some, wl_up, thirstsNow_eq h, L_inv h, Int.toNat_natCast, eq32_bi, L_g11 h, L_ld6 h, L_st6 h, L_g10 h, L_ld5 h, L_st5 h, wl_at, et]
          by_cases c4 : thL s.1 (s.1 10 k).toNat
          · rw [if_neg (not_not_intro c4), if_pos c4, up2_n (by omega)]; rfl
          · rw [if_pos c4, if_neg c4, up2_n (by omega)]; rfl
        · rw [if_neg c3, if_neg (fun z => c3 z.2.2)]; rfl
    · rw [if_neg c1, if_neg (fun z => c1 z.1)]; rfl
  · obtain ⟨hs, hf⟩ := hi
    have hz' := hs.1
    have e1 := hf.1 1 (by omega)
    simp (disch := omega) only [L_gI h, wl_0, Option.bind_some, lt32_iff]
    rw [if_neg (by omega)]
/-- an hour: who pulls what stands in pl -/
def mvL (pl : Nat → Int) (l : Ld) : Ld := itr (mvS pl) 0 (l 0 1).toNat l
def flL (l : Ld) : Ld := itr flS 0 (2 * (l 0 1).toNat) l
def drL (l : Ld) : Ld × Int := itr drS 0 (2 * (l 0 1).toNat) (l, 0)
def goL (pl : Nat → Int) (l : Ld) : Ld × Int := let q := drL (flL (mvL pl l)); (if q.1 0 2 < 9999 then up2 q.1 0 2 (q.1 0 2 + 1) else q.1, q.2)
theorem mvL_ok (pl : Nat → Int) (hk : okL l) : okL (mvL pl l) ∧ fxL l (mvL pl l) := by
  have hz := hk.1
  refine itr_inv (P := fun _ s => okL s ∧ fxL l s) (l 0 1).toNat 0 l ⟨hk, fxL.rf⟩ (fun j s _ h2 hi => ?_)
  have e1 := hi.2.1 1 (by omega)
  exact ⟨mvS_ok pl hi.1 (by omega), hi.2.tr (mvS_fx pl j s)⟩
theorem flL_ok (hk : okL l) : okL (flL l) ∧ fxL l (flL l) := by
  have hz := hk.1
  refine itr_inv (P := fun _ s => okL s ∧ fxL l s) (2 * (l 0 1).toNat) 0 l ⟨hk, fxL.rf⟩ (fun j s _ h2 hi => ?_)
  have e1 := hi.2.1 1 (by omega)
  exact ⟨flS_ok hi.1 (by omega), hi.2.tr (flS_fx j s)⟩
theorem drL_ok (hk : okL l) : okL (drL l).1 ∧ fxL l (drL l).1 := by
  have hz := hk.1
  refine itr_inv (step := drS) (P := fun _ s => okL s.1 ∧ fxL l s.1) (2 * (l 0 1).toNat) 0 (l, 0) ⟨hk, fxL.rf⟩ (fun j s _ h2 hi => ?_)
  have e1 := hi.2.1 1 (by omega)
  exact ⟨drS_ok hi.1 (by omega), hi.2.tr (drS_fx j s)⟩
theorem goL_ok (pl : Nat → Int) (hk : okL l) : okL (goL pl l).1 ∧ fxL l (goL pl l).1 := by
  obtain ⟨h1, f1⟩ := mvL_ok pl hk
  obtain ⟨h2, f2⟩ := flL_ok h1
  obtain ⟨h3, f3⟩ := drL_ok h2
  have f := (f1.tr f2).tr f3
  unfold goL
  dsimp only
  split
  · have g : fxL (drL (flL (mvL pl l))).1 (up2 (drL (flL (mvL pl l))).1 0 2 ((drL (flL (mvL pl l))).1 0 2 + 1)) := ⟨fun j hj => up2_n (by omega), up2_row (by omega), up2_row (by omega), up2_row (by omega), up2_row (by omega), up2_row (by omega), up2_row (by omega), up2_row (by omega)⟩
    refine ⟨h3.fx g (fun h hh => ?_) (fun r hr => ?_) (fun b hb => ?_), f.tr g⟩
    · have := h3.2.1 h hh
      rw [up2_n (by omega)]; omega
    · have := h3.2.2.1 r hr
      rw [up2_n (by omega)]; omega
    · have := h3.2.2.2 b hb
      rw [up2_n (by omega)]; omega
  · exact ⟨h3, f⟩
theorem goOn_eq (h : isL μ a) (hk : okL l) (hh : -2147483648 ≤ l 0 2 ∧ l 0 2 < 2147483648) {p : Nat} (hp : mS μ p = (20, 10)) (hpa : p < a ∨ a + 12 < p) (hpl : ∀ k : Nat, k < 10 → -2147483648 ≤ I p k ∧ I p k < 2147483648) (hn : 100 ≤ n) : mX1_goOn n a p (wi μ (wl I a l)) = some ((goL (I p) l).2, wi μ (wl I a (goL (I p) l).1)) := by
  have hz := hk.1
  unfold mX1_goOn
  refine (lp_run (fun k _ => (k : Int)) (fun _ s => wi μ (wl I a s)) (mvS (I p)) (l 0 1).toNat (fun s => some ((let q := drL (flL s); (if q.1 0 2 < 9999 then up2 q.1 0 2 (q.1 0 2 + 1) else q.1, q.2)).2, wi μ (wl I a (let q := drL (flL s); (if q.1 0 2 < 9999 then up2 q.1 0 2 (q.1 0 2 + 1) else q.1, q.2)).1))) (fun _ s => okL s ∧ fxL l s ∧ s 0 2 = l 0 2) (fun k s nx hlt hi => ?_) (fun s nx hi => ?_) (l 0 1).toNat 0 l n (by omega) (by omega) ⟨hk, fxL.rf, rfl⟩).trans rfl
  · obtain ⟨hs, hf, h2⟩ := hi
    have hz' := hs.1
    have e1 := hf.1 1 (by omega)
    have hr : (k : Int) < s 0 1 := by omega
    refine ⟨⟨mvS_ok _ hs hr, hf.tr (mvS_fx _ k s), ?_⟩, ?_⟩
    · unfold mvS
      split
      · rw [up2_n (by omega)]; exact h2
      · exact h2
    have g := hs.2.2.2 (2 * k) (by omega)
    have g' := hs.2.2.2 (2 * k + 1) (by omega)
    have g2 := hs.2.2.1 k hr
    have p1 := hpl (s 10 (2 * k)).toNat (by omega)
    have p2 := hpl (s 10 (2 * k + 1)).toNat (by omega)
    simp (disch := omega) only [L_gI h, wl_0, Option.bind_some, lt32_iff, L_g14 h, L_ld9 h, wl_at, Int.toNat_natCast, eq32_iff, L_g13 h, L_g15 h, L_ld10 h, tn2, tn3, e_ldI (t := 0) hp, wl_out hpa, jn]
    rw [if_pos (by omega)]
    unfold mvS
    by_cases c1 : s 9 k = 0
    · rw [if_pos c1, if_pos c1]
      by_cases c2 : I p (s 10 (2 * k)).toNat = k
      · rw [if_pos c2, bi_t c2]
        by_cases c3 : I p (s 10 (2 * k + 1)).toNat = k
        · rw [if_pos c3, bi_t c3]
          simp (disch := omega) only [L_inv h, depthBehind_eq h hs hr (Or.inr rfl) (Or.inr rfl), Option.bind_some, L_st8 h, wl_up, Int.toNat_natCast]
          rfl
        · rw [if_neg c3, bi_f c3]
          simp (disch := omega) only [L_inv h, depthBehind_eq h hs hr (Or.inr rfl) (Or.inl rfl), Option.bind_some, L_st8 h, wl_up, Int.toNat_natCast]
          rfl
      · rw [if_neg c2, bi_f c2]
        by_cases c3 : I p (s 10 (2 * k + 1)).toNat = k
        · rw [if_pos c3, bi_t c3]
          simp (disch := omega) only [L_inv h, depthBehind_eq h hs hr (Or.inl rfl) (Or.inr rfl), Option.bind_some, L_st8 h, wl_up, Int.toNat_natCast]
          rfl
        · rw [if_neg c3, bi_f c3]
          simp (disch := omega) only [L_inv h, depthBehind_eq h hs hr (Or.inl rfl) (Or.inl rfl), Option.bind_some, L_st8 h, wl_up, Int.toNat_natCast]
          rfl
    · rw [if_neg c1, if_neg c1]
      rfl
  · obtain ⟨hs, hf, h2⟩ := hi
    have hz' := hs.1
    have e1 := hf.1 1 (by omega)
    obtain ⟨k1, f1⟩ := flL_ok hs
    obtain ⟨k2, f2⟩ := drL_ok k1
    have eh : (drL (flL s)).1 0 2 = s 0 2 := by
      have q1 : (flL s) 0 2 = s 0 2 := itr_inv (P := fun _ z => z 0 2 = s 0 2) (2 * (s 0 1).toNat) 0 s rfl (fun j z _ _ hz => by
        unfold flS
        split
        · rw [up2_n (by omega), up2_n (by omega)]; exact hz
        · exact hz)
      have q2 : (drL (flL s)).1 0 2 = (flL s) 0 2 := itr_inv (step := drS) (P := fun _ z => z.1 0 2 = (flL s) 0 2) (2 * (flL s 0 1).toNat) 0 (flL s, 0) rfl (fun j z _ _ hz => by
        unfold drS
        split
        · split
          · dsimp only; rw [up2_n (by omega), up2_n (by omega)]; exact hz
          · dsimp only; rw [up2_n (by omega), up2_n (by omega)]; exact hz
        · exact hz)
      exact q2.trans q1
    have e3 : (flL s) = itr flS 0 (2 * (s 0 1).toNat) s := rfl
    have e4 : drL (flL s) = itr drS 0 (2 * (flL s 0 1).toNat) (flL s, 0) := rfl
    simp (disch := omega) only [L_gI h, wl_0, Option.bind_some, lt32_iff, L_inv h, fill_eq h hs hn, ← e3, drink_eq h k1 hn, ← e4]
    rw [if_neg (by omega)]
    by_cases c : (drL (flL s)).1 0 2 < 9999
    · rw [if_pos c, if_pos c]
      simp only [L_pI h, wl_up0, Option.bind_some]
    · rw [if_neg c, if_neg c]
end HR
