/-! the reference: all pulls from a code, with what they cost -/
def lfF (n m : Nat) (y c h b : Int) (ν : Mem) : Option (Unit × Mem) := (inv ν 12 m (mX11_becomes n m y h b ν)).bind fun p16 => (inv p16.2 12 m (mX11_goes n m p16.2)).bind fun p20 => (gA p20.2 12 m 1).bind fun x25 => (ldI p20.2 0 x25 (46 + h)).bind fun x33 => if eq32 x33 b then (inv p20.2 12 m (mX11_state n m h b p20.2)).bind fun p45 => (inv p45.2 12 m (mX11_meetsFor n m p45.1 c p45.2)).bind fun p50 => some ((), p50.2) else (gI p20.2 12 m 31).bind fun x57 => if eq32 x57 (-1) then (pI p20.2 12 m 31 c).bind fun μ76 => some ((), μ76) else (gI p20.2 12 m 31).bind fun x67 => if lt32 c x67 then (pI p20.2 12 m 31 c).bind fun μ76 => some ((), μ76) else some ((), p20.2)
def pfK (n m : Nat) (self : Nat × Int × Int × Int × Int × Int → Mem → Option (Unit × Mem)) (i y c h b : Int) (nx : Int → Mem → Option (Unit × Mem)) (v95 : Int) (x96 : Nat) (v118 : Int) (μ118 : Mem) : Option (Unit × Mem) := (stI μ118 0 x96 i v118).bind fun μ118 => if eq32 v95 0 then (inv μ118 12 m (self (m, (i + 1), y, c, h, b) μ118)).bind fun p130 => nx (v95 + 1) p130.2 else (inv μ118 12 m (self (m, (i + 1), y, c + 1, h, b) μ118)).bind fun p130 => nx (v95 + 1) p130.2
def pfJ (n m : Nat) (self : Nat × Int × Int × Int × Int × Int → Mem → Option (Unit × Mem)) (i y c h b : Int) (nx : Int → Mem → Option (Unit × Mem)) (v95 : Int) (μ95 : Mem) : Option (Unit × Mem) := (gA μ95 12 m 15).bind fun x96 => if eq32 v95 0 then pfK n m self i y c h b nx v95 x96 (-1) μ95 else (gA μ95 12 m 25).bind fun x110 => (ldI μ95 0 x110 (v95 - 1)).bind fun x117 => pfK n m self i y c h b nx v95 x96 x117 μ95
def pfB (n m : Nat) (self : Nat × Int × Int × Int × Int × Int → Mem → Option (Unit × Mem)) (i y c h b : Int) : (Int → Mem → Option (Unit × Mem)) → Int → Mem → Option (Unit × Mem) := fun nx61 v61 μ61 => (gI μ61 12 m 27).bind fun x64 => if lt32 x64 v61 then some ((), μ61) else if lt32 0 v61 then (gA μ61 12 m 25).bind fun x78 => (ldI μ61 0 x78 (v61 - 1)).bind fun x85 => (inv μ61 12 m (mX11_isEnd n m i x85 μ61)).bind fun p86 => if eq32 p86.1 0 then nx61 (v61 + 1) p86.2 else pfJ n m self i y c h b nx61 v61 p86.2 else pfJ n m self i y c h b nx61 v61 μ61
theorem pf_s {n m : Nat} {self : Nat × Int × Int × Int × Int × Int → Mem → Option (Unit × Mem)} {i y c h b : Int} (μ : Mem) : bX11_pullsFor n self (m, i, y, c, h, b) μ = ((gA μ 12 m 1).bind fun x2 => (ldI μ 0 x2 0).bind fun x6 => if eq32 i x6 then lfF n m y c h b μ else lp (pfB n m self i y c h b) n 0 μ) := rfl
section PD
variable {μ : Mem} {I : Nat → Nat → Int} {m n o H h : Nat} {ro : Nat → Nat} {l L : Ld} {b y : Int} {cst cst' : (Nat → Int) → Int} {E E' : Int → Int → Prop} {F F' : Int → Prop} {W W' : (Nat → Int) → Prop}
/-- how many of d houses from i on pull -/
def cn (p : Nat → Int) : Nat → Nat → Int
  | _, 0 => 0
  | i, d + 1 => (if p i = -1 then 0 else 1) + cn p (i + 1) d
theorem cn_rg (p : Nat → Int) : ∀ (d i : Nat), 0 ≤ cn p i d ∧ cn p i d ≤ (d : Int)
  | 0, i => ⟨Int.le_refl _, Int.le_refl _⟩
  | d + 1, i => by
    have := cn_rg p d (i + 1)
    show 0 ≤ (if p i = -1 then 0 else 1) + cn p (i + 1) d ∧ (if p i = -1 then 0 else 1) + cn p (i + 1) d ≤ ((d + 1 : Nat) : Int)
    split <;> omega
def EF (l : Ld) (o H h : Nat) (ro : Nat → Nat) (b y : Int) (cst : (Nat → Int) → Int) (E : Int → Int → Prop) (F : Int → Prop) (W : (Nat → Int) → Prop) : Prop := (∀ x c : Int, E x c → ∃ (p : Nat → Int) (L : Ld), W p ∧ lY l o H h ro b y L ∧ hd (goL p L).1 h - b < 1 ∧ x = kM o H h ro b (goL p L).1 ∧ c = cst p) ∧ (∀ c : Int, F c → ∃ (p : Nat → Int) (L : Ld), W p ∧ lY l o H h ro b y L ∧ ¬ hd (goL p L).1 h - b < 1 ∧ c = cst p) ∧ ∀ p : Nat → Int, W p → ∃ L : Ld, lY l o H h ro b y L ∧ ((hd (goL p L).1 h - b < 1 ∧ E (kM o H h ro b (goL p L).1) (cst p)) ∨ (¬ hd (goL p L).1 h - b < 1 ∧ F (cst p)))
theorem EF.or (h1 : EF l o H h ro b y cst E F W) (h2 : EF l o H h ro b y cst E' F' W') : EF l o H h ro b y cst (fun x c => E x c ∨ E' x c) (fun c => F c ∨ F' c) (fun p => W p ∨ W' p) := by
  obtain ⟨a1, a2, a3⟩ := h1
  obtain ⟨b1, b2, b3⟩ := h2
  refine ⟨fun x c w => ?_, fun c w => ?_, fun p w => ?_⟩
  · rcases w with w | w
    · obtain ⟨p, L, q, r⟩ := a1 x c w
      exact ⟨p, L, Or.inl q, r⟩
    · obtain ⟨p, L, q, r⟩ := b1 x c w
      exact ⟨p, L, Or.inr q, r⟩
  · rcases w with w | w
    · obtain ⟨p, L, q, r⟩ := a2 c w
      exact ⟨p, L, Or.inl q, r⟩
    · obtain ⟨p, L, q, r⟩ := b2 c w
      exact ⟨p, L, Or.inr q, r⟩
  · rcases w with w | w
    · obtain ⟨L, q, r⟩ := a3 p w
      rcases r with ⟨r1, r2⟩ | ⟨r1, r2⟩
      · exact ⟨L, q, Or.inl ⟨r1, Or.inl r2⟩⟩
      · exact ⟨L, q, Or.inr ⟨r1, Or.inl r2⟩⟩
    · obtain ⟨L, q, r⟩ := b3 p w
      rcases r with ⟨r1, r2⟩ | ⟨r1, r2⟩
      · exact ⟨L, q, Or.inl ⟨r1, Or.inr r2⟩⟩
      · exact ⟨L, q, Or.inr ⟨r1, Or.inr r2⟩⟩
theorem EF.cg (h1 : EF l o H h ro b y cst E F W) (hW : ∀ p : Nat → Int, W p ↔ W' p) (hc : ∀ p : Nat → Int, W p → cst p = cst' p) : EF l o H h ro b y cst' E F W' := by
  obtain ⟨a1, a2, a3⟩ := h1
  refine ⟨fun x c w => ?_, fun c w => ?_, fun p w => ?_⟩
  · obtain ⟨p, L, q, r1, r2, r3, r4⟩ := a1 x c w
    exact ⟨p, L, (hW p).mp q, r1, r2, r3, by rw [← hc p q]; exact r4⟩
  · obtain ⟨p, L, q, r1, r2, r4⟩ := a2 c w
    exact ⟨p, L, (hW p).mp q, r1, r2, by rw [← hc p q]; exact r4⟩
  · rw [← hc p ((hW p).mpr w)]
    exact a3 p ((hW p).mpr w)
theorem EF.none (hW : ∀ p : Nat → Int, ¬ W p) : EF l o H h ro b y cst (fun _ _ => False) (fun _ => False) W := ⟨fun _ _ w => w.elim, fun _ w => w.elim, fun p w => absurd w (hW p)⟩
def SF (l : Ld) (o H : Nat) (ro : Nat → Nat) (s : Ld) (z : Nat) : Prop := SA l o H ro s z ∧ (∀ i : Nat, i < z → 0 ≤ s 13 i ∧ s 13 i ≤ 100000) ∧ -1 ≤ s 0 31 ∧ s 0 31 ≤ 100000
def FF (H : Nat) (s u : Ld) (i : Nat) : Prop := (∀ k : Nat, k ≠ 0 → k ≠ 1 → k ≠ 5 → k ≠ 8 → k ≠ 9 → k ≠ 13 → u k = s k) ∧ (∀ j : Nat, j ≠ 26 → j ≠ 31 → u 0 j = s 0 j) ∧ (∀ j : Nat, j < i ∨ H ≤ j → u 5 j = s 5 j) ∧ ∀ j : Nat, 220 ≤ j → u 1 j = s 1 j
theorem FF.rf {s : Ld} {i : Nat} : FF H s s i := ⟨fun _ _ _ _ _ _ _ => rfl, fun _ _ _ => rfl, fun _ _ => rfl, fun _ _ => rfl⟩
theorem FF.tr {s u v : Ld} {i : Nat} (h1 : FF H s u i) (h2 : FF H u v i) : FF H s v i := ⟨fun k a b c d e f => (h2.1 k a b c d e f).trans (h1.1 k a b c d e f), fun j hj hj2 => (h2.2.1 j hj hj2).trans (h1.2.1 j hj hj2), fun j hj => (h2.2.2.1 j hj).trans (h1.2.2.1 j hj), fun j hj => (h2.2.2.2 j hj).trans (h1.2.2.2 j hj)⟩
theorem mMin_al {x c : Int} (hx : 0 ≤ x ∧ x ≤ 100000) (hc : 0 ≤ c ∧ c ≤ 100000) : ∀ q : Int, q = mMin x c → (c < x ∧ q = c) ∨ (x ≤ c ∧ q = x) := fun q e => by
  rw [e, mMin_of (by omega) (by omega) (by omega) (by omega)]
  omega
theorem pf_leaf (hM : isM μ m) (vl : vL l L) (hH : (H : Int) = l 0 0) (hH4 : H ≤ 4) (hh : h < H) (hb : 0 ≤ b ∧ b ≤ 1000000) (hg : hd L h - b = 0) (hn : 20000 ≤ n) {c : Int} (hc : 0 ≤ c ∧ c ≤ 100000) {s : Ld} {z : Nat} (hS : SF l o H ro s z) : ∃ (u : Ld) (z1 : Nat) (E : Int → Int → Prop) (F : Int → Prop), lfF n m (kM o H h ro b L) c (h : Int) b (wi μ (wm I m s)) = some ((), wi μ (wm I m u)) ∧ SF l o H ro u z1 ∧ FF H s u H ∧ AdL E F (s 8) (s 13) z (s 0 31) (u 8) (u 13) z1 (u 0 31) ∧ EF l o H h ro b (kM o H h ro b L) (fun p => c + cn p H 0) E F (Wi l o H ro s H) := by
  obtain ⟨⟨⟨L0, hl, v0, ho⟩, hz, h5⟩, hP, hf⟩ := hS
  obtain ⟨u1, u0, L1, v, e1, e2, vl1, ek, eh, lA, vg, g1, g2⟩ := hour_m (n := n) (I := I) (b := b) hM hl v0 vl hH hH4 hh ho (by omega) (fun k hk => by have := h5 k hk; omega) hn
  have gn := goL_gn (h := h) vl1.1 (s 5)
  have hHg : (H : Int) = (goL (s 5) L1).1 0 0 := by rw [vg.2.1 0 (by decide)]; exact hH
  have q := (lA.2.1 h (by omega)).2.2.2.2
  have q' : u0 1 (46 + (h : Int)).toNat = hd (goL (s 5) L1).1 h := by rw [show (46 + (h : Int)).toNat = 46 + h by omega]; exact q
  have hng : ∀ w : Ld, w 0 27 = s 0 27 → w 10 = s 10 → hngM w o ro (goL (s 5) L1).1 := fun w e1 e2 => ⟨by rw [e1]; exact ho.1, ho.2.1, fun k hk => by rw [e2, vg.2.1 1 (by decide), ← v0.2.1 1 (by decide)]; exact ho.2.2.1 k hk, ho.2.2.2⟩
  have hog : hngM u0 o ro (goL (s 5) L1).1 := hng u0 (by rw [g1 0 (by decide)]) (g1 10 (by decide))
  have pc : ∀ p : Nat → Int, Wi l o H ro s H p → goL p L1 = goL (s 5) L1 := fun p hp => goL_cg' vl1.1 (fun k hk => hp.1 k (by rw [vl1.2.1 0 (by decide)] at hk; omega))
  have self : Wi l o H ro s H (s 5) := ⟨fun _ _ => rfl, fun j a b => absurd a (by omega)⟩
  have c0 : ∀ p : Nat → Int, c + cn p H 0 = c := fun p => by show c + 0 = c; omega
  have z0 : MSt u0 z := hz.cg (g1 0 (by decide)) (g1 8 (by decide)) (g1 9 (by decide))
  have pre : lfF n m (kM o H h ro b L) c (h : Int) b (wi μ (wm I m s)) = (if eq32 (hd (goL (s 5) L1).1 h) b then (inv (wi μ (wm I m u0)) 12 m (mX11_state n m (h : Int) b (wi μ (wm I m u0)))).bind fun p45 => (inv p45.2 12 m (mX11_meetsFor n m p45.1 c p45.2)).bind fun p50 => some ((), p50.2) else (gI (wi μ (wm I m u0)) 12 m 31).bind fun x57 => if eq32 x57 (-1) then (pI (wi μ (wm I m u0)) 12 m 31 c).bind fun μ76 => some ((), μ76) else (gI (wi μ (wm I m u0)) 12 m 31).bind fun x67 => if lt32 c x67 then (pI (wi μ (wm I m u0)) 12 m 31 c).bind fun μ76 => some ((), μ76) else some ((), wi μ (wm I m u0))) := by
    unfold lfF
    rw [bM_inv hM, bnd e1]
    dsimp only
    rw [bM_inv hM, bnd e2]
    dsimp only
    rw [bM_g1 hM, bM_ld1 hM (by omega) (by omega), q']
  have f31 : u0 0 31 = s 0 31 := by rw [g1 0 (by decide)]
  have o8 : u0 8 = s 8 := g1 8 (by decide)
  have o13 : u0 13 = s 13 := g1 13 (by decide)
  have saOf : ∀ (u : Ld) (z1 : Nat), u 1 = u0 1 → u 5 = s 5 → u 10 = s 10 → u 0 27 = s 0 27 → MSt u z1 → SA l o H ro u z1 := fun u z1 a1 a5 a10 a27 a => ⟨⟨_, by rw [a1]; exact lA, vg, hng u a27 a10⟩, a, fun k hk => by rw [a5]; exact h5 k hk⟩
  by_cases cg : hd (goL (s 5) L1).1 h - b < 1
  · have es : mX11_state n m (h : Int) b (wi μ (wm I m u0)) = some (kM o H h ro b (goL (s 5) L1).1, wi μ (wm I m u0)) := state_eq (n := n) (I := I) (g := b) hM lA vg.1 hog hHg hh (by omega) (by unfold hd at gn eh hg; unfold hd at cg; omega) hn
    have rg := rg_of (ro := ro) (o := o) (g := hd (goL (s 5) L1).1 h - b) vg.1 hHg (fun k hk => (hog.2.2.1 k hk).2) (by omega)
    obtain ⟨u, e3, mp⟩ := meetsFor_eq (n := n) (I := I) (x := kM o H h ro b (goL (s 5) L1).1) (v := c) hM z0 (cdM_rg rg ho.2.1 hH4) hn
    have run : lfF n m (kM o H h ro b L) c (h : Int) b (wi μ (wm I m s)) = some ((), wi μ (wm I m u)) := by
      rw [pre, i_eq_t (by omega), bM_inv hM, bnd es]
      dsimp only
      rw [bM_inv hM, bnd e3]
    have ef : EF l o H h ro b (kM o H h ro b L) (fun p => c + cn p H 0) (fun x' c' => x' = kM o H h ro b (goL (s 5) L1).1 ∧ c' = c) (fun _ => False) (Wi l o H ro s H) := ⟨fun x c' w => ⟨s 5, L1, self, ⟨vl1, ek, by omega, by omega⟩, cg, w.1, w.2.trans (c0 (s 5)).symm⟩, fun _ w => w.elim, fun p hp => ⟨L1, ⟨vl1, ek, by omega, by omega⟩, Or.inl ⟨by rw [pc p hp]; exact cg, by rw [pc p hp]; exact ⟨rfl, c0 p⟩⟩⟩⟩
    by_cases ci : inL (u0 8) z (kM o H h ro b (goL (s 5) L1).1)
    · obtain ⟨i, hi, ex, eu⟩ := mp.1 ci
      have r8 : u 8 = s 8 := by rw [eu, up2_row (by decide)]; exact o8
      have r13 : u 13 = upA (s 13) i (mMin (s 13 i) c) := by rw [eu, up2_r, o13]
      have r0 : u 0 = s 0 := by rw [eu, up2_row (by decide)]; exact g1 0 (by decide)
      have mm := mMin_al (hP i hi) hc
      refine ⟨u, z, _, _, run, ⟨saOf u z (by rw [eu, up2_row (by decide)]) (by rw [eu, up2_row (by decide)]; exact g1 5 (by decide)) (by rw [eu, up2_row (by decide)]; exact g1 10 (by decide)) (by rw [r0]) (hz.cg r0 r8 (by rw [eu, up2_row (by decide)]; exact g1 9 (by decide))), fun j hj => ?_, by rw [r0]; exact hf⟩, ⟨fun k a a1 a2 a3 a4 a5 => by rw [eu, up2_row a5]; exact g1 k a1, fun j _ _ => by rw [r0], fun j _ => by rw [eu, up2_row (by decide), g1 5 (by decide)], fun j hj => by rw [eu, up2_row (by decide)]; exact g2 j hj⟩, ?_, ef⟩
      · rw [r13]
        by_cases cj : j = i
        · rw [cj, upA_s]
          have := hP i hi
          rcases mm _ rfl with ⟨a, b⟩ | ⟨a, b⟩ <;> omega
        · rw [upA_n cj]; exact hP j hj
      · rw [r8, r13, r0]
        exact AdL.old hi (by rw [← o8]; exact ex) mm
    · by_cases cz : 3000 < z
      · have eu := (mp.2 ci).1 cz
        refine ⟨u, z, _, _, run, ⟨saOf u z (by rw [eu]) (by rw [eu]; exact g1 5 (by decide)) (by rw [eu]; exact g1 10 (by decide)) (by rw [eu, g1 0 (by decide)]) (by rw [eu]; exact z0), by rw [eu, o13]; exact hP, by rw [eu, f31]; exact hf⟩, ⟨fun k a a1 a2 a3 a4 a5 => by rw [eu]; exact g1 k a1, fun j _ _ => by rw [eu, g1 0 (by decide)], fun j _ => by rw [eu, g1 5 (by decide)], fun j hj => by rw [eu]; exact g2 j hj⟩, ?_, ef⟩
        rw [eu, o8, o13, f31]
        exact AdL.full cz
      · obtain ⟨m1, m2, m3, m4, m5⟩ := (mp.2 ci).2 (by omega)
        rw [o8] at m4
        rw [o13] at m5
        refine ⟨u, z + 1, _, _, run, ⟨saOf u (z + 1) (m1 1 (by decide) (by decide) (by decide) (by decide)) (by rw [m1 5 (by decide) (by decide) (by decide) (by decide)]; exact g1 5 (by decide)) (by rw [m1 10 (by decide) (by decide) (by decide) (by decide)]; exact g1 10 (by decide)) (by rw [m2 27 (by decide), g1 0 (by decide)]) m3, fun j hj => ?_, by rw [m2 31 (by decide), f31]; exact hf⟩, ⟨fun k a a1 a2 a3 a4 a5 => by rw [m1 k a a3 a4 a5]; exact g1 k a1, fun j j1 _ => by rw [m2 j j1, g1 0 (by decide)], fun j _ => by rw [m1 5 (by decide) (by decide) (by decide) (by decide), g1 5 (by decide)], fun j hj => by rw [m1 1 (by decide) (by decide) (by decide) (by decide)]; exact g2 j hj⟩, ?_, ef⟩
        · rw [m5]
          by_cases cj : j = z
          · rw [cj, upA_s]; exact hc
          · rw [upA_n cj]; exact hP j (by omega)
        · rw [m4, m5, m2 31 (by decide), f31]
          exact AdL.new
  · have ef : EF l o H h ro b (kM o H h ro b L) (fun p => c + cn p H 0) (fun _ _ => False) (fun c' => c' = c) (Wi l o H ro s H) := ⟨fun _ _ w => w.elim, fun c' w => ⟨s 5, L1, self, ⟨vl1, ek, by omega, by omega⟩, cg, w.trans (c0 (s 5)).symm⟩, fun p hp => ⟨L1, ⟨vl1, ek, by omega, by omega⟩, Or.inr ⟨by rw [pc p hp]; exact cg, c0 p⟩⟩⟩
    have set : ∀ (g : Int), -1 ≤ g ∧ g ≤ 100000 → ((s 0 31 = -1 ∨ c < s 0 31) ∧ g = c) ∨ (s 0 31 ≠ -1 ∧ s 0 31 ≤ c ∧ g = s 0 31) → lfF n m (kM o H h ro b L) c (h : Int) b (wi μ (wm I m s)) = some ((), wi μ (wm I m (up2 u0 0 31 g))) → ∃ (u : Ld) (z1 : Nat) (E : Int → Int → Prop) (F : Int → Prop), lfF n m (kM o H h ro b L) c (h : Int) b (wi μ (wm I m s)) = some ((), wi μ (wm I m u)) ∧ SF l o H ro u z1 ∧ FF H s u H ∧ AdL E F (s 8) (s 13) z (s 0 31) (u 8) (u 13) z1 (u 0 31) ∧ EF l o H h ro b (kM o H h ro b L) (fun p => c + cn p H 0) E F (Wi l o H ro s H) := by
      intro g gr hgg run
      refine ⟨_, z, _, _, run, ⟨saOf _ z (up2_row (by decide)) (by rw [up2_row (by decide)]; exact g1 5 (by decide)) (by rw [up2_row (by decide)]; exact g1 10 (by decide)) (by rw [up2_n (by omega), g1 0 (by decide)]) ⟨by rw [up2_n (by omega)]; exact z0.1, z0.2.1, by rw [up2_row (by decide), up2_row (by decide)]; exact z0.2.2.1, by rw [up2_row (by decide)]; exact z0.2.2.2⟩, by rw [up2_row (by decide), o13]; exact hP, by rw [up2_s]; exact gr⟩, ⟨fun k a a1 a2 a3 a4 a5 => by rw [up2_row a]; exact g1 k a1, fun j _ j2 => by rw [up2_n (by omega), g1 0 (by decide)], fun j _ => by rw [up2_row (by decide), g1 5 (by decide)], fun j hj => by rw [up2_row (by decide)]; exact g2 j hj⟩, ?_, ef⟩
      rw [up2_row (by decide), up2_row (by decide), up2_s, o8, o13]
      exact AdL.goal hc.1 hgg
    have gb : hd (goL (s 5) L1).1 h ≤ 1000032 := by omega
    by_cases c1 : s 0 31 = -1
    · refine set c (by omega) (Or.inl ⟨Or.inl c1, rfl⟩) ?_
      rw [pre, i_eq_f (by omega), bM_gI hM, f31, i_eq_t c1, bM_pI hM]
    · by_cases c2 : c < s 0 31
      · refine set c (by omega) (Or.inl ⟨Or.inr c2, rfl⟩) ?_
        rw [pre, i_eq_f (by omega), bM_gI hM, f31, i_eq_f (by omega), bM_gI hM, f31, i_lt_t (by omega), bM_pI hM]
      · refine set (s 0 31) (by omega) (Or.inr ⟨c1, by omega, rfl⟩) ?_
        rw [pre, i_eq_f (by omega), bM_gI hM, f31, i_eq_f (by omega), bM_gI hM, f31, i_lt_f (by omega), ← f31, up2_self]
end PD
