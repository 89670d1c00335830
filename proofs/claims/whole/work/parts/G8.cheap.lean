/-! the reference: the cheapest, hour by hour -/
def SpL (cd : Ld → Int) (l : Ld) (o H h : Nat) (ro : Nat → Nat) (b w x e : Int) : Prop := ∃ (L : Ld) (p : Nat → Int), VG l h b 1 L ∧ vP l o H ro p ∧ w = cd L ∧ hd (goL p L).1 h - b < 1 ∧ x = cd (goL p L).1 ∧ e = cn p 0 H
def GpL (cd : Ld → Int) (l : Ld) (o H h : Nat) (ro : Nat → Nat) (b w e : Int) : Prop := ∃ (L : Ld) (p : Nat → Int), VG l h b 1 L ∧ vP l o H ro p ∧ w = cd L ∧ ¬ hd (goL p L).1 h - b < 1 ∧ e = cn p 0 H
section CH
variable {l L : Ld} {o H h R : Nat} {ro : Nat → Nat} {b y : Int} {S T P Q : Nat → Int} {z z1 : Nat} {cd : Ld → Int}
theorem Ck.vg (v : VG l h b 1 L) (hH4 : H ≤ 4) : ∀ (k : Nat) (x c : Int), Ck (cd L) (SpL cd l o H h ro b) k x c → (∃ L1 : Ld, VG l h b 1 L1 ∧ x = cd L1) ∧ 0 ≤ c ∧ c ≤ 4 * (k : Int)
  | 0, x, c, hx => ⟨⟨L, v, hx.1⟩, by rw [hx.2]; omega, by rw [hx.2]; omega⟩
  | k + 1, x, c, hx => by
    obtain ⟨w, d, e, q1, ⟨L1, p, r1, r2, r3, r4, r5, r6⟩, q3⟩ := hx
    obtain ⟨-, i1, i2⟩ := Ck.vg v hH4 k w d q1
    have := cn_rg p H 0
    exact ⟨⟨_, r1.go p r4, r5⟩, by omega, by omega⟩
theorem Fm.rg (v : VG l h b 1 L) (hH4 : H ≤ 4) {k : Nat} {f : Int} (hf : Fm (cd L) (SpL cd l o H h ro b) (GpL cd l o H h ro b) k f) : -1 ≤ f ∧ f ≤ 4 * (k : Int) := by
  rcases hf with ⟨e, -⟩ | ⟨-, ⟨j, q1, w, d, e, r1, ⟨L1, p, -, -, -, -, r6⟩, r3⟩, -⟩
  · omega
  · obtain ⟨-, i1, i2⟩ := Ck.vg v hH4 j w d r1
    have := cn_rg p H 0
    omega
/-- what pullsFor does, told by steps -/
theorem ef_ad (v : VG l h b 1 L) (hH : (H : Int) = l 0 0) (op : opn l o ro R) {E : Int → Int → Prop} {F : Int → Prop} {f g c : Int} (hA : AdL E F S P z f T Q z1 g) (hE : EF l o H h ro b (kM o H h ro b L) (fun p => c + cn p 0 H) E F (vP l o H ro)) : AdL (fun x d => ∃ e : Int, SpL (kM o H h ro b) l o H h ro b (kM o H h ro b L) x e ∧ d = c + e) (fun d => ∃ e : Int, GpL (kM o H h ro b) l o H h ro b (kM o H h ro b L) e ∧ d = c + e) S P z f T Q z1 g := by
  obtain ⟨a1, a2, a3⟩ := hE
  have v1 := v.1
  have v2 := v.2.1
  have v3 := v.2.2
  have up : ∀ L' : Ld, lY l o H h ro b (kM o H h ro b L) L' → VG l h b 1 L' := fun L' q => by
    have := (kM_eqC v1 q.1 hH op ⟨v2, by omega⟩ ⟨q.2.2.1, q.2.2.2⟩ q.2.1).2
    exact ⟨q.1, by omega, by omega⟩
  have same : ∀ (L' L'' : Ld) (p : Nat → Int), lY l o H h ro b (kM o H h ro b L) L' → VG l h b 1 L'' → kM o H h ro b L = kM o H h ro b L'' → kM o H h ro b (goL p L'').1 = kM o H h ro b (goL p L').1 ∧ hd (goL p L'').1 h = hd (goL p L').1 h := fun L' L'' p q q' e => by
    have w := q'.2.1
    have w' := q'.2.2
    exact kM_go q.1 q'.1 hH op ⟨q.2.2.1, q.2.2.2⟩ ⟨w, by omega⟩ (e.symm.trans q.2.1.symm)
  refine hA.iff (fun x d => ⟨fun w => ?_, fun w => ?_⟩) (fun d => ⟨fun w => ?_, fun w => ?_⟩)
  · obtain ⟨p, L', q1, q2, q3, q4, q5⟩ := a1 x d w
    exact ⟨cn p 0 H, ⟨L', p, up L' q2, q1, q2.2.1.symm, q3, q4, rfl⟩, q5⟩
  · obtain ⟨e, ⟨L'', p, q1, q2, q3, q4, q5, q6⟩, q7⟩ := w
    obtain ⟨L', r1, r2⟩ := a3 p q2
    have sm := same L' L'' p r1 q1 q3
    rcases r2 with ⟨r2, r3⟩ | ⟨r2, r3⟩
    · have ed : d = c + cn p 0 H := by omega
      rw [q5, sm.1, ed]
      exact r3
    · exact absurd q4 (by rw [sm.2]; exact r2)
  · obtain ⟨p, L', q1, q2, q3, q4⟩ := a2 d w
    exact ⟨cn p 0 H, ⟨L', p, up L' q2, q1, q2.2.1.symm, q3, rfl⟩, q4⟩
  · obtain ⟨e, ⟨L'', p, q1, q2, q3, q4, q5⟩, q7⟩ := w
    obtain ⟨L', r1, r2⟩ := a3 p q2
    have sm := same L' L'' p r1 q1 q3
    rcases r2 with ⟨r2, r3⟩ | ⟨r2, r3⟩
    · exact absurd r2 (by rw [← sm.2]; exact q4)
    · have ed : d = c + cn p 0 H := by omega
      rw [ed]
      exact r3
end CH
def chE (n m : Nat) (v236 : Int) (μ236 : Mem) : Option (Int × Mem) := (inv μ236 12 m (mX11_isAgain n m μ236)).bind fun p237 => if lt32 3000 v236 then some ((-4), p237.2) else (gI p237.2 12 m 31).bind fun x254 => some (x254, p237.2)
def chC (m : Nat) (nx90 : Int × Int → Mem → Option (Int × Mem)) (x181 hr : Int) : (Int → Mem → Option (Int × Mem)) → Int → Mem → Option (Int × Mem) := fun nx189 v189 μ189 => if lt32 v189 x181 then (gA μ189 12 m 28).bind fun x197 => (gA μ189 12 m 23).bind fun x203 => (ldI μ189 3 x203 v189).bind fun x208 => (stI μ189 3 x197 v189 x208).bind fun μ209 => (gA μ209 12 m 29).bind fun x211 => (gA μ209 12 m 30).bind fun x217 => (ldI μ209 0 x217 v189).bind fun x222 => (stI μ209 0 x211 v189 x222).bind fun μ223 => nx189 (v189 + 1) μ223 else nx90 (x181, (hr + 1)) μ189
def chQ (n m : Nat) (M : Int) (nx90 : Int × Int → Mem → Option (Int × Mem)) (v90 : Int × Int) (μ137 : Mem) : Option (Int × Mem) := if eq32 v90.2 M then nx90 (v90.1, (v90.2 + 1)) μ137 else (gI μ137 12 m 26).bind fun x181 => lp (chC m nx90 x181 v90.2) n 0 μ137
def chP (n m : Nat) (h b M : Int) (nx90 : Int × Int → Mem → Option (Int × Mem)) (v90 : Int × Int) : (Int → Mem → Option (Int × Mem)) → Int → Mem → Option (Int × Mem) := fun nx137 v137 μ137 => if lt32 v137 v90.1 then (gA μ137 12 m 28).bind fun x147 => (ldI μ137 3 x147 v137).bind fun x152 => (gA μ137 12 m 29).bind fun x154 => (ldI μ137 0 x154 v137).bind fun x159 => (inv μ137 12 m (mX11_pullsFor n m 0 x152 x159 h b μ137)).bind fun p162 => nx137 (v137 + 1) p162.2 else chQ n m M nx90 v90 μ137
def chYr (n m : Nat) (h b M : Int) (nx90 : Int × Int → Mem → Option (Int × Mem)) (v90 : Int × Int) (μ107 : Mem) : Option (Int × Mem) := (pI μ107 12 m 26 0).bind fun μ131 => lp (chP n m h b M nx90 v90) n 0 μ131
def chO (n m : Nat) (h b M : Int) : (Int × Int → Mem → Option (Int × Mem)) → Int × Int → Mem → Option (Int × Mem) := fun nx90 v90 μ90 => if lt32 M v90.2 then chE n m v90.1 μ90 else if lt32 3000 v90.1 then chE n m v90.1 μ90 else lp (clT m _ (chYr n m h b M nx90 v90)) n 0 μ90
theorem cheapest_s {n m : Nat} {h M : Int} (μ : Mem) : mX11_cheapest n m h M μ = ((pI μ 12 m 0 0).bind fun μ2 => (inv μ2 12 m (mX11_isHouse n m (oI2l h) μ2)).bind fun p8 => if eq32 p8.1 0 then some ((-2), p8.2) else (mX11_within n (oI2l M) 1 6 p8.2).bind fun p23 => if eq32 p23.1 0 then some ((-3), p23.2) else (inv p23.2 12 m (mX11_areFew n m p23.2)).bind fun p33 => if eq32 p33.1 0 then some ((-4), p33.2) else (inv p33.2 12 m (mX11_keeps n m p33.2)).bind fun p43 => (gA p43.2 12 m 1).bind fun x47 => (ldI p43.2 0 x47 (46 + h)).bind fun x54 => (pI p43.2 12 m 31 (-1)).bind fun μ58 => (gA μ58 12 m 28).bind fun x62 => (inv μ58 12 m (mX11_state n m h x54 μ58)).bind fun p69 => (stI p69.2 3 x62 0 p69.1).bind fun μ72 => (gA μ72 12 m 29).bind fun x74 => (stI μ72 0 x74 0 0).bind fun μ79 => (inv μ79 12 m (mX11_nobody n m μ79)).bind fun p84 => lp (chO n m h x54 M) n (1, 1) p84.2) := rfl
/-- what the hours of cheapest leave alone -/
def FG (H : Nat) (s u : Ld) : Prop := (∀ k : Nat, k ≠ 0 → k ≠ 1 → k ≠ 5 → k ≠ 8 → k ≠ 9 → k ≠ 11 → k ≠ 12 → k ≠ 13 → u k = s k) ∧ (∀ j : Nat, j ≠ 26 → j ≠ 31 → u 0 j = s 0 j) ∧ ∀ j : Nat, 220 ≤ j → u 1 j = s 1 j
theorem FG.rf {H : Nat} {s : Ld} : FG H s s := ⟨fun _ _ _ _ _ _ _ _ _ => rfl, fun _ _ _ => rfl, fun _ _ => rfl⟩
theorem FG.tr {H : Nat} {s u v : Ld} (h1 : FG H s u) (h2 : FG H u v) : FG H s v := ⟨fun k a b c d e f g i => (h2.1 k a b c d e f g i).trans (h1.1 k a b c d e f g i), fun j hj hj2 => (h2.2.1 j hj hj2).trans (h1.2.1 j hj hj2), fun j hj => (h2.2.2 j hj).trans (h1.2.2 j hj)⟩
theorem FF.g {H i : Nat} {s u : Ld} (h : FF H s u i) : FG H s u := ⟨fun k a b c d e _ _ f => h.1 k a b c d e f, h.2.1, h.2.2.2⟩
section CI
variable {μ : Mem} {I : Nat → Nat → Int} {m n o H h R : Nat} {ro : Nat → Nat} {l : Ld} {b M : Int}
theorem chC_l (hM : isM μ m) (nx : Int × Int → Mem → Option (Int × Mem)) {hr : Int} {z : Nat} (hz : z ≤ 3001) : ∀ (d kk i : Nat) (s : Ld), i + d = z → d < kk → (∀ j : Nat, j < i → s 11 j = s 8 j ∧ s 12 j = s 13 j) → ∃ u : Ld, lp (chC m nx (z : Int) hr) kk (i : Int) (wi μ (wm I m s)) = nx ((z : Int), hr + 1) (wi μ (wm I m u)) ∧ (∀ k : Nat, k ≠ 11 → k ≠ 12 → u k = s k) ∧ ∀ j : Nat, j < z → u 11 j = s 8 j ∧ u 12 j = s 13 j
  | d, 0, i, s, h1, h2, hs => absurd h2 (by omega)
  | 0, kk + 1, i, s, h1, h2, hs => by
    refine ⟨s, ?_, fun _ _ _ => rfl, fun j hj => hs j (by omega)⟩
    generalize hB : lp (chC m nx (z : Int) hr) kk = self
    show chC m nx (z : Int) hr (lp (chC m nx (z : Int) hr) kk) (i : Int) (wi μ (wm I m s)) = _
    rw [hB]
    unfold chC
    rw [i_lt_f (by omega)]
  | d + 1, kk + 1, i, s, h1, h2, hs => by
    have e8 : up2 (up2 s 11 i (s 8 i)) 12 i (s 13 i) 8 = s 8 := by rw [up2_row (by decide), up2_row (by decide)]
    have e13 : up2 (up2 s 11 i (s 8 i)) 12 i (s 13 i) 13 = s 13 := by rw [up2_row (by decide), up2_row (by decide)]
    obtain ⟨u, e, u1, u2⟩ := chC_l (z := z) hM nx hz d kk (i + 1) (up2 (up2 s 11 i (s 8 i)) 12 i (s 13 i)) (by omega) (by omega) (fun j hj => by
      rw [e8, e13]
      by_cases c : j = i
      · rw [c, up2_n (by omega), up2_s, up2_s]; exact ⟨rfl, rfl⟩
      · rw [up2_n (by omega), up2_n (by omega), up2_n (by omega), up2_n (by omega)]; exact hs j (by omega))
    rw [e8, e13] at u2
    refine ⟨u, ?_, fun k k11 k12 => by rw [u1 k k11 k12, up2_row k12, up2_row k11], u2⟩
    generalize hB : lp (chC m nx (z : Int) hr) kk = self at e
    show chC m nx (z : Int) hr (lp (chC m nx (z : Int) hr) kk) (i : Int) (wi μ (wm I m s)) = _
    rw [hB]
    unfold chC
    have r13 : up2 s 11 i (s 8 i) 13 = s 13 := up2_row (by decide)
    rw [i_lt_t (by omega), bM_g28 hM, bM_g23 hM, bM_ld8 hM (by omega) (by omega), Int.toNat_natCast, bM_st11 hM (by omega) (by omega), Int.toNat_natCast, bM_g29 hM, bM_g30 hM, bM_ld13 hM (by omega) (by omega), Int.toNat_natCast, r13, bM_st12 hM (by omega) (by omega), Int.toNat_natCast]
    exact e
theorem chP_l (hM : isM μ m) (hkl : okL l) (hH : (H : Int) = l 0 0) (hH4 : H ≤ 4) (op : opn l o ro R) (hh : h < H) (hb : 0 ≤ b ∧ b ≤ 1000000) (hn : 20000 ≤ n) (nx : Int × Int → Mem → Option (Int × Mem)) {hr : Int} {z : Nat} (hz : z ≤ 3000) {S P T0 Q0 : Nat → Int} {f0 : Int} (hS : ∀ j : Nat, j < z → (∃ L : Ld, VG l h b 1 L ∧ S j = kM o H h ro b L) ∧ 0 ≤ P j ∧ P j ≤ 90000) : ∀ (d kk i : Nat) (s : Ld) (z0 : Nat), i + d = z → d < kk → SF l o H ro s z0 → (∀ j : Nat, j < z → s 11 j = S j ∧ s 12 j = P j) → AdL (fun x c => ∃ j : Nat, j < i ∧ ∃ e : Int, SpL (kM o H h ro b) l o H h ro b (S j) x e ∧ c = P j + e) (fun c => ∃ j : Nat, j < i ∧ ∃ e : Int, GpL (kM o H h ro b) l o H h ro b (S j) e ∧ c = P j + e) T0 Q0 0 f0 (s 8) (s 13) z0 (s 0 31) → ∃ (u : Ld) (z1 : Nat), lp (chP n m (h : Int) b M nx ((z : Int), hr)) kk (i : Int) (wi μ (wm I m s)) = chQ n m M nx ((z : Int), hr) (wi μ (wm I m u)) ∧ SF l o H ro u z1 ∧ FF H s u 0 ∧ AdL (fun x c => ∃ j : Nat, j < z ∧ ∃ e : Int, SpL (kM o H h ro b) l o H h ro b (S j) x e ∧ c = P j + e) (fun c => ∃ j : Nat, j < z ∧ ∃ e : Int, GpL (kM o H h ro b) l o H h ro b (S j) e ∧ c = P j + e) T0 Q0 0 f0 (u 8) (u 13) z1 (u 0 31)
  | d, 0, i, s, z0, h1, h2, hs, hr1, hA => absurd h2 (by omega)
  | 0, kk + 1, i, s, z0, h1, h2, hs, hr1, hA => by
    have ei : i = z := by omega
    subst ei
    refine ⟨s, z0, ?_, hs, FF.rf, hA⟩
    generalize hB : lp (chP n m (h : Int) b M nx ((i : Int), hr)) kk = self
    show chP n m (h : Int) b M nx ((i : Int), hr) (lp (chP n m (h : Int) b M nx ((i : Int), hr)) kk) (i : Int) (wi μ (wm I m s)) = _
    rw [hB]
    unfold chP
    dsimp only
    rw [i_lt_f (by omega)]
  | d + 1, kk + 1, i, s, z0, h1, h2, hs, hr1, hA => by
    obtain ⟨⟨L, vg, ey⟩, p0, p9⟩ := hS i (by omega)
    have vg0 : hd L h - b = 0 := by have := vg.2.1; have := vg.2.2; omega
    obtain ⟨u, z1, E, F, e1, t1, t2, t3, t4⟩ := pullsFor_eq (n := n) (I := I) (c := P i) hM hkl vg.1 hH hH4 hh hb vg0 hn ⟨p0, p9⟩ hs
    have ad := ef_ad vg hH op t3 t4
    rw [← ey] at ad
    have ad2 := (hA.tr ad).iff (E' := fun x c => ∃ j : Nat, j < i + 1 ∧ ∃ e : Int, SpL (kM o H h ro b) l o H h ro b (S j) x e ∧ c = P j + e) (F' := fun c => ∃ j : Nat, j < i + 1 ∧ ∃ e : Int, GpL (kM o H h ro b) l o H h ro b (S j) e ∧ c = P j + e) (fun x c => ⟨fun w => by
        rcases w with ⟨j, q1, q2⟩ | w
        · exact ⟨j, by omega, q2⟩
        · exact ⟨i, by omega, w⟩, fun w => by
        obtain ⟨j, q1, q2⟩ := w
        by_cases cj : j = i
        · subst cj; exact Or.inr q2
        · exact Or.inl ⟨j, by omega, q2⟩⟩) (fun c => ⟨fun w => by
        rcases w with ⟨j, q1, q2⟩ | w
        · exact ⟨j, by omega, q2⟩
        · exact ⟨i, by omega, w⟩, fun w => by
        obtain ⟨j, q1, q2⟩ := w
        by_cases cj : j = i
        · subst cj; exact Or.inr q2
        · exact Or.inl ⟨j, by omega, q2⟩⟩)
    obtain ⟨u2, z2, e2, w1, w2, w3⟩ := chP_l (z := z) (f0 := f0) (T0 := T0) (Q0 := Q0) hM hkl hH hH4 op hh hb hn nx hz hS d kk (i + 1) u z1 (by omega) (by omega) t1 (fun j hj => by rw [t2.1 11 (by decide) (by decide) (by decide) (by decide) (by decide) (by decide), t2.1 12 (by decide) (by decide) (by decide) (by decide) (by decide) (by decide)]; exact hr1 j hj) ad2
    refine ⟨u2, z2, ?_, w1, t2.tr w2, w3⟩
    generalize hB : lp (chP n m (h : Int) b M nx ((z : Int), hr)) kk = self at e2
    show chP n m (h : Int) b M nx ((z : Int), hr) (lp (chP n m (h : Int) b M nx ((z : Int), hr)) kk) (i : Int) (wi μ (wm I m s)) = _
    rw [hB]
    unfold chP
    dsimp only
    have r1 := hr1 i (by omega)
    rw [i_lt_t (by omega), bM_g28 hM, bM_ld11 hM (by omega) (by omega), Int.toNat_natCast, r1.1, bM_g29 hM, bM_ld12 hM (by omega) (by omega), Int.toNat_natCast, r1.2, bM_inv hM, ey, bnd e1]
    exact e2
end CI
