/-! the reference: the soonest, level by level -/
/-- lands of a search: the house has less than the goal -/
def VG (l : Ld) (h : Nat) (b G : Int) (L : Ld) : Prop := vL l L ∧ 0 ≤ hd L h - b ∧ hd L h - b < G
def StL (cd : Ld → Int) (l : Ld) (o H h : Nat) (ro : Nat → Nat) (b G w x : Int) : Prop := ∃ (L : Ld) (p : Nat → Int), VG l h b G L ∧ vP l o H ro p ∧ w = cd L ∧ hd (goL p L).1 h - b < G ∧ x = cd (goL p L).1
def GoL (cd : Ld → Int) (l : Ld) (o H h : Nat) (ro : Nat → Nat) (b G w : Int) : Prop := ∃ (L : Ld) (p : Nat → Int), VG l h b G L ∧ vP l o H ro p ∧ w = cd L ∧ ¬ hd (goL p L).1 h - b < G
section SO
variable {l L : Ld} {o H h R : Nat} {ro : Nat → Nat} {b G y : Int} {S T U : Nat → Int} {z z1 z2 : Nat}
theorem VG.go (v : VG l h b G L) (p : Nat → Int) (hg : hd (goL p L).1 h - b < G) : VG l h b G (goL p L).1 := by
  have := goL_gn (h := h) v.1.1 p
  have := v.2.1
  exact ⟨⟨(goL_ok _ v.1.1).1, v.1.2.tr (goL_ok _ v.1.1).2⟩, by omega, hg⟩
theorem Rc.vg {cd : Ld → Int} (v : VG l h b G L) : ∀ (k : Nat) (x : Int), Rc (cd L) (StL cd l o H h ro b G) k x → ∃ L1 : Ld, VG l h b G L1 ∧ x = cd L1
  | 0, x, hx => ⟨L, v, hx⟩
  | k + 1, x, hx => by
    rcases hx with hx | ⟨w, -, L1, p, q1, q2, q3, q4, q5⟩
    · exact Rc.vg v k x hx
    · exact ⟨_, q1.go p q4, q5⟩
/-- what pullsAll does, told by steps -/
theorem oa_lv {r : Int} (v : VG l h b G L) (hG : G ≤ 3) (hH : (H : Int) = l 0 0) (op : opn l o ro R) (hA : OA l o H h ro b G (kM o H h ro b L) S T z z1 r (vP l o H ro)) : (∀ x : Int, inL T z1 x → inL S z x ∨ StL (kM o H h ro b) l o H h ro b G (kM o H h ro b L) x) ∧ (r = 0 → ¬ GoL (kM o H h ro b) l o H h ro b G (kM o H h ro b L) ∧ ∀ x : Int, StL (kM o H h ro b) l o H h ro b G (kM o H h ro b L) x → z1 ≤ 3000 → inL T z1 x) ∧ (r = 1 → GoL (kM o H h ro b) l o H h ro b G (kM o H h ro b L)) := by
  obtain ⟨a1, a2, a3, a4, a5⟩ := hA
  have v1 := v.1
  have v2 := v.2.1
  have v3 := v.2.2
  have up : ∀ L' : Ld, lY l o H h ro b (kM o H h ro b L) L' → VG l h b G L' := fun L' q => by
    have := (kM_eqC v1 q.1 hH op ⟨v2, by omega⟩ ⟨q.2.2.1, q.2.2.2⟩ q.2.1).2
    exact ⟨q.1, by omega, by omega⟩
  have same : ∀ (L' L'' : Ld) (p : Nat → Int), lY l o H h ro b (kM o H h ro b L) L' → VG l h b G L'' → kM o H h ro b L = kM o H h ro b L'' → kM o H h ro b (goL p L'').1 = kM o H h ro b (goL p L').1 ∧ hd (goL p L'').1 h = hd (goL p L').1 h := fun L' L'' p q q' e => by
    have w := q'.2.1
    have w' := q'.2.2
    exact kM_go q.1 q'.1 hH op ⟨q.2.2.1, q.2.2.2⟩ ⟨w, by omega⟩ (e.symm.trans q.2.1.symm)
  refine ⟨fun x hx => ?_, fun r0 => ⟨fun hg => ?_, fun x hx hz => ?_⟩, fun r1 => ?_⟩
  · rcases a2 x hx with q | ⟨p, L', q1, q2, q3, q4⟩
    · exact Or.inl q
    · exact Or.inr ⟨L', p, up L' q2, q1, q2.2.1.symm, q3, q4⟩
  · obtain ⟨L'', p, q1, q2, q3, q4⟩ := hg
    obtain ⟨L', r1, r2, -⟩ := a3 r0 p q2
    have := (same L' L'' p r1 q1 q3).2
    omega
  · obtain ⟨L'', p, q1, q2, q3, q4, q5⟩ := hx
    obtain ⟨L', r1, r2, r3⟩ := a3 r0 p q2
    rw [q5, (same L' L'' p r1 q1 q3).1]
    exact r3 hz
  · obtain ⟨p, L', q1, q2, q3⟩ := a4 r1
    exact ⟨L', p, up L' q2, q1, q2.2.1.symm, q3⟩
theorem LV.cons {St : Int → Int → Prop} {Go : Int → Prop} {i to : Nat} {fnd : Prop} (hi : i < to) (ht : to ≤ z) (e : z ≤ z1 ∧ ∀ j : Nat, j < z → T j = S j) (h1 : ∀ x : Int, inL T z1 x → inL S z x ∨ St (S i) x) (h2 : ¬ Go (S i) ∧ ∀ x : Int, St (S i) x → z1 ≤ 3000 → inL T z1 x) (h3 : LV St Go T (i + 1) to z1 U z2 fnd) : LV St Go S i to z U z2 fnd := by
  obtain ⟨⟨a1, a2⟩, a3, a4, a5⟩ := h3
  refine ⟨⟨by omega, fun j hj => (a2 j (by omega)).trans (e.2 j hj)⟩, fun x hx => ?_, fun hf => ?_, fun hf j hj hj2 => ?_⟩
  · rcases a3 x hx with q | ⟨j, q1, q2, q3⟩
    · rcases h1 x q with q' | q'
      · exact Or.inl q'
      · exact Or.inr ⟨i, Nat.le_refl _, hi, q'⟩
    · exact Or.inr ⟨j, by omega, q2, by rw [← e.2 j (by omega)]; exact q3⟩
  · obtain ⟨j, q1, q2, q3⟩ := a4 hf
    exact ⟨j, by omega, q2, by rw [← e.2 j (by omega)]; exact q3⟩
  · by_cases c : j = i
    · subst c
      exact ⟨h2.1, fun x hx hz => (h2.2 x hx (by omega)).mono a1 a2⟩
    · have q := a5 hf j (by omega) hj2
      rw [e.2 j (by omega)] at q
      exact q
end SO
def soE (n m : Nat) (v173 : Int) (μ173 : Mem) : Option (Int × Mem) := (inv μ173 12 m (mX11_isAgain n m μ173)).bind fun p174 => some (v173, p174.2)
def soX (m : Nat) (nx77 : Int × Int × Int → Mem → Option (Int × Mem)) (x93 hr v143 : Int) (μ143 : Mem) : Option (Int × Mem) := if eq32 v143 (-1) then (gI μ143 12 m 26).bind fun x150 => if lt32 3000 x150 then nx77 (x93, (-4), (hr + 1)) μ143 else nx77 (x93, v143, (hr + 1)) μ143 else nx77 (x93, v143, (hr + 1)) μ143
def soI (n m : Nat) (h b G : Int) (nx77 : Int × Int × Int → Mem → Option (Int × Mem)) (x93 hr : Int) : (Int × Int → Mem → Option (Int × Mem)) → Int × Int → Mem → Option (Int × Mem) := fun nx102 v102 μ102 => if lt32 v102.2 x93 then if eq32 v102.1 (-1) then (gA μ102 12 m 23).bind fun x118 => (ldI μ102 3 x118 v102.2).bind fun x123 => (inv μ102 12 m (mX11_pullsAll n m 0 x123 h b G μ102)).bind fun p127 => if eq32 p127.1 0 then nx102 (v102.1, (v102.2 + 1)) p127.2 else nx102 (hr, (v102.2 + 1)) p127.2 else soX m nx77 x93 hr v102.1 μ102 else soX m nx77 x93 hr v102.1 μ102
def soO (n m : Nat) (h b G : Int) : (Int × Int × Int → Mem → Option (Int × Mem)) → Int × Int × Int → Mem → Option (Int × Mem) := fun nx77 v77 μ77 => if eq32 v77.2.1 (-1) then (gI μ77 12 m 26).bind fun x86 => if lt32 v77.1 x86 then (gI μ77 12 m 26).bind fun x93 => lp (soI n m h b G nx77 x93 v77.2.2) n (v77.2.1, v77.1) μ77 else soE n m v77.2.1 μ77 else soE n m v77.2.1 μ77
def soB (n m : Nat) (h b G : Int) (ν : Mem) : Option (Int × Mem) := (pI ν 12 m 26 0).bind fun μ51 => (inv μ51 12 m (mX11_nobody n m μ51)).bind fun p55 => (inv p55.2 12 m (mX11_state n m h b p55.2)).bind fun p62 => (inv p62.2 12 m (mX11_meets n m p62.1 p62.2)).bind fun p65 => lp (soO n m h b G) n (0, (-1), 1) p65.2
def clT (m : Nat) (β : Type) (K : Mem → Option β) : (Int → Mem → Option β) → Int → Mem → Option β := fun nx27 v27 μ27 => if lt32 v27 8192 then (gA μ27 12 m 24).bind fun x36 => (stI μ27 0 x36 v27 0).bind fun μ42 => nx27 (v27 + 1) μ42 else K μ27
theorem soonestOf_s {n m : Nat} {h G : Int} (μ : Mem) : mX11_soonestOf n m h G μ = ((inv μ 12 m (mX11_areFew n m μ)).bind fun p1 => if eq32 p1.1 0 then some ((-4), p1.2) else (inv p1.2 12 m (mX11_keeps n m p1.2)).bind fun p11 => (gA p11.2 12 m 1).bind fun x15 => (ldI p11.2 0 x15 (46 + h)).bind fun x22 => lp (clT m _ (soB n m h x22 G)) n 0 p11.2) := rfl
section SQ
variable {μ : Mem} {I : Nat → Nat → Int} {m n o H h R : Nat} {ro : Nat → Nat} {l L0 : Ld} {b G : Int}
theorem soI_l (hM : isM μ m) (hkl : okL l) (hH : (H : Int) = l 0 0) (hH4 : H ≤ 4) (op : opn l o ro R) (hh : h < H) (hb : 0 ≤ b ∧ b ≤ 1000000) (hG : 1 ≤ G ∧ G ≤ 3) (hn : 20000 ≤ n) (nx : Int × Int × Int → Mem → Option (Int × Mem)) {hr : Int} (hhr : 1 ≤ hr ∧ hr ≤ 10000) {to : Nat} : ∀ (d kk i : Nat) (s : Ld) (z : Nat), i + d = to → d < kk → SA l o H ro s z → to ≤ z → (∀ j : Nat, j < to → ∃ L : Ld, VG l h b G L ∧ s 8 j = kM o H h ro b L) → ∃ (u : Ld) (z1 : Nat) (r : Int), lp (soI n m (h : Int) b G nx (to : Int) hr) kk (-1, (i : Int)) (wi μ (wm I m s)) = soX m nx (to : Int) hr r (wi μ (wm I m u)) ∧ SA l o H ro u z1 ∧ FA H s u 0 ∧ (r = -1 ∨ r = hr) ∧ LV (StL (kM o H h ro b) l o H h ro b G) (GoL (kM o H h ro b) l o H h ro b G) (s 8) i to z (u 8) z1 (r = hr)
  | d, 0, i, s, z, h1, h2, hS, hz, hc => absurd h2 (by omega)
  | 0, kk + 1, i, s, z, h1, h2, hS, hz, hc => by
    have z3 := hS.2.1.2.1
    refine ⟨s, z, -1, ?_, hS, FA.rf, Or.inl rfl, ⟨Nat.le_refl _, fun _ _ => rfl⟩, fun x hx => Or.inl hx, fun e => absurd e (by omega), fun _ j a b => absurd b (by omega)⟩
    generalize hB : lp (soI n m (h : Int) b G nx (to : Int) hr) kk = self
    show soI n m (h : Int) b G nx (to : Int) hr (lp (soI n m (h : Int) b G nx (to : Int) hr) kk) (-1, (i : Int)) (wi μ (wm I m s)) = _
    rw [hB]
    unfold soI
    dsimp only
    rw [i_lt_f (by omega)]
  | d + 1, kk + 1, i, s, z, h1, h2, hS, hz, hc => by
    have z3 := hS.2.1.2.1
    obtain ⟨L, vg, ey⟩ := hc i (by omega)
    obtain ⟨u, z1, r, e1, p1, p2, p3⟩ := pullsAll_eq (n := n) (I := I) hM hkl vg.1 hH hH4 hh hb hG ⟨vg.2.1, vg.2.2⟩ hn hS
    obtain ⟨q1, q2, q3⟩ := oa_lv vg hG.2 hH op p3
    rw [← ey] at q1 q2 q3
    have pre : ∀ j : Nat, j < z → u 8 j = s 8 j := p3.1.2
    have run : ∀ self : Int × Int → Mem → Option (Int × Mem), soI n m (h : Int) b G nx (to : Int) hr self (-1, (i : Int)) (wi μ (wm I m s)) = (if eq32 r 0 then self (-1, ((i + 1 : Nat) : Int)) (wi μ (wm I m u)) else self (hr, ((i + 1 : Nat) : Int)) (wi μ (wm I m u))) := fun self => by
      unfold soI
      dsimp only
      rw [i_lt_t (by omega), i_eq_t rfl, bM_g23 hM, bM_ld8 hM (by omega) (by omega), Int.toNat_natCast, ey, bM_inv hM, bnd e1]
      rfl
    rcases p3.2.2.2.2 with r0 | r1
    · obtain ⟨u2, z2, r2, e2, t1, t2, t3, t4⟩ := soI_l (to := to) hM hkl hH hH4 op hh hb hG hn nx hhr d kk (i + 1) u z1 (by omega) (by omega) p1 (by have := p3.1.1; omega) (fun j hj => by rw [pre j (by omega)]; exact hc j hj)
      refine ⟨u2, z2, r2, ?_, t1, p2.tr t2, t3, LV.cons (by omega) hz p3.1 q1 (q2 r0) t4⟩
      show soI n m (h : Int) b G nx (to : Int) hr (lp (soI n m (h : Int) b G nx (to : Int) hr) kk) (-1, (i : Int)) (wi μ (wm I m s)) = _
      rw [run, i_eq_t r0]
      exact e2
    · refine ⟨u, z1, hr, ?_, p1, p2, Or.inr rfl, p3.1, fun x hx => ?_, fun _ => ⟨i, Nat.le_refl _, by omega, q3 r1⟩, fun c => absurd rfl c⟩
      · show soI n m (h : Int) b G nx (to : Int) hr (lp (soI n m (h : Int) b G nx (to : Int) hr) kk) (-1, (i : Int)) (wi μ (wm I m s)) = _
        rw [run, i_eq_f (by omega)]
        cases kk with
        | zero => exact absurd h2 (by omega)
        | succ kk =>
          generalize hB : lp (soI n m (h : Int) b G nx (to : Int) hr) kk = self
          show soI n m (h : Int) b G nx (to : Int) hr (lp (soI n m (h : Int) b G nx (to : Int) hr) kk) (hr, ((i + 1 : Nat) : Int)) (wi μ (wm I m u)) = _
          rw [hB]
          unfold soI
          dsimp only
          by_cases c : i + 1 < to
          · rw [i_lt_t (by omega), i_eq_f (by omega)]
          · rw [i_lt_f (by omega)]
      · rcases q1 x hx with q | q
        · exact Or.inl q
        · exact Or.inr ⟨i, Nat.le_refl _, by omega, q⟩
theorem soO_l (hM : isM μ m) (hkl : okL l) (hH : (H : Int) = l 0 0) (hH4 : H ≤ 4) (op : opn l o ro R) (hh : h < H) (hb : 0 ≤ b ∧ b ≤ 1000000) (hG : 1 ≤ G ∧ G ≤ 3) (hn : 20000 ≤ n) (v0 : VG l h b G l) : ∀ (d kk k fr to : Nat) (s : Ld), k + d = 3000 → d + 1 < kk → SA l o H ro s to → fr < to → Lin (kM o H h ro b l) (StL (kM o H h ro b) l o H h ro b G) (GoL (kM o H h ro b) l o H h ro b G) k (s 8) fr to → (∀ j : Nat, j < k → (∀ w : Int, Rc (kM o H h ro b l) (StL (kM o H h ro b) l o H h ro b G) j w → ¬ GoL (kM o H h ro b) l o H h ro b G w) ∧ ¬ mny (Rc (kM o H h ro b l) (StL (kM o H h ro b) l o H h ro b G) (j + 1)) ∧ ∃ w : Int, Rc (kM o H h ro b l) (StL (kM o H h ro b) l o H h ro b G) (j + 1) w ∧ ¬ Rc (kM o H h ro b l) (StL (kM o H h ro b) l o H h ro b G) j w) → ∃ (u : Ld) (a : Int), lp (soO n m (h : Int) b G) kk ((fr : Int), -1, (k : Int) + 1) (wi μ (wm I m s)) = soE n m a (wi μ (wm I m u)) ∧ FA H s u 0 ∧ An (kM o H h ro b l) (StL (kM o H h ro b) l o H h ro b G) (GoL (kM o H h ro b) l o H h ro b G) a
  | d, 0, k, fr, to, s, h1, h2, hS, hf, hL, hp => absurd h2 (by omega)
  | 0, kk + 1, k, fr, to, s, h1, h2, hS, hf, hL, hp => by
    have := hL.2.2.1
    have := hL.2.2.2
    omega
  | d + 1, kk + 1, k, fr, to, s, h1, h2, hS, hf, hL, hp => by
    have t3 := hL.2.2.1
    have hc : ∀ j : Nat, j < to → ∃ L : Ld, VG l h b G L ∧ s 8 j = kM o H h ro b L := fun j hj => Rc.vg v0 k _ ((hL.1 _).mp ⟨j, hj, rfl⟩)
    have ih := soO_l hM hkl hH hH4 op hh hb hG hn v0 d kk (k + 1) to
    have stop : ∀ (a : Int) (x hr : Int) (u : Ld), -2147483648 ≤ a ∧ a < 2147483648 ∧ a ≠ -1 → lp (soO n m (h : Int) b G) kk (x, a, hr) (wi μ (wm I m u)) = soE n m a (wi μ (wm I m u)) := fun a x hr u ha => by
      cases kk with
      | zero => exact absurd h2 (by omega)
      | succ kk =>
        generalize hB : lp (soO n m (h : Int) b G) kk = self
        show soO n m (h : Int) b G (lp (soO n m (h : Int) b G) kk) (x, a, hr) (wi μ (wm I m u)) = _
        rw [hB]
        unfold soO
        dsimp only
        rw [i_eq_f (by omega)]
    have stop2 : ∀ (x : Nat) (hr : Int) (u : Ld) (z : Nat), SA l o H ro u z → ¬ x < z → x ≤ 3001 → lp (soO n m (h : Int) b G) kk ((x : Int), -1, hr) (wi μ (wm I m u)) = soE n m (-1) (wi μ (wm I m u)) := fun x hr u z hz hx hx3 => by
      cases kk with
      | zero => exact absurd h2 (by omega)
      | succ kk =>
        generalize hB : lp (soO n m (h : Int) b G) kk = self
        show soO n m (h : Int) b G (lp (soO n m (h : Int) b G) kk) ((x : Int), -1, hr) (wi μ (wm I m u)) = _
        rw [hB]
        have := hz.2.1.1
        have := hz.2.1.2.1
        unfold soO
        dsimp only
        rw [i_eq_t rfl, bM_gI hM, hz.2.1.1, i_lt_f (by omega)]
    generalize hB : lp (soO n m (h : Int) b G) kk = self at ih stop stop2
    obtain ⟨u, z1, r, e1, p1, p2, p3, p4⟩ := soI_l (to := to) (n := n) (I := I) hM hkl hH hH4 op hh hb hG hn self (hr := (k : Int) + 1) (by omega) (to - fr) n fr s to (by omega) (by omega) hS (Nat.le_refl _) hc
    have us := p1.2.1
    obtain ⟨w1, w2⟩ := hL.st p4 us.2.2.1.2.2.1 us.2.1
    have pre : ∀ (u' : Ld) (a : Int), soX m self (to : Int) ((k : Int) + 1) r (wi μ (wm I m u)) = soE n m a (wi μ (wm I m u')) → lp (soO n m (h : Int) b G) (kk + 1) ((fr : Int), -1, (k : Int) + 1) (wi μ (wm I m s)) = soE n m a (wi μ (wm I m u')) := fun u' a e => by
      show soO n m (h : Int) b G (lp (soO n m (h : Int) b G) kk) ((fr : Int), -1, (k : Int) + 1) (wi μ (wm I m s)) = _
      rw [hB]
      unfold soO
      dsimp only
      rw [i_eq_t rfl, bM_gI hM, hS.2.1.1, i_lt_t (by omega), bM_gI hM, hS.2.1.1, e1]
      exact e
    by_cases cr : r = (k : Int) + 1
    · refine ⟨u, (k : Int) + 1, pre u _ ?_, p2, k, hp, Or.inl ⟨rfl, w1 cr⟩⟩
      unfold soX
      rw [i_eq_f (by omega), cr]
      exact stop _ _ _ _ (by omega)
    · have r1 : r = -1 := by omega
      obtain ⟨w3, w4, w5⟩ := w2 cr
      by_cases cz : 3000 < z1
      · refine ⟨u, -4, pre u _ ?_, p2, k, hp, Or.inr ⟨w3, Or.inl ⟨rfl, w4 cz⟩⟩⟩
        unfold soX
        rw [i_eq_t r1, bM_gI hM, us.1, i_lt_t (by have := us.2.1; omega)]
        exact stop _ _ _ _ (by omega)
      · obtain ⟨w6, w7, w8⟩ := w5 (by omega)
        have lt := p4.1.1
        by_cases ce : z1 = to
        · refine ⟨u, -1, pre u _ ?_, p2, k, hp, Or.inr ⟨w3, Or.inr ⟨rfl, w6, w7 ce⟩⟩⟩
          unfold soX
          rw [i_eq_t r1, bM_gI hM, us.1, i_lt_f (by omega), r1]
          exact stop2 to _ u z1 p1 (by omega) (by omega)
        · obtain ⟨w9, w10⟩ := w8 (by omega)
          obtain ⟨u2, a, e2, t1, t2⟩ := ih z1 u (by omega) (by omega) p1 (by omega) w9 (fun j hj => by
            by_cases cj : j = k
            · rw [cj]; exact ⟨w3, w6, w10⟩
            · exact hp j (by omega))
          refine ⟨u2, a, pre u2 a ?_, p2.tr t1, t2⟩
          unfold soX
          rw [i_eq_t r1, bM_gI hM, us.1, i_lt_f (by omega), r1]
          exact e2
end SQ
