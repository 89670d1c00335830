/-! the open ropes in their order; the reference lists them -/
def oL (c : Nat → Int) : Nat → List Nat
  | 0 => []
  | i + 1 => if c i = 0 then oL c i ++ [i] else oL c i
def oN (c : Nat → Int) (R : Nat) : Nat := (oL c R).length
def oR (c : Nat → Int) (R k : Nat) : Nat := (oL c R).getD k 0
theorem oL_t {c : Nat → Int} {i : Nat} (h : c i = 0) : oL c (i + 1) = oL c i ++ [i] := if_pos h
theorem oL_f {c : Nat → Int} {i : Nat} (h : ¬ c i = 0) : oL c (i + 1) = oL c i := if_neg h
theorem oN_t {c : Nat → Int} {i : Nat} (h : c i = 0) : oN c (i + 1) = oN c i + 1 := by
  unfold oN
  rw [oL_t h, List.length_append]
  rfl
theorem oN_f {c : Nat → Int} {i : Nat} (h : ¬ c i = 0) : oN c (i + 1) = oN c i := by
  unfold oN
  rw [oL_f h]
theorem oR_s {c : Nat → Int} {i : Nat} (h : c i = 0) : oR c (i + 1) (oN c i) = i := by
  unfold oR oN
  rw [oL_t h, List.getD_eq_getElem?_getD, List.getElem?_append_right (Nat.le_refl _), Nat.sub_self]
  rfl
theorem oR_o {c : Nat → Int} {i k : Nat} (h : k < oN c i) : oR c (i + 1) k = oR c i k := by
  by_cases z : c i = 0
  · unfold oR
    rw [oL_t z, List.getD_eq_getElem?_getD, List.getD_eq_getElem?_getD, List.getElem?_append_left h]
  · unfold oR
    rw [oL_f z]
theorem oN_mono {c : Nat → Int} {i : Nat} : ∀ d : Nat, oN c i ≤ oN c (i + d)
  | 0 => Nat.le_refl _
  | d + 1 => by
    have := oN_mono (c := c) (i := i) d
    by_cases z : c (i + d) = 0
    · have e := oN_t z
      show oN c i ≤ oN c (i + d + 1)
      omega
    · have e := oN_f z
      show oN c i ≤ oN c (i + d + 1)
      omega
theorem oR_p {c : Nat → Int} : ∀ i : Nat, (∀ k : Nat, k < oN c i → oR c i k < i ∧ c (oR c i k) = 0) ∧ (∀ j k : Nat, j < k → k < oN c i → oR c i j < oR c i k) ∧ ∀ r : Nat, r < i → c r = 0 → ∃ k : Nat, k < oN c i ∧ oR c i k = r
  | 0 => ⟨fun k hk => absurd hk (by show ¬ k < 0; omega), fun j k _ hk => absurd hk (by show ¬ k < 0; omega), fun r hr => absurd hr (by omega)⟩
  | i + 1 => by
    obtain ⟨p1, p2, p3⟩ := oR_p (c := c) i
    by_cases z : c i = 0
    · have e := oN_t z
      refine ⟨fun k hk => ?_, fun j k hjk hk => ?_, fun r hr hz => ?_⟩
      · by_cases ck : k = oN c i
        · rw [ck, oR_s z]; exact ⟨by omega, z⟩
        · rw [oR_o (by omega)]
          have := p1 k (by omega)
          exact ⟨by omega, this.2⟩
      · by_cases ck : k = oN c i
        · rw [ck, oR_s z, oR_o (by omega)]
          exact (p1 j (by omega)).1
        · rw [oR_o (by omega), oR_o (by omega)]
          exact p2 j k hjk (by omega)
      · by_cases cr : r = i
        · exact ⟨oN c i, by omega, by rw [oR_s z, cr]⟩
        · obtain ⟨k, k1, k2⟩ := p3 r (by omega) hz
          exact ⟨k, by omega, by rw [oR_o k1]; exact k2⟩
    · have e := oN_f z
      have er : ∀ k : Nat, oR c (i + 1) k = oR c i k := fun k => by unfold oR; rw [oL_f z]
      refine ⟨fun k hk => ?_, fun j k hjk hk => ?_, fun r hr hz => ?_⟩
      · rw [er]
        have := p1 k (by omega)
        exact ⟨by omega, this.2⟩
      · rw [er, er]; exact p2 j k hjk (by omega)
      · by_cases cr : r = i
        · rw [cr] at hz; exact absurd hz z
        · obtain ⟨k, k1, k2⟩ := p3 r (by omega) hz
          exact ⟨k, by omega, by rw [er]; exact k2⟩
def afB (n m : Nat) : (Int → Mem → Option (Int × Mem)) → Int → Mem → Option (Int × Mem) := fun nx7 v7 μ7 => (gA μ7 12 m 1).bind fun x9 => (ldI μ7 0 x9 1).bind fun x13 => if lt32 v7 x13 then (inv μ7 12 m (mX11_hangs n m v7 μ7)).bind fun p19 => if eq32 p19.1 0 then nx7 (v7 + 1) p19.2 else (gI p19.2 12 m 27).bind fun x29 => if eq32 x29 3 then retZ 0 p19.2 else (gA p19.2 12 m 25).bind fun x39 => (gI p19.2 12 m 27).bind fun x43 => (stI p19.2 0 x39 x43 v7).bind fun μ47 => (gI μ47 12 m 27).bind fun x50 => (pI μ47 12 m 27 (x50 + 1)).bind fun μ55 => nx7 (v7 + 1) μ55 else (gA μ7 12 m 1).bind fun x65 => (ldI μ7 0 x65 0).bind fun x69 => if lt32 4 x69 then retZ 0 μ7 else retZ 1 μ7
theorem areFew_s {n m : Nat} (μ : Mem) : mX11_areFew n m μ = ((pI μ 12 m 27 0).bind fun μ2 => lp (afB n m) n 0 μ2) := rfl
section FW
variable {μ : Mem} {I : Nat → Nat → Int} {m n R H : Nat} {L : Ld}
def fewF (s u : Ld) : Prop := (∀ k : Nat, k ≠ 0 → k ≠ 10 → u k = s k) ∧ ∀ j : Nat, j ≠ 27 → u 0 j = s 0 j
theorem few_l (hM : isM μ m) (hk : okL L) (hR : (R : Int) = L 0 1) (hH : (H : Int) = L 0 0) : ∀ (d k i : Nat) (s : Ld), i + d = R → d < k → LR L (s 1) → s 0 27 = ((oN (L 9) i : Nat) : Int) → oN (L 9) i ≤ 3 → (∀ j : Nat, j < oN (L 9) i → s 10 j = ((oR (L 9) i j : Nat) : Int)) → ∃ u : Ld, lp (afB n m) k (i : Int) (wi μ (wm I m s)) = some (bi (oN (L 9) R ≤ 3 ∧ H ≤ 4), wi μ (wm I m u)) ∧ fewF s u ∧ (oN (L 9) R ≤ 3 → hngM u (oN (L 9) R) (oR (L 9) R) L)
  | d, 0, i, s, h1, h2, hl, h27, h3, h10 => absurd h2 (by omega)
  | 0, k + 1, i, s, h1, h2, hl, h27, h3, h10 => by
    have k0 := hk.1
    have ei : i = R := by omega
    rw [ei] at h27 h3 h10 ⊢
    refine ⟨s, ?_, ⟨fun _ _ _ => rfl, fun _ _ => rfl⟩, fun _ => ⟨h27, h3, fun k hk => ⟨h10 k hk, ?_⟩, (oR_p R).2.1⟩⟩
    · generalize hB : lp (afB n m) k = self
      show afB n m (lp (afB n m) k) (R : Int) (wi μ (wm I m s)) = _
      rw [hB]
      unfold afB
      rw [bM_g1 hM, bM_ld1 hM (by decide) (by decide), show s 1 (1 : Int).toNat = L 0 1 from hl.1.2.1, i_lt_f (by omega), bM_g1 hM, bM_ld1 hM (by decide) (by decide), show s 1 (0 : Int).toNat = L 0 0 from hl.1.1]
      by_cases c : H ≤ 4
      · rw [i_lt_f (by omega), bi_t ⟨h3, c⟩]; rfl
      · rw [i_lt_t (by omega), bi_f (fun z => c z.2)]; rfl
    · have := ((oR_p (c := L 9) R).1 k hk).1
      omega
  | d + 1, k + 1, i, s, h1, h2, hl, h27, h3, h10 => by
    have k0 := hk.1
    generalize hB : lp (afB n m) k = self
    show ∃ u : Ld, afB n m (lp (afB n m) k) (i : Int) (wi μ (wm I m s)) = some (bi (oN (L 9) R ≤ 3 ∧ H ≤ 4), wi μ (wm I m u)) ∧ _
    rw [hB]
    unfold afB
    rw [bM_g1 hM, bM_ld1 hM (by decide) (by decide), show s 1 (1 : Int).toNat = L 0 1 from hl.1.2.1, i_lt_t (by omega), bM_inv hM, mhangs_w hM hl hk (by omega)]
    dsimp only
    by_cases c : L 9 i = 0
    · rw [i_bi_t c, bM_gI hM, h27]
      have eN := oN_t (c := L 9) c
      have mono := oN_mono (c := L 9) (i := i + 1) d
      rw [show i + 1 + d = R by omega] at mono
      by_cases c3 : oN (L 9) i = 3
      · rw [i_eq_t (x := ((oN (L 9) i : Nat) : Int)) (y := 3) (by omega), bi_f (by omega)]
        exact ⟨s, rfl, ⟨fun _ _ _ => rfl, fun _ _ => rfl⟩, fun z => absurd z (by omega)⟩
      · have a1 : up2 s 10 (oN (L 9) i) (i : Int) 0 27 = ((oN (L 9) i : Nat) : Int) := by rw [up2_n (by omega)]; exact h27
        rw [i_eq_f (by omega), bM_g25 hM, bM_gI hM, h27, bM_st10 hM (by omega) (by omega), Int.toNat_natCast, bM_gI hM, a1, bM_pI hM]
        obtain ⟨u, e, ⟨f1, f2⟩, f3⟩ := few_l hM hk hR hH d k (i + 1) (up2 (up2 s 10 (oN (L 9) i) (i : Int)) 0 27 (((oN (L 9) i : Nat) : Int) + 1)) (by omega) (by omega) (by rw [up2_row (by decide), up2_row (by decide)]; exact hl) (by rw [up2_s, eN]; omega) (by omega) (fun j hj => by
          rw [up2_row (by decide)]
          by_cases cj : j = oN (L 9) i
          · rw [cj, up2_s, oR_s c]
          · rw [up2_n (by omega), oR_o (by omega)]
            exact h10 j (by omega))
        rw [hB] at e
        refine ⟨u, e, ⟨fun k a b => ?_, fun j hj => ?_⟩, f3⟩
        · rw [f1 k a b, up2_row a, up2_row b]
        · rw [f2 j hj, up2_n (by omega), up2_row (by decide)]
    · rw [i_bi_f c]
      have eN := oN_f (c := L 9) c
      obtain ⟨u, e, f, f3⟩ := few_l hM hk hR hH d k (i + 1) s (by omega) (by omega) hl (by rw [eN]; exact h27) (by omega) (fun j hj => by
        rw [oR_o (by omega)]
        exact h10 j (by omega))
      rw [hB] at e
      exact ⟨u, e, f, f3⟩
theorem areFew_eq (hM : isM μ m) {s : Ld} (hl : LR L (s 1)) (hk : okL L) (hR : (R : Int) = L 0 1) (hH : (H : Int) = L 0 0) (hn : 20000 ≤ n) : ∃ u : Ld, mX11_areFew n m (wi μ (wm I m s)) = some (bi (oN (L 9) R ≤ 3 ∧ H ≤ 4), wi μ (wm I m u)) ∧ fewF s u ∧ (oN (L 9) R ≤ 3 → hngM u (oN (L 9) R) (oR (L 9) R) L) := by
  have k0 := hk.1
  obtain ⟨u, e, ⟨f1, f2⟩, f3⟩ := few_l (n := n) (I := I) hM hk hR hH R n 0 (up2 s 0 27 0) (by omega) (by omega) (by rw [up2_row (by decide)]; exact hl) (by rw [up2_s]; rfl) (by show 0 ≤ 3; decide) (fun j hj => absurd hj (by show ¬ j < 0; omega))
  rw [areFew_s, bM_pI hM]
  exact ⟨u, e, ⟨fun k a b => (f1 k a b).trans (up2_row a), fun j hj => (f2 j hj).trans (up2_n (by omega))⟩, f3⟩
end FW
