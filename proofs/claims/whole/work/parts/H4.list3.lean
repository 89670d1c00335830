/-! the class's search: the list of choices, whole -/
theorem tb_ex (P : Nat → Prop) : ∀ m : Nat, ∃ w : Nat, w < 2 ^ m ∧ ∀ t : Nat, t < m → (w.testBit t = true ↔ P t)
  | 0 => ⟨0, by decide, fun t ht => absurd ht (by omega)⟩
  | m + 1 => by
    obtain ⟨w, h1, h2⟩ := tb_ex P m
    have p2 : 2 ^ (m + 1) = 2 * 2 ^ m := by rw [Nat.pow_succ]; omega
    have wm : w.testBit m = false := Nat.testBit_lt_two_pow h1
    by_cases c : P m
    · refine ⟨w ||| 2 ^ m, Nat.or_lt_two_pow (by omega) (by omega), fun t ht => tb_or.trans ⟨fun z => ?_, fun z => ?_⟩⟩
      · rcases z with z | z
        · by_cases ct : t = m
          · rw [ct]; exact c
          · exact (h2 t (by omega)).mp z
        · rw [z]; exact c
      · by_cases ct : t = m
        · exact Or.inr ct
        · exact Or.inl ((h2 t (by omega)).mpr z)
    · refine ⟨w, by omega, fun t ht => ?_⟩
      by_cases ct : t = m
      · rw [ct, wm]
        exact ⟨fun z => absurd z (by decide), fun z => absurd z c⟩
      · exact h2 t (by omega)
def nsS (D : Nat → Nat) (H : Nat) : Nat → Nat
  | 0 => 0
  | q + 1 => ns D H q
theorem nsS_s (D : Nat → Nat) (H q : Nat) : nsS D H (q + 1) = nsS D H q + nn D 0 H q := by
  cases q with
  | zero =>
    show nn D 0 H 0 = 0 + nn D 0 H 0
    omega
  | succ q => rfl
theorem nsS_mono (D : Nat → Nat) (H : Nat) : ∀ (d q : Nat), nsS D H q ≤ nsS D H (q + d)
  | 0, q => Nat.le_refl _
  | d + 1, q => by
    have := nsS_mono D H d q
    have e := nsS_s D H (q + d)
    show nsS D H q ≤ nsS D H (q + d + 1)
    omega
def lcB (n a : Nat) : (Int → Mem → Option (Unit × Mem)) → Int → Mem → Option (Unit × Mem) := fun nx7 v7 μ7 => (gA μ7 5 a 10).bind fun x9 => (gI μ7 2 x9 0).bind fun x12 => if lt32 x12 v7 then some ((), μ7) else (inv μ7 5 a (mX4_listFrom n a 0 0 v7 μ7)).bind fun p22 => nx7 (v7 + 1) p22.2
theorem listChoices_s {n a : Nat} (μ : Mem) : mX4_listChoices n a μ = ((pI μ 5 a 6 0).bind fun μ2 => lp (lcB n a) n 0 μ2) := rfl
section LK
variable {μ : Mem} {J : Nat → Nat → Int} {a c n o H R : Nat} {ro : Nat → Nat} {l : Ld}
def lcI (l : Ld) (o H : Nat) (ro : Nat → Nat) (J : Nat → Nat → Int) (a z q : Nat) : Prop := (∀ j : Nat, j < z → ∃ q' w : Nat, q' < q ∧ ext l o H ro 0 0 q' w ∧ J (a + 10) j = (w : Int) ∧ J (a + 11) j = (q' : Int)) ∧ (∀ j k : Nat, j ≤ k → k < z → J (a + 11) j ≤ J (a + 11) k) ∧ ∀ q' w : Nat, q' < q → ext l o H ro 0 0 q' w → ∃ j : Nat, j < z ∧ J (a + 10) j = (w : Int) ∧ J (a + 11) j = (q' : Int)
theorem lc_l (hE : isSe μ a c) (hL : isL μ (c + 3)) (ha : c + 15 < a) (hk : okL l) (hH : (H : Int) = l 0 0) (op : opn l o ro R) (ho : o ≤ 3) (hH4 : H ≤ 4) (hn : 20000 ≤ n) : ∀ (d kk q : Nat) (J : Nat → Nat → Int), q + d = H + 1 → d < kk → envS J a c l o ro → J a 6 = ((nsS (fun i => dg (en l ro) i 0 (2 * o)) H q : Nat) : Int) → lcI l o H ro J a (nsS (fun i => dg (en l ro) i 0 (2 * o)) H q) q → ∃ K : Nat → Nat → Int, lp (lcB n a) kk (q : Int) (wi μ J) = some ((), wi μ K) ∧ (∀ b : Nat, b ≠ a → b ≠ a + 10 → b ≠ a + 11 → K b = J b) ∧ (∀ j : Nat, j ≠ 6 → K a j = J a j) ∧ K a 6 = ((nsS (fun i => dg (en l ro) i 0 (2 * o)) H (H + 1) : Nat) : Int) ∧ lcI l o H ro K a (nsS (fun i => dg (en l ro) i 0 (2 * o)) H (H + 1)) (H + 1)
  | d, 0, q, J, h1, h2, hJ, hz, hI => absurd h2 (by omega)
  | 0, kk + 1, q, J, h1, h2, hJ, hz, hI => by
    have eq : q = H + 1 := by omega
    subst eq
    refine ⟨J, ?_, fun _ _ _ _ => rfl, fun _ _ => rfl, hz, hI⟩
    generalize hB : lp (lcB n a) kk = slf
    show lcB n a (lp (lcB n a) kk) ((H + 1 : Nat) : Int) (wi μ J) = _
    rw [hB]
    unfold lcB
    rw [bE_g10 hE, bL_gI hL, hJ.1 0 (by decide) (by decide), i_lt_t (by omega)]
  | d + 1, kk + 1, q, J, h1, h2, hJ, hz, hI => by
    have st := nsS_s (fun i => dg (en l ro) i 0 (2 * o)) H q
    have mo := nsS_mono (fun i => dg (en l ro) i 0 (2 * o)) H d (q + 1)
    rw [show q + 1 + d = H + 1 by omega] at mo
    have b36 : nsS (fun i => dg (en l ro) i 0 (2 * o)) H (H + 1) ≤ 36 := ns_le (e := en l ro) ho hH4
    obtain ⟨K, e1, lc⟩ := listFrom_r (n := n) (Q := (q : Int)) hE hL ha hk hH op ho hH4 hn H 12 0 (by omega) (by omega) 0 q (nsS (fun i => dg (en l ro) i 0 (2 * o)) H q) J (by decide) (fun t _ hx => by simp at hx) (by omega) (by
      have : pcN 0 = 0 := by decide
      rw [this]; congr 1; omega) hJ hz (by omega)
    obtain ⟨⟨f1, f2, f3⟩, ⟨f4, f5⟩, f6, f7⟩ := id lc
    obtain ⟨i1, i2, i3⟩ := hI
    rw [← st] at f3 f6 f7
    have hI2 : lcI l o H ro K a (nsS (fun i => dg (en l ro) i 0 (2 * o)) H (q + 1)) (q + 1) := by
      refine ⟨fun j hj => ?_, fun j k hjk hkz => ?_, fun q' w hq hw => ?_⟩
      · by_cases cj : j < nsS (fun i => dg (en l ro) i 0 (2 * o)) H q
        · obtain ⟨q', w, x1, x2, x3, x4⟩ := i1 j cj
          exact ⟨q', w, by omega, x2, (f5 j cj).1.trans x3, (f5 j cj).2.trans x4⟩
        · obtain ⟨w, x1, x2, x3⟩ := f6 j (by omega) hj
          exact ⟨q, w, by omega, x1, x2, x3⟩
      · by_cases cj : j < nsS (fun i => dg (en l ro) i 0 (2 * o)) H q
        · rw [(f5 j cj).2]
          by_cases ck : k < nsS (fun i => dg (en l ro) i 0 (2 * o)) H q
          · rw [(f5 k ck).2]; exact i2 j k hjk ck
          · obtain ⟨w, x1, x2, x3⟩ := f6 k (by omega) hkz
            obtain ⟨q', w', y1, y2, y3, y4⟩ := i1 j cj
            rw [x3, y4]; omega
        · obtain ⟨w, x1, x2, x3⟩ := f6 k (by omega) hkz
          obtain ⟨w', y1, y2, y3⟩ := f6 j (by omega) (by omega)
          rw [x3, y3]; exact Int.le_refl _
      · by_cases cq : q' = q
        · subst cq
          obtain ⟨j, x1, x2, x3⟩ := f7 w hw
          obtain ⟨w', y1, y2, y3⟩ := f6 j x1 x2
          exact ⟨j, x2, x3, y3⟩
        · obtain ⟨j, x1, x2, x3⟩ := i3 q' w (by omega) hw
          exact ⟨j, by omega, (f5 j x1).1.trans x2, (f5 j x1).2.trans x3⟩
    obtain ⟨M, e2, g1, g2, g3, g4⟩ := lc_l hE hL ha hk hH op ho hH4 hn d kk (q + 1) K (by omega) (by omega) (lc.env ha hJ) f3 hI2
    refine ⟨M, ?_, fun b b1 b2 b3 => (g1 b b1 b2 b3).trans (f1 b b1 b2 b3), fun j hj => (g2 j hj).trans (f2 j hj), g3, g4⟩
    generalize hB : lp (lcB n a) kk = slf at e2
    show lcB n a (lp (lcB n a) kk) (q : Int) (wi μ J) = _
    rw [hB]
    have e1' : mX4_listFrom n a 0 0 (q : Int) (wi μ J) = some ((), wi μ K) := e1
    unfold lcB
    rw [bE_g10 hE, bL_gI hL, hJ.1 0 (by decide) (by decide), i_lt_f (by omega), bE_inv hE, bnd e1']
    exact e2
theorem listChoices_eq (hE : isSe μ a c) (hL : isL μ (c + 3)) (ha : c + 15 < a) (hk : okL l) (hH : (H : Int) = l 0 0) (op : opn l o ro R) (ho : o ≤ 3) (hH4 : H ≤ 4) (hn : 20000 ≤ n) (hJ : envS J a c l o ro) : ∃ (K : Nat → Nat → Int) (z : Nat), mX4_listChoices n a (wi μ J) = some ((), wi μ K) ∧ (∀ b : Nat, b ≠ a → b ≠ a + 10 → b ≠ a + 11 → K b = J b) ∧ (∀ j : Nat, j ≠ 6 → K a j = J a j) ∧ chZ K a l o H ro z := by
  have hJ' : envS (up2 J a 6 0) a c l o ro := ⟨fun k hk k9 => (show up2 J a 6 0 (c + 3 + k) = J (c + 3 + k) from up2_row (by omega)).trans (hJ.1 k hk k9), by rw [up2_n (by omega)]; exact hJ.2.1, fun k hk => by rw [up2_row (by omega)]; exact hJ.2.2 k hk⟩
  obtain ⟨K, e, g1, g2, g3, g4⟩ := lc_l (n := n) hE hL ha hk hH op ho hH4 hn (H + 1) n 0 (up2 J a 6 0) (by omega) (by omega) hJ' up2_s ⟨fun j hj => absurd hj (by show ¬ j < 0; omega), fun j k _ hk => absurd hk (by show ¬ k < 0; omega), fun q' w hq => absurd hq (by omega)⟩
  have b36 : nsS (fun i => dg (en l ro) i 0 (2 * o)) H (H + 1) ≤ 36 := ns_le (e := en l ro) ho hH4
  have ew : ∀ p : Nat → Int, ∃ w : Nat, whoB l o ro p w := fun p => tb_ex (fun t => t < 2 * o ∧ p (en l ro t) = ((ro (t / 2) : Nat) : Int)) 6
  refine ⟨K, _, ?_, fun b b1 b2 b3 => (g1 b b1 b2 b3).trans (up2_row b1), fun j hj => (g2 j hj).trans (up2_n (by omega)), g3, b36, fun j hj => ?_, g4.2.1, fun p hp => ?_⟩
  · rw [listChoices_s, bE_pI hE]
    exact e
  · obtain ⟨q, w, x1, x2, x3, x4⟩ := g4.1 j hj
    obtain ⟨p, y1, y2, y3⟩ := (ext_0 ho).mp x2
    exact ⟨p, w, y1, y3, x3, by rw [x4, y2]⟩
  · obtain ⟨w, hw⟩ := ew p
    have r := cn_rg p H 0
    obtain ⟨j, x1, x2, x3⟩ := g4.2.2 (cn p 0 H).toNat w (by omega) ((ext_0 ho).mpr ⟨p, hp, by omega, hw⟩)
    exact ⟨j, w, x1, hw, x2, by rw [x3]; omega⟩
end LK
