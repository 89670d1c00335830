/-! the class's search: prepare -/
def prE (n a : Nat) (μ18 : Mem) : Option (Int × Mem) := (gA μ18 5 a 10).bind fun x87 => (gI μ18 2 x87 0).bind fun x90 => if lt32 4 x90 then retZ 0 μ18 else (inv μ18 5 a (mX4_listChoices n a μ18)).bind fun p100 => retZ 1 p100.2
def prB (n a : Nat) (b3 : Int) : (Int → Mem → Option (Int × Mem)) → Int → Mem → Option (Int × Mem) := fun nx18 v18 μ18 => (gA μ18 5 a 10).bind fun x21 => (gI μ18 2 x21 1).bind fun x24 => if lt32 v18 x24 then (gA μ18 5 a 10).bind fun x31 => (gA μ18 2 x31 14).bind fun x34 => (ldI μ18 2 x34 v18).bind fun x39 => if eq32 x39 0 then if eq32 v18 b3 then nx18 (v18 + 1) μ18 else (gI μ18 5 a 3).bind fun x50 => if lt32 x50 3 then (gA μ18 5 a 2).bind fun x60 => (gI μ18 5 a 3).bind fun x64 => (stI μ18 0 x60 x64 v18).bind fun μ69 => (gI μ69 5 a 3).bind fun x72 => (pI μ69 5 a 3 (x72 + 1)).bind fun μ77 => nx18 (v18 + 1) μ77 else retZ 0 μ18 else nx18 (v18 + 1) μ18 else prE n a μ18
theorem prepare_s {n a : Nat} {b1 b2 b3 : Int} (μ : Mem) : mX4_prepare n a b1 b2 b3 μ = ((pI μ 5 a 11 b1).bind fun μ2 => (pI μ2 5 a 12 b2).bind fun μ7 => (pI μ7 5 a 3 0).bind fun μ12 => lp (prB n a b3) n 0 μ12) := rfl
section PR
variable {μ : Mem} {J : Nat → Nat → Int} {a c n o H R : Nat} {ro : Nat → Nat} {l : Ld} {b3 : Int}
/-- the land that is searched: the one that stands there, or without a rope -/
def vir (l lm : Ld) (R : Nat) (b3 : Int) : Prop := (∀ k : Nat, k ≤ 12 → k ≠ 9 → lm k = l k) ∧ ∀ r : Nat, r < R → (l 9 r = 0 ↔ lm 9 r = 0 ∧ ¬ (r : Int) = b3)
theorem pr_l (hE : isSe μ a c) (hL : isL μ (c + 3)) (ha : c + 15 < a) (hk : okL l) (hH : (H : Int) = l 0 0) (hR : (R : Int) = l 0 1) (hb : -1 ≤ b3 ∧ b3 ≤ 100) (hn : 20000 ≤ n) : ∀ (d kk i : Nat) (J : Nat → Nat → Int), i + d = R → d < kk → okL (ld J (c + 3)) → vir l (ld J (c + 3)) R b3 → J a 3 = ((oN (l 9) i : Nat) : Int) → oN (l 9) i ≤ 3 → (∀ j : Nat, j < oN (l 9) i → J (a + 9) j = ((oR (l 9) i j : Nat) : Int)) → ∃ K : Nat → Nat → Int, lp (prB n a b3) kk (i : Int) (wi μ J) = some (bi (oN (l 9) R ≤ 3 ∧ H ≤ 4), wi μ K) ∧ (∀ b : Nat, b ≠ a → b ≠ a + 9 → b ≠ a + 10 → b ≠ a + 11 → K b = J b) ∧ (∀ j : Nat, j ≠ 3 → j ≠ 6 → K a j = J a j) ∧ (oN (l 9) R ≤ 3 ∧ H ≤ 4 → envS K a c l (oN (l 9) R) (oR (l 9) R) ∧ ∃ z : Nat, chZ K a l (oN (l 9) R) H (oR (l 9) R) z)
  | d, 0, i, J, h1, h2, hm, hv, h3, ho, hr => absurd h2 (by omega)
  | 0, kk + 1, i, J, h1, h2, hm, hv, h3, ho, hr => by
    have ei : i = R := by omega
    subst ei
    have k0 := hk.1
    have en : envS J a c l (oN (l 9) i) (oR (l 9) i) := ⟨hv.1, h3, hr⟩
    have pre : ∀ slf : Int → Mem → Option (Int × Mem), prB n a b3 slf (i : Int) (wi μ J) = prE n a (wi μ J) := fun slf => by
      unfold prB
      rw [bE_g10 hE, bL_gI hL, hv.1 0 (by decide) (by decide), i_lt_f (by omega)]
    by_cases cH : H ≤ 4
    · obtain ⟨K, z, e, g1, g2, g3⟩ := listChoices_eq (n := n) hE hL ha hk hH (opn_of hR) ho cH hn en
      refine ⟨K, ?_, fun b b1 _ b2 b3 => g1 b b1 b2 b3, fun j _ j6 => g2 j j6, fun _ => ⟨⟨fun k hk k9 => (show K (c + 3 + k) = J (c + 3 + k) from g1 _ (by omega) (by omega) (by omega)).trans (hv.1 k hk k9), (g2 3 (by decide)).trans h3, fun k hk => by rw [g1 (a + 9) (by omega) (by omega) (by omega)]; exact hr k hk⟩, z, g3⟩⟩
      show prB n a b3 (lp (prB n a b3) kk) (i : Int) (wi μ J) = _
      rw [pre]
      unfold prE
      rw [bE_g10 hE, bL_gI hL, hv.1 0 (by decide) (by decide), i_lt_f (by omega), bE_inv hE, bnd e, bi_t ⟨ho, cH⟩]
      rfl
    · refine ⟨J, ?_, fun _ _ _ _ _ => rfl, fun _ _ _ => rfl, fun w => absurd w.2 cH⟩
      show prB n a b3 (lp (prB n a b3) kk) (i : Int) (wi μ J) = _
      rw [pre]
      unfold prE
      rw [bE_g10 hE, bL_gI hL, hv.1 0 (by decide) (by decide), i_lt_t (by omega), bi_f (fun w => cH w.2)]
      rfl
  | d + 1, kk + 1, i, J, h1, h2, hm, hv, h3, ho, hr => by
    have k0 := hk.1
    have m9 := (hm.2.2.1 i (by rw [hv.1 0 (by decide) (by decide)]; omega)).2.2.2.2.1
    have ih := pr_l hE hL ha hk hH hR hb hn d kk (i + 1)
    have pre : ∀ slf : Int → Mem → Option (Int × Mem), prB n a b3 slf (i : Int) (wi μ J) = if eq32 (ld J (c + 3) 9 i) 0 then if eq32 (i : Int) b3 then slf ((i : Int) + 1) (wi μ J) else (gI (wi μ J) 5 a 3).bind fun x50 => if lt32 x50 3 then (gA (wi μ J) 5 a 2).bind fun x60 => (gI (wi μ J) 5 a 3).bind fun x64 => (stI (wi μ J) 0 x60 x64 (i : Int)).bind fun μ69 => (gI μ69 5 a 3).bind fun x72 => (pI μ69 5 a 3 (x72 + 1)).bind fun μ77 => slf ((i : Int) + 1) μ77 else retZ 0 (wi μ J) else slf ((i : Int) + 1) (wi μ J) := fun slf => by
      unfold prB
      rw [bE_g10 hE, bL_gI hL, hv.1 0 (by decide) (by decide), i_lt_t (by omega), bE_g10 hE, bL_g14 hL, bL_ld9 hL (by omega) (by omega), Int.toNat_natCast]
    generalize hB : lp (prB n a b3) kk = slf at ih
    show ∃ K : Nat → Nat → Int, prB n a b3 (lp (prB n a b3) kk) (i : Int) (wi μ J) = _ ∧ _
    rw [hB, pre]
    by_cases c9 : l 9 i = 0
    · have w := (hv.2 i (by omega)).mp c9
      have on1 := oN_t c9
      rw [i_eq_t w.1, i_eq_f (by omega), bE_gI hE, h3]
      by_cases c3 : oN (l 9) i < 3
      · have e1 : up2 J (a + 9) (oN (l 9) i) (i : Int) a 3 = ((oN (l 9) i : Nat) : Int) := by rw [up2_row (by omega)]; exact h3
        rw [i_lt_t (by omega), bE_g2 hE, bE_gI hE, h3, bE_st9 hE (by omega) (by omega), Int.toNat_natCast, bE_gI hE, e1, bE_pI hE]
        have nl : ∀ k : Nat, k ≤ 12 → ld (up2 (up2 J (a + 9) (oN (l 9) i) (i : Int)) a 3 (((oN (l 9) i : Nat) : Int) + 1)) (c + 3) k = ld J (c + 3) k := fun k hk => by
          show up2 (up2 J (a + 9) (oN (l 9) i) (i : Int)) a 3 (((oN (l 9) i : Nat) : Int) + 1) (c + 3 + k) = J (c + 3 + k)
          rw [up2_row (by omega), up2_row (by omega)]
        obtain ⟨K, e, g1, g2, g3⟩ := ih (up2 (up2 J (a + 9) (oN (l 9) i) (i : Int)) a 3 (((oN (l 9) i : Nat) : Int) + 1)) (by omega) (by omega) (hm.cg nl) ⟨fun k hk k9 => (nl k hk).trans (hv.1 k hk k9), fun r hr => by rw [nl 9 (by decide)]; exact hv.2 r hr⟩ (by rw [up2_s, on1]; rfl) (by omega) (fun j hj => by
          rw [up2_row (by omega)]
          by_cases cj : j = oN (l 9) i
          · rw [cj, up2_s, oR_s c9]
          · rw [up2_n (by omega), oR_o (by omega)]; exact hr j (by omega))
        refine ⟨K, e, fun b b1 b2 b3 b4 => by rw [g1 b b1 b2 b3 b4, up2_row b1, up2_row b2], fun j j3 j6 => by rw [g2 j j3 j6, up2_n (by omega), up2_row (by omega)], g3⟩
      · have mono := oN_mono (c := l 9) (i := i + 1) d
        rw [show i + 1 + d = R by omega] at mono
        refine ⟨J, ?_, fun _ _ _ _ _ => rfl, fun _ _ _ => rfl, fun w => absurd w.1 (by omega)⟩
        rw [i_lt_f (by omega), bi_f (fun w => absurd w.1 (by omega))]
        rfl
    · have on1 := oN_f c9
      have er : ∀ k : Nat, oR (l 9) (i + 1) k = oR (l 9) i k := fun k => by unfold oR; rw [oL_f c9]
      obtain ⟨K, e, g⟩ := ih J (by omega) (by omega) hm hv (by rw [on1]; exact h3) (by omega) (fun j hj => by rw [er]; exact hr j (by omega))
      refine ⟨K, ?_, g⟩
      have e' : slf ((i : Int) + 1) (wi μ J) = _ := e
      by_cases c0 : ld J (c + 3) 9 i = 0
      · have cb : (i : Int) = b3 := Classical.byContradiction fun z => c9 ((hv.2 i (by omega)).mpr ⟨c0, z⟩)
        rw [i_eq_t c0, i_eq_t cb]
        exact e'
      · rw [i_eq_f (by omega)]
        exact e'
theorem prepare_eq (hE : isSe μ a c) (hL : isL μ (c + 3)) (ha : c + 15 < a) (hk : okL l) (hH : (H : Int) = l 0 0) (hR : (R : Int) = l 0 1) (hb : -1 ≤ b3 ∧ b3 ≤ 100) (hn : 20000 ≤ n) (hm : okL (ld J (c + 3))) (hv : vir l (ld J (c + 3)) R b3) (ho : oN (l 9) R = o) (hro : oR (l 9) R = ro) {h G : Int} : ∃ K : Nat → Nat → Int, mX4_prepare n a h G b3 (wi μ J) = some (bi (o ≤ 3 ∧ H ≤ 4), wi μ K) ∧ (∀ b : Nat, b ≠ a → b ≠ a + 9 → b ≠ a + 10 → b ≠ a + 11 → K b = J b) ∧ (K a 11 = h ∧ K a 12 = G) ∧ (o ≤ 3 ∧ H ≤ 4 → envS K a c l o ro ∧ ∃ z : Nat, chZ K a l o H ro z) := by
  have nl : ∀ k : Nat, k ≤ 12 → ld (up2 (up2 (up2 J a 11 h) a 12 G) a 3 0) (c + 3) k = ld J (c + 3) k := fun k hk => by
    show up2 (up2 (up2 J a 11 h) a 12 G) a 3 0 (c + 3 + k) = J (c + 3 + k)
    rw [up2_row (by omega), up2_row (by omega), up2_row (by omega)]
  obtain ⟨K, e, g1, g2, g3⟩ := pr_l (n := n) (b3 := b3) hE hL ha hk hH hR hb hn R n 0 (up2 (up2 (up2 J a 11 h) a 12 G) a 3 0) (by omega) (by have := hk.1; omega) (hm.cg nl) ⟨fun k hk k9 => (nl k hk).trans (hv.1 k hk k9), fun r hr => by rw [nl 9 (by decide)]; exact hv.2 r hr⟩ up2_s (by show 0 ≤ 3; omega) (fun j hj => absurd hj (by show ¬ j < 0; omega))
  rw [ho] at e g3
  rw [hro] at g3
  refine ⟨K, ?_, fun b b1 b2 b3 b4 => by rw [g1 b b1 b2 b3 b4, up2_row b1, up2_row b1, up2_row b1], ⟨?_, ?_⟩, g3⟩
  · rw [prepare_s, bE_pI hE, bE_pI hE, bE_pI hE]
    exact e
  · rw [g2 11 (by decide) (by decide), up2_n (by omega), up2_n (by omega), up2_s]
  · rw [g2 12 (by decide) (by decide), up2_n (by omega), up2_s]
end PR
