/-! the reference's set of states, with what they cost -/
def mfR (m : Nat) (x v v7 : Int) (μ7 : Mem) : Option (Unit × Mem) := (gI μ7 12 m 26).bind fun x47 => if eq32 x47 3001 then some ((), μ7) else (gA μ7 12 m 23).bind fun x58 => (gI μ7 12 m 26).bind fun x62 => (stI μ7 3 x58 x62 x).bind fun μ65 => (gA μ65 12 m 30).bind fun x106 => (gI μ65 12 m 26).bind fun x110 => (stI μ65 0 x106 x110 v).bind fun μ66 => (gI μ66 12 m 26).bind fun x69 => (pI μ66 12 m 26 (x69 + 1)).bind fun μ74 => (gA μ74 12 m 24).bind fun x78 => (gI μ74 12 m 26).bind fun x83 => (stI μ74 0 x78 v7 x83).bind fun μ86 => some ((), μ86)
def mfB (m : Nat) (x v : Int) : (Int → Mem → Option (Unit × Mem)) → Int → Mem → Option (Unit × Mem) := fun nx7 v7 μ7 => (gA μ7 12 m 24).bind fun x8 => (ldI μ7 0 x8 v7).bind fun x12 => if lt32 0 x12 then (gA μ7 12 m 24).bind fun x19 => (ldI μ7 0 x19 v7).bind fun x24 => (gA μ7 12 m 23).bind fun x30 => (ldI μ7 3 x30 (x24 - 1)).bind fun x35 => if eq32 (oLcmp x35 x) 0 then (gA μ7 12 m 30).bind fun x42 => (gA μ7 12 m 30).bind fun x49 => (ldI μ7 0 x49 (x24 - 1)).bind fun x54 => if lt32 v x54 then (stI μ7 0 x42 (x24 - 1) v).bind fun μ69 => some ((), μ69) else (gA μ7 12 m 30).bind fun x63 => (ldI μ7 0 x63 (x24 - 1)).bind fun x68 => (stI μ7 0 x42 (x24 - 1) x68).bind fun μ69 => some ((), μ69) else nx7 (oRem (v7 + 1) 8192) μ7 else mfR m x v v7 μ7
theorem meetsFor_s {n m : Nat} {x v : Int} (μ : Mem) : mX11_meetsFor n m x v μ = lp (mfB m x v) n (lRem x 8191) μ := rfl
section MF
variable {μ : Mem} {I : Nat → Nat → Int} {s : Ld} {m n z : Nat}
def mfP (s u : Ld) (z : Nat) (x v : Int) : Prop := (inL (s 8) z x → ∃ i : Nat, i < z ∧ s 8 i = x ∧ u = up2 s 13 i (mMin (s 13 i) v)) ∧ (¬ inL (s 8) z x → (3000 < z → u = s) ∧ (z ≤ 3000 → (∀ k : Nat, k ≠ 0 → k ≠ 8 → k ≠ 9 → k ≠ 13 → u k = s k) ∧ (∀ j : Nat, j ≠ 26 → u 0 j = s 0 j) ∧ MSt u (z + 1) ∧ u 8 = upA (s 8) z x ∧ u 13 = upA (s 13) z v))
theorem mfR_w (h : isM μ m) (hS : MSt s z) {x v : Int} (hx : 0 ≤ x ∧ x < 4611686018427387904) {d : Nat} (hd : d < 8192) (hne : ∀ e : Nat, e < d → s 9 ((hR x + e) % 8192) ≠ 0) (h0 : s 9 ((hR x + d) % 8192) = 0) (hno : ¬ inL (s 8) z x) : ∃ u : Ld, mfR m x v (((hR x + d) % 8192 : Nat) : Int) (wi μ (wm I m s)) = some ((), wi μ (wm I m u)) ∧ mfP s u z x v := by
  obtain ⟨hz, hz1, hH, hr⟩ := hS
  unfold mfR
  rw [bM_gI h, hz]
  by_cases c : 3000 < z
  · rw [i_eq_t (by omega)]
    exact ⟨s, rfl, fun w => absurd w hno, fun _ => ⟨fun _ => rfl, fun w => absurd w (by omega)⟩⟩
  · have hs : (hR x + d) % 8192 < 8192 := Nat.mod_lt _ (by decide)
    have a1 : up2 s 8 z x 0 26 = (z : Int) := by rw [up2_n (by omega)]; exact hz
    have a2 : up2 (up2 s 8 z x) 13 z v 0 26 = (z : Int) := by rw [up2_n (by omega)]; exact a1
    rw [i_eq_f (by omega), bM_g23 h, bM_gI h, hz, bM_st8 h (by omega) (by omega), Int.toNat_natCast, bM_g30 h, bM_gI h, a1, bM_st13 h (by omega) (by omega), Int.toNat_natCast, bM_gI h, a2, bM_pI h, bM_g24 h, bM_gI h, up2_s, bM_st9 h (by omega) (by omega), Int.toNat_natCast]
    refine ⟨_, rfl, fun w => absurd w hno, fun _ => ⟨fun w => absurd w c, fun _ => ⟨fun k k0 k8 k9 k13 => ?_, fun j hj => ?_, ⟨?_, by omega, ?_, fun i hi => ?_⟩, ?_, ?_⟩⟩⟩
    · rw [up2_row k9, up2_row k0, up2_row k13, up2_row k8]
    · rw [up2_row (by decide), up2_n (by omega), up2_row (by decide), up2_row (by decide)]
    · rw [up2_row (by decide), up2_s]; omega
    · have e9 : up2 (up2 (up2 (up2 s 8 z x) 13 z v) 0 26 ((z : Int) + 1)) 9 ((hR x + d) % 8192) ((z : Int) + 1) 9 = upA (s 9) ((hR x + d) % 8192) ((z : Int) + 1) := by rw [up2_r, up2_row (by decide), up2_row (by decide), up2_row (by decide)]
      have e8 : up2 (up2 (up2 (up2 s 8 z x) 13 z v) 0 26 ((z : Int) + 1)) 9 ((hR x + d) % 8192) ((z : Int) + 1) 8 = upA (s 8) z x := by rw [up2_row (by decide), up2_row (by decide), up2_row (by decide), up2_r]
      rw [e9, e8]
      exact hH.put hd hne h0 hno
    · rw [up2_row (by decide), up2_row (by decide), up2_row (by decide), up2_r]
      by_cases ci : i = z
      · rw [ci, upA_s]; exact hx
      · rw [upA_n ci]; exact hr i (by omega)
    · rw [up2_row (by decide), up2_row (by decide), up2_row (by decide), up2_r]
    · rw [up2_row (by decide), up2_row (by decide), up2_r, up2_row (by decide)]
theorem mef_l (h : isM μ m) (hS : MSt s z) {x v : Int} (hx : 0 ≤ x ∧ x < 4611686018427387904) {d : Nat} (hd : d < 8192) (hne : ∀ e : Nat, e < d → s 9 ((hR x + e) % 8192) ≠ 0 ∧ s 8 (s 9 ((hR x + e) % 8192) - 1).toNat ≠ x) (hend : (s 9 ((hR x + d) % 8192) = 0 ∧ ¬ inL (s 8) z x) ∨ (s 9 ((hR x + d) % 8192) ≠ 0 ∧ (s 9 ((hR x + d) % 8192) - 1).toNat < z ∧ s 8 (s 9 ((hR x + d) % 8192) - 1).toNat = x)) : ∀ (w k e : Nat), e + w = d → w < k → ∃ u : Ld, lp (mfB m x v) k (((hR x + e) % 8192 : Nat) : Int) (wi μ (wm I m s)) = some ((), wi μ (wm I m u)) ∧ mfP s u z x v
  | w, 0, e, h1, h2 => absurd h2 (by omega)
  | 0, k + 1, e, h1, h2 => by
    have ed : e = d := by omega
    subst ed
    have hs : (hR x + e) % 8192 < 8192 := Nat.mod_lt _ (by decide)
    generalize hB : lp (mfB m x v) k = self
    show ∃ u : Ld, mfB m x v (lp (mfB m x v) k) (((hR x + e) % 8192 : Nat) : Int) (wi μ (wm I m s)) = some ((), wi μ (wm I m u)) ∧ mfP s u z x v
    rw [hB]
    unfold mfB
    rw [bM_g24 h, bM_ld9 h (by omega) (by omega), Int.toNat_natCast]
    rcases hend with ⟨c0, c1⟩ | ⟨c0, c1, c2⟩
    · rw [c0, i_lt_f (by omega)]
      exact mfR_w h hS hx hd (fun e he => (hne e he).1) c0 c1
    · have hb := hS.2.2.1.1 _ hs
      have hz1 := hS.2.1
      rw [i_lt_t (by omega), bM_g24 h, bM_ld9 h (by omega) (by omega), Int.toNat_natCast, bM_g23 h, bM_ld8 h (by omega) (by omega), c2, i_le_t (by omega), bM_g30 h, bM_g30 h, bM_ld13 h (by omega) (by omega)]
      refine ⟨up2 s 13 (s 9 ((hR x + e) % 8192) - 1).toNat (mMin (s 13 (s 9 ((hR x + e) % 8192) - 1).toNat) v), ?_, fun _ => ⟨_, c1, c2, rfl⟩, fun w => absurd ⟨_, c1, c2⟩ w⟩
      unfold mMin
      by_cases cm : lt32 v (s 13 (s 9 ((hR x + e) % 8192) - 1).toNat)
      · rw [if_pos cm, if_pos cm, bM_st13 h (by omega) (by omega)]
      · rw [if_neg cm, if_neg cm, bM_g30 h, bM_ld13 h (by omega) (by omega), bM_st13 h (by omega) (by omega)]
  | w + 1, k + 1, e, h1, h2 => by
    have hs : (hR x + e) % 8192 < 8192 := Nat.mod_lt _ (by decide)
    obtain ⟨u, e1, e2⟩ := mef_l h hS hx hd hne hend w k (e + 1) (by omega) (by omega)
    refine ⟨u, ?_, e2⟩
    have st : oRem ((((hR x + e) % 8192 : Nat) : Int) + 1) 8192 = (((hR x + (e + 1)) % 8192 : Nat) : Int) := by
      rw [oRem_of (by omega) (by omega) (by omega) (by omega)]
      omega
    generalize hB : lp (mfB m x v) k = self at e1
    show mfB m x v (lp (mfB m x v) k) (((hR x + e) % 8192 : Nat) : Int) (wi μ (wm I m s)) = _
    rw [hB]
    obtain ⟨n0, n1⟩ := hne e (by omega)
    have hb := hS.2.2.1.1 _ hs
    have hz1 := hS.2.1
    have hr := hS.2.2.2 (s 9 ((hR x + e) % 8192) - 1).toNat (by omega)
    unfold mfB
    rw [bM_g24 h, bM_ld9 h (by omega) (by omega), Int.toNat_natCast, i_lt_t (by omega), bM_g24 h, bM_ld9 h (by omega) (by omega), Int.toNat_natCast, bM_g23 h, bM_ld8 h (by omega) (by omega), i_le_f (by omega), st]
    exact e1
theorem meetsFor_eq (h : isM μ m) (hS : MSt s z) {x v : Int} (hx : 0 ≤ x ∧ x < 4611686018427387904) (hn : 20000 ≤ n) : ∃ u : Ld, mX11_meetsFor n m x v (wi μ (wm I m s)) = some ((), wi μ (wm I m u)) ∧ mfP s u z x v := by
  have hz1 := hS.2.1
  obtain ⟨d, hd, hne, hend⟩ := hS.2.2.1.find (by omega) x
  have r := mef_l (I := I) (v := v) h hS hx hd hne hend d n 0 (by omega) (by omega)
  have hl : hR x < 8192 := by unfold hR; omega
  rw [show (hR x + 0) % 8192 = hR x from Nat.mod_eq_of_lt (by omega)] at r
  rw [meetsFor_s, lRem_of hx.1 (by omega) (by decide) (by decide), show x % 8191 = ((hR x : Nat) : Int) by unfold hR; omega]
  exact r
end MF
