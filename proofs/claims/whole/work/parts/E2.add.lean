/-! the class's set of states: adding -/
def adR (n a : Nat) (x v v90 : Int) (μ90 : Mem) : Option (Unit × Mem) := (inv μ90 7 a (mX6_overflows n a μ90)).bind fun p91 => if eq32 p91.1 0 then (gA p91.2 7 a 1).bind fun x98 => (gI p91.2 7 a 0).bind fun x102 => (stI p91.2 3 x98 x102 x).bind fun μ106 => (gA μ106 7 a 2).bind fun x108 => (gI μ106 7 a 0).bind fun x112 => (stI μ106 0 x108 x112 v).bind fun μ116 => (gI μ116 7 a 0).bind fun x119 => (pI μ116 7 a 0 (x119 + 1)).bind fun μ124 => (gA μ124 7 a 3).bind fun x128 => (gI μ124 7 a 0).bind fun x134 => (stI μ124 0 x128 v90 x134).bind fun μ137 => some ((), μ137) else some ((), p91.2)
def adB (n a : Nat) (x v : Int) : (Int × Int → Mem → Option (Unit × Mem)) → Int × Int → Mem → Option (Unit × Mem) := fun nx14 v14 μ14 => if lt32 v14.2 4096 then (gA μ14 7 a 3).bind fun x23 => (ldI μ14 0 x23 v14.1).bind fun x28 => if eq32 x28 0 then adR n a x v v14.1 μ14 else (gA μ14 7 a 3).bind fun x33 => (ldI μ14 0 x33 v14.1).bind fun x38 => (gA μ14 7 a 1).bind fun x44 => (ldI μ14 3 x44 (x38 - 1)).bind fun x49 => if eq32 (oLcmp x49 x) 0 then (gA μ14 7 a 2).bind fun x56 => (gA μ14 7 a 2).bind fun x62 => (ldI μ14 0 x62 (x38 - 1)).bind fun x67 => (stI μ14 0 x56 (x38 - 1) (mMin x67 v)).bind fun μ72 => some ((), μ72) else nx14 ((oAnd (v14.1 + 1) 4095), (v14.2 + 1)) μ14 else adR n a x v v14.1 μ14
theorem add_s {n a : Nat} {x v : Int} (μ : Mem) : mX6_add n a x v μ = lp (adB n a x v) n (lUshr (x * (-7046029254386353131)) 52, 0) μ := rfl
theorem and4095 {s : Nat} (h : s < 4096) : oAnd ((s : Int) + 1) 4095 = (((s + 1) % 4096 : Nat) : Int) := by
  have e := oAnd_n (x := s + 1) (y := 4095) (by omega) (by decide)
  have e2 : (s + 1) &&& 4095 = (s + 1) % 4096 := Nat.and_two_pow_sub_one_eq_mod (s + 1) 12
  rw [e2] at e
  exact e
section SA
variable {μ : Mem} {J : Nat → Nat → Int} {a n z : Nat}
/-- what an addition does -/
def addP (J K : Nat → Nat → Int) (a z : Nat) (x v : Int) : Prop := (inL (J (a + 1)) z x → ∃ i : Nat, i < z ∧ J (a + 1) i = x ∧ K = up2 J (a + 2) i (mMin (J (a + 2) i) v)) ∧ (¬ inL (J (a + 1)) z x → (3000 < z → K = J) ∧ (z ≤ 3000 → (∀ b : Nat, ¬ (a ≤ b ∧ b ≤ a + 3) → K b = J b) ∧ SSt K a (z + 1) ∧ K (a + 1) = upA (J (a + 1)) z x ∧ K (a + 2) = upA (J (a + 2)) z v))
theorem adR_w (h : isSS μ a) (hS : SSt J a z) {x v : Int} (hx : 0 ≤ x ∧ x < 4611686018427387904) {d : Nat} (hd : d < 4096) (hne : ∀ e : Nat, e < d → J (a + 3) ((hC x + e) % 4096) ≠ 0) (h0 : J (a + 3) ((hC x + d) % 4096) = 0) (hno : ¬ inL (J (a + 1)) z x) : ∃ K : Nat → Nat → Int, adR n a x v (((hC x + d) % 4096 : Nat) : Int) (wi μ J) = some ((), wi μ K) ∧ addP J K a z x v := by
  obtain ⟨hz, hz1, hH, hr⟩ := hS
  unfold adR
  rw [bS_inv h, overflows_w h hz hz1]
  dsimp only
  by_cases c : 3000 < z
  · rw [i_bi_t c]
    exact ⟨J, rfl, fun w => absurd w hno, fun _ => ⟨fun _ => rfl, fun w => absurd w (by omega)⟩⟩
  · have hs : (hC x + d) % 4096 < 4096 := Nat.mod_lt _ (by decide)
    have a1 : up2 J (a + 1) z x a 0 = (z : Int) := by rw [up2_n (by omega)]; exact hz
    have a2 : up2 (up2 J (a + 1) z x) (a + 2) z v a 0 = (z : Int) := by rw [up2_n (by omega)]; exact a1
    rw [i_bi_f c, bS_g1 h, bS_gI h, hz, bS_st1 h (by omega) (by omega), Int.toNat_natCast, bS_g2 h, bS_gI h, a1, bS_st2 h (by omega) (by omega), Int.toNat_natCast, bS_gI h, a2, bS_pI h, bS_g3 h, bS_gI h, up2_s, bS_st3 h (by omega) (by omega), Int.toNat_natCast]
    refine ⟨_, rfl, fun w => absurd w hno, fun _ => ⟨fun w => absurd w c, fun _ => ⟨fun b hb => ?_, ⟨?_, by omega, ?_, fun i hi => ?_⟩, ?_, ?_⟩⟩⟩
    · rw [up2_row (by omega), up2_row (by omega), up2_row (by omega), up2_row (by omega)]
    · rw [up2_n (by omega), up2_s]; omega
    · have e3 : up2 (up2 (up2 (up2 J (a + 1) z x) (a + 2) z v) a 0 ((z : Int) + 1)) (a + 3) ((hC x + d) % 4096) ((z : Int) + 1) (a + 3) = upA (J (a + 3)) ((hC x + d) % 4096) ((z : Int) + 1) := by rw [up2_r, up2_row (by omega), up2_row (by omega), up2_row (by omega)]
      have e1 : up2 (up2 (up2 (up2 J (a + 1) z x) (a + 2) z v) a 0 ((z : Int) + 1)) (a + 3) ((hC x + d) % 4096) ((z : Int) + 1) (a + 1) = upA (J (a + 1)) z x := by rw [up2_row (by omega), up2_row (by omega), up2_row (by omega), up2_r]
      rw [e3, e1]
      exact hH.put hd hne h0 hno
    · rw [up2_row (by omega), up2_row (by omega), up2_row (by omega), up2_r]
      by_cases ci : i = z
      · rw [ci, upA_s]; exact hx
      · rw [upA_n ci]; exact hr i (by omega)
    · rw [up2_row (by omega), up2_row (by omega), up2_row (by omega), up2_r]
    · rw [up2_row (by omega), up2_row (by omega), up2_r, up2_row (by omega)]
theorem add_l (h : isSS μ a) (hS : SSt J a z) {x v : Int} (hx : 0 ≤ x ∧ x < 4611686018427387904) {d : Nat} (hd : d < 4096) (hne : ∀ e : Nat, e < d → J (a + 3) ((hC x + e) % 4096) ≠ 0 ∧ J (a + 1) (J (a + 3) ((hC x + e) % 4096) - 1).toNat ≠ x) (hend : (J (a + 3) ((hC x + d) % 4096) = 0 ∧ ¬ inL (J (a + 1)) z x) ∨ (J (a + 3) ((hC x + d) % 4096) ≠ 0 ∧ (J (a + 3) ((hC x + d) % 4096) - 1).toNat < z ∧ J (a + 1) (J (a + 3) ((hC x + d) % 4096) - 1).toNat = x)) : ∀ (w k e : Nat), e + w = d → w < k → ∃ K : Nat → Nat → Int, lp (adB n a x v) k ((((hC x + e) % 4096 : Nat) : Int), (e : Int)) (wi μ J) = some ((), wi μ K) ∧ addP J K a z x v
  | w, 0, e, h1, h2 => absurd h2 (by omega)
  | 0, k + 1, e, h1, h2 => by
    have ed : e = d := by omega
    subst ed
    have hs : (hC x + e) % 4096 < 4096 := Nat.mod_lt _ (by decide)
    generalize hB : lp (adB n a x v) k = self
    show ∃ K : Nat → Nat → Int, adB n a x v (lp (adB n a x v) k) ((((hC x + e) % 4096 : Nat) : Int), (e : Int)) (wi μ J) = some ((), wi μ K) ∧ addP J K a z x v
    rw [hB]
    unfold adB
    dsimp only
    rw [i_lt_t (by omega), bS_g3 h, bS_ld3 h (by omega) (by omega), Int.toNat_natCast]
    rcases hend with ⟨c0, c1⟩ | ⟨c0, c1, c2⟩
    · rw [i_eq_t c0]
      exact adR_w h hS hx hd (fun e he => (hne e he).1) c0 c1
    · have hb := hS.2.2.1.1 _ hs
      have hz1 := hS.2.1
      rw [i_eq_f (by omega), bS_g3 h, bS_ld3 h (by omega) (by omega), Int.toNat_natCast, bS_g1 h, bS_ld1 h (by omega) (by omega), c2, i_le_t (by omega), bS_g2 h, bS_g2 h, bS_ld2 h (by omega) (by omega), bS_st2 h (by omega) (by omega)]
      exact ⟨_, rfl, fun _ => ⟨_, c1, c2, rfl⟩, fun w => absurd ⟨_, c1, c2⟩ w⟩
  | w + 1, k + 1, e, h1, h2 => by
    have hs : (hC x + e) % 4096 < 4096 := Nat.mod_lt _ (by decide)
    obtain ⟨K, e1, e2⟩ := add_l h hS hx hd hne hend w k (e + 1) (by omega) (by omega)
    refine ⟨K, ?_, e2⟩
    have st : ((hC x + e) % 4096 + 1) % 4096 = (hC x + (e + 1)) % 4096 := by omega
    have e1' : lp (adB n a x v) k ((((hC x + (e + 1)) % 4096 : Nat) : Int), (e : Int) + 1) (wi μ J) = some ((), wi μ K) := e1
    generalize hB : lp (adB n a x v) k = self at e1'
    show adB n a x v (lp (adB n a x v) k) ((((hC x + e) % 4096 : Nat) : Int), (e : Int)) (wi μ J) = _
    rw [hB]
    obtain ⟨n0, n1⟩ := hne e (by omega)
    have hb := hS.2.2.1.1 _ hs
    have hz1 := hS.2.1
    have hr := hS.2.2.2 (J (a + 3) ((hC x + e) % 4096) - 1).toNat (by omega)
    unfold adB
    dsimp only
    rw [i_lt_t (by omega), bS_g3 h, bS_ld3 h (by omega) (by omega), Int.toNat_natCast, i_eq_f (by omega), bS_g3 h, bS_ld3 h (by omega) (by omega), Int.toNat_natCast, bS_g1 h, bS_ld1 h (by omega) (by omega), i_le_f (by omega), and4095 hs, st]
    exact e1'
theorem add_eq (h : isSS μ a) (hS : SSt J a z) {x v : Int} (hx : 0 ≤ x ∧ x < 4611686018427387904) (hn : 20000 ≤ n) : ∃ K : Nat → Nat → Int, mX6_add n a x v (wi μ J) = some ((), wi μ K) ∧ addP J K a z x v := by
  have hz1 := hS.2.1
  obtain ⟨d, hd, hne, hend⟩ := hS.2.2.1.find (by omega) x
  obtain ⟨e0, hl⟩ := hC_eq x
  have r := add_l (n := n) (v := v) h hS hx hd hne hend d n 0 (by omega) (by omega)
  rw [add_s, e0]
  rw [show (hC x + 0) % 4096 = hC x from Nat.mod_eq_of_lt (by omega)] at r
  exact r
end SA
