/-! the class's search: all states behind an hour -/
def spN (n a : Nat) (b1 b2 : Int) (b3 : Nat) (nx11 : Int × Int → Mem → Option (Unit × Mem)) (v11 : Int × Int) (w : Int) (μ28 : Mem) : Option (Unit × Mem) := (gA μ28 5 a 5).bind fun x56 => (ldI μ28 0 x56 v11.2).bind fun x61 => (inv μ28 5 a (mX4_behindHour n a b1 w μ28)).bind fun p69 => (gI p69.2 5 a 12).bind fun x81 => if lt32 (lUshr p69.1 46) x81 then (inv p69.2 7 b3 (mX6_add n b3 p69.1 (b2 + x61) p69.2)).bind fun p93 => nx11 ((lOr v11.1 (lShl 1 w)), (v11.2 + 1)) p93.2 else (gI p69.2 5 a 13).bind fun x100 => if eq32 x100 (-1) then (pI p69.2 5 a 13 (b2 + x61)).bind fun μ119 => nx11 ((lOr v11.1 (lShl 1 w)), (v11.2 + 1)) μ119 else (gI p69.2 5 a 13).bind fun x110 => if lt32 (b2 + x61) x110 then (pI p69.2 5 a 13 (b2 + x61)).bind fun μ119 => nx11 ((lOr v11.1 (lShl 1 w)), (v11.2 + 1)) μ119 else nx11 ((lOr v11.1 (lShl 1 w)), (v11.2 + 1)) p69.2
def spB (n a : Nat) (b1 b2 : Int) (b3 : Nat) : (Int × Int → Mem → Option (Unit × Mem)) → Int × Int → Mem → Option (Unit × Mem) := fun nx11 v11 μ11 => (gI μ11 5 a 6).bind fun x14 => if lt32 v11.2 x14 then (gA μ11 5 a 4).bind fun x22 => (ldI μ11 0 x22 v11.2).bind fun x27 => (inv μ11 5 a (mX4_likeChoice n a x27 μ11)).bind fun p28 => if eq32 (oLcmp (lAnd (lUshr v11.1 p28.1) 1) 0) 0 then spN n a b1 b2 b3 nx11 v11 p28.1 p28.2 else nx11 (v11.1, (v11.2 + 1)) p28.2 else some ((), μ11)
theorem spread_s {n a b3 : Nat} {b1 b2 : Int} (μ : Mem) : mX4_spread n a b1 b2 b3 μ = ((inv μ 5 a (mX4_lookAhead n a b1 μ)).bind fun p2 => lp (spB n a b1 b2 b3) n (0, 0) p2.2) := rfl
section SPR
variable {μ : Mem} {J : Nat → Nat → Int} {a c n o H R sk X q : Nat} {ro : Nat → Nat} {l L : Ld} {gB G pc : Int}
/-- not all ropes can be pulled at both ends -/
theorem who_62 (hk : okL l) (hH : (H : Int) = l 0 0) (hH4 : H ≤ 4) (op : opn l o ro R) (ho : o ≤ 3) {p : Nat → Int} {w : Nat} (hb : whoB l o ro p w) : w ≤ 62 := by
  have w6 := hb.1
  refine Classical.byContradiction fun hc => ?_
  have e : w = 63 := by omega
  subst e
  have all : ∀ t : Nat, t < 6 → t < 2 * o ∧ p (en l ro t) = ((ro (t / 2) : Nat) : Int) := fun t ht => (hb.2 t ht).mp (by
    have : t = 0 ∨ t = 1 ∨ t = 2 ∨ t = 3 ∨ t = 4 ∨ t = 5 := by omega
    rcases this with rfl | rfl | rfl | rfl | rfl | rfl <;> decide)
  have := inj_le 6 4 (en l ro) (fun t ht => by have := (en_lt hk hH op (all t ht).1).1; omega) (fun t s ht hs e => by
    have a1 := (all t ht).2
    have a2 := (all s hs).2
    rw [e] at a1
    have e2 := ro_inj op (j := t / 2) (k := s / 2) (by have := (all t ht).1; omega) (by have := (all s hs).1; omega) (by omega)
    exact en_ne hk op (all t ht).1 (all s hs).1 e e2)
  omega
def SC (J : Nat → Nat → Int) (a q z : Nat) : Prop := SSt J q z ∧ (∀ i : Nat, i < z → 0 ≤ J (q + 2) i ∧ J (q + 2) i ≤ 100000) ∧ -1 ≤ J a 13 ∧ J a 13 ≤ 100000
/-- what the looking at an hour leaves alone -/
def FS (J K : Nat → Nat → Int) (a q : Nat) : Prop := (∀ b : Nat, b ≠ a → b ≠ a + 12 → b ≠ a + 13 → b ≠ a + 14 → ¬ (q ≤ b ∧ b ≤ q + 3) → K b = J b) ∧ ∀ j : Nat, j ≠ 13 → K a j = J a j
theorem FS.rf : FS J J a q := ⟨fun _ _ _ _ _ _ => rfl, fun _ _ => rfl⟩
theorem FS.tr {K M : Nat → Nat → Int} (h1 : FS J K a q) (h2 : FS K M a q) : FS J M a q := ⟨fun b b1 b2 b3 b4 b5 => (h2.1 b b1 b2 b3 b4 b5).trans (h1.1 b b1 b2 b3 b4 b5), fun j hj => (h2.2 j hj).trans (h1.2 j hj)⟩
/-- the events of the first j choices -/
def evE (l L : Ld) (o H : Nat) (ro : Nat → Nat) (sk : Nat) (gB G pc : Int) (C10 C11 : Nat → Int) (j : Nat) (x d : Int) : Prop := ∃ i : Nat, i < j ∧ ∃ (p : Nat → Int) (w : Nat), vP l o H ro p ∧ whoB l o ro p w ∧ C10 i = (w : Int) ∧ C11 i = cn p 0 H ∧ hd (goL p L).1 sk - gB < G ∧ x = kC o H sk ro gB (goL p L).1 ∧ d = pc + C11 i
def evF (l L : Ld) (o H : Nat) (ro : Nat → Nat) (sk : Nat) (gB G pc : Int) (C10 C11 : Nat → Int) (j : Nat) (d : Int) : Prop := ∃ i : Nat, i < j ∧ ∃ (p : Nat → Int) (w : Nat), vP l o H ro p ∧ whoB l o ro p w ∧ C10 i = (w : Int) ∧ C11 i = cn p 0 H ∧ ¬ hd (goL p L).1 sk - gB < G ∧ d = pc + C11 i
/-- an addition to the class's set, told by events -/
theorem add_ad (hS : isSS μ q) (hq : q = a + 1 ∨ q = a + 5) {z Y : Nat} (hz : SC J a q z) (hY : Y < 281474976710656) {d : Int} (hd : 0 ≤ d ∧ d ≤ 100000) (hn : 20000 ≤ n) : ∃ (K : Nat → Nat → Int) (z1 : Nat), mX6_add n q (Y : Int) d (wi μ J) = some ((), wi μ K) ∧ FS J K a q ∧ K a = J a ∧ SC K a q z1 ∧ AdL (fun x e => x = (Y : Int) ∧ e = d) (fun _ => False) (J (q + 1)) (J (q + 2)) z (J a 13) (K (q + 1)) (K (q + 2)) z1 (K a 13) := by
  obtain ⟨hz1, hP, hf⟩ := hz
  obtain ⟨K, e, ad⟩ := add_eq (n := n) (x := (Y : Int)) (v := d) hS hz1 (by omega) hn
  by_cases ci : inL (J (q + 1)) z (Y : Int)
  · obtain ⟨i, hi, ex, eK⟩ := ad.1 ci
    have mm := mMin_al (hP i hi) hd
    have ka : K a = J a := by rw [eK, up2_row (by omega)]
    refine ⟨K, z, e, ⟨fun b _ _ _ _ b5 => by rw [eK, up2_row (by omega)], fun j _ => by rw [ka]⟩, ka, ⟨?_, fun j hj => ?_, by rw [ka]; exact hf⟩, ?_⟩
    · unfold SSt
      rw [eK, up2_row (by omega), up2_row (by omega), up2_row (by omega)]
      exact hz1
    · rw [eK, up2_r]
      by_cases cj : j = i
      · rw [cj, upA_s]
        have := hP i hi
        rcases mm _ rfl with ⟨a, b⟩ | ⟨a, b⟩ <;> omega
      · rw [upA_n cj]; exact hP j hj
    · rw [ka]
      have k1 : K (q + 1) = J (q + 1) := by rw [eK, up2_row (by omega)]
      have k2 : K (q + 2) = upA (J (q + 2)) i (mMin (J (q + 2) i) d) := by rw [eK, up2_r]
      rw [k1, k2]
      exact AdL.old hi ex mm
  · by_cases cz : 3000 < z
    · have eK := (ad.2 ci).1 cz
      subst eK
      exact ⟨K, z, e, FS.rf, rfl, ⟨hz1, hP, hf⟩, AdL.full cz⟩
    · obtain ⟨a1, a2, a3, a4⟩ := (ad.2 ci).2 (by omega)
      have ka : K a = J a := a1 a (by omega)
      refine ⟨K, z + 1, e, ⟨fun b _ _ _ _ b5 => a1 b b5, fun j _ => by rw [ka]⟩, ka, ⟨a2, fun j hj => ?_, by rw [ka]; exact hf⟩, ?_⟩
      · rw [a4]
        by_cases cj : j = z
        · rw [cj, upA_s]; exact hd
        · rw [upA_n cj]; exact hP j (by omega)
      · rw [a3, a4, ka]
        exact AdL.new
theorem add_fr {K : Nat → Nat → Int} {z Y : Nat} {d : Int} (em : mX6_add n q (Y : Int) d (wi μ J) = some ((), wi μ K)) (hS : isSS μ q) (hq : q = a + 1 ∨ q = a + 5) (hz1 : SSt J q z) (hY : Y < 281474976710656) (hn : 20000 ≤ n) : ∀ b : Nat, ¬ (q ≤ b ∧ b ≤ q + 3) → K b = J b := fun b hb => by
  obtain ⟨M, e, ad⟩ := add_eq (n := n) (x := (Y : Int)) (v := d) hS hz1 (by omega) hn
  rw [em] at e
  have e2 : wi μ K = wi μ M := congrArg Prod.snd (Option.some.inj e)
  rw [wi_inj e2]
  by_cases ci : inL (J (q + 1)) z (Y : Int)
  · obtain ⟨i, hi, ex, eK⟩ := ad.1 ci
    rw [eK, up2_row (by omega)]
  · by_cases cz : 3000 < z
    · rw [(ad.2 ci).1 cz]
    · exact ((ad.2 ci).2 (by omega)).1 b hb
theorem bhV.fs {K : Nat → Nat → Int} (h : bhV J a c l L o ro sk G) (ha : c + 15 < a) (hq : q = a + 1 ∨ q = a + 5) (f : ∀ b : Nat, b ≠ a → b ≠ a + 14 → ¬ (q ≤ b ∧ b ≤ q + 3) → K b = J b) (f2 : ∀ j : Nat, j ≠ 13 → K a j = J a j) : bhV K a c l L o ro sk G := by
  obtain ⟨⟨h1, h2, h3⟩, h4, h5, h6⟩ := h
  refine ⟨⟨fun k hk k9 => (show K (c + 3 + k) = J (c + 3 + k) from f _ (by omega) (by omega) (by omega)).trans (h1 k hk k9), by rw [f2 3 (by decide)]; exact h2, fun k hk => by rw [f (a + 9) (by omega) (by omega) (by omega)]; exact h3 k hk⟩, by rw [f2 11 (by decide)]; exact h4, by rw [f2 12 (by decide)]; exact h5, fun j u hu hc => ?_⟩
  rw [f (a + 12) (by omega) (by omega) (by omega), f (a + 13) (by omega) (by omega) (by omega)]
  exact h6 j u hu hc
theorem tb63 {T w : Nat} (hT : T < 9223372036854775808) (hw : w ≤ 62) : lAnd (lUshr (T : Int) (w : Int)) 1 = ((T / 2 ^ w % 2 : Nat) : Int) ∧ lOr (T : Int) (lShl 1 (w : Int)) = ((T ||| 2 ^ w : Nat) : Int) ∧ T ||| 2 ^ w < 9223372036854775808 := by
  have d : T / 2 ^ w ≤ T := Nat.div_le_self _ _
  have p : 2 ^ w < 9223372036854775808 := Nat.lt_of_lt_of_le (Nat.pow_lt_pow_right (by decide) (show w < 63 by omega)) (by decide)
  refine ⟨?_, ?_, Nat.or_lt_two_pow (n := 63) hT p⟩
  · rw [lUshr_n hT (by omega), show (1 : Int) = ((1 : Nat) : Int) from rfl, lAnd_n (by omega) (by decide), Nat.and_one_is_mod]
  · rw [show (1 : Int) = ((1 : Nat) : Int) from rfl, lShl_n (by omega) (by rw [Nat.one_mul]; exact p), Nat.one_mul, lOr_n hT p]
end SPR
