/-! a rope's line: the parts -/
noncomputable def rB (B : Nat → Int) (z : Nat) (v : Int) (q : Nat) : Fp × Nat × Int := @ite (Fp × Nat × Int) (tK B z q = 11 ∧ tV B z q = v) (Classical.propDecidable _) ((3, ((tS B z q : Nat) : Int)), q, 0) ((0, 0), q, 0)
noncomputable def wB (B : Nat → Int) (z k q : Nat) : Fp × Nat × Int := if tK B z q = k then ((0, 0), tE B z q, 0) else (wgF B z q, q, 0)
def chS (B : Nat → Int) (z q : Nat) (F : Fp) (q' : Nat) (F' : Fp) (v4 v5 : Int) : Prop := (F.1 ≠ 0 → F' = F) ∧ (F.1 = 0 → (tK B z q = 7 → ∃ (F1 : Fp) (q1 : Nat), outP F F1 q1 v4 (nB B z 0 9 (tE B z q)) ∧ outP F1 F' q' v5 (nB B z 0 9 q1)) ∧ (tK B z q ≠ 7 → F' = F ∧ q' = q ∧ v4 = 0 ∧ v5 = 0))
theorem wgF_nz (B : Nat → Int) (z q : Nat) : (wgF B z q).1 ≠ 0 := by
  unfold wgF
  dsimp only
  split <;> omega
theorem chS.al {B : Nat → Int} {z q p q' p' : Nat} {F G F' G' : Fp} {v4 v5 w4 w5 : Int} (hA : alk F G q p) (h1 : chS B z q F q' F' v4 v5) (h2 : chS B z p G p' G' w4 w5) (hq : q ≤ z) : alk F' G' q' p' ∧ (F'.1 = 0 → (v4 = w4 ∧ v5 = w5) ∧ (0 ≤ v4 ∧ v4 ≤ 9 ∧ 0 ≤ v5 ∧ v5 ≤ 9) ∧ F.1 = 0 ∧ q ≤ q') := by
  by_cases c : F.1 = 0
  · have cG : G.1 = 0 := by rw [← hA.1]; exact c
    have e := hA.2.2 c
    have y2 := h2.2 cG
    have y1 := h1.2 c
    rw [← e] at y2
    by_cases c7 : tK B z q = 7
    · obtain ⟨F1, q1, a1, a2⟩ := y1.1 c7
      obtain ⟨G1, p1, b1, b2⟩ := y2.1 c7
      have te := tE_ge (B := B) hq
      have hA' : alk F G (tE B z q) (tE B z q) := ⟨hA.1, hA.2.1, fun _ => rfl⟩
      have x1 := hA'.out (fun _ => rfl) a1 b1
      have x2 := x1.1.out (fun z0 => by rw [x1.1.2.2 z0]) a2 b2
      refine ⟨x2.1, fun zz => ?_⟩
      have z1 := a2.nz zz
      have k1 := a1.z te.2 z1
      have k2 := a2.z k1.2.2.1 zz
      exact ⟨⟨x1.2 z1, x2.2 zz⟩, ⟨k1.2.2.2.1, k1.2.2.2.2, k2.2.2.2.1, k2.2.2.2.2⟩, c, by omega⟩
    · obtain ⟨a1, a2, a3, a4⟩ := y1.2 c7
      obtain ⟨b1, b2, b3, b4⟩ := y2.2 c7
      rw [a1, a2, b1, b2, a3, a4, b3, b4]
      exact ⟨⟨hA.1, hA.2.1, fun _ => rfl⟩, fun zz => ⟨⟨rfl, rfl⟩, by omega, c, Nat.le_refl _⟩⟩
  · have cG : G.1 ≠ 0 := by rw [← hA.1]; exact c
    rw [h1.1 c, h2.1 cG]
    exact ⟨⟨hA.1, hA.2.1, fun z => absurd z c⟩, fun z => absurd z c⟩
def nC (n t : Nat) (v : Int) (R : Mem → Option (Unit × Mem)) (ν : Mem) : Option (Unit × Mem) := (gI ν 9 t 5).bind fun x34 => if eq32 x34 2 then (gI ν 9 t 8).bind fun x42 => if eq32 x42 v then (inv ν 9 t (mX8_tellFault n t 3 ν)).bind fun p51 => R p51.2 else R ν else R ν
def wC (n t : Nat) (R : Mem → Option (Unit × Mem)) (ν : Mem) : Option (Unit × Mem) := (txt ν 5).bind fun x68 => (inv ν 9 t (mX8_takeWord n t x68 ν)).bind fun p70 => if eq32 p70.1 0 then (inv p70.2 9 t (mX8_tellWrongToken n t p70.2)).bind fun p77 => R p77.2 else R p70.2
def sC (n t a : Nat) (x : Int) (ν : Mem) : Option (Unit × Mem) := (txt ν 7).bind fun x129 => (inv ν 9 t (mX8_takeWord n t x129 ν)).bind fun p131 => if eq32 p131.1 0 then some ((), p131.2) else (gA p131.2 2 a 16).bind fun x138 => (inv p131.2 9 t (mX8_takeNumber n t 0 9 p131.2)).bind fun p148 => (stI p148.2 0 x138 (2 * x) p148.1).bind fun μ151 => (gA μ151 2 a 16).bind fun x153 => (inv μ151 9 t (mX8_takeNumber n t 0 9 μ151)).bind fun p165 => (stI p165.2 0 x153 ((2 * x) + 1) p165.1).bind fun μ168 => some ((), μ168)
def nM (n m : Nat) (v : Int) (R : Mem → Option (Unit × Mem)) (ν : Mem) : Option (Unit × Mem) := (inv ν 12 m (mX11_is n m 11 ν)).bind fun p47 => if eq32 p47.1 0 then R p47.2 else (gI p47.2 12 m 10).bind fun x54 => if eq32 x54 v then (inv p47.2 12 m (mX11_fails n m 3 p47.2)).bind fun p63 => R p63.2 else R p47.2
def wM (n m : Nat) (R : Mem → Option (Unit × Mem)) (ν : Mem) : Option (Unit × Mem) := (inv ν 12 m (mX11_eats n m 5 ν)).bind fun p82 => if eq32 p82.1 0 then (inv p82.2 12 m (mX11_fails n m 2 p82.2)).bind fun p90 => R p90.2 else R p82.2
def sM1 (n m : Nat) (x : Int) (R : Int → Mem → Option (Unit × Mem)) (ν : Mem) : Option (Unit × Mem) := if eq32 x 0 then R 0 ν else (inv ν 12 m (mX11_takes n m 0 9 ν)).bind fun p => R p.1 p.2
def sM (n m : Nat) (R : Int → Int → Mem → Option (Unit × Mem)) (ν : Mem) : Option (Unit × Mem) := (inv ν 12 m (mX11_eats n m 7 ν)).bind fun p127 => sM1 n m p127.1 (fun v148 => sM1 n m p127.1 (fun v166 => R v148 v166)) p127.2
section RP
variable {μ : Mem} {I J : Nat → Nat → Int} {c t a m n z q r : Nat} {P : Nat → Int} {F : Fp} {s : Ld}
theorem neqC (hT : isTp μ t) (hS : CS J t z P q F) {v : Int} (hv : F.1 = 0 → 0 ≤ v ∧ v ≤ 9999) : ∃ (K : Nat → Nat → Int) (F' : Fp), (∀ R : Mem → Option (Unit × Mem), nC n t v R (wi μ J) = R (wi μ K)) ∧ tpG J K t ∧ CS K t z P q F' ∧ outP F F' q 0 (rB (bts P) z v q) := by
  obtain ⟨t5, t6, t7, t8⟩ := hS.2.1
  have kr := ck_rg (tK (bts P) z q)
  have k2 := ck_2 (tK_le (bts P) z q)
  have vr := tV_rg (bts P) z q
  have non : ¬ (tK (bts P) z q = 11 ∧ tV (bts P) z q = v) → rB (bts P) z v q = ((0, 0), q, 0) := fun h => if_neg h
  have yes : (tK (bts P) z q = 11 ∧ tV (bts P) z q = v) → rB (bts P) z v q = ((3, ((tS (bts P) z q : Nat) : Int)), q, 0) := fun h => if_pos h
  have stay : ¬ (tK (bts P) z q = 11 ∧ tV (bts P) z q = v) ∨ F.1 ≠ 0 → outP F F q 0 (rB (bts P) z v q) := fun h => ⟨fun _ => rfl, fun zz => by
    have h' : ¬ (tK (bts P) z q = 11 ∧ tV (bts P) z q = v) := h.resolve_right (fun x => x zz)
    rw [non h']
    exact ⟨fun _ => ⟨zz, rfl, rfl⟩, fun z => absurd rfl z⟩⟩
  by_cases c : tK (bts P) z q = 11
  · have e8 := t8 c
    by_cases c2 : eq32 (tV (bts P) z q) v
    · obtain ⟨K, F', e, g, s, x, y⟩ := tellFault_eq (n := n) hT hS (k := 3) (by omega)
      refine ⟨K, F', fun R => ?_, g, s, x, fun zz => ?_⟩
      · unfold nC
        rw [bP_gI hT, t5, i_eq_t (k2.mpr c), bP_gI hT, e8, if_pos c2, bT_inv hT, bnd e]
      · have ev : tV (bts P) z q = v := by
          have := hv zz
          exact (eq32_iff (by omega) (by omega) (by omega) (by omega)).mp c2
        rw [yes ⟨c, ev⟩]
        exact ⟨fun w => absurd w (show ¬ (3 : Int) = 0 by decide), fun _ => y zz⟩
    · refine ⟨J, F, fun R => ?_, tpG.rf J t, hS, stay ?_⟩
      · unfold nC
        rw [bP_gI hT, t5, i_eq_t (k2.mpr c), bP_gI hT, e8, if_neg c2]
      · by_cases f0 : F.1 = 0
        · exact Or.inl (fun w => c2 (by rw [w.2]))
        · exact Or.inr f0
  · refine ⟨J, F, fun R => ?_, tpG.rf J t, hS, stay (Or.inl (fun w => c w.1))⟩
    unfold nC
    rw [bP_gI hT, t5, i_eq_f (by omega)]
theorem wordC (hT : isTp μ t) (hX : isX μ c J) (hS : CS J t z P q F) (hn : 20000 ≤ n) : ∃ (K : Nat → Nat → Int) (q' : Nat) (F' : Fp), (∀ R : Mem → Option (Unit × Mem), wC n t R (wi μ J) = R (wi μ K)) ∧ tpG J K t ∧ CS K t z P q' F' ∧ outP F F' q' 0 (wB (bts P) z 5 q) := by
  obtain ⟨K1, e1, g1, s1⟩ := takeWord_eq (n := n) (k := 5) hT hX hS (by decide) hn
  unfold wB
  by_cases c : tK (bts P) z q = 5
  · rw [if_pos c] at s1 ⊢
    refine ⟨K1, _, F, fun R => ?_, g1, s1, fun _ => rfl, fun zz => ⟨fun _ => ⟨zz, rfl, rfl⟩, fun z => absurd rfl z⟩⟩
    unfold wC
    rw [txt_w hX (by decide), bT_inv hT, bnd e1]
    dsimp only
    rw [i_bi_t c]
  · rw [if_neg c] at s1 ⊢
    obtain ⟨K2, F', e2, g2, s2, x, y⟩ := tellWrong_eq (n := n) hT s1
    refine ⟨K2, q, F', fun R => ?_, g1.tr g2, s2, x, fun zz => ⟨fun w => absurd w (wgF_nz _ _ _), fun _ => y zz⟩⟩
    unfold wC
    rw [txt_w hX (by decide), bT_inv hT, bnd e1]
    dsimp only
    rw [i_bi_f c, bT_inv hT, bnd e2]
theorem stonC (hT : isTp μ t) (hL : isL μ a) (sep : t + 1 < a) (hX : isX μ c J) (hS : CS J t z P q F) (hr : r < 16) (z0 : J (a + 11) (2 * r) = 0) (z1 : J (a + 11) (2 * r + 1) = 0) (hn : 20000 ≤ n) : ∃ (K : Nat → Nat → Int) (q' : Nat) (F' : Fp) (v4 v5 : Int), sC n t a (r : Int) (wi μ J) = some ((), wi μ K) ∧ (∀ b : Nat, b ≠ t → b ≠ a + 11 → K b = J b) ∧ K t 0 = J t 0 ∧ K (a + 11) = upA (upA (J (a + 11)) (2 * r) v4) (2 * r + 1) v5 ∧ CS K t z P q' F' ∧ chS (bts P) z q F q' F' v4 v5 := by
  obtain ⟨K1, e1, g1, s1⟩ := takeWord_eq (n := n) (k := 7) hT hX hS (by decide) hn
  by_cases c : tK (bts P) z q = 7
  · rw [if_pos c] at s1
    obtain ⟨K2, q2, F2, v4, e2, g2, s2, o2⟩ := takeNumber_eq (n := n) hT s1 (lo := 0) (hi := 9) (by omega) (by omega) hn
    have s2' : CS (up2 K2 (a + 11) (2 * r) v4) t z P q2 F2 := s2.cg (up2_row (by omega)) (up2_row (by omega))
    obtain ⟨K3, q3, F3, v5, e3, g3, s3, o3⟩ := takeNumber_eq (n := n) hT s2' (lo := 0) (hi := 9) (by omega) (by omega) hn
    have s3' : CS (up2 K3 (a + 11) (2 * r + 1) v5) t z P q3 F3 := s3.cg (up2_row (by omega)) (up2_row (by omega))
    refine ⟨_, q3, F3, v4, v5, ?_, fun b b1 b2 => ?_, ?_, ?_, s3', ⟨fun zz => ?_, fun zz => ⟨fun _ => ⟨F2, q2, o2, o3⟩, fun w => absurd c w⟩⟩⟩
    · unfold sC
      rw [txt_w hX (by decide), bT_inv hT, bnd e1]
      dsimp only
      rw [i_bi_t c, bL_g16 hL, bT_inv hT, bnd e2]
      dsimp only
      rw [bL_st11 hL (by omega) (by omega), show (2 * (r : Int)).toNat = 2 * r by omega, bL_g16 hL, bT_inv hT, bnd e3]
      dsimp only
      rw [bL_st11 hL (by omega) (by omega), show (2 * (r : Int) + 1).toNat = 2 * r + 1 by omega]
    · rw [up2_row b2, g3.1 b b1, up2_row b2, g2.1 b b1, g1.1 b b1]
    · rw [up2_row (by omega), g3.2, up2_row (by omega), g2.2, g1.2]
    · rw [up2_r, g3.1 _ (by omega), up2_r, g2.1 _ (by omega), g1.1 _ (by omega)]
    · have f2 := o2.1 zz
      rw [o3.1 (by rw [f2]; exact zz), f2]
  · rw [if_neg c] at s1
    refine ⟨K1, q, F, 0, 0, ?_, fun b b1 _ => g1.1 b b1, g1.2, ?_, s1, ⟨fun _ => rfl, fun _ => ⟨fun w => absurd w c, fun _ => ⟨rfl, rfl, rfl, rfl⟩⟩⟩⟩
    · unfold sC
      rw [txt_w hX (by decide), bT_inv hT, bnd e1]
      dsimp only
      rw [i_bi_f c]
    · rw [g1.1 _ (by omega), upA_id z0, upA_id z1]
theorem neqM (h : isM μ m) (hS : RS s z P q F) {v : Int} (hv : F.1 = 0 → 0 ≤ v ∧ v ≤ 9999) : ∃ (u : Ld) (F' : Fp), (∀ R : Mem → Option (Unit × Mem), nM n m v R (wi μ (wm I m s)) = R (wi μ (wm I m u))) ∧ rpG s u ∧ RS u z P q F' ∧ outP F F' q 0 (rB (bts P) z v q) := by
  have t10 := hS.2.1.2.2.2
  have vr := tV_rg (bts P) z q
  have non : ¬ (tK (bts P) z q = 11 ∧ tV (bts P) z q = v) → rB (bts P) z v q = ((0, 0), q, 0) := fun h => if_neg h
  have yes : (tK (bts P) z q = 11 ∧ tV (bts P) z q = v) → rB (bts P) z v q = ((3, ((tS (bts P) z q : Nat) : Int)), q, 0) := fun h => if_pos h
  have stay : ¬ (tK (bts P) z q = 11 ∧ tV (bts P) z q = v) ∨ F.1 ≠ 0 → outP F F q 0 (rB (bts P) z v q) := fun h => ⟨fun _ => rfl, fun zz => by
    have h' : ¬ (tK (bts P) z q = 11 ∧ tV (bts P) z q = v) := h.resolve_right (fun x => x zz)
    rw [non h']
    exact ⟨fun _ => ⟨zz, rfl, rfl⟩, fun z => absurd rfl z⟩⟩
  by_cases c : F.1 = 0 ∧ tK (bts P) z q = 11
  · have vv := hv c.1
    by_cases c2 : tV (bts P) z q = v
    · obtain ⟨u, F', e, g, x, -, y⟩ := fails_eq (n := n) (I := I) h hS (k := 3) (by omega)
      have y' := y c.1
      rw [if_neg (by omega)] at y'
      refine ⟨u, F', fun R => ?_, g, x, fun w => absurd c.1 w, fun zz => ?_⟩
      · unfold nM
        rw [bM_inv h, show (11 : Int) = ((11 : Nat) : Int) from rfl, is_w h hS (by decide)]
        dsimp only
        rw [i_bi_t c, bM_gI h, t10 c.2, i_eq_t c2, bM_inv h, bnd e]
      · rw [yes ⟨c.2, c2⟩]
        exact ⟨fun w => absurd w (show ¬ (3 : Int) = 0 by decide), fun _ => y'⟩
    · refine ⟨s, F, fun R => ?_, rpG.rf s, hS, stay (Or.inl (fun w => c2 w.2))⟩
      unfold nM
      rw [bM_inv h, show (11 : Int) = ((11 : Nat) : Int) from rfl, is_w h hS (by decide)]
      dsimp only
      rw [i_bi_t c, bM_gI h, t10 c.2, i_eq_f (by omega)]
  · refine ⟨s, F, fun R => ?_, rpG.rf s, hS, stay ?_⟩
    · unfold nM
      rw [bM_inv h, show (11 : Int) = ((11 : Nat) : Int) from rfl, is_w h hS (by decide)]
      dsimp only
      rw [i_bi_f c]
    · by_cases f0 : F.1 = 0
      · exact Or.inl (fun w => c ⟨f0, w.1⟩)
      · exact Or.inr f0
theorem wordM (h : isM μ m) (hX : isX μ c I) (hc : c ≤ m) (hS : RS s z P q F) (hn : 20000 ≤ n) : ∃ (u : Ld) (q' : Nat) (F' : Fp), (∀ R : Mem → Option (Unit × Mem), wM n m R (wi μ (wm I m s)) = R (wi μ (wm I m u))) ∧ rpG s u ∧ RS u z P q' F' ∧ outP F F' q' 0 (wB (bts P) z 5 q) := by
  obtain ⟨u1, e1, g1, r1⟩ := eats_eq (n := n) (k := 5) h hX hc hS (by decide) hn
  have e1' : mX11_eats n m 5 (wi μ (wm I m s)) = _ := e1
  unfold wB
  by_cases c : F.1 = 0 ∧ tK (bts P) z q = 5
  · rw [if_pos c] at r1
    rw [if_pos c.2]
    refine ⟨u1, _, F, fun R => ?_, g1, r1, fun _ => rfl, fun zz => ⟨fun _ => ⟨zz, rfl, rfl⟩, fun z => absurd rfl z⟩⟩
    unfold wM
    rw [bM_inv h, bnd e1']
    dsimp only
    rw [i_bi_t c]
  · rw [if_neg c] at r1
    obtain ⟨u2, F', e2, g2, r2, x, y⟩ := fails_eq (n := n) (I := I) h r1 (k := 2) (by omega)
    refine ⟨u2, q, F', fun R => ?_, g1.tr g2, r2, x, fun zz => ?_⟩
    · unfold wM
      rw [bM_inv h, bnd e1']
      dsimp only
      rw [i_bi_f c, bM_inv h, bnd e2]
    · rw [if_neg (fun w => c ⟨zz, w⟩)]
      exact ⟨fun w => absurd w (wgF_nz _ _ _), fun _ => y zz⟩
theorem stonM (h : isM μ m) (hX : isX μ c I) (hc : c ≤ m) (hS : RS s z P q F) (hn : 20000 ≤ n) : ∃ (u : Ld) (q' : Nat) (F' : Fp) (v4 v5 : Int), (∀ R : Int → Int → Mem → Option (Unit × Mem), sM n m R (wi μ (wm I m s)) = R v4 v5 (wi μ (wm I m u))) ∧ rpG s u ∧ RS u z P q' F' ∧ chS (bts P) z q F q' F' v4 v5 := by
  obtain ⟨u1, e1, g1, r1⟩ := eats_eq (n := n) (k := 7) h hX hc hS (by decide) hn
  have e1' : mX11_eats n m 7 (wi μ (wm I m s)) = _ := e1
  by_cases c : F.1 = 0 ∧ tK (bts P) z q = 7
  · rw [if_pos c] at r1
    obtain ⟨u2, q2, F2, v4, e2, g2, r2, o2⟩ := takes_eq (n := n) h hX hc r1 (lo := 0) (hi := 9) (by omega) (by omega) hn
    obtain ⟨u3, q3, F3, v5, e3, g3, r3, o3⟩ := takes_eq (n := n) h hX hc r2 (lo := 0) (hi := 9) (by omega) (by omega) hn
    refine ⟨u3, q3, F3, v4, v5, fun R => ?_, (g1.tr g2).tr g3, r3, ⟨fun w => absurd c.1 w, fun _ => ⟨fun _ => ⟨F2, q2, o2, o3⟩, fun w => absurd c.2 w⟩⟩⟩
    unfold sM
    rw [bM_inv h, bnd e1']
    dsimp only
    unfold sM1
    rw [i_bi_t c, bM_inv h, bnd e2]
    dsimp only
    rw [i_bi_t c, bM_inv h, bnd e3]
  · rw [if_neg c] at r1
    refine ⟨u1, q, F, 0, 0, fun R => ?_, g1, r1, ⟨fun _ => rfl, fun zz => ⟨fun w => absurd ⟨zz, w⟩ c, fun _ => ⟨rfl, rfl, rfl, rfl⟩⟩⟩⟩
    unfold sM
    rw [bM_inv h, bnd e1']
    dsimp only
    unfold sM1
    rw [i_bi_f c]
    dsimp only
    rw [i_bi_f c]
end RP
