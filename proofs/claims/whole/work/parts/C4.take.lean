/-! numbers, words and faults, as the class takes them -/
abbrev Fp : Type := Int × Int
def nOK (B : Nat → Int) (z : Nat) (lo hi : Int) (q : Nat) : Prop := tK B z q = 11 ∧ lo ≤ tV B z q ∧ tV B z q ≤ hi
noncomputable def wgF (B : Nat → Int) (z q : Nat) : Fp := (if tK B z q = 14 then 1 else 2, ((tS B z q : Nat) : Int))
noncomputable def nB (B : Nat → Int) (z : Nat) (lo hi : Int) (q : Nat) : Fp × Nat × Int := @ite (Fp × Nat × Int) (nOK B z lo hi q) (Classical.propDecidable _) ((0, 0), tE B z q, tV B z q) (if tK B z q = 11 then (3, ((tS B z q : Nat) : Int)) else wgF B z q, q, lo)
/-- a part that can't be behind a fault, and else comes to R -/
def outP (F F' : Fp) (q' : Nat) (v : Int) (R : Fp × Nat × Int) : Prop := (F.1 ≠ 0 → F' = F) ∧ (F.1 = 0 → (R.1.1 = 0 → F'.1 = 0 ∧ q' = R.2.1 ∧ v = R.2.2) ∧ (R.1.1 ≠ 0 → F' = R.1))
section TK
variable {μ : Mem} {I J : Nat → Nat → Int} {c t n z q : Nat} {P : Nat → Int} {F : Fp} {β : Type}
def CS (J : Nat → Nat → Int) (t z : Nat) (P : Nat → Int) (q : Nat) (F : Fp) : Prop := tpO J t z P ∧ tkC J t z P q ∧ q ≤ z ∧ J t 1 = F.1 ∧ J t 2 = F.2 ∧ 0 ≤ F.1 ∧ F.1 ≤ 4 ∧ (F.1 = 0 → F.2 = -1)
def tpG (J K : Nat → Nat → Int) (t : Nat) : Prop := (∀ b : Nat, b ≠ t → K b = J b) ∧ K t 0 = J t 0
theorem tpG.rf (J : Nat → Nat → Int) (t : Nat) : tpG J J t := ⟨fun _ _ => rfl, rfl⟩
theorem tpG.tr {J K L : Nat → Nat → Int} (h1 : tpG J K t) (h2 : tpG K L t) : tpG J L t := ⟨fun b hb => (h2.1 b hb).trans (h1.1 b hb), h2.2.trans h1.2⟩
theorem tpF.g {J K : Nat → Nat → Int} (h : tpF J K t) : tpG J K t := ⟨h.1, h.2 0 (by decide) (by decide) (by decide) (by decide)⟩
theorem ck_rg (k : Nat) : 0 ≤ ck k ∧ ck k ≤ 4 := by
  unfold ck
  split
  · omega
  · split
    · omega
    · split
      · omega
      · split <;> omega
theorem ck_2 {k : Nat} (h : k ≤ 14) : ck k = 2 ↔ k = 11 := by
  unfold ck
  by_cases c1 : k = 13
  · rw [if_pos c1]; omega
  · rw [if_neg c1]
    by_cases c2 : k ≤ 10
    · rw [if_pos c2]; omega
    · rw [if_neg c2]
      by_cases c3 : k = 11
      · rw [if_pos c3]; omega
      · rw [if_neg c3]
        split <;> omega
theorem ck_4 {k : Nat} (h : k ≤ 14) : ck k = 4 ↔ k = 14 := by
  unfold ck
  by_cases c1 : k = 13
  · rw [if_pos c1]; omega
  · rw [if_neg c1]
    by_cases c2 : k ≤ 10
    · rw [if_pos c2]; omega
    · rw [if_neg c2]
      by_cases c3 : k = 11
      · rw [if_pos c3]; omega
      · rw [if_neg c3]
        by_cases c4 : k = 12
        · rw [if_pos c4]; omega
        · rw [if_neg c4]; omega
theorem ck_3 {k : Nat} (h : k ≤ 14) : ck k = 3 ↔ k = 12 := by
  unfold ck
  by_cases c1 : k = 13
  · rw [if_pos c1]; omega
  · rw [if_neg c1]
    by_cases c2 : k ≤ 10
    · rw [if_pos c2]; omega
    · rw [if_neg c2]
      by_cases c3 : k = 11
      · rw [if_pos c3]; omega
      · rw [if_neg c3]
        by_cases c4 : k = 12
        · rw [if_pos c4]; omega
        · rw [if_neg c4]; omega
theorem ck_0 {k : Nat} (h : k ≤ 14) : ck k = 0 ↔ k = 13 := by
  unfold ck
  by_cases c1 : k = 13
  · rw [if_pos c1]; omega
  · rw [if_neg c1]
    by_cases c2 : k ≤ 10
    · rw [if_pos c2]; omega
    · rw [if_neg c2]
      by_cases c3 : k = 11
      · rw [if_pos c3]; omega
      · rw [if_neg c3]
        split <;> omega
theorem adv_w (h : isTp μ t) (hS : CS J t z P q F) (hn : 20000 ≤ n) : ∃ K : Nat → Nat → Int, mX8_advance n t (wi μ J) = some ((), wi μ K) ∧ tpG J K t ∧ CS K t z P (tE (bts P) z q) F := by
  obtain ⟨hO, hT, hq, h1, h2, h3, h4⟩ := hS
  have rE := tE_rg (B := bts P) hq
  obtain ⟨K, e, f, k⟩ := advance_eq (n := n) h hO hT.2.2.1 rE.2.1 hn
  exact ⟨K, e, f.g, f.o hO, k, rE.2.1, (f.2 1 (by decide) (by decide) (by decide) (by decide)).trans h1, (f.2 2 (by decide) (by decide) (by decide) (by decide)).trans h2, h3, h4⟩
theorem tellFault_eq (h : isTp μ t) (hS : CS J t z P q F) {k : Int} (hk : 1 ≤ k ∧ k ≤ 4) : ∃ (K : Nat → Nat → Int) (F' : Fp), mX8_tellFault n t k (wi μ J) = some ((), wi μ K) ∧ tpG J K t ∧ CS K t z P q F' ∧ (F.1 ≠ 0 → F' = F) ∧ (F.1 = 0 → F' = (k, ((tS (bts P) z q : Nat) : Int))) := by
  obtain ⟨hO, hT, hq, h1, h2, h3, h4⟩ := id hS
  unfold mX8_tellFault
  rw [bP_gI h, h1]
  by_cases c : F.1 = 0
  · have u6 : up2 J t 1 k t 6 = ((tS (bts P) z q : Nat) : Int) := by rw [up2_n (by omega)]; exact hT.2.1
    rw [i_eq_t c, bP_pI h, bP_gI h, u6, bP_pI h]
    refine ⟨_, (k, ((tS (bts P) z q : Nat) : Int)), rfl, ⟨fun b hb => by rw [up2_row hb, up2_row hb], by rw [up2_n (by omega), up2_n (by omega)]⟩, ⟨(hO.up (by decide)).up (by decide), ⟨?_, ?_, ?_, fun z => ?_⟩, hq, by rw [up2_n (by omega), up2_s], by rw [up2_s], by dsimp only; omega, by dsimp only; omega⟩, fun z => absurd c z, fun _ => rfl⟩
    · rw [up2_n (by omega), up2_n (by omega)]; exact hT.1
    · rw [up2_n (by omega), up2_n (by omega)]; exact hT.2.1
    · rw [up2_n (by omega), up2_n (by omega)]; exact hT.2.2.1
    · rw [up2_n (by omega), up2_n (by omega)]; exact hT.2.2.2 z
  · rw [i_eq_f (by omega)]
    exact ⟨J, F, rfl, tpG.rf J t, hS, fun _ => rfl, fun z => absurd z c⟩
theorem tellWrong_eq (h : isTp μ t) (hS : CS J t z P q F) : ∃ (K : Nat → Nat → Int) (F' : Fp), mX8_tellWrongToken n t (wi μ J) = some ((), wi μ K) ∧ tpG J K t ∧ CS K t z P q F' ∧ (F.1 ≠ 0 → F' = F) ∧ (F.1 = 0 → F' = wgF (bts P) z q) := by
  have t5 := hS.2.1.1
  have kr := ck_rg (tK (bts P) z q)
  have k4 := ck_4 (tK_le (bts P) z q)
  unfold mX8_tellWrongToken
  rw [bP_gI h, t5]
  simp only [jn]
  unfold wgF
  by_cases c : tK (bts P) z q = 14
  · obtain ⟨K, F', e, g, s, a, b⟩ := tellFault_eq (n := n) h hS (k := 1) (by omega)
    rw [i_eq_t (k4.mpr c), bT_inv h, bnd e, if_pos c]
    exact ⟨K, F', rfl, g, s, a, b⟩
  · obtain ⟨K, F', e, g, s, a, b⟩ := tellFault_eq (n := n) h hS (k := 2) (by omega)
    rw [i_eq_f (by omega), bT_inv h, bnd e, if_neg c]
    exact ⟨K, F', rfl, g, s, a, b⟩
theorem takeNumber_eq (h : isTp μ t) (hS : CS J t z P q F) {lo hi : Int} (hl : -1000000 ≤ lo ∧ lo ≤ 1000000) (hh : -1000000 ≤ hi ∧ hi ≤ 1000000) (hn : 20000 ≤ n) : ∃ (K : Nat → Nat → Int) (q' : Nat) (F' : Fp) (v : Int), mX8_takeNumber n t lo hi (wi μ J) = some (v, wi μ K) ∧ tpG J K t ∧ CS K t z P q' F' ∧ outP F F' q' v (nB (bts P) z lo hi q) := by
  obtain ⟨t5, t6, t7, t8⟩ := hS.2.1
  have kr := ck_rg (tK (bts P) z q)
  have k2 := ck_2 (tK_le (bts P) z q)
  have vr := tV_rg (bts P) z q
  unfold mX8_takeNumber
  rw [bP_gI h, t5]
  by_cases c : tK (bts P) z q = 11
  · have e8 := t8 c
    rw [i_eq_t (k2.mpr c), bP_gI h, e8]
    simp only [jn]
    by_cases c2 : lo ≤ tV (bts P) z q ∧ tV (bts P) z q ≤ hi
    · have ok : nOK (bts P) z lo hi q := ⟨c, c2⟩
      obtain ⟨K, e, g, s⟩ := adv_w (n := n) h hS hn
      rw [i_lt_f (by omega), bP_gI h, e8, i_lt_f (by omega), bP_gI h, e8, bT_inv h, bnd e]
      have hR : nB (bts P) z lo hi q = ((0, 0), tE (bts P) z q, tV (bts P) z q) := if_pos ok
      rw [hR]
      exact ⟨K, _, F, _, rfl, g, s, fun _ => rfl, fun z => ⟨fun _ => ⟨z, rfl, rfl⟩, fun z => absurd rfl z⟩⟩
    · have nok : ¬ nOK (bts P) z lo hi q := fun z => c2 z.2
      have hR : nB (bts P) z lo hi q = ((3, ((tS (bts P) z q : Nat) : Int)), q, lo) := by
        unfold nB
        rw [if_neg nok, if_pos c]
      obtain ⟨K, F', e, g, s, a, b⟩ := tellFault_eq (n := n) h hS (k := 3) (by omega)
      rw [hR]
      have o : outP F F' q lo ((3, ((tS (bts P) z q : Nat) : Int)), q, lo) := ⟨a, fun z => ⟨fun w => absurd w (show ¬ (3 : Int) = 0 by decide), fun _ => b z⟩⟩
      by_cases c3 : tV (bts P) z q < lo
      · rw [i_lt_t (by omega), bT_inv h, bnd e]
        exact ⟨K, q, F', lo, rfl, g, s, o⟩
      · rw [i_lt_f (by omega), bP_gI h, e8, i_lt_t (by omega), bT_inv h, bnd e]
        exact ⟨K, q, F', lo, rfl, g, s, o⟩
  · have nok : ¬ nOK (bts P) z lo hi q := fun z => c z.1
    have hR : nB (bts P) z lo hi q = (wgF (bts P) z q, q, lo) := by
      unfold nB
      rw [if_neg nok, if_neg c]
    obtain ⟨K, F', e, g, s, a, b⟩ := tellWrong_eq (n := n) h hS
    rw [i_eq_f (by omega), bT_inv h, bnd e, hR]
    refine ⟨K, q, F', lo, rfl, g, s, a, fun z => ⟨fun w => ?_, fun _ => b z⟩⟩
    unfold wgF at w
    dsimp only at w
    split at w <;> omega
theorem takeWord_eq (h : isTp μ t) (hX : isX μ c J) (hS : CS J t z P q F) {k : Nat} (hk : k < 10) (hn : 20000 ≤ n) : ∃ (K : Nat → Nat → Int), mX8_takeWord n t (mA μ 0 k) (wi μ J) = some (bi (tK (bts P) z q = k), wi μ K) ∧ tpG J K t ∧ CS K t z P (if tK (bts P) z q = k then tE (bts P) z q else q) F := by
  have e0 := isWord_eq (n := n) h hS.1 hX hS.2.2.1 hS.2.1 hk hn
  unfold mX8_takeWord
  rw [bT_inv h, bnd e0]
  dsimp only
  by_cases ck : tK (bts P) z q = k
  · obtain ⟨K, e, g, s⟩ := adv_w (n := n) h hS hn
    rw [i_bi_t ck, bT_inv h, bnd e, if_pos ck, bi_t ck]
    exact ⟨K, rfl, g, s⟩
  · rw [i_bi_f ck, if_neg ck, bi_f ck]
    exact ⟨J, rfl, tpG.rf J t, hS⟩
end TK
/-! .. and as the reference does -/
section RK
variable {μ : Mem} {I J : Nat → Nat → Int} {c m n z q : Nat} {P : Nat → Int} {F : Fp} {s : Ld} {β : Type}
def RS (s : Ld) (z : Nat) (P : Nat → Int) (q : Nat) (F : Fp) : Prop := rpO s z P ∧ tkM s z P q ∧ q ≤ z ∧ s 0 11 = F.1 ∧ (F.1 ≠ 0 → s 0 12 = F.2) ∧ 0 ≤ F.1 ∧ F.1 ≤ 4
def rpG (s u : Ld) : Prop := (∀ k : Nat, k ≠ 0 → u k = s k) ∧ ∀ j : Nat, j ≠ 6 → j ≠ 7 → j ≠ 9 → j ≠ 10 → j ≠ 11 → j ≠ 12 → u 0 j = s 0 j
theorem rpG.rf (s : Ld) : rpG s s := ⟨fun _ _ => rfl, fun _ _ _ _ _ _ _ => rfl⟩
theorem rpG.tr {s t u : Ld} (h1 : rpG s t) (h2 : rpG t u) : rpG s u := ⟨fun k hk => (h2.1 k hk).trans (h1.1 k hk), fun j a b c d e f => (h2.2 j a b c d e f).trans (h1.2 j a b c d e f)⟩
theorem rpF.g {s u : Ld} (h : rpF s u) : rpG s u := ⟨h.1, fun j a b c d _ _ => h.2 j a b c d⟩
theorem nxt_w (h : isM μ m) (hX : isX μ c I) (hc : c ≤ m) (hS : RS s z P q F) (hn : 20000 ≤ n) : ∃ u : Ld, mX11_next n m (wi μ (wm I m s)) = some ((), wi μ (wm I m u)) ∧ rpG s u ∧ RS u z P (tE (bts P) z q) F := by
  obtain ⟨hO, hT, hq, h1, h2, h3, h4⟩ := hS
  have rE := tE_rg (B := bts P) hq
  obtain ⟨u, e, f, k⟩ := next_eq (n := n) h hO hX hc hT.2.2.1 rE.2.1 hn
  exact ⟨u, e, f.g, f.o hO, k, rE.2.1, (f.2 11 (by decide) (by decide) (by decide) (by decide)).trans h1, fun z => (f.2 12 (by decide) (by decide) (by decide) (by decide)).trans (h2 z), h3, h4⟩
theorem fails_eq (h : isM μ m) (hS : RS s z P q F) {k : Int} (hk : 1 ≤ k ∧ k ≤ 4) : ∃ (u : Ld) (F' : Fp), mX11_fails n m k (wi μ (wm I m s)) = some ((), wi μ (wm I m u)) ∧ rpG s u ∧ RS u z P q F' ∧ (F.1 ≠ 0 → F' = F) ∧ (F.1 = 0 → F' = (if tK (bts P) z q = 14 then 1 else k, ((tS (bts P) z q : Nat) : Int))) := by
  obtain ⟨hO, hT, hq, h1, h2, h3, h4⟩ := id hS
  have kl := tK_le (bts P) z q
  unfold mX11_fails
  rw [bM_gI h, h1]
  by_cases c : F.1 = 0
  · rw [i_eq_t c, bM_gI h, hT.1]
    simp only [jn]
    have fin : ∀ k : Int, 1 ≤ k ∧ k ≤ 4 → ∃ (u : Ld), ((pI (wi μ (wm I m s)) 12 m 11 k).bind fun μ23 => (gI μ23 12 m 6).bind fun x28 => (pI μ23 12 m 12 x28).bind fun μ31 => some ((), μ31)) = some ((), wi μ (wm I m u)) ∧ rpG s u ∧ RS u z P q (k, ((tS (bts P) z q : Nat) : Int)) := by
      intro k hk
      have u6 : up2 s 0 11 k 0 6 = ((tS (bts P) z q : Nat) : Int) := by rw [up2_n (by omega)]; exact hT.2.1
      rw [bM_pI h, bM_gI h, u6, bM_pI h]
      refine ⟨_, rfl, ⟨fun b hb => by rw [up2_row hb, up2_row hb], fun j _ _ _ _ a b => by rw [up2_n (by omega), up2_n (by omega)]⟩, ⟨by rw [up2_n (by omega), up2_n (by omega)]; exact hO.1, hO.2.1, fun i hi => by rw [up2_row (by decide), up2_row (by decide)]; exact hO.2.2 i hi⟩, ⟨?_, ?_, ?_, fun z => ?_⟩, hq, by rw [up2_n (by omega), up2_s], fun _ => by rw [up2_s], by dsimp only; omega, by dsimp only; omega⟩
      · rw [up2_n (by omega), up2_n (by omega)]; exact hT.1
      · rw [up2_n (by omega), up2_n (by omega)]; exact hT.2.1
      · rw [up2_n (by omega), up2_n (by omega)]; exact hT.2.2.1
      · rw [up2_n (by omega), up2_n (by omega)]; exact hT.2.2.2 z
    by_cases c14 : tK (bts P) z q = 14
    · obtain ⟨u, e, g, r⟩ := fin 1 (by omega)
      rw [i_eq_t (by omega), e, if_pos c14]
      exact ⟨u, _, rfl, g, r, fun z => absurd c z, fun _ => rfl⟩
    · obtain ⟨u, e, g, r⟩ := fin k hk
      rw [i_eq_f (by omega), e, if_neg c14]
      exact ⟨u, _, rfl, g, r, fun z => absurd c z, fun _ => rfl⟩
  · rw [i_eq_f (by omega)]
    exact ⟨s, F, rfl, rpG.rf s, hS, fun _ => rfl, fun z => absurd z c⟩
theorem is_w (h : isM μ m) (hS : RS s z P q F) {k : Nat} (hk : k ≤ 14) {f : Int × Mem → Option β} : (mX11_is n m (k : Int) (wi μ (wm I m s))).bind f = f (bi (F.1 = 0 ∧ tK (bts P) z q = k), wi μ (wm I m s)) := by
  obtain ⟨hO, hT, hq, h1, h2, h3, h4⟩ := id hS
  have kl := tK_le (bts P) z q
  unfold mX11_is
  rw [bM_gI h, h1]
  by_cases c : F.1 = 0
  · rw [i_eq_t c, bM_gI h, hT.1]
    by_cases ck : tK (bts P) z q = k
    · rw [i_eq_t (by omega), bi_t ⟨c, ck⟩]; rfl
    · rw [i_eq_f (by omega), bi_f (fun z => ck z.2)]; rfl
  · rw [i_eq_f (by omega), bi_f (fun z => c z.1)]; rfl
theorem eats_eq (h : isM μ m) (hX : isX μ c I) (hc : c ≤ m) (hS : RS s z P q F) {k : Nat} (hk : k ≤ 14) (hn : 20000 ≤ n) : ∃ u : Ld, mX11_eats n m (k : Int) (wi μ (wm I m s)) = some (bi (F.1 = 0 ∧ tK (bts P) z q = k), wi μ (wm I m u)) ∧ rpG s u ∧ RS u z P (if F.1 = 0 ∧ tK (bts P) z q = k then tE (bts P) z q else q) F := by
  unfold mX11_eats
  rw [bM_inv h, is_w h hS hk]
  dsimp only
  by_cases ck : F.1 = 0 ∧ tK (bts P) z q = k
  · obtain ⟨u, e, g, r⟩ := nxt_w (n := n) h hX hc hS hn
    rw [i_bi_t ck, bM_inv h, bnd e, if_pos ck, bi_t ck]
    exact ⟨u, rfl, g, r⟩
  · rw [i_bi_f ck, if_neg ck, bi_f ck]
    exact ⟨s, rfl, rpG.rf s, hS⟩
theorem takes_eq (h : isM μ m) (hX : isX μ c I) (hc : c ≤ m) (hS : RS s z P q F) {lo hi : Int} (hl : -1000000 ≤ lo ∧ lo ≤ 1000000) (hh : -1000000 ≤ hi ∧ hi ≤ 1000000) (hn : 20000 ≤ n) : ∃ (u : Ld) (q' : Nat) (F' : Fp) (v : Int), mX11_takes n m lo hi (wi μ (wm I m s)) = some (v, wi μ (wm I m u)) ∧ rpG s u ∧ RS u z P q' F' ∧ outP F F' q' v (nB (bts P) z lo hi q) := by
  obtain ⟨hO, hT, hq, h1, h2, h3, h4⟩ := id hS
  have vr := tV_rg (bts P) z q
  -- behind the tests
  have fin : ∀ (x : Ld) (F1 : Fp), rpG s x → RS x z P q F1 → F1.1 ≠ 0 → ((gI (wi μ (wm I m x)) 12 m 10).bind fun x38 => (gI (wi μ (wm I m x)) 12 m 11).bind fun x43 => if eq32 x43 0 then (inv (wi μ (wm I m x)) 12 m (mX11_next n m (wi μ (wm I m x)))).bind fun p50 => some (x38, p50.2) else some (x38, wi μ (wm I m x))) = some (x 0 10, wi μ (wm I m x)) := by
    intro x F1 g r nz
    have := r.2.2.2.2.2
    rw [bM_gI h, bM_gI h, r.2.2.2.1, i_eq_f (by omega)]
  unfold mX11_takes
  rw [bM_inv h, show (11 : Int) = ((11 : Nat) : Int) from rfl, is_w h hS (by decide)]
  dsimp only
  simp only [jn]
  by_cases c0 : F.1 = 0
  · by_cases c : tK (bts P) z q = 11
    · have e10 := hT.2.2.2 c
      rw [i_bi_t ⟨c0, c⟩, bM_gI h, e10, oI2l_of (x := lo) (by omega) (by omega), oI2l_of (x := hi) (by omega) (by omega), within_w (by omega) (by omega) (by omega)]
      dsimp only
      by_cases c2 : lo ≤ tV (bts P) z q ∧ tV (bts P) z q ≤ hi
      · have ok : nOK (bts P) z lo hi q := ⟨c, c2⟩
        obtain ⟨u, e, g, r⟩ := nxt_w (n := n) h hX hc hS hn
        have hR : nB (bts P) z lo hi q = ((0, 0), tE (bts P) z q, tV (bts P) z q) := if_pos ok
        rw [i_bi_t c2, bM_gI h, e10, bM_gI h, h1, i_eq_t c0, bM_inv h, bnd e, hR]
        exact ⟨u, _, F, _, rfl, g, r, fun _ => rfl, fun z => ⟨fun _ => ⟨z, rfl, rfl⟩, fun z => absurd rfl z⟩⟩
      · have nok : ¬ nOK (bts P) z lo hi q := fun z => c2 z.2
        have hR : nB (bts P) z lo hi q = ((3, ((tS (bts P) z q : Nat) : Int)), q, lo) := by
          unfold nB
          rw [if_neg nok, if_pos c]
        obtain ⟨u, F', e, g, r, -, b⟩ := fails_eq (n := n) (I := I) h hS (k := 3) (by omega)
        have eF := b c0
        rw [if_neg (by omega)] at eF
        rw [i_bi_f c2, bM_inv h, bnd e]
        dsimp only
        rw [fin u F' g r (by rw [eF]; show (3 : Int) ≠ 0; decide), hR]
        exact ⟨u, q, F', _, rfl, g, r, fun z => absurd c0 z, fun _ => ⟨fun w => absurd w (show ¬ (3 : Int) = 0 by decide), fun _ => eF⟩⟩
    · have nok : ¬ nOK (bts P) z lo hi q := fun z => c z.1
      have hR : nB (bts P) z lo hi q = (wgF (bts P) z q, q, lo) := by
        unfold nB
        rw [if_neg nok, if_neg c]
      obtain ⟨u, F', e, g, r, -, b⟩ := fails_eq (n := n) (I := I) h hS (k := 2) (by omega)
      have eF : F' = wgF (bts P) z q := b c0
      have nz : (wgF (bts P) z q).1 ≠ 0 := by
        unfold wgF
        dsimp only
        split <;> omega
      rw [i_bi_f (fun z => c z.2), bM_inv h, bnd e]
      dsimp only
      rw [fin u F' g r (by rw [eF]; exact nz), hR]
      exact ⟨u, q, F', _, rfl, g, r, fun z => absurd c0 z, fun _ => ⟨fun w => absurd w nz, fun _ => eF⟩⟩
  · obtain ⟨u, F', e, g, r, a, -⟩ := fails_eq (n := n) (I := I) h hS (k := 2) (by omega)
    have eF := a c0
    rw [i_bi_f (fun z => c0 z.1), bM_inv h, bnd e]
    dsimp only
    rw [fin u F' g r (by rw [eF]; exact c0)]
    exact ⟨u, q, F', _, rfl, g, r, a, fun z => absurd z c0⟩
end RK
