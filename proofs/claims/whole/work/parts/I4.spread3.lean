/-! the class's search: all states behind an hour, whole -/
section SPT
variable {μ : Mem} {J : Nat → Nat → Int} {a c n o H R sk q nC : Nat} {ro : Nat → Nat} {l L L' : Ld} {gB G pc : Int} {p : Nat → Int}
/-- what stands in a search that is prepared -/
def cxS (J : Nat → Nat → Int) (a c : Nat) (l : Ld) (o H : Nat) (ro : Nat → Nat) (sk : Nat) (G : Int) (nC : Nat) : Prop := envS J a c l o ro ∧ J a 11 = (sk : Int) ∧ J a 12 = G ∧ okL (ld J (c + 3)) ∧ chZ J a l o H ro nC
theorem cxS.cg {K : Nat → Nat → Int} (h : cxS J a c l o H ro sk G nC) (ha : c + 15 < a) (e : ∀ b : Nat, b = a + 9 ∨ b = a + 10 ∨ b = a + 11 ∨ (c + 3 ≤ b ∧ b ≤ c + 15) → K b = J b) (e2 : ∀ j : Nat, j ≠ 13 → K a j = J a j) : cxS K a c l o H ro sk G nC := by
  obtain ⟨⟨h1, h2, h3⟩, h4, h5, h6, h7⟩ := h
  have nl : ∀ k : Nat, k ≤ 12 → ld K (c + 3) k = ld J (c + 3) k := fun k hk => e _ (by omega)
  refine ⟨⟨fun k hk k9 => (nl k hk).trans (h1 k hk k9), by rw [e2 3 (by decide)]; exact h2, fun k hk => by rw [e (a + 9) (by omega)]; exact h3 k hk⟩, by rw [e2 11 (by decide)]; exact h4, by rw [e2 12 (by decide)]; exact h5, h6.cg nl, ?_⟩
  unfold chZ at *
  rw [e2 6 (by decide), e (a + 10) (by omega), e (a + 11) (by omega)]
  exact h7
theorem cxS.fs {K : Nat → Nat → Int} (h : cxS J a c l o H ro sk G nC) (ha : c + 15 < a) (hq : q = a + 1 ∨ q = a + 5) (f : FS J K a q) : cxS K a c l o H ro sk G nC := h.cg ha (fun b hb => f.1 b (by omega) (by omega) (by omega) (by omega) (by omega)) f.2
theorem spread_eq (hE : isSe μ a c) (hL : isL μ (c + 3)) (ha : c + 15 < a) (hkl : okL l) (v : VG l sk gB G L) (hH : (H : Int) = l 0 0) (hH4 : H ≤ 4) (op : opn l o ro R) (ho : o ≤ 3) (hG : 1 ≤ G ∧ G ≤ 3) (hsk : sk < H) (hn : 20000 ≤ n) (hS : isSS μ q) (hq : q = a + 1 ∨ q = a + 5) (hpc : 0 ≤ pc ∧ pc ≤ 90000) (hx : cxS J a c l o H ro sk G nC) {z : Nat} (hz : SC J a q z) : ∃ (K : Nat → Nat → Int) (z1 : Nat), mX4_spread n a (kC o H sk ro gB L) pc q (wi μ J) = some ((), wi μ K) ∧ FS J K a q ∧ SC K a q z1 ∧ AdL (fun x d => ∃ p : Nat → Int, vP l o H ro p ∧ hd (goL p L).1 sk - gB < G ∧ x = kC o H sk ro gB (goL p L).1 ∧ d = pc + cn p 0 H) (fun d => ∃ p : Nat → Int, vP l o H ro p ∧ ¬ hd (goL p L).1 sk - gB < G ∧ d = pc + cn p 0 H) (J (q + 1)) (J (q + 2)) z (J a 13) (K (q + 1)) (K (q + 2)) z1 (K a 13) := by
  obtain ⟨hJ, h11, h12, hm, hc⟩ := hx
  have v1 := v.1
  have v2 := v.2.1
  have v3 := v.2.2
  have rg := rg_of (ro := ro) (o := o) (H := H) (g := hd L sk - gB) v1.1 (by rw [v1.2.1 0 (by decide)]; exact hH) (fun j hj => by rw [v1.2.1 1 (by decide)]; have := (op.2.1 j hj).1; have := op.1; omega) (by omega)
  obtain ⟨X, x1, x2⟩ := cd_x rg
  obtain ⟨K, e, g1, g2⟩ := lookAhead_eq (n := n) hE hL ha v1 op ho x2 hn hJ hm
  have hV : bhV K a c l L o ro sk G := ⟨⟨fun k hk k9 => (show K (c + 3 + k) = J (c + 3 + k) from g1 _ (by omega) (by omega)).trans (hJ.1 k hk k9), by rw [g1 a (by omega) (by omega)]; exact hJ.2.1, fun k hk => by rw [g1 (a + 9) (by omega) (by omega)]; exact hJ.2.2 k hk⟩, by rw [g1 a (by omega) (by omega)]; exact h11, by rw [g1 a (by omega) (by omega)]; exact h12, g2⟩
  have hzK : SC K a q z := by
    unfold SC SSt
    rw [g1 q (by omega) (by omega), g1 (q + 1) (by omega) (by omega), g1 (q + 2) (by omega) (by omega), g1 (q + 3) (by omega) (by omega), g1 a (by omega) (by omega)]
    exact hz
  obtain ⟨c6, c36, cA, cB, cC⟩ := id hc
  obtain ⟨M, z1, em, fm, cm, ad⟩ := sp_l (n := n) (C10 := J (a + 10)) (C11 := J (a + 11)) (nC := nC) (pc := pc) (S0 := J (q + 1)) (P0 := J (q + 2)) (z0 := z) (f0 := J a 13) hE hL ha hkl v1 hH hH4 op ho hG ⟨v2, v3⟩ hsk hn x2 hS hq hpc ⟨c36, cA, cB⟩ nC n 0 0 z K (by omega) (by omega) ⟨by decide, fun u hu => by simp at hu⟩ hV (by rw [g1 a (by omega) (by omega)]; exact c6) (g1 _ (by omega) (by omega)) (g1 _ (by omega) (by omega)) hzK (by
    rw [g1 (q + 1) (by omega) (by omega), g1 (q + 2) (by omega) (by omega), g1 a (by omega) (by omega)]
    exact AdL.rf (fun x d w => by obtain ⟨i, hi, -⟩ := w; omega) (fun d w => by obtain ⟨i, hi, -⟩ := w; omega))
  refine ⟨M, z1, ?_, FS.tr ⟨fun b _ b2 b3 _ _ => g1 b b2 b3, fun x _ => by rw [g1 a (by omega) (by omega)]⟩ fm, cm, ad.iff (fun x d => ⟨fun w => ?_, fun w => ?_⟩) (fun d => ⟨fun w => ?_, fun w => ?_⟩)⟩
  · unfold kC
    rw [x1, spread_s, bE_inv hE, bnd e]
    exact em
  · obtain ⟨i, hi, p, w', q1, q2, q3, q4, q5, q6, q7⟩ := w
    exact ⟨p, q1, q5, q6, by rw [← q4]; exact q7⟩
  · obtain ⟨p, q1, q2, q3, q4⟩ := w
    obtain ⟨j, w', r1, r2, r3, r4⟩ := cC p q1
    exact ⟨j, r1, p, w', q1, r2, r3, r4, q2, q3, by rw [r4]; exact q4⟩
  · obtain ⟨i, hi, p, w', q1, q2, q3, q4, q5, q7⟩ := w
    exact ⟨p, q1, q5, by rw [← q4]; exact q7⟩
  · obtain ⟨p, q1, q2, q4⟩ := w
    obtain ⟨j, w', r1, r2, r3, r4⟩ := cC p q1
    exact ⟨j, r1, p, w', q1, r2, r3, r4, q2, by rw [r4]; exact q4⟩
/-- lands of one code have, behind the same pulls, one code: the class's -/
theorem kC_go (v : VG l sk gB G L) (v' : VG l sk gB G L') (hG : G ≤ 3) (hH : (H : Int) = l 0 0) (hH4 : H ≤ 4) (op : opn l o ro R) (ho : o ≤ 3) (e : kC o H sk ro gB L' = kC o H sk ro gB L) : kC o H sk ro gB (goL p L').1 = kC o H sk ro gB (goL p L).1 ∧ hd (goL p L').1 sk = hd (goL p L).1 sk := by
  have a2 := v.2.1
  have a3 := v.2.2
  have b2 := v'.2.1
  have b3 := v'.2.2
  have rl : ∀ k : Nat, k < o → ((ro k : Nat) : Int) < l 0 1 := fun k hk => by have := (op.2.1 k hk).1; have := op.1; omega
  have r1 := rg_of (ro := ro) (o := o) (g := hd L sk - gB) v.1.1 (by rw [v.1.2.1 0 (by decide)]; exact hH) (fun k hk => by rw [v.1.2.1 1 (by decide)]; exact rl k hk) (by omega)
  have r2 := rg_of (ro := ro) (o := o) (g := hd L' sk - gB) v'.1.1 (by rw [v'.1.2.1 0 (by decide)]; exact hH) (fun k hk => by rw [v'.1.2.1 1 (by decide)]; exact rl k hk) (by omega)
  have eM : kM o H sk ro gB L' = kM o H sk ro gB L := (cd_iff r2 r1 ho hH4).mp e
  obtain ⟨e1, e2⟩ := kM_eqC v.1 v'.1 hH op ⟨a2, by omega⟩ ⟨b2, by omega⟩ eM
  obtain ⟨g1, g2⟩ := go_cg (p := p) v.1 v'.1 hH op e1
  have g3 := g2 sk
  have e3 : hd (goL p L').1 sk = hd (goL p L).1 sk := by omega
  refine ⟨?_, e3⟩
  have eD : fD o ro (goL p L').1 = fD o ro (goL p L).1 := funext fun k => by
    unfold fD
    by_cases c : k < o
    · rw [if_pos c, if_pos c]; exact (g1.1 k c).1
    · rw [if_neg c, if_neg c]
  have eF : fF o ro (goL p L').1 = fF o ro (goL p L).1 := funext fun k => by
    unfold fF
    by_cases c : k < 2 * o
    · rw [if_pos c, if_pos c]
      have q := g1.1 (k / 2) (by omega)
      rcases Nat.mod_two_eq_zero_or_one k with z | z
      · rw [z]; exact q.2.1
      · rw [z]; exact q.2.2
    · rw [if_neg c, if_neg c]
  have eS : fS H (goL p L').1 = fS H (goL p L).1 := funext fun k => by
    unfold fS
    by_cases c : k < H
    · rw [if_pos c, if_pos c]; exact g1.2 k c
    · rw [if_neg c, if_neg c]
  unfold kC
  rw [eD, eF, eS, e3]
/-- what spread does, told by steps -/
theorem sp_lv (v : VG l sk gB G L) (hG : 1 ≤ G ∧ G ≤ 3) (hH : (H : Int) = l 0 0) (hH4 : H ≤ 4) (op : opn l o ro R) (ho : o ≤ 3) {S P T Q : Nat → Int} {z z1 : Nat} {g : Int} (hA : AdL (fun x d => ∃ p : Nat → Int, vP l o H ro p ∧ hd (goL p L).1 sk - gB < G ∧ x = kC o H sk ro gB (goL p L).1 ∧ d = pc + cn p 0 H) (fun d => ∃ p : Nat → Int, vP l o H ro p ∧ ¬ hd (goL p L).1 sk - gB < G ∧ d = pc + cn p 0 H) S P z (-1) T Q z1 g) : (z ≤ z1 ∧ ∀ i : Nat, i < z → T i = S i) ∧ (∀ x : Int, inL T z1 x → inL S z x ∨ StL (kC o H sk ro gB) l o H sk ro gB G (kC o H sk ro gB L) x) ∧ (g = -1 → ¬ GoL (kC o H sk ro gB) l o H sk ro gB G (kC o H sk ro gB L) ∧ ∀ x : Int, StL (kC o H sk ro gB) l o H sk ro gB G (kC o H sk ro gB L) x → z1 ≤ 3000 → inL T z1 x) ∧ (g ≠ -1 → GoL (kC o H sk ro gB) l o H sk ro gB G (kC o H sk ro gB L)) := by
  obtain ⟨⟨a1, a2⟩, a3, a4, a5, a6, a7⟩ := hA
  refine ⟨⟨a1, fun i hi => (a2 i hi).1⟩, fun x hx => ?_, fun g1 => ⟨fun hg => ?_, fun x hx hz => ?_⟩, fun g1 => ?_⟩
  · obtain ⟨i, i1, i2⟩ := hx
    rcases a3 i i1 with ⟨q, -⟩ | ⟨p, q1, q2, q3, q4⟩
    · exact Or.inl ⟨i, q, by rw [← (a2 i q).1]; exact i2⟩
    · exact Or.inr ⟨L, p, v, q1, rfl, q2, i2.symm.trans q3⟩
  · obtain ⟨L', p, q1, q2, q3, q4⟩ := hg
    have q := kC_go (p := p) v q1 hG.2 hH hH4 op ho q3.symm
    exact (a7 _ ⟨p, q2, by rw [← q.2]; exact q4, rfl⟩).1 g1
  · obtain ⟨L', p, q1, q2, q3, q4, q5⟩ := hx
    have q := kC_go (p := p) v q1 hG.2 hH hH4 op ho q3.symm
    obtain ⟨i, r1, r2, -⟩ := a4 x _ ⟨p, q2, by rw [← q.2]; exact q4, by rw [← q.1]; exact q5, rfl⟩ hz
    exact ⟨i, r1, r2⟩
  · rcases a5 with e | ⟨p, q1, q2, -⟩
    · exact absurd e g1
    · exact ⟨L, p, v, q1, rfl, q2⟩
theorem sp_ad (v : VG l sk gB 1 L) (hH : (H : Int) = l 0 0) (hH4 : H ≤ 4) (op : opn l o ro R) (ho : o ≤ 3) {S P T Q : Nat → Int} {z z1 : Nat} {f g : Int} (hA : AdL (fun x d => ∃ p : Nat → Int, vP l o H ro p ∧ hd (goL p L).1 sk - gB < 1 ∧ x = kC o H sk ro gB (goL p L).1 ∧ d = pc + cn p 0 H) (fun d => ∃ p : Nat → Int, vP l o H ro p ∧ ¬ hd (goL p L).1 sk - gB < 1 ∧ d = pc + cn p 0 H) S P z f T Q z1 g) : AdL (fun x d => ∃ e : Int, SpL (kC o H sk ro gB) l o H sk ro gB (kC o H sk ro gB L) x e ∧ d = pc + e) (fun d => ∃ e : Int, GpL (kC o H sk ro gB) l o H sk ro gB (kC o H sk ro gB L) e ∧ d = pc + e) S P z f T Q z1 g := by
  refine hA.iff (fun x d => ⟨fun w => ?_, fun w => ?_⟩) (fun d => ⟨fun w => ?_, fun w => ?_⟩)
  · obtain ⟨p, q1, q2, q3, q4⟩ := w
    exact ⟨cn p 0 H, ⟨L, p, v, q1, rfl, q2, q3, rfl⟩, q4⟩
  · obtain ⟨e, ⟨L', p, q1, q2, q3, q4, q5, q6⟩, q7⟩ := w
    have q := kC_go (p := p) v q1 (by decide) hH hH4 op ho q3.symm
    exact ⟨p, q2, by rw [← q.2]; exact q4, by rw [← q.1]; exact q5, by rw [q7, q6]⟩
  · obtain ⟨p, q1, q2, q4⟩ := w
    exact ⟨cn p 0 H, ⟨L, p, v, q1, rfl, q2, rfl⟩, q4⟩
  · obtain ⟨e, ⟨L', p, q1, q2, q3, q4, q6⟩, q7⟩ := w
    have q := kC_go (p := p) v q1 (by decide) hH hH4 op ho q3.symm
    exact ⟨p, q2, by rw [← q.2]; exact q4, by rw [q7, q6]⟩
end SPT
