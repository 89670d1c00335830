/-! a house's line, of both -/
/-- a word and a number behind it, or neither -/
noncomputable def oB (B : Nat → Int) (z k : Nat) (lo hi d : Int) (q : Nat) : Fp × Nat × Int := if tK B z q = k then nB B z lo hi (tE B z q) else ((0, 0), q, d)
section HS
variable {μ : Mem} {I J : Nat → Nat → Int} {c t a n z q : Nat} {P : Nat → Int} {F : Fp} {β : Type}
theorem outP.nz {F F' : Fp} {q' : Nat} {v : Int} {R : Fp × Nat × Int} (h : outP F F' q' v R) (hz : F'.1 = 0) : F.1 = 0 := by
  by_cases c : F.1 = 0
  · exact c
  · rw [h.1 c] at hz; exact hz
/-- the class: an optional word with its number, laid into a row of the land -/
theorem optC (hT : isTp μ t) (hL : isL μ a) (sep : t + 1 < a) (hca : c ≤ t) (hX : isX μ c J) (hS : CS J t z P q F) {k r h : Nat} {lo hi : Int} (hk : k < 10) (hr : r = 2 ∨ r = 3 ∨ r = 4 ∨ r = 8) (hh : h < 10 ∨ (r = 8 ∧ h < 16)) (hl : -1000000 ≤ lo ∧ lo ≤ 1000000) (hhi : -1000000 ≤ hi ∧ hi ≤ 1000000) (hn : 20000 ≤ n) : ∃ (K : Nat → Nat → Int) (q' : Nat) (F' : Fp) (v : Int), (∀ R : Mem → Option (Unit × Mem), ((txt (wi μ J) k).bind fun x33 => (inv (wi μ J) 9 t (mX8_takeWord n t x33 (wi μ J))).bind fun p35 => if eq32 p35.1 0 then R p35.2 else (gA p35.2 2 a (r + 5)).bind fun x42 => (inv p35.2 9 t (mX8_takeNumber n t lo hi p35.2)).bind fun p50 => (stI p50.2 0 x42 (h : Int) p50.1).bind fun μ53 => R μ53) = R (wi μ K)) ∧ (∀ b : Nat, b ≠ t → b ≠ a + r → K b = J b) ∧ K t 0 = J t 0 ∧ K (a + r) = upA (J (a + r)) h v ∧ CS K t z P q' F' ∧ outP F F' q' v (oB (bts P) z k lo hi (J (a + r) h) q) := by
  obtain ⟨K1, e1, g1, s1⟩ := takeWord_eq (n := n) hT hX hS hk hn
  unfold oB
  by_cases c1 : tK (bts P) z q = k
  · rw [if_pos c1] at s1 ⊢
    obtain ⟨K2, q', F', v, e2, g2, s2, o2⟩ := takeNumber_eq (n := n) hT s1 hl hhi hn
    have gA' : ∀ (H : Nat → Nat → Int) (f : Nat → Option (Unit × Mem)), (gA (wi μ H) 2 a (r + 5)).bind f = f (a + r) := fun H f => by
      rcases hr with rfl | rfl | rfl | rfl
      · exact bL_g7 hL
      · exact bL_g8 hL
      · exact bL_g9 hL
      · exact bL_g13 hL
    have st : ∀ (H : Nat → Nat → Int) (f : Mem → Option (Unit × Mem)), (stI (wi μ H) 0 (a + r) (h : Int) v).bind f = f (wi μ (up2 H (a + r) h v)) := fun H f => by
      rcases hr with rfl | rfl | rfl | rfl
      · rw [bL_st2 hL (by omega) (by omega), Int.toNat_natCast]
      · rw [bL_st3 hL (by omega) (by omega), Int.toNat_natCast]
      · rw [bL_st4 hL (by omega) (by omega), Int.toNat_natCast]
      · rw [bL_st8 hL (by omega) (by omega), Int.toNat_natCast]
    have kr : K2 (a + r) = J (a + r) := (g2.1 _ (by omega)).trans (g1.1 _ (by omega))
    refine ⟨up2 K2 (a + r) h v, q', F', v, fun R => ?_, fun b n0 n1 => ?_, ?_, ?_, ?_, o2⟩
    · rw [txt_w hX (by omega), bT_inv hT, bnd e1]
      dsimp only
      rw [i_bi_t c1, gA', bT_inv hT, bnd e2]
      dsimp only
      rw [st]
    · rw [up2_row n1, g2.1 b n0, g1.1 b n0]
    · rw [up2_row (by omega), g2.2, g1.2]
    · funext j
      by_cases ej : j = h
      · rw [ej, up2_s, upA_s]
      · rw [up2_n (by omega), upA_n ej, kr]
    · obtain ⟨b1, b2, b3, b4, b5, b6⟩ := s2
      have et : up2 K2 (a + r) h v t = K2 t := up2_row (by omega)
      have et1 : up2 K2 (a + r) h v (t + 1) = K2 (t + 1) := up2_row (by omega)
      unfold CS tpO tkC at *
      rw [et, et1]
      exact ⟨b1, b2, b3, b4, b5, b6⟩
  · rw [if_neg c1] at s1 ⊢
    refine ⟨K1, q, F, J (a + r) h, fun R => ?_, fun b n0 _ => g1.1 b n0, g1.2, ?_, s1, fun _ => rfl, fun z => ⟨fun _ => ⟨z, rfl, rfl⟩, fun z => absurd rfl z⟩⟩
    · rw [txt_w hX (by omega), bT_inv hT, bnd e1]
      dsimp only
      rw [i_bi_f c1]
    · rw [g1.1 _ (by omega), upA_id rfl]
end HS
section HM
variable {μ : Mem} {I J : Nat → Nat → Int} {c m n z q : Nat} {P : Nat → Int} {F : Fp} {s : Ld} {β : Type}
/-- the reference: an optional word with its number, or a number of its own -/
theorem optM (h : isM μ m) (hX : isX μ c I) (hc : c ≤ m) (hS : RS s z P q F) {k : Nat} {lo hi d : Int} (hk : k < 10) (hl : -1000000 ≤ lo ∧ lo ≤ 1000000) (hhi : F.1 = 0 → -1000000 ≤ hi ∧ hi ≤ 1000000) (hn : 20000 ≤ n) : ∃ (u : Ld) (q' : Nat) (F' : Fp) (v : Int), (∀ R : Int → Mem → Option (Unit × Mem), ((inv (wi μ (wm I m s)) 12 m (mX11_eats n m (k : Int) (wi μ (wm I m s)))).bind fun p40 => if eq32 p40.1 0 then R d p40.2 else (inv p40.2 12 m (mX11_takes n m lo hi p40.2)).bind fun p50 => R p50.1 p50.2) = R v (wi μ (wm I m u))) ∧ rpG s u ∧ RS u z P q' F' ∧ outP F F' q' v (oB (bts P) z k lo hi d q) := by
  obtain ⟨u1, e1, g1, r1⟩ := eats_eq (n := n) h hX hc hS (k := k) (by omega) hn
  unfold oB
  by_cases c0 : F.1 = 0 ∧ tK (bts P) z q = k
  · rw [if_pos c0] at r1
    rw [if_pos c0.2]
    obtain ⟨u2, q', F', v, e2, g2, r2, o2⟩ := takes_eq (n := n) h hX hc r1 hl (hhi c0.1) hn
    refine ⟨u2, q', F', v, fun R => ?_, g1.tr g2, r2, o2⟩
    rw [bM_inv h, bnd e1]
    dsimp only
    rw [i_bi_t c0, bM_inv h, bnd e2]
  · rw [if_neg c0] at r1
    refine ⟨u1, q, F, d, fun R => ?_, g1, r1, fun _ => rfl, fun zz => ?_⟩
    · rw [bM_inv h, bnd e1]
      dsimp only
      rw [i_bi_f c0]
    · have nk : ¬ tK (bts P) z q = k := fun w => c0 ⟨zz, w⟩
      rw [if_neg nk]
      exact ⟨fun _ => ⟨zz, rfl, rfl⟩, fun w => absurd rfl w⟩
end HM
/-- class and reference stand alike: at the same fault, or at the same token with none -/
def alk (F G : Fp) (q p : Nat) : Prop := F.1 = G.1 ∧ (F.1 ≠ 0 → F = G) ∧ (F.1 = 0 → q = p)
theorem alk.out {F G F' G' : Fp} {q p q' p' : Nat} {v w : Int} {R S : Fp × Nat × Int} (h : alk F G q p) (hR : F.1 = 0 → R = S) (h1 : outP F F' q' v R) (h2 : outP G G' p' w S) : alk F' G' q' p' ∧ (F'.1 = 0 → v = w) := by
  by_cases c : F.1 = 0
  · have cG : G.1 = 0 := by rw [← h.1]; exact c
    obtain rfl := hR c
    have a1 := h1.2 c
    have a2 := h2.2 cG
    by_cases cr : R.1.1 = 0
    · obtain ⟨x1, x2, x3⟩ := a1.1 cr
      obtain ⟨y1, y2, y3⟩ := a2.1 cr
      exact ⟨⟨by rw [x1, y1], fun z => absurd x1 z, fun _ => by rw [x2, y2]⟩, fun _ => by rw [x3, y3]⟩
    · have x := a1.2 cr
      have y := a2.2 cr
      exact ⟨⟨by rw [x, y], fun _ => by rw [x, y], fun z => absurd (by rw [← x]; exact z) cr⟩, fun z => absurd (by rw [← x]; exact z) cr⟩
  · have cG : G.1 ≠ 0 := by rw [← h.1]; exact c
    have x := h1.1 c
    have y := h2.1 cG
    exact ⟨⟨by rw [x, y]; exact h.1, fun _ => by rw [x, y]; exact h.2.1 c, fun z => absurd (by rw [← x]; exact z) c⟩, fun z => absurd (by rw [← x]; exact z) c⟩
