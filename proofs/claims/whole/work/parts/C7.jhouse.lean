/-! the land under way and the reference's row of it -/
def TL (l : Ld) (A : Nat → Int) : Prop := okL l ∧ LR l A ∧ (l 0 2 = 0 ∧ A 2 = 0) ∧ (∀ h : Nat, (h : Int) < l 0 0 → l 5 h = 0 ∧ l 6 h = 0) ∧ (∀ j : Nat, 46 ≤ j → j < 76 → A j = 0) ∧ ∀ j : Nat, 172 ≤ j → j < 220 → A j = 0
theorem TL.house {l l' : Ld} {A : Nat → Int} {h : Nat} {v0 v1 v2 v3 : Int} (hT : TL l A) (h0 : l 0 0 = (h : Int)) (hh : h < 10) (r : 0 ≤ v0 ∧ v0 ≤ 20 ∧ 1 ≤ v1 ∧ v1 ≤ 9 ∧ 0 ≤ v2 ∧ v2 ≤ 99 ∧ 0 ≤ v3 ∧ v3 ≤ 4095) (e0 : l' 0 = upA (l 0) 0 (h + 1)) (e1 : l' 1 = upA (l 1) h v0) (e2 : l' 2 = upA (l 2) h v1) (e3 : l' 3 = upA (l 3) h v2) (e4 : l' 4 = upA (l 4) h v3) (e5 : l' 5 = upA (l 5) h 0) (e6 : l' 6 = upA (l 6) h 0) (eo : ∀ k : Nat, 7 ≤ k → k ≤ 12 → l' k = l k) : TL l' (hA A h v0 v1 v2 v3) := by
  obtain ⟨⟨k0, k1, k2, k3⟩, ⟨q0, q1, q2⟩, ⟨z2, y2⟩, zq, zA, zB⟩ := hT
  have E0 : hA A h v0 v1 v2 v3 0 = h + 1 := upA_s
  have Eo : ∀ j : Nat, j ≠ 0 → j ≠ 6 + h → j ≠ 16 + h → j ≠ 26 + h → j ≠ 36 + h → hA A h v0 v1 v2 v3 j = A j := fun j a b c d e => by
    unfold hA
    rw [upA_n a, upA_n e, upA_n d, upA_n c, upA_n b]
  have E1 : hA A h v0 v1 v2 v3 (6 + h) = v0 := by
    unfold hA
    rw [upA_n (by omega), upA_n (by omega), upA_n (by omega), upA_n (by omega), upA_s]
  have E2 : hA A h v0 v1 v2 v3 (16 + h) = v1 := by
    unfold hA
    rw [upA_n (by omega), upA_n (by omega), upA_n (by omega), upA_s]
  have E3 : hA A h v0 v1 v2 v3 (26 + h) = v2 := by
    unfold hA
    rw [upA_n (by omega), upA_n (by omega), upA_s]
  have E4 : hA A h v0 v1 v2 v3 (36 + h) = v3 := by
    unfold hA
    rw [upA_n (by omega), upA_s]
  have a0 : l' 0 0 = h + 1 := by rw [e0, upA_s]
  have aj : ∀ j : Nat, j ≠ 0 → l' 0 j = l 0 j := fun j hj => by rw [e0, upA_n hj]
  have a7 := eo 7 (by decide) (by decide)
  have a8 := eo 8 (by decide) (by decide)
  have a9 := eo 9 (by decide) (by decide)
  have a10 := eo 10 (by decide) (by decide)
  have a11 := eo 11 (by decide) (by decide)
  have a12 := eo 12 (by decide) (by decide)
  have j1 := aj 1 (by decide)
  have j3 := aj 3 (by decide)
  have j4 := aj 4 (by decide)
  refine ⟨⟨by rw [a0, j1, j3, j4]; omega, fun x hx => ?_, fun r hr => ?_, fun b hb => ?_⟩, ⟨⟨?_, ?_, ?_, ?_, ?_⟩, fun x hx => ?_, fun r hr => ?_⟩, ⟨?_, ?_⟩, fun x hx => ?_, fun j a b => ?_, fun j a b => ?_⟩
  · rw [a0] at hx
    rw [e1, e2, e3, e4]
    by_cases c : x = h
    · rw [c, upA_s, upA_s, upA_s, upA_s]; exact r
    · rw [upA_n c, upA_n c, upA_n c, upA_n c]; exact k1 x (by omega)
  · rw [j1] at hr
    rw [a7, a8, a9, a10]; exact k2 r hr
  · rw [j1] at hb
    rw [a0, a10, a11, a12]
    have := k3 b hb
    exact ⟨this.1, by omega, this.2.2⟩
  · rw [E0, a0]
  · rw [Eo 1 (by omega) (by omega) (by omega) (by omega) (by omega), j1]; exact q0.2.1
  · rw [Eo 3 (by omega) (by omega) (by omega) (by omega) (by omega), j3]; exact q0.2.2.1
  · rw [Eo 4 (by omega) (by omega) (by omega) (by omega) (by omega), j4]; exact q0.2.2.2.1
  · rw [Eo 5 (by omega) (by omega) (by omega) (by omega) (by omega), aj 5 (by decide)]; exact q0.2.2.2.2
  · rw [a0] at hx
    rw [e1, e2, e3, e4, e5, e6]
    by_cases c : x = h
    · rw [c, upA_s, upA_s, upA_s, upA_s, upA_s, upA_s, E1, E2, E3, E4, Eo (46 + h) (by omega) (by omega) (by omega) (by omega) (by omega)]
      exact ⟨rfl, rfl, rfl, rfl, zA _ (by omega) (by omega)⟩
    · rw [upA_n c, upA_n c, upA_n c, upA_n c, upA_n c, upA_n c, Eo (6 + x) (by omega) (by omega) (by omega) (by omega) (by omega), Eo (16 + x) (by omega) (by omega) (by omega) (by omega) (by omega), Eo (26 + x) (by omega) (by omega) (by omega) (by omega) (by omega), Eo (36 + x) (by omega) (by omega) (by omega) (by omega) (by omega), Eo (46 + x) (by omega) (by omega) (by omega) (by omega) (by omega)]
      exact q1 x (by omega)
  · rw [j1] at hr
    rw [a7, a8, a9, a10, a11, a12, Eo (76 + r) (by omega) (by omega) (by omega) (by omega) (by omega), Eo (92 + r) (by omega) (by omega) (by omega) (by omega) (by omega), Eo (108 + r) (by omega) (by omega) (by omega) (by omega) (by omega), Eo (124 + r) (by omega) (by omega) (by omega) (by omega) (by omega), Eo (140 + r) (by omega) (by omega) (by omega) (by omega) (by omega), Eo (156 + r) (by omega) (by omega) (by omega) (by omega) (by omega), Eo (172 + r) (by omega) (by omega) (by omega) (by omega) (by omega), Eo (188 + r) (by omega) (by omega) (by omega) (by omega) (by omega), Eo (204 + r) (by omega) (by omega) (by omega) (by omega) (by omega)]
    exact q2 r hr
  · rw [aj 2 (by decide)]; exact z2
  · rw [Eo 2 (by omega) (by omega) (by omega) (by omega) (by omega)]; exact y2
  · rw [a0] at hx
    rw [e5, e6]
    by_cases c : x = h
    · rw [c, upA_s, upA_s]; exact ⟨rfl, rfl⟩
    · rw [upA_n c, upA_n c]; exact zq x (by omega)
  · rw [Eo j (by omega) (by omega) (by omega) (by omega) (by omega)]; exact zA j a b
  · rw [Eo j (by omega) (by omega) (by omega) (by omega) (by omega)]; exact zB j a b
/-- class and reference on the way through a text -/
def JS (J : Nat → Nat → Int) (s : Ld) (t a z : Nat) (P : Nat → Int) (q p : Nat) (F G : Fp) : Prop := CS J t z P q F ∧ RS s z P p G ∧ alk F G q p ∧ (F.1 = 0 → TL (ld J a) (s 4)) ∧ 0 ≤ J a 0 ∧ J a 0 ≤ 10 ∧ 0 ≤ J a 1 ∧ J a 1 ≤ 16
def jF (J K : Nat → Nat → Int) (t a : Nat) : Prop := (∀ b : Nat, b ≠ t → ¬ (a ≤ b ∧ b ≤ a + 12) → K b = J b) ∧ K t 0 = J t 0
theorem jF.rf {J : Nat → Nat → Int} {t a : Nat} : jF J J t a := ⟨fun _ _ _ => rfl, rfl⟩
theorem jF.tr {J K L : Nat → Nat → Int} {t a : Nat} (h1 : jF J K t a) (h2 : jF K L t a) : jF J L t a := ⟨fun b x y => (h2.1 b x y).trans (h1.1 b x y), h2.2.trans h1.2⟩
theorem tpG.j {J K : Nat → Nat → Int} {t a : Nat} (h : tpG J K t) : jF J K t a := ⟨fun b x _ => h.1 b x, h.2⟩
theorem rF.rf {s : Ld} : rF s s := ⟨fun _ _ _ => rfl, fun _ _ _ _ _ _ _ => rfl⟩
theorem rF.tr {s u v : Ld} (h1 : rF s u) (h2 : rF u v) : rF s v := ⟨fun k x y => (h2.1 k x y).trans (h1.1 k x y), fun j a b c d e f => (h2.2 j a b c d e f).trans (h1.2 j a b c d e f)⟩
theorem alk.tE {B : Nat → Int} {z : Nat} {F G : Fp} {q p : Nat} (h : alk F G q p) : alk F G (tE B z q) (tE B z p) := ⟨h.1, h.2.1, fun z => by rw [h.2.2 z]⟩
section JH
variable {μ : Mem} {I J : Nat → Nat → Int} {c t a m n z q p : Nat} {P : Nat → Int} {F G : Fp} {s : Ld}
theorem house_j (hT : isTp μ t) (hL : isL μ a) (sep : t + 1 < a) (hca : c ≤ t) (hX : isX μ c J) (hM : isM μ m) (hXI : isX μ c I) (hcm : c ≤ m) (hJ : JS J s t a z P q p F G) (hF : F.1 = 0) (hk : tK (bts P) z q = 0) (hn : 20000 ≤ n) : ∃ (K : Nat → Nat → Int) (u : Ld) (q' p' : Nat) (F' G' : Fp), mX8_readHouse n t a (wi μ J) = some ((), wi μ K) ∧ mX11_readHouse n m (wi μ (wm I m s)) = some ((), wi μ (wm I m u)) ∧ jF J K t a ∧ rF s u ∧ JS K u t a z P q' p' F' G' ∧ (F'.1 = 0 → q ≤ q') := by
  obtain ⟨hS, hR, hA, hTL, b0, b1, b2, b3⟩ := hJ
  have hG : G.1 = 0 := by rw [← hA.1]; exact hF
  have tl := hTL hF
  have eq0 : s 4 0 = J a 0 := tl.2.1.1.1
  have hqp := hA.2.2 hF
  obtain ⟨h, h0⟩ : ∃ h : Nat, J a 0 = (h : Int) := ⟨(J a 0).toNat, by omega⟩
  by_cases c10 : h < 10
  · obtain ⟨K, q', F', v0, v1, v2, v3, e1, f1, t1, s1, ch1, r0, r1, r2, r3, r4, r5, r6⟩ := house_c (n := n) hT hL sep hca hX hS h0 c10 hn
    obtain ⟨u, p', G', w0, w1, w2, w3, e2, f2, s2, ch2, r7⟩ := house_m (n := n) hM hXI hcm hR hG (eq0.trans h0) c10 hn
    have te := tE_ge (B := bts P) hS.2.2.1
    obtain ⟨al, al2⟩ := ch1.al hA.tE ch2 te.2
    refine ⟨K, u, q', p', F', G', e1, e2, ⟨fun b x y => f1 b x (by omega), t1⟩, f2, ⟨s1, s2, al, fun zz => ?_, ?_⟩, fun zz => ?_⟩
    · obtain ⟨⟨x0, x1, x2, x3⟩, rg, -⟩ := al2 zz
      rw [r7 (by rw [← al.1]; exact zz), ← x0, ← x1, ← x2, ← x3]
      exact tl.house h0 c10 rg r0 r1 r2 r3 r4 r5 r6 (fun k k1 k2 => f1 _ (by omega) (by omega))
    · have x0 : K a 0 = h + 1 := by rw [r0, upA_s]
      have x1 : K a 1 = J a 1 := by rw [r0, upA_n (by decide)]
      omega
    · have := (al2 zz).2.2
      omega
  · have h10 : h = 10 := by omega
    obtain ⟨K, F', e1, g1, s1, -, x1⟩ := tellFault_eq (n := n) hT hS (k := 4) (by omega)
    obtain ⟨u, G', e2, g2, s2, -, x2⟩ := fails_eq (n := n) (I := I) hM hR (k := 4) (by omega)
    have y1 := x1 hF
    have y2 := x2 hG
    rw [← hqp, if_neg (by omega)] at y2
    have n4 : F'.1 ≠ 0 := by rw [y1]; show (4 : Int) ≠ 0; decide
    have n4' : G'.1 = 4 := by rw [y2]
    have ea : K a = J a := g1.1 a (by omega)
    refine ⟨K, u, q, p, F', G', ?_, ?_, g1.j, g2.f, ⟨s1, s2, ⟨by rw [y1, y2], fun _ => by rw [y1, y2], fun z => absurd z n4⟩, fun z => absurd z n4, by rw [ea]; exact ⟨b0, b1, b2, b3⟩⟩, fun _ => Nat.le_refl _⟩
    · unfold mX8_readHouse
      have e0 : ld J a 0 0 = 10 := h0.trans (by omega)
      rw [bL_gI hL, e0, i_lt_f (by omega), bT_inv hT, bnd e1]
    · unfold mX11_readHouse
      rw [bM_g4 hM, bM_ld4 hM (by decide) (by decide), show s 4 (0 : Int).toNat = 10 from (eq0.trans h0).trans (by omega)]
      simp only [jn]
      rw [if_pos True.intro, bM_inv hM, bnd e2]
      dsimp only
      rw [bM_gI hM, s2.2.2.2.1, n4', i_eq_f (by omega)]
end JH
