/-! a line of both -/
theorem TL.rope {l l' : Ld} {A : Nat → Int} {r : Nat} {v0 v1 v2 v3 v4 v5 : Int} (hT : TL l A) (h0 : l 0 1 = (r : Int)) (hr : r < 16) (rg : 0 ≤ v0 ∧ v0 < l 0 0 ∧ 0 ≤ v1 ∧ v1 < l 0 0 ∧ v0 ≠ v1 ∧ 2 ≤ v2 ∧ v2 ≤ 9 ∧ 0 ≤ v3 ∧ v3 ≤ v2 ∧ 0 ≤ v4 ∧ v4 ≤ 9 ∧ 0 ≤ v5 ∧ v5 ≤ 9) (e0 : l' 0 = upA (l 0) 1 (r + 1)) (eo : ∀ k : Nat, 1 ≤ k → k ≤ 6 → l' k = l k) (e7 : l' 7 = upA (l 7) r v2) (e8 : l' 8 = upA (l 8) r v3) (e9 : l' 9 = upA (l 9) r 0) (e10 : l' 10 = upA (upA (l 10) (2 * r) v0) (2 * r + 1) v1) (e11 : l' 11 = upA (upA (l 11) (2 * r) v4) (2 * r + 1) v5) (e12 : l' 12 = upA (upA (l 12) (2 * r) 0) (2 * r + 1) 0) : TL l' (rA A r v0 v1 v2 v3 v4 v5) := by
  obtain ⟨⟨k0, k1, k2, k3⟩, ⟨q0, q1, q2⟩, ⟨z2, y2⟩, zq, zA, zB⟩ := hT
  have E0 : rA A r v0 v1 v2 v3 v4 v5 1 = r + 1 := upA_s
  have Eo : ∀ j : Nat, j ≠ 1 → j ≠ 76 + r → j ≠ 92 + r → j ≠ 108 + r → j ≠ 124 + r → j ≠ 140 + r → j ≠ 156 + r → rA A r v0 v1 v2 v3 v4 v5 j = A j := fun j a b c d e f g => by
    unfold rA
    rw [upA_n a, upA_n g, upA_n f, upA_n e, upA_n d, upA_n c, upA_n b]
  have E1 : rA A r v0 v1 v2 v3 v4 v5 (76 + r) = v0 := by
    unfold rA
    rw [upA_n (by omega), upA_n (by omega), upA_n (by omega), upA_n (by omega), upA_n (by omega), upA_n (by omega), upA_s]
  have E2 : rA A r v0 v1 v2 v3 v4 v5 (92 + r) = v1 := by
    unfold rA
    rw [upA_n (by omega), upA_n (by omega), upA_n (by omega), upA_n (by omega), upA_n (by omega), upA_s]
  have E3 : rA A r v0 v1 v2 v3 v4 v5 (108 + r) = v2 := by
    unfold rA
    rw [upA_n (by omega), upA_n (by omega), upA_n (by omega), upA_n (by omega), upA_s]
  have E4 : rA A r v0 v1 v2 v3 v4 v5 (124 + r) = v3 := by
    unfold rA
    rw [upA_n (by omega), upA_n (by omega), upA_n (by omega), upA_s]
  have E5 : rA A r v0 v1 v2 v3 v4 v5 (140 + r) = v4 := by
    unfold rA
    rw [upA_n (by omega), upA_n (by omega), upA_s]
  have E6 : rA A r v0 v1 v2 v3 v4 v5 (156 + r) = v5 := by
    unfold rA
    rw [upA_n (by omega), upA_s]
  have a1 : l' 0 1 = r + 1 := by rw [e0, upA_s]
  have aj : ∀ j : Nat, j ≠ 1 → l' 0 j = l 0 j := fun j hj => by rw [e0, upA_n hj]
  have j0 := aj 0 (by decide)
  have j3 := aj 3 (by decide)
  have j4 := aj 4 (by decide)
  have b1 := eo 1 (by decide) (by decide)
  have b2 := eo 2 (by decide) (by decide)
  have b3 := eo 3 (by decide) (by decide)
  have b4 := eo 4 (by decide) (by decide)
  have b5 := eo 5 (by decide) (by decide)
  have b6 := eo 6 (by decide) (by decide)
  refine ⟨⟨by rw [a1, j0, j3, j4]; omega, fun x hx => ?_, fun x hx => ?_, fun b hb => ?_⟩, ⟨⟨?_, ?_, ?_, ?_, ?_⟩, fun x hx => ?_, fun x hx => ?_⟩, ⟨?_, ?_⟩, fun x hx => ?_, fun j a b => ?_, fun j a b => ?_⟩
  · rw [j0] at hx
    rw [b1, b2, b3, b4]; exact k1 x hx
  · rw [a1] at hx
    rw [e7, e8, e9, e10]
    by_cases c : x = r
    · rw [c, upA_s, upA_s, upA_s, upA_s, upA_n (by omega), upA_s]
      exact ⟨rg.2.2.2.2.2.1, rg.2.2.2.2.2.2.1, rg.2.2.2.2.2.2.2.1, rg.2.2.2.2.2.2.2.2.1, Or.inl rfl, rg.2.2.2.2.1⟩
    · rw [upA_n c, upA_n c, upA_n c, upA_n (by omega), upA_n (by omega), upA_n (by omega), upA_n (by omega)]; exact k2 x (by omega)
  · rw [a1] at hb
    rw [j0, e10, e11, e12]
    by_cases c1 : b = 2 * r + 1
    · rw [c1, upA_s, upA_s, upA_s]
      exact ⟨rg.2.2.1, rg.2.2.2.1, rg.2.2.2.2.2.2.2.2.2.2.2.1, rg.2.2.2.2.2.2.2.2.2.2.2.2, Or.inl rfl⟩
    · rw [upA_n c1, upA_n c1, upA_n c1]
      by_cases c2 : b = 2 * r
      · rw [c2, upA_s, upA_s, upA_s]
        exact ⟨rg.1, rg.2.1, rg.2.2.2.2.2.2.2.2.2.1, rg.2.2.2.2.2.2.2.2.2.2.1, Or.inl rfl⟩
      · rw [upA_n c2, upA_n c2, upA_n c2]
        exact k3 b (by omega)
  · rw [Eo 0 (by omega) (by omega) (by omega) (by omega) (by omega) (by omega) (by omega), j0]; exact q0.1
  · rw [E0, a1]
  · rw [Eo 3 (by omega) (by omega) (by omega) (by omega) (by omega) (by omega) (by omega), j3]; exact q0.2.2.1
  · rw [Eo 4 (by omega) (by omega) (by omega) (by omega) (by omega) (by omega) (by omega), j4]; exact q0.2.2.2.1
  · rw [Eo 5 (by omega) (by omega) (by omega) (by omega) (by omega) (by omega) (by omega), aj 5 (by decide)]; exact q0.2.2.2.2
  · rw [j0] at hx
    rw [b1, b2, b3, b4, b5, b6, Eo (6 + x) (by omega) (by omega) (by omega) (by omega) (by omega) (by omega) (by omega), Eo (16 + x) (by omega) (by omega) (by omega) (by omega) (by omega) (by omega) (by omega), Eo (26 + x) (by omega) (by omega) (by omega) (by omega) (by omega) (by omega) (by omega), Eo (36 + x) (by omega) (by omega) (by omega) (by omega) (by omega) (by omega) (by omega), Eo (46 + x) (by omega) (by omega) (by omega) (by omega) (by omega) (by omega) (by omega)]
    exact q1 x hx
  · rw [a1] at hx
    rw [e7, e8, e9, e10, e11, e12]
    by_cases c : x = r
    · rw [c, upA_s, upA_s, upA_s, upA_s, upA_s, upA_s, upA_n (by omega), upA_s, upA_n (by omega), upA_s, upA_n (by omega), upA_s, E1, E2, E3, E4, E5, E6, Eo (172 + r) (by omega) (by omega) (by omega) (by omega) (by omega) (by omega) (by omega), Eo (188 + r) (by omega) (by omega) (by omega) (by omega) (by omega) (by omega) (by omega), Eo (204 + r) (by omega) (by omega) (by omega) (by omega) (by omega) (by omega) (by omega)]
      exact ⟨rfl, rfl, rfl, rfl, rfl, rfl, zB _ (by omega) (by omega), zB _ (by omega) (by omega), zB _ (by omega) (by omega)⟩
    · rw [upA_n c, upA_n c, upA_n c, upA_n (by omega), upA_n (by omega), upA_n (by omega), upA_n (by omega), upA_n (by omega), upA_n (by omega), upA_n (by omega), upA_n (by omega), upA_n (by omega), upA_n (by omega), upA_n (by omega), upA_n (by omega)]
      rw [Eo (76 + x) (by omega) (by omega) (by omega) (by omega) (by omega) (by omega) (by omega), Eo (92 + x) (by omega) (by omega) (by omega) (by omega) (by omega) (by omega) (by omega), Eo (108 + x) (by omega) (by omega) (by omega) (by omega) (by omega) (by omega) (by omega), Eo (124 + x) (by omega) (by omega) (by omega) (by omega) (by omega) (by omega) (by omega), Eo (140 + x) (by omega) (by omega) (by omega) (by omega) (by omega) (by omega) (by omega), Eo (156 + x) (by omega) (by omega) (by omega) (by omega) (by omega) (by omega) (by omega), Eo (172 + x) (by omega) (by omega) (by omega) (by omega) (by omega) (by omega) (by omega), Eo (188 + x) (by omega) (by omega) (by omega) (by omega) (by omega) (by omega) (by omega), Eo (204 + x) (by omega) (by omega) (by omega) (by omega) (by omega) (by omega) (by omega)]
      exact q2 x (by omega)
  · rw [aj 2 (by decide)]; exact z2
  · rw [Eo 2 (by omega) (by omega) (by omega) (by omega) (by omega) (by omega) (by omega)]; exact y2
  · rw [j0] at hx
    rw [b5, b6]; exact zq x hx
  · rw [Eo j (by omega) (by omega) (by omega) (by omega) (by omega) (by omega) (by omega)]; exact zA j a b
  · rw [Eo j (by omega) (by omega) (by omega) (by omega) (by omega) (by omega) (by omega)]; exact zB j a b
theorem TL.fld {l l' : Ld} {A : Nat → Int} {f : Nat} {v : Int} (hT : TL l A) (hf : (f = 3 ∧ 1 ≤ v ∧ v ≤ 9) ∨ (f = 4 ∧ 1 ≤ v ∧ v ≤ 40) ∨ f = 5) (e0 : l' 0 = upA (l 0) f v) (eo : ∀ k : Nat, 1 ≤ k → k ≤ 12 → l' k = l k) : TL l' (upA A f v) := by
  obtain ⟨⟨k0, k1, k2, k3⟩, ⟨q0, q1, q2⟩, ⟨z2, y2⟩, zq, zA, zB⟩ := hT
  have Ao : ∀ j : Nat, j ≠ f → upA A f v j = A j := fun j hj => upA_n hj
  have lo : ∀ j : Nat, j ≠ f → l' 0 j = l 0 j := fun j hj => by rw [e0, upA_n hj]
  have both : ∀ j : Nat, A j = l 0 j → upA A f v j = l' 0 j := fun j e => by
    by_cases c : j = f
    · rw [c, e0, upA_s, upA_s]
    · rw [Ao j c, lo j c, e]
  have j0 := lo 0 (by omega)
  have j1 := lo 1 (by omega)
  have r3 : 1 ≤ l' 0 3 ∧ l' 0 3 ≤ 9 := by
    by_cases c : f = 3
    · rw [e0, c, upA_s]; omega
    · rw [lo 3 (by omega)]; omega
  have r4 : 1 ≤ l' 0 4 ∧ l' 0 4 ≤ 40 := by
    by_cases c : f = 4
    · rw [e0, c, upA_s]; omega
    · rw [lo 4 (by omega)]; omega
  have b1 := eo 1 (by decide) (by decide)
  have b2 := eo 2 (by decide) (by decide)
  have b3 := eo 3 (by decide) (by decide)
  have b4 := eo 4 (by decide) (by decide)
  have b5 := eo 5 (by decide) (by decide)
  have b6 := eo 6 (by decide) (by decide)
  have b7 := eo 7 (by decide) (by decide)
  have b8 := eo 8 (by decide) (by decide)
  have b9 := eo 9 (by decide) (by decide)
  have b10 := eo 10 (by decide) (by decide)
  have b11 := eo 11 (by decide) (by decide)
  have b12 := eo 12 (by decide) (by decide)
  refine ⟨⟨by rw [j0, j1]; omega, fun x hx => ?_, fun x hx => ?_, fun b hb => ?_⟩, ⟨⟨both 0 q0.1, both 1 q0.2.1, both 3 q0.2.2.1, both 4 q0.2.2.2.1, both 5 q0.2.2.2.2⟩, fun x hx => ?_, fun x hx => ?_⟩, ⟨?_, ?_⟩, fun x hx => ?_, fun j a b => ?_, fun j a b => ?_⟩
  · rw [j0] at hx
    rw [b1, b2, b3, b4]; exact k1 x hx
  · rw [j1] at hx
    rw [b7, b8, b9, b10]; exact k2 x hx
  · rw [j1] at hb
    rw [j0, b10, b11, b12]; exact k3 b hb
  · rw [j0] at hx
    rw [b1, b2, b3, b4, b5, b6, Ao _ (by omega), Ao _ (by omega), Ao _ (by omega), Ao _ (by omega), Ao _ (by omega)]; exact q1 x hx
  · rw [j1] at hx
    rw [b7, b8, b9, b10, b11, b12, Ao _ (by omega), Ao _ (by omega), Ao _ (by omega), Ao _ (by omega), Ao _ (by omega), Ao _ (by omega), Ao _ (by omega), Ao _ (by omega), Ao _ (by omega)]; exact q2 x hx
  · rw [lo 2 (by omega)]; exact z2
  · rw [Ao 2 (by omega)]; exact y2
  · rw [j0] at hx
    rw [b5, b6]; exact zq x hx
  · rw [Ao j (by omega)]; exact zA j a b
  · rw [Ao j (by omega)]; exact zB j a b
section LJ
variable {μ : Mem} {I J : Nat → Nat → Int} {c t a m n z q p : Nat} {P : Nat → Int} {F G : Fp} {s : Ld}
theorem rope_j (hT : isTp μ t) (hL : isL μ a) (sep : t + 1 < a) (hca : c ≤ t) (hX : isX μ c J) (hM : isM μ m) (hXI : isX μ c I) (hcm : c ≤ m) (hJ : JS J s t a z P q p F G) (hF : F.1 = 0) (hk : tK (bts P) z q = 4) (hn : 20000 ≤ n) : ∃ (K : Nat → Nat → Int) (u : Ld) (q' p' : Nat) (F' G' : Fp), mX8_readRope n t a (wi μ J) = some ((), wi μ K) ∧ mX11_readRope n m (wi μ (wm I m s)) = some ((), wi μ (wm I m u)) ∧ jF J K t a ∧ rF s u ∧ JS K u t a z P q' p' F' G' ∧ (F'.1 = 0 → q ≤ q') := by
  obtain ⟨hS, hR, hA, hTL, b0, b1, b2, b3⟩ := hJ
  have hG : G.1 = 0 := by rw [← hA.1]; exact hF
  have tl := hTL hF
  have eq0 : s 4 0 = J a 0 := tl.2.1.1.1
  have eq1 : s 4 1 = J a 1 := tl.2.1.1.2.1
  have hqp := hA.2.2 hF
  obtain ⟨r, h0⟩ : ∃ r : Nat, J a 1 = (r : Int) := ⟨(J a 1).toNat, by omega⟩
  by_cases c16 : r < 16
  · obtain ⟨K, q', F', v0, v1, v2, v3, v4, v5, e1, f1, s1, ch1, n0, n1, rw1⟩ := rope_c (n := n) hT hL sep hca hX hS h0 c16 ⟨b0, b1⟩ hn
    obtain ⟨u, p', G', w0, w1, w2, w3, w4, w5, e2, f2, s2, ch2, rw2⟩ := rope_m (n := n) hM hXI hcm hR hG (eq1.trans h0) c16 (by omega) hn
    have te := tE_ge (B := bts P) hS.2.2.1
    rw [eq0] at ch2
    obtain ⟨al, al2⟩ := ch1.al hA.tE ch2 te.2
    refine ⟨K, u, q', p', F', G', e1, e2, f1, f2, ⟨s1, s2, al, fun zz => ?_, by omega⟩, fun zz => ?_⟩
    · obtain ⟨⟨x0, x1, x2, x3, x4, x5⟩, rg, -⟩ := al2 zz
      rw [rw2 (by rw [← al.1]; exact zz), ← x0, ← x1, ← x2, ← x3, ← x4, ← x5]
      obtain ⟨r0, ro, r7, r8, r9, r10, r11, r12⟩ := rw1 zz
      exact tl.rope h0 c16 rg r0 ro r7 r8 r9 r10 r11 r12
    · have := (al2 zz).2.2
      omega
  · obtain ⟨K, F', e1, g1, s1, -, x1⟩ := tellFault_eq (n := n) hT hS (k := 4) (by omega)
    obtain ⟨u, G', e2, g2, s2, -, x2⟩ := fails_eq (n := n) (I := I) hM hR (k := 4) (by omega)
    have y1 := x1 hF
    have y2 := x2 hG
    rw [← hqp, if_neg (by omega)] at y2
    have n4 : F'.1 ≠ 0 := by rw [y1]; show (4 : Int) ≠ 0; decide
    have n4' : G'.1 = 4 := by rw [y2]
    have ea : K a = J a := g1.1 a (by omega)
    refine ⟨K, u, q, p, F', G', ?_, ?_, g1.j, g2.f, ⟨s1, s2, ⟨by rw [y1, y2], fun _ => by rw [y1, y2], fun z => absurd z n4⟩, fun z => absurd z n4, by rw [ea]; exact ⟨b0, b1, b2, b3⟩⟩, fun _ => Nat.le_refl _⟩
    · unfold mX8_readRope
      have e0 : ld J a 0 1 = 16 := h0.trans (by omega)
      rw [bL_gI hL, e0, i_lt_f (by omega), bT_inv hT, bnd e1]
    · rw [readRope_s, bM_g4 hM, bM_ld4 hM (by decide) (by decide), show s 4 (1 : Int).toNat = 16 from (eq1.trans h0).trans (by omega), i_eq_t rfl, bM_inv hM, bnd e2]
      dsimp only
      unfold rT
      rw [bM_gI hM, s2.2.2.2.1, n4', i_eq_f (by omega)]
def lC (n t a : Nat) (ν : Mem) : Option (Unit × Mem) := (inv ν 9 t (mX8_takeSemicolon n t ν)).bind fun p93 => (gI p93.2 2 a 5).bind fun x98 => (pI p93.2 2 a 5 (x98 + 1)).bind fun μ103 => some ((), μ103)
def lM3 (m : Nat) (R : Mem → Option (Int × Mem)) (ν : Mem) : Option (Int × Mem) := (gA ν 12 m 4).bind fun x169 => (ldI ν 0 x169 5).bind fun x174 => (stI ν 0 x169 5 (x174 + 1)).bind fun μ177 => R μ177
def lM2 (n m : Nat) (R : Mem → Option (Int × Mem)) (ν : Mem) : Option (Int × Mem) := (inv ν 12 m (mX11_eats n m 12 ν)).bind fun p157 => if eq32 p157.1 0 then (inv p157.2 12 m (mX11_fails n m 2 p157.2)).bind fun p165 => lM3 m R p165.2 else lM3 m R p157.2
def lM1 (n m : Nat) (R : Mem → Option (Int × Mem)) (ν : Mem) : Option (Int × Mem) := (inv ν 12 m (mX11_is n m 0 ν)).bind fun p71 => if eq32 p71.1 0 then (inv p71.2 12 m (mX11_is n m 4 p71.2)).bind fun p86 => if eq32 p86.1 0 then (inv p86.2 12 m (mX11_eats n m 8 p86.2)).bind fun p102 => if eq32 p102.1 0 then (inv p102.2 12 m (mX11_eats n m 9 p102.2)).bind fun p127 => if eq32 p127.1 0 then (inv p127.2 12 m (mX11_fails n m 2 p127.2)).bind fun p151 => lM2 n m R p151.2 else (gA p127.2 12 m 4).bind fun x134 => (inv p127.2 12 m (mX11_takes n m 1 40 p127.2)).bind fun p142 => (stI p142.2 0 x134 4 p142.1).bind fun μ145 => lM2 n m R μ145 else (gA p102.2 12 m 4).bind fun x109 => (inv p102.2 12 m (mX11_takes n m 1 9 p102.2)).bind fun p117 => (stI p117.2 0 x109 3 p117.1).bind fun μ120 => lM2 n m R μ120 else (inv p86.2 12 m (mX11_readRope n m p86.2)).bind fun p93 => lM2 n m R p93.2 else (inv p71.2 12 m (mX11_readHouse n m p71.2)).bind fun p78 => lM2 n m R p78.2
theorem readLine_s (ν : Mem) : mX8_readLine n t a ν = ((txt ν 0).bind fun x1 => (inv ν 9 t (mX8_isWord n t x1 ν)).bind fun p3 => if eq32 p3.1 0 then (txt p3.2 4).bind fun x18 => (inv p3.2 9 t (mX8_isWord n t x18 p3.2)).bind fun p20 => if eq32 p20.1 0 then (txt p20.2 8).bind fun x35 => (inv p20.2 9 t (mX8_isWord n t x35 p20.2)).bind fun p37 => if eq32 p37.1 0 then (txt p37.2 9).bind fun x62 => (inv p37.2 9 t (mX8_isWord n t x62 p37.2)).bind fun p64 => if eq32 p64.1 0 then (inv p64.2 9 t (mX8_tellWrongToken n t p64.2)).bind fun p89 => lC n t a p89.2 else (inv p64.2 9 t (mX8_advance n t p64.2)).bind fun p71 => (inv p71.2 9 t (mX8_takeNumber n t 1 40 p71.2)).bind fun p79 => (pI p79.2 2 a 4 p79.1).bind fun μ82 => lC n t a μ82 else (inv p37.2 9 t (mX8_advance n t p37.2)).bind fun p44 => (inv p44.2 9 t (mX8_takeNumber n t 1 9 p44.2)).bind fun p52 => (pI p52.2 2 a 3 p52.1).bind fun μ55 => lC n t a μ55 else (inv p20.2 9 t (mX8_readRope n t a p20.2)).bind fun p28 => lC n t a p28.2 else (inv p3.2 9 t (mX8_readHouse n t a p3.2)).bind fun p11 => lC n t a p11.2) := rfl
theorem tK12 {B : Nat → Int} (hq : q ≤ z) (h : tK B z q = 12) : q < tE B z q := by
  have h1 := tS_rg (B := B) hq
  have h2 := tE_rg (B := B) hq
  by_cases c : tS B z q < z
  · have := h2.2.2 c
    omega
  · exfalso
    unfold tK at h
    rw [if_neg c] at h
    omega
theorem semi_j (hT : isTp μ t) (hL : isL μ a) (sep : t + 1 < a) (hM : isM μ m) (hXI : isX μ c I) (hcm : c ≤ m) (hJ : JS J s t a z P q p F G) (hn : 20000 ≤ n) : ∃ (K : Nat → Nat → Int) (u : Ld) (q' p' : Nat) (F' G' : Fp), lC n t a (wi μ J) = some ((), wi μ K) ∧ (∀ R : Mem → Option (Int × Mem), lM2 n m R (wi μ (wm I m s)) = R (wi μ (wm I m u))) ∧ jF J K t a ∧ rF s u ∧ JS K u t a z P q' p' F' G' ∧ (F'.1 = 0 → F.1 = 0 ∧ q < q') := by
  obtain ⟨hS, hR, hA, hTL, b0, b1, b2, b3⟩ := hJ
  have kr := ck_rg (tK (bts P) z q)
  have k3 := ck_3 (tK_le (bts P) z q)
  -- the class's semicolon
  have hc : ∃ (K : Nat → Nat → Int) (q' : Nat) (F' : Fp), mX8_takeSemicolon n t (wi μ J) = some ((), wi μ K) ∧ tpG J K t ∧ CS K t z P q' F' ∧ outP F F' q' 0 (wB (bts P) z 12 q) := by
    unfold mX8_takeSemicolon wB
    rw [bP_gI hT, hS.2.1.1]
    by_cases ck : tK (bts P) z q = 12
    · obtain ⟨K, e, g, s⟩ := adv_w (n := n) hT hS hn
      rw [i_eq_t (k3.mpr ck), bT_inv hT, bnd e, if_pos ck]
      exact ⟨K, _, F, rfl, g, s, fun _ => rfl, fun zz => ⟨fun _ => ⟨zz, rfl, rfl⟩, fun z => absurd rfl z⟩⟩
    · obtain ⟨K, F', e, g, s, x, y⟩ := tellWrong_eq (n := n) hT hS
      rw [i_eq_f (by omega), bT_inv hT, bnd e, if_neg ck]
      exact ⟨K, q, F', rfl, g, s, x, fun zz => ⟨fun w => absurd w (wgF_nz _ _ _), fun _ => y zz⟩⟩
  have hm : ∃ (u : Ld) (q' : Nat) (F' : Fp), (∀ R : Mem → Option (Int × Mem), lM2 n m R (wi μ (wm I m s)) = lM3 m R (wi μ (wm I m u))) ∧ rpG s u ∧ RS u z P q' F' ∧ outP G F' q' 0 (wB (bts P) z 12 p) := by
    obtain ⟨u1, e1, g1, r1⟩ := eats_eq (n := n) (k := 12) hM hXI hcm hR (by decide) hn
    have e1' : mX11_eats n m 12 (wi μ (wm I m s)) = _ := e1
    unfold wB
    by_cases ck : G.1 = 0 ∧ tK (bts P) z p = 12
    · rw [if_pos ck] at r1
      rw [if_pos ck.2]
      refine ⟨u1, _, G, fun R => ?_, g1, r1, fun _ => rfl, fun zz => ⟨fun _ => ⟨zz, rfl, rfl⟩, fun z => absurd rfl z⟩⟩
      unfold lM2
      rw [bM_inv hM, bnd e1']
      dsimp only
      rw [i_bi_t ck]
    · rw [if_neg ck] at r1
      obtain ⟨u2, F', e2, g2, r2, x, y⟩ := fails_eq (n := n) (I := I) hM r1 (k := 2) (by omega)
      refine ⟨u2, p, F', fun R => ?_, g1.tr g2, r2, x, fun zz => ?_⟩
      · unfold lM2
        rw [bM_inv hM, bnd e1']
        dsimp only
        rw [i_bi_f ck, bM_inv hM, bnd e2]
      · rw [if_neg (fun w => ck ⟨zz, w⟩)]
        exact ⟨fun w => absurd w (wgF_nz _ _ _), fun _ => y zz⟩
  obtain ⟨K, q', F', e1, g1, s1, o1⟩ := hc
  obtain ⟨u, p', G', e2, g2, s2, o2⟩ := hm
  have al := hA.out (fun z0 => by rw [hA.2.2 z0]) o1 o2
  have ka : K a = J a := g1.1 a (by omega)
  have kl : ∀ k : Nat, K (a + k) = J (a + k) := fun k => g1.1 _ (by omega)
  have u4 : u 4 = s 4 := g2.1 4 (by decide)
  have ra : up2 K a 5 (ld K a 0 5 + 1) a = upA (J a) 5 (J a 5 + 1) := by
    rw [up2_r, ka, show ld K a 0 5 = J a 5 from (congrFun ka 5)]
  refine ⟨up2 K a 5 (ld K a 0 5 + 1), up2 u 4 5 (u 4 5 + 1), q', p', F', G', ?_, fun R => ?_, ⟨fun b b1 b2 => ?_, ?_⟩, ⟨fun k k0 k4 => ?_, fun j a b c d e f => ?_⟩, ⟨s1.cg (up2_row (by omega)) (up2_row (by omega)), s2.cg (up2_row (by decide)) (up2_row (by decide)), al.1, fun zz => ?_, ?_⟩, fun zz => ⟨o1.nz zz, ?_⟩⟩
  · unfold lC
    rw [bT_inv hT, bnd e1]
    dsimp only
    rw [bL_gI hL, bL_pI hL]
  · rw [e2]
    unfold lM3
    rw [bM_g4 hM, bM_ld4 hM (by decide) (by decide), bM_st4 hM (by decide) (by decide), show (5 : Int).toNat = 5 from rfl]
  · rw [up2_row (by omega), g1.1 b b1]
  · rw [up2_row (by omega), g1.2]
  · rw [up2_row k4, g2.1 k k0]
  · rw [up2_row (by decide), g2.2 j a b c d e f]
  · have tl := hTL (o1.nz zz)
    have e5 : s 4 5 = J a 5 := tl.2.1.1.2.2.2.2
    rw [up2_r, u4, e5]
    exact tl.fld (Or.inr (Or.inr rfl)) ra (fun k k1 k2 => (up2_row (by omega)).trans (kl k))
  · rw [ra, upA_n (by decide), upA_n (by decide)]
    exact ⟨b0, b1, b2, b3⟩
  · have c0 := o1.nz zz
    have h2 := o1.2 c0
    unfold wB at h2
    by_cases ck : tK (bts P) z q = 12
    · rw [if_pos ck] at h2
      have h3 : q' = tE (bts P) z q := (h2.1 rfl).2.1
      rw [h3]
      exact tK12 hS.2.2.1 ck
    · rw [if_neg ck] at h2
      rw [h2.2 (wgF_nz _ _ _)] at zz
      exact absurd zz (wgF_nz _ _ _)
end LJ
