/-! a house's line: the class, the reference, both -/
theorem up2_r {f : Nat → Nat → Int} {a k : Nat} {x : Int} : up2 f a k x a = upA (f a) k x := funext fun j => by
  by_cases e : j = k
  · rw [e, up2_s, upA_s]
  · rw [up2_n (fun z => e z.2), upA_n e]
theorem ldu {J : Nat → Nat → Int} {a k j i : Nat} {v x : Int} (hk : 0 < k) (e : ld J a 0 i = x) : ld (up2 J (a + k) j v) a 0 i = x := by
  show up2 J (a + k) j v (a + 0) i = x
  rw [up2_n (by omega)]
  exact e
theorem nB_nz {B : Nat → Int} {z q : Nat} {lo hi : Int} (h : (nB B z lo hi q).1.1 = 0) : nB B z lo hi q = ((0, 0), tE B z q, tV B z q) ∧ nOK B z lo hi q := by
  by_cases ok : nOK B z lo hi q
  · exact ⟨if_pos ok, ok⟩
  · exfalso
    unfold nB at h
    rw [if_neg ok] at h
    by_cases c : tK B z q = 11
    · rw [if_pos c] at h
      exact absurd h (show ¬ (3 : Int) = 0 by decide)
    · rw [if_neg c] at h
      unfold wgF at h
      dsimp only at h
      split at h <;> omega
theorem tE_ge {B : Nat → Int} {z q : Nat} (hq : q ≤ z) : q ≤ tE B z q ∧ tE B z q ≤ z := by
  have h1 := tS_rg (B := B) hq
  have h2 := tE_rg (B := B) hq
  omega
/-- behind a part with no fault: where, what, and none before -/
theorem outP.z {B : Nat → Int} {z q q' : Nat} {lo hi v : Int} {F F' : Fp} (h : outP F F' q' v (nB B z lo hi q)) (hq : q ≤ z) (hz : F'.1 = 0) : F.1 = 0 ∧ q ≤ q' ∧ q' ≤ z ∧ lo ≤ v ∧ v ≤ hi := by
  have c := h.nz hz
  have h2 := h.2 c
  by_cases r : (nB B z lo hi q).1.1 = 0
  · obtain ⟨e, ok⟩ := nB_nz r
    obtain ⟨-, e1, e2⟩ := h2.1 r
    rw [e] at e1 e2
    have e1' : q' = tE B z q := e1
    have e2' : v = tV B z q := e2
    have := tE_ge (B := B) hq
    have := ok.2
    exact ⟨c, by omega, by omega, by omega, by omega⟩
  · rw [h2.2 r] at hz
    exact absurd hz r
theorem outP.zo {B : Nat → Int} {z q q' k : Nat} {lo hi v d : Int} {F F' : Fp} (h : outP F F' q' v (oB B z k lo hi d q)) (hq : q ≤ z) (hd : lo ≤ d ∧ d ≤ hi) (hz : F'.1 = 0) : F.1 = 0 ∧ q ≤ q' ∧ q' ≤ z ∧ lo ≤ v ∧ v ≤ hi := by
  unfold oB at h
  by_cases c : tK B z q = k
  · rw [if_pos c] at h
    have t := tE_ge (B := B) hq
    obtain ⟨a1, a2, a3, a4⟩ := h.z t.2 hz
    exact ⟨a1, by omega, a3, a4⟩
  · rw [if_neg c] at h
    have c0 := h.nz hz
    obtain ⟨-, e1, e2⟩ := (h.2 c0).1 rfl
    have e1' : q' = q := e1
    have e2' : v = d := e2
    exact ⟨c0, by omega, by omega, by omega, by omega⟩
def chH (B : Nat → Int) (z q : Nat) (F : Fp) (q' : Nat) (F' : Fp) (v0 v1 v2 v3 : Int) : Prop := ∃ (F1 F2 F3 : Fp) (q1 q2 q3 : Nat), outP F F1 q1 v0 (nB B z 0 20 q) ∧ outP F1 F2 q2 v1 (oB B z 1 1 9 3 q1) ∧ outP F2 F3 q3 v2 (oB B z 2 0 99 9 q2) ∧ outP F3 F' q' v3 (oB B z 3 0 4095 0 q3)
theorem chH.al {B : Nat → Int} {z q p q' p' : Nat} {F G F' G' : Fp} {v0 v1 v2 v3 w0 w1 w2 w3 : Int} (hA : alk F G q p) (h1 : chH B z q F q' F' v0 v1 v2 v3) (h2 : chH B z p G p' G' w0 w1 w2 w3) (hq : q ≤ z) : alk F' G' q' p' ∧ (F'.1 = 0 → (v0 = w0 ∧ v1 = w1 ∧ v2 = w2 ∧ v3 = w3) ∧ (0 ≤ v0 ∧ v0 ≤ 20 ∧ 1 ≤ v1 ∧ v1 ≤ 9 ∧ 0 ≤ v2 ∧ v2 ≤ 99 ∧ 0 ≤ v3 ∧ v3 ≤ 4095) ∧ q ≤ q') := by
  obtain ⟨F1, F2, F3, q1, q2, q3, a1, a2, a3, a4⟩ := h1
  obtain ⟨G1, G2, G3, p1, p2, p3, b1, b2, b3, b4⟩ := h2
  have x1 := hA.out (fun z0 => by rw [hA.2.2 z0]) a1 b1
  have x2 := x1.1.out (fun z0 => by rw [x1.1.2.2 z0]) a2 b2
  have x3 := x2.1.out (fun z0 => by rw [x2.1.2.2 z0]) a3 b3
  have x4 := x3.1.out (fun z0 => by rw [x3.1.2.2 z0]) a4 b4
  refine ⟨x4.1, fun zz => ?_⟩
  have z3 := a4.nz zz
  have z2 := a3.nz z3
  have z1 := a2.nz z2
  have y1 := a1.z hq z1
  have y2 := a2.zo y1.2.2.1 (by omega) z2
  have y3 := a3.zo y2.2.2.1 (by omega) z3
  have y4 := a4.zo y3.2.2.1 (by omega) zz
  exact ⟨⟨x1.2 z1, x2.2 z2, x3.2 z3, x4.2 zz⟩, ⟨y1.2.2.2.1, y1.2.2.2.2, y2.2.2.2.1, y2.2.2.2.2, y3.2.2.2.1, y3.2.2.2.2, y4.2.2.2.1, y4.2.2.2.2⟩, by omega⟩
theorem CS.cg {J K : Nat → Nat → Int} {t z q : Nat} {P : Nat → Int} {F : Fp} (h : CS J t z P q F) (e : K t = J t) (e1 : K (t + 1) = J (t + 1)) : CS K t z P q F := by
  unfold CS tpO tkC at *
  rw [e, e1]
  exact h
theorem RS.cg {s u : Ld} {z q : Nat} {P : Nat → Int} {F : Fp} (h : RS s z P q F) (e : u 0 = s 0) (e1 : u 3 = s 3) : RS u z P q F := by
  unfold RS rpO tkM at *
  rw [e, e1]
  exact h
def oC (n t a k r : Nat) (lo hi x : Int) (R : Mem → Option (Unit × Mem)) (ν : Mem) : Option (Unit × Mem) := (txt ν k).bind fun x33 => (inv ν 9 t (mX8_takeWord n t x33 ν)).bind fun p35 => if eq32 p35.1 0 then R p35.2 else (gA p35.2 2 a (r + 5)).bind fun x42 => (inv p35.2 9 t (mX8_takeNumber n t lo hi p35.2)).bind fun p50 => (stI p50.2 0 x42 x p50.1).bind fun μ53 => R μ53
def oM (n m : Nat) (k lo hi d : Int) (R : Int → Mem → Option (Unit × Mem)) (ν : Mem) : Option (Unit × Mem) := (inv ν 12 m (mX11_eats n m k ν)).bind fun p40 => if eq32 p40.1 0 then R d p40.2 else (inv p40.2 12 m (mX11_takes n m lo hi p40.2)).bind fun p50 => R p50.1 p50.2
section HC
variable {μ : Mem} {I J : Nat → Nat → Int} {c t a m n z q h : Nat} {P : Nat → Int} {F : Fp} {s : Ld}
theorem addHouse_w (hL : isL μ a) (h0 : J a 0 = (h : Int)) (hh : h < 10) {v : Int} : ∃ K : Nat → Nat → Int, mX1_addHouse n a v (wi μ J) = some ((), wi μ K) ∧ (∀ b : Nat, ¬ (a ≤ b ∧ b ≤ a + 6) → K b = J b) ∧ K a = upA (J a) 0 (h + 1) ∧ K (a + 1) = upA (J (a + 1)) h v ∧ K (a + 2) = upA (J (a + 2)) h 3 ∧ K (a + 3) = upA (J (a + 3)) h 9 ∧ K (a + 4) = upA (J (a + 4)) h 0 ∧ K (a + 5) = upA (J (a + 5)) h 0 ∧ K (a + 6) = upA (J (a + 6)) h 0 := by
  have e0 : ld J a 0 0 = (h : Int) := h0
  have e1 := ldu (k := 1) (j := h) (v := v) (by decide) e0
  have e2 := ldu (k := 2) (j := h) (v := 3) (by decide) e1
  have e3 := ldu (k := 3) (j := h) (v := 9) (by decide) e2
  have e4 := ldu (k := 4) (j := h) (v := 0) (by decide) e3
  have e5 := ldu (k := 5) (j := h) (v := 0) (by decide) e4
  have e6 := ldu (k := 6) (j := h) (v := 0) (by decide) e5
  unfold mX1_addHouse
  rw [bL_gI hL, e0, i_lt_t (by omega), bL_g6 hL, bL_gI hL, e0, bL_st1 hL (by omega) (by omega), Int.toNat_natCast]
  rw [bL_g7 hL, bL_gI hL, e1, bL_st2 hL (by omega) (by omega), Int.toNat_natCast, bL_g8 hL, bL_gI hL, e2, bL_st3 hL (by omega) (by omega), Int.toNat_natCast]
  rw [bL_g9 hL, bL_gI hL, e3, bL_st4 hL (by omega) (by omega), Int.toNat_natCast, bL_g10 hL, bL_gI hL, e4, bL_st5 hL (by omega) (by omega), Int.toNat_natCast, bL_g11 hL, bL_gI hL, e5, bL_st6 hL (by omega) (by omega), Int.toNat_natCast, bL_gI hL, e6, bL_pI hL]
  refine ⟨_, rfl, fun b hb => ?_, ?_, ?_, ?_, ?_, ?_, ?_, ?_⟩
  · rw [up2_row (by omega), up2_row (by omega), up2_row (by omega), up2_row (by omega), up2_row (by omega), up2_row (by omega), up2_row (by omega)]
  · rw [up2_r, up2_row (by omega), up2_row (by omega), up2_row (by omega), up2_row (by omega), up2_row (by omega), up2_row (by omega)]
  · rw [up2_row (by omega), up2_row (by omega), up2_row (by omega), up2_row (by omega), up2_row (by omega), up2_row (by omega), up2_r]
  · rw [up2_row (by omega), up2_row (by omega), up2_row (by omega), up2_row (by omega), up2_row (by omega), up2_r, up2_row (by omega)]
  · rw [up2_row (by omega), up2_row (by omega), up2_row (by omega), up2_row (by omega), up2_r, up2_row (by omega), up2_row (by omega)]
  · rw [up2_row (by omega), up2_row (by omega), up2_row (by omega), up2_r, up2_row (by omega), up2_row (by omega), up2_row (by omega)]
  · rw [up2_row (by omega), up2_row (by omega), up2_r, up2_row (by omega), up2_row (by omega), up2_row (by omega), up2_row (by omega)]
  · rw [up2_row (by omega), up2_r, up2_row (by omega), up2_row (by omega), up2_row (by omega), up2_row (by omega), up2_row (by omega)]
theorem house_c (hT : isTp μ t) (hL : isL μ a) (sep : t + 1 < a) (hca : c ≤ t) (hX : isX μ c J) (hS : CS J t z P q F) (h0 : J a 0 = (h : Int)) (hh : h < 10) (hn : 20000 ≤ n) : ∃ (K : Nat → Nat → Int) (q' : Nat) (F' : Fp) (v0 v1 v2 v3 : Int), mX8_readHouse n t a (wi μ J) = some ((), wi μ K) ∧ (∀ b : Nat, b ≠ t → ¬ (a ≤ b ∧ b ≤ a + 6) → K b = J b) ∧ K t 0 = J t 0 ∧ CS K t z P q' F' ∧ chH (bts P) z (tE (bts P) z q) F q' F' v0 v1 v2 v3 ∧ K a = upA (J a) 0 (h + 1) ∧ K (a + 1) = upA (J (a + 1)) h v0 ∧ K (a + 2) = upA (J (a + 2)) h v1 ∧ K (a + 3) = upA (J (a + 3)) h v2 ∧ K (a + 4) = upA (J (a + 4)) h v3 ∧ K (a + 5) = upA (J (a + 5)) h 0 ∧ K (a + 6) = upA (J (a + 6)) h 0 := by
  obtain ⟨K1, e1, g1, s1⟩ := adv_w (n := n) hT hS hn
  obtain ⟨K2, q1, F1, v0, e2, g2, s2, o2⟩ := takeNumber_eq (n := n) hT s1 (lo := 0) (hi := 20) (by omega) (by omega) hn
  have g12 := g1.tr g2
  have h02 : K2 a 0 = (h : Int) := by rw [g12.1 a (by omega)]; exact h0
  obtain ⟨K3, e3, f3, r0, r1, r2, r3, r4, r5, r6⟩ := addHouse_w (n := n) (v := v0) hL h02 hh
  have s3 : CS K3 t z P q1 F1 := s2.cg (f3 _ (by omega)) (f3 _ (by omega))
  have x3 : isX μ c K3 := hX.cg (fun b hb => (f3 b (by omega)).trans (g12.1 b (by omega)))
  obtain ⟨K4, q2, F2, v1, e4, f4, t4, w4, s4, o4⟩ := optC (n := n) (k := 1) (r := 2) (h := h) (lo := 1) (hi := 9) hT hL sep hca x3 s3 (by decide) (by omega) (Or.inl hh) (by omega) (by omega) hn
  have x4 : isX μ c K4 := x3.cg (fun b hb => f4 b (by omega) (by omega))
  obtain ⟨K5, q3, F3, v2, e5, f5, t5, w5, s5, o5⟩ := optC (n := n) (k := 2) (r := 3) (h := h) (lo := 0) (hi := 99) hT hL sep hca x4 s4 (by decide) (by omega) (Or.inl hh) (by omega) (by omega) hn
  have x5 : isX μ c K5 := x4.cg (fun b hb => f5 b (by omega) (by omega))
  obtain ⟨K6, q4, F4, v3, e6, f6, t6, w6, s6, o6⟩ := optC (n := n) (k := 3) (r := 4) (h := h) (lo := 0) (hi := 4095) hT hL sep hca x5 s5 (by decide) (by omega) (Or.inl hh) (by omega) (by omega) hn
  rw [r2, upA_s] at o4
  rw [f4 (a + 3) (by omega) (by omega), r3, upA_s] at o5
  rw [f5 (a + 4) (by omega) (by omega), f4 (a + 4) (by omega) (by omega), r4, upA_s] at o6
  have f12 : ∀ k : Nat, K2 (a + k) = J (a + k) := fun k => g12.1 _ (by omega)
  refine ⟨K6, q4, F4, v0, v1, v2, v3, ?_, fun b b1 b2 => ?_, ?_, s6, ⟨F1, F2, F3, q1, q2, q3, o2, o4, o5, o6⟩, ?_, ?_, ?_, ?_, ?_, ?_, ?_⟩
  · show ((gI (wi μ J) 2 a 0).bind fun x1 => if lt32 x1 10 then (inv (wi μ J) 9 t (mX8_advance n t (wi μ J))).bind fun p18 => (inv p18.2 9 t (mX8_takeNumber n t 0 20 p18.2)).bind fun p26 => (inv p26.2 2 a (mX1_addHouse n a p26.1 p26.2)).bind fun p29 => oC n t a 1 2 1 9 x1 (oC n t a 2 3 0 99 x1 (oC n t a 3 4 0 4095 x1 (fun ν => some ((), ν)))) p29.2 else (inv (wi μ J) 9 t (mX8_tellFault n t 4 (wi μ J))).bind fun p13 => some ((), p13.2)) = _
    have e0 : ld J a 0 0 = (h : Int) := h0
    rw [bL_gI hL, e0, i_lt_t (by omega), bT_inv hT, bnd e1]
    dsimp only
    rw [bT_inv hT, bnd e2]
    dsimp only
    rw [bL_inv hL, bnd e3]
    dsimp only
    exact ((e4 _).trans (e5 _)).trans (e6 _)
  · rw [f6 b b1 (by omega), f5 b b1 (by omega), f4 b b1 (by omega), f3 b (by omega), g12.1 b b1]
  · rw [t6, t5, t4, f3 t (by omega), g12.2]
  · rw [f6 a (by omega) (by omega), f5 a (by omega) (by omega), f4 a (by omega) (by omega), r0, show K2 a = J a from f12 0]
  · rw [f6 _ (by omega) (by omega), f5 _ (by omega) (by omega), f4 _ (by omega) (by omega), r1, f12]
  · rw [f6 _ (by omega) (by omega), f5 _ (by omega) (by omega), w4, r2, f12, upA_up]
  · rw [f6 _ (by omega) (by omega), w5, f4 _ (by omega) (by omega), r3, f12, upA_up]
  · rw [w6, f5 _ (by omega) (by omega), f4 _ (by omega) (by omega), r4, f12, upA_up]
  · rw [f6 _ (by omega) (by omega), f5 _ (by omega) (by omega), f4 _ (by omega) (by omega), r5, f12]
  · rw [f6 _ (by omega) (by omega), f5 _ (by omega) (by omega), f4 _ (by omega) (by omega), r6, f12]
def rF (s u : Ld) : Prop := (∀ k : Nat, k ≠ 0 → k ≠ 4 → u k = s k) ∧ ∀ j : Nat, j ≠ 6 → j ≠ 7 → j ≠ 9 → j ≠ 10 → j ≠ 11 → j ≠ 12 → u 0 j = s 0 j
theorem rpG.f {s u : Ld} (h : rpG s u) : rF s u := ⟨fun k a _ => h.1 k a, h.2⟩
def hA (A : Nat → Int) (h : Nat) (v0 v1 v2 v3 : Int) : Nat → Int := upA (upA (upA (upA (upA A (6 + h) v0) (16 + h) v1) (26 + h) v2) (36 + h) v3) 0 (h + 1)
theorem house_m (hM : isM μ m) (hX : isX μ c I) (hc : c ≤ m) (hS : RS s z P q F) (hF : F.1 = 0) (h0 : s 4 0 = (h : Int)) (hh : h < 10) (hn : 20000 ≤ n) : ∃ (u : Ld) (q' : Nat) (F' : Fp) (v0 v1 v2 v3 : Int), mX11_readHouse n m (wi μ (wm I m s)) = some ((), wi μ (wm I m u)) ∧ rF s u ∧ RS u z P q' F' ∧ chH (bts P) z (tE (bts P) z q) F q' F' v0 v1 v2 v3 ∧ (F'.1 = 0 → u 4 = hA (s 4) h v0 v1 v2 v3) := by
  obtain ⟨u1, e1, g1, r1⟩ := nxt_w (n := n) hM hX hc hS hn
  obtain ⟨u2, q1, F1, v0, e2, g2, r2, o2⟩ := takes_eq (n := n) hM hX hc r1 (lo := 0) (hi := 20) (by omega) (by omega) hn
  obtain ⟨u3, q2, F2, v1, e3, g3, r3, o3⟩ := optM (n := n) (k := 1) (lo := 1) (hi := 9) (d := 3) hM hX hc r2 (by decide) (by omega) (fun _ => by omega) hn
  obtain ⟨u4, q3, F3, v2, e4, g4, r4, o4⟩ := optM (n := n) (k := 2) (lo := 0) (hi := 99) (d := 9) hM hX hc r3 (by decide) (by omega) (fun _ => by omega) hn
  obtain ⟨u5, q4, F4, v3, e5, g5, r5, o5⟩ := optM (n := n) (k := 3) (lo := 0) (hi := 4095) (d := 0) hM hX hc r4 (by decide) (by omega) (fun _ => by omega) hn
  have g := (((g1.tr g2).tr g3).tr g4).tr g5
  have h5 : u5 4 = s 4 := g.1 4 (by decide)
  have pre : mX11_readHouse n m (wi μ (wm I m s)) = ((gI (wi μ (wm I m u5)) 12 m 11).bind fun x103 => if eq32 x103 0 then (gA (wi μ (wm I m u5)) 12 m 4).bind fun x111 => (stI (wi μ (wm I m u5)) 0 x111 (6 + (h : Int)) v0).bind fun μ119 => (gA μ119 12 m 4).bind fun x121 => (stI μ119 0 x121 (16 + (h : Int)) v1).bind fun μ129 => (gA μ129 12 m 4).bind fun x131 => (stI μ129 0 x131 (26 + (h : Int)) v2).bind fun μ140 => (gA μ140 12 m 4).bind fun x142 => (stI μ140 0 x142 (36 + (h : Int)) v3).bind fun μ151 => (gA μ151 12 m 4).bind fun x153 => (ldI μ151 0 x153 0).bind fun x158 => (stI μ151 0 x153 0 (x158 + 1)).bind fun μ161 => some ((), μ161) else some ((), wi μ (wm I m u5))) := by
    unfold mX11_readHouse
    rw [bM_g4 hM, bM_ld4 hM (by decide) (by decide), show s 4 (0 : Int).toNat = (h : Int) from h0]
    simp only [jn]
    rw [i_eq_f (by omega), bM_gI hM, hS.2.2.2.1, i_eq_t hF, bM_inv hM, bnd e1]
    dsimp only
    rw [bM_inv hM, bnd e2]
    dsimp only
    refine Eq.trans (show _ = oM n m 1 1 9 3 (fun v57 => oM n m 2 0 99 9 (fun v78 => oM n m 3 0 4095 0 (fun v100 μ100 => (gI μ100 12 m 11).bind fun x103 => if eq32 x103 0 then (gA μ100 12 m 4).bind fun x111 => (stI μ100 0 x111 (6 + (h : Int)) v0).bind fun μ119 => (gA μ119 12 m 4).bind fun x121 => (stI μ119 0 x121 (16 + (h : Int)) v57).bind fun μ129 => (gA μ129 12 m 4).bind fun x131 => (stI μ129 0 x131 (26 + (h : Int)) v78).bind fun μ140 => (gA μ140 12 m 4).bind fun x142 => (stI μ140 0 x142 (36 + (h : Int)) v100).bind fun μ151 => (gA μ151 12 m 4).bind fun x153 => (ldI μ151 0 x153 0).bind fun x158 => (stI μ151 0 x153 0 (x158 + 1)).bind fun μ161 => some ((), μ161) else some ((), μ100)))) (wi μ (wm I m u2)) from rfl) ?_
    have e3' : ∀ R : Int → Mem → Option (Unit × Mem), oM n m 1 1 9 3 R (wi μ (wm I m u2)) = R v1 (wi μ (wm I m u3)) := e3
    have e4' : ∀ R : Int → Mem → Option (Unit × Mem), oM n m 2 0 99 9 R (wi μ (wm I m u3)) = R v2 (wi μ (wm I m u4)) := e4
    have e5' : ∀ R : Int → Mem → Option (Unit × Mem), oM n m 3 0 4095 0 R (wi μ (wm I m u4)) = R v3 (wi μ (wm I m u5)) := e5
    exact (e3' _).trans ((e4' _).trans (e5' _))
  have ch : chH (bts P) z (tE (bts P) z q) F q4 F4 v0 v1 v2 v3 := ⟨F1, F2, F3, q1, q2, q3, o2, o3, o4, o5⟩
  have rz := r5.2.2.2.2.2
  rw [pre, bM_gI hM, r5.2.2.2.1]
  by_cases c0 : F4.1 = 0
  · have w0 : up2 (up2 (up2 (up2 u5 4 (6 + h) v0) 4 (16 + h) v1) 4 (26 + h) v2) 4 (36 + h) v3 4 0 = (h : Int) := by
      rw [up2_n (by omega), up2_n (by omega), up2_n (by omega), up2_n (by omega), h5]; exact h0
    rw [i_eq_t c0, bM_g4 hM, bM_st4 hM (by omega) (by omega), show (6 + (h : Int)).toNat = 6 + h by omega, bM_g4 hM, bM_st4 hM (by omega) (by omega), show (16 + (h : Int)).toNat = 16 + h by omega, bM_g4 hM, bM_st4 hM (by omega) (by omega), show (26 + (h : Int)).toNat = 26 + h by omega, bM_g4 hM, bM_st4 hM (by omega) (by omega), show (36 + (h : Int)).toNat = 36 + h by omega, bM_g4 hM, bM_ld4 hM (by decide) (by decide), show (0 : Int).toNat = 0 from rfl, w0, bM_st4 hM (by decide) (by decide), show (0 : Int).toNat = 0 from rfl]
    refine ⟨_, q4, F4, v0, v1, v2, v3, rfl, ⟨fun k k0 k4 => ?_, fun j a b c d e f => ?_⟩, r5.cg ?_ ?_, ch, fun _ => ?_⟩
    · rw [up2_row k4, up2_row k4, up2_row k4, up2_row k4, up2_row k4, g.1 k k0]
    · rw [up2_row (by decide), up2_row (by decide), up2_row (by decide), up2_row (by decide), up2_row (by decide), g.2 j a b c d e f]
    · rw [up2_row (by decide), up2_row (by decide), up2_row (by decide), up2_row (by decide), up2_row (by decide)]
    · rw [up2_row (by decide), up2_row (by decide), up2_row (by decide), up2_row (by decide), up2_row (by decide)]
    · rw [up2_r, up2_r, up2_r, up2_r, up2_r, h5]
      rfl
  · rw [i_eq_f (by omega)]
    exact ⟨u5, q4, F4, v0, v1, v2, v3, rfl, g.f, r5, ch, fun z => absurd z c0⟩
end HC
