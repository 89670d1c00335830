/-! the reference, made -/
def plT (i : Nat) (s : Ce) : Ce := putI 194 i 0 s
def m3T : Ce := putI 194 4 8 (putI 194 3 5 (itr plT 0 220 m2T))
section CX
variable {μ : Mem} {J : Nat → Nat → Int} {N n : Nat}
theorem pl_c : ∀ (d k i : Nat) (s : Ce), i + d = 220 → d < k → s.1[194]? = some (20 + 0, 660) → lp (plB (N + 1 + 194)) k (i : Int) (cMt μ J N s) = some ((), cMt μ J N (putI 194 4 8 (putI 194 3 5 (itr plT i d s))))
  | d, 0, i, s, h1, h2, h => absurd h2 (by omega)
  | 0, k + 1, i, s, h1, h2, h => by
    show plB (N + 1 + 194) (lp (plB (N + 1 + 194)) k) (i : Int) (cMt μ J N s) = _
    unfold plB
    rw [i_lt_f (by omega)]
    unfold cMt
    rw [r_stI h (by omega)]
    rw [r_stI h (by omega)]
    rfl
  | d + 1, k + 1, i, s, h1, h2, h => by
    have e := pl_c d k (i + 1) (plT i s) (by omega) (by omega) h
    generalize hB : lp (plB (N + 1 + 194)) k = slf at e
    show plB (N + 1 + 194) (lp (plB (N + 1 + 194)) k) (i : Int) (cMt μ J N s) = _
    rw [hB]
    unfold plB
    rw [i_lt_t (by omega)]
    refine (r_stI h (by omega)).trans ?_
    exact e
theorem k3_len : k3T.1.length = 193 := by decide +kernel
theorem m0_g : m0T.1[193]? = some (12, 44) := by decide +kernel
theorem m1_len : m1T.1.length = 212 := by decide +kernel
theorem m2_194 : m2T.1[194]? = some (20 + 0, 660) := by decide +kernel
theorem m2_1 : look 0 m2T.2.1 193 1 = 194 + 1 := by decide +kernel
theorem model_e (hn : 20000 ≤ n) (w : wfT k3T) : mX11_init n (N + 1 + 193) (cMt μ J N m0T) = some ((), cMt μ J N m3T) := by
  have w0 : wfT m0T := t_O w
  have g0 := m0_g
  have w1 := t_F (k := 1) (t := 0) (x := 660) w0 g0
  have g1 := t_Fg (o := 193) (k := 1) (t := 0) (x := 660) g0
  have w2 := t_F (k := 2) (t := 2) (x := 2) w1 g1
  have g2 := t_Fg (o := 193) (k := 2) (t := 2) (x := 2) g1
  have w3 := t_F (k := 3) (t := 0) (x := 900) w2 g2
  have g3 := t_Fg (o := 193) (k := 3) (t := 0) (x := 900) g2
  have w4 := t_F (k := 4) (t := 0) (x := 220) w3 g3
  have g4 := t_Fg (o := 193) (k := 4) (t := 0) (x := 220) g3
  have w5 := t_I (k := 14) (x := (-1)) w4 g4
  have g5 := t_Ig (o := 193) (k := 14) (x := (-1)) g4
  have w6 := t_F (k := 15) (t := 0) (x := 10) w5 g5
  have g6 := t_Fg (o := 193) (k := 15) (t := 0) (x := 10) g5
  have w7 := t_F (k := 16) (t := 0) (x := 220) w6 g6
  have g7 := t_Fg (o := 193) (k := 16) (t := 0) (x := 220) g6
  have w8 := t_F (k := 22) (t := 0) (x := 10) w7 g7
  have g8 := t_Fg (o := 193) (k := 22) (t := 0) (x := 10) g7
  have w9 := t_F (k := 23) (t := 3) (x := 3001) w8 g8
  have g9 := t_Fg (o := 193) (k := 23) (t := 3) (x := 3001) g8
  have w10 := t_F (k := 24) (t := 0) (x := 8192) w9 g9
  have g10 := t_Fg (o := 193) (k := 24) (t := 0) (x := 8192) g9
  have w11 := t_F (k := 25) (t := 0) (x := 3) w10 g10
  have g11 := t_Fg (o := 193) (k := 25) (t := 0) (x := 3) g10
  have w12 := t_F (k := 28) (t := 3) (x := 3001) w11 g11
  have g12 := t_Fg (o := 193) (k := 28) (t := 3) (x := 3001) g11
  have w13 := t_F (k := 29) (t := 0) (x := 3001) w12 g12
  have g13 := t_Fg (o := 193) (k := 29) (t := 0) (x := 3001) g12
  have w14 := t_F (k := 30) (t := 0) (x := 3001) w13 g13
  have g14 := t_Fg (o := 193) (k := 30) (t := 0) (x := 3001) g13
  have w15 := t_F (k := 32) (t := 0) (x := 7) w14 g14
  have g15 := t_Fg (o := 193) (k := 32) (t := 0) (x := 7) g14
  have w16 := t_F (k := 33) (t := 0) (x := 7) w15 g15
  have g16 := t_Fg (o := 193) (k := 33) (t := 0) (x := 7) g15
  have w17 := t_F (k := 34) (t := 0) (x := 1760) w16 g16
  have g17 := t_Fg (o := 193) (k := 34) (t := 0) (x := 1760) g16
  have w18 := t_F (k := 36) (t := 0) (x := 7) w17 g17
  have g18 := t_Fg (o := 193) (k := 36) (t := 0) (x := 7) g17
  have w19 := t_F (k := 37) (t := 0) (x := 7) w18 g18
  have g19 := t_Fg (o := 193) (k := 37) (t := 0) (x := 7) g18
  unfold mX11_init
  rw [show ∀ {X : Option (Unit × Mem)}, inv (cMt μ J N m0T) 12 (N + 1 + 193) X = X from fun {X} => r_inv g0]
  refine (q_fld (C := 12) (m := 44) (o := 193) (k := 1) w0 g0 (by decide)).trans ?_
  refine (q_fld (C := 12) (m := 44) (o := 193) (k := 2) w1 g1 (by decide)).trans ?_
  refine (q_fld (C := 12) (m := 44) (o := 193) (k := 3) w2 g2 (by decide)).trans ?_
  refine (q_fld (C := 12) (m := 44) (o := 193) (k := 4) w3 g3 (by decide)).trans ?_
  refine (q_pI (C := 12) (m := 44) (o := 193) (k := 14) g4).trans ?_
  refine (q_fld (C := 12) (m := 44) (o := 193) (k := 15) w5 g5 (by decide)).trans ?_
  refine (q_fld (C := 12) (m := 44) (o := 193) (k := 16) w6 g6 (by decide)).trans ?_
  refine (q_fld (C := 12) (m := 44) (o := 193) (k := 22) w7 g7 (by decide)).trans ?_
  refine (q_fld (C := 12) (m := 44) (o := 193) (k := 23) w8 g8 (by decide)).trans ?_
  refine (q_fld (C := 12) (m := 44) (o := 193) (k := 24) w9 g9 (by decide)).trans ?_
  refine (q_fld (C := 12) (m := 44) (o := 193) (k := 25) w10 g10 (by decide)).trans ?_
  refine (q_fld (C := 12) (m := 44) (o := 193) (k := 28) w11 g11 (by decide)).trans ?_
  refine (q_fld (C := 12) (m := 44) (o := 193) (k := 29) w12 g12 (by decide)).trans ?_
  refine (q_fld (C := 12) (m := 44) (o := 193) (k := 30) w13 g13 (by decide)).trans ?_
  refine (q_fld (C := 12) (m := 44) (o := 193) (k := 32) w14 g14 (by decide)).trans ?_
  refine (q_fld (C := 12) (m := 44) (o := 193) (k := 33) w15 g15 (by decide)).trans ?_
  refine (q_fld (C := 12) (m := 44) (o := 193) (k := 34) w16 g16 (by decide)).trans ?_
  refine (q_fld (C := 12) (m := 44) (o := 193) (k := 36) w17 g17 (by decide)).trans ?_
  refine (q_fld (C := 12) (m := 44) (o := 193) (k := 37) w18 g18 (by decide)).trans ?_
  have wm1 : wfT m1T := w19
  have gm1 : m1T.1[193]? = some (12, 44) := g19
  clear w0 g0 w1 g1 w2 g2 w3 g3 w4 g4 w5 g5 w6 g6 w7 g7 w8 g8 w9 g9 w10 g10 w11 g11 w12 g12 w13 g13 w14 g14 w15 g15 w16 g16 w17 g17 w18 g18 w19 g19
  refine (r_nwA (sh := m1T.1) (rf := m1T.2.1) (iv := m1T.2.2) wm1 (t := 0) (x := 4) (by decide)).trans ?_
  dsimp only
  rw [m1_len]
  have gn : (objT 20 4 m1T).1[212]? = some (20 + 0, 4) := by rw [← m1_len]; exact t_On
  have wn : wfT (objT 20 4 m1T) := t_O wm1
  refine (r_stI (sh := (objT 20 4 m1T).1) (rf := (objT 20 4 m1T).2.1) (iv := (objT 20 4 m1T).2.2) gn (by decide)).trans ?_
  refine (r_stI (sh := (objT 20 4 m1T).1) gn (by decide)).trans ?_
  refine (r_stI (sh := (objT 20 4 m1T).1) gn (by decide)).trans ?_
  refine (r_stI (sh := (objT 20 4 m1T).1) gn (by decide)).trans ?_
  have h0 : (objT 20 4 m1T).1[193]? = some (12, 44) := t_Og gm1
  have wi0 := t_I (k := 0) (x := (-1)) wn gn
  have gi0 := t_Ig (o := 212) (k := 0) (x := (-1)) gn
  have hi0 := t_Ig (o := 212) (k := 0) (x := (-1)) h0
  have wi1 := t_I (k := 1) (x := (-1)) wi0 gi0
  have gi1 := t_Ig (o := 212) (k := 1) (x := (-1)) gi0
  have hi1 := t_Ig (o := 212) (k := 1) (x := (-1)) hi0
  have wi2 := t_I (k := 2) (x := (-1)) wi1 gi1
  have gi2 := t_Ig (o := 212) (k := 2) (x := (-1)) gi1
  have hi2 := t_Ig (o := 212) (k := 2) (x := (-1)) hi1
  have wi3 := t_I (k := 3) (x := (-1)) wi2 gi2
  have hi3 := t_Ig (o := 212) (k := 3) (x := (-1)) hi2
  have wa := t_A (k := 41) (o2 := 212) wi3 hi3
  have ga : (putA 193 41 212 (putI 212 3 (-1) (putI 212 2 (-1) (putI 212 1 (-1) (putI 212 0 (-1) (objT 20 4 m1T)))))).1[193]? = some (12, 44) := hi3
  have wb := t_F (k := 42) (t := 0) (x := 4) wa ga
  have gb := t_Fg (o := 193) (k := 42) (t := 0) (x := 4) ga
  have gc := t_Fg (o := 193) (k := 43) (t := 3) (x := 240) gb
  refine (r_pA (sh := (objT 20 4 m1T).1) h0).trans ?_
  refine (q_fld (C := 12) (m := 44) (o := 193) (k := 42) wa ga (by decide)).trans ?_
  refine (q_fld (C := 12) (m := 44) (o := 193) (k := 43) wb gb (by decide)).trans ?_
  refine (q_ren (s := m2T) gc).trans ?_
  rw [m2_1]
  exact bnd (pl_c (μ := μ) (J := J) (N := N) 220 n 0 m2T (by omega) (by omega) m2_194) _
end CX
