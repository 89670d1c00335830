/-! the class and the reference, made -/
section CW1
variable {μ : Mem} {J : Nat → Nat → Int} {N n : Nat}
theorem wf0 : wfT k0T := ⟨fun e he => (List.not_mem_nil he).elim, fun e he => (List.not_mem_nil he).elim⟩
theorem k1_w : wfT k1T := by
  have g0 : k0T.1[0]? = some (11, 12) := rfl
  obtain ⟨w1, p1, -⟩ := t_N (k := 0) tape_k wf0 g0
  have g1 := p1 0 _ g0
  obtain ⟨w2, p2, -⟩ := t_N (k := 1) land_k w1 g1
  have g2 := p2 0 _ g1
  obtain ⟨w3, p3, -⟩ := t_N (k := 2) land_k w2 g2
  have g3 := p3 0 _ g2
  have w4 := t_F (k := 3) (t := 4) (x := 2) w3 g3
  have g4 := t_Fg (o := 0) (k := 3) (t := 4) (x := 2) g3
  have w5 := t_F (k := 4) (t := 2) (x := 2) w4 g4
  have g5 := t_Fg (o := 0) (k := 4) (t := 2) (x := 2) g4
  have w6 := t_F (k := 5) (t := 5) (x := 4) w5 g5
  have g6 := t_Fg (o := 0) (k := 5) (t := 5) (x := 4) g5
  obtain ⟨w7, p7, -⟩ := t_N (k := 6) tally_k w6 g6
  have g7 := p7 0 _ g6
  obtain ⟨w8, p8, -⟩ := t_N (k := 7) ties_k w7 g7
  have g8 := p8 0 _ g7
  obtain ⟨w9, p9, -⟩ := t_N (k := 8) lonely_k w8 g8
  have g9 := p9 0 _ g8
  obtain ⟨w10, p10, -⟩ := t_N (k := 9) homes_k w9 g9
  have g10 := p10 0 _ g9
  exact (t_N (k := 10) sight_k w10 g10).1
theorem k1_0 : k1T.1[0]? = some (11, 12) := by decide +kernel
theorem k1_29 : k1T.1[29]? = some (20 + 4, 2) := by decide +kernel
theorem k1_31 : k1T.1[31]? = some (20 + 5, 4) := by decide +kernel
theorem k1_3 : look 0 k1T.2.1 0 3 = 29 + 1 := by decide +kernel
theorem k1_5 : look 0 k1T.2.1 0 5 = 31 + 1 := by decide +kernel
theorem class_e (hn : 20000 ≤ n) : mX10_init n (N + 1 + 0) (cMt μ J N k0T) = some ((), cMt μ J N k3T) ∧ wfT k3T := by
  have g0 : k0T.1[0]? = some (11, 12) := rfl
  obtain ⟨w1, p1, -⟩ := t_N (k := 0) tape_k wf0 g0
  have g1 := p1 0 _ g0
  obtain ⟨w2, p2, -⟩ := t_N (k := 1) land_k w1 g1
  have g2 := p2 0 _ g1
  obtain ⟨w3, p3, -⟩ := t_N (k := 2) land_k w2 g2
  have g3 := p3 0 _ g2
  have w4 := t_F (k := 3) (t := 4) (x := (2 : Int).toNat) w3 g3
  have g4 := t_Fg (o := 0) (k := 3) (t := 4) (x := (2 : Int).toNat) g3
  have w5 := t_F (k := 4) (t := 2) (x := (2 : Int).toNat) w4 g4
  have g5 := t_Fg (o := 0) (k := 4) (t := 2) (x := (2 : Int).toNat) g4
  have w6 := t_F (k := 5) (t := 5) (x := (4 : Int).toNat) w5 g5
  have g6 := t_Fg (o := 0) (k := 5) (t := 5) (x := (4 : Int).toNat) g5
  obtain ⟨w7, p7, -⟩ := t_N (k := 6) tally_k w6 g6
  have g7 := p7 0 _ g6
  obtain ⟨w8, p8, -⟩ := t_N (k := 7) ties_k w7 g7
  have g8 := p8 0 _ g7
  obtain ⟨w9, p9, -⟩ := t_N (k := 8) lonely_k w8 g8
  have g9 := p9 0 _ g8
  obtain ⟨w10, p10, -⟩ := t_N (k := 9) homes_k w9 g9
  have g10 := p10 0 _ g9
  have lt := get_lt k1_0
  obtain ⟨e2, w12, p12, l12⟩ := elt_l (μ := μ) (J := J) (N := N) (n := n) (C := 11) (m0 := 12) (fld := 3) (t := 4) (m := 2) (o := 0) (oa := 29) land_e land_k (fun μ117 => lp (eltB n (N + 1 + 0) 4 3 11 5 5 mX3_init (fun μ => some ((), μ)) 4) n 0 μ117) (by decide) (by decide) 2 n 0 k1T (by omega) (by omega) k1_w k1_0 k1_29 k1_3
  obtain ⟨e3, w13, -, -⟩ := elt_l (μ := μ) (J := J) (N := N) (n := n) (C := 11) (m0 := 12) (fld := 5) (t := 5) (m := 4) (o := 0) (oa := 31) row_e row_k (fun μ => some ((), μ)) (by decide) (by decide) 4 n 0 k2T (by omega) (by omega) w12 (p12 0 _ k1_0) (p12 31 _ k1_31) ((l12 0 5 lt (by decide)).trans k1_5)
  refine ⟨?_, w13⟩
  unfold mX10_init
  rw [show ∀ {X : Option (Unit × Mem)}, inv (cMt μ J N k0T) 11 (N + 1 + 0) X = X from fun {X} => r_inv g0]
  refine (q_new (C := 11) (m := 12) (o := 0) (k := 0) tape_e tape_k wf0 g0).trans ?_
  refine (q_new (C := 11) (m := 12) (o := 0) (k := 1) land_e land_k w1 g1).trans ?_
  refine (q_new (C := 11) (m := 12) (o := 0) (k := 2) land_e land_k w2 g2).trans ?_
  refine (q_fld (C := 11) (m := 12) (o := 0) (k := 3) w3 g3 (by decide)).trans ?_
  refine (q_fld (C := 11) (m := 12) (o := 0) (k := 4) w4 g4 (by decide)).trans ?_
  refine (q_fld (C := 11) (m := 12) (o := 0) (k := 5) w5 g5 (by decide)).trans ?_
  refine (q_new (C := 11) (m := 12) (o := 0) (k := 6) tally_e tally_k w6 g6).trans ?_
  refine (q_new (C := 11) (m := 12) (o := 0) (k := 7) ties_e ties_k w7 g7).trans ?_
  refine (q_new (C := 11) (m := 12) (o := 0) (k := 8) (lonely_e hn) lonely_k w8 g8).trans ?_
  refine (q_new (C := 11) (m := 12) (o := 0) (k := 9) homes_e homes_k w9 g9).trans ?_
  refine (q_new (C := 11) (m := 12) (o := 0) (k := 10) sight_e sight_k w10 g10).trans ?_
  exact e2.trans e3
end CW1
def m0T : Ce := objT 12 44 k3T
def m1T : Ce := fldT 193 37 0 7 (fldT 193 36 0 7 (fldT 193 34 0 1760 (fldT 193 33 0 7 (fldT 193 32 0 7 (fldT 193 30 0 3001 (fldT 193 29 0 3001 (fldT 193 28 3 3001 (fldT 193 25 0 3 (fldT 193 24 0 8192 (fldT 193 23 3 3001 (fldT 193 22 0 10 (fldT 193 16 0 220 (fldT 193 15 0 10 (putI 193 14 (-1) (fldT 193 4 0 220 (fldT 193 3 0 900 (fldT 193 2 2 2 (fldT 193 1 0 660 m0T))))))))))))))))))
def m2T : Ce := fldT 193 43 3 240 (fldT 193 42 0 4 (putA 193 41 212 (putI 212 3 (-1) (putI 212 2 (-1) (putI 212 1 (-1) (putI 212 0 (-1) (objT 20 4 m1T)))))))
