/-! makers of the larger ones -/
theorem lt78 (v : Int) (h : lt32 7 v) : ¬ lt32 v 8 := by
  unfold lt32 at *
  intro w
  have a := Int32.lt_iff_toInt_lt.mp h
  have b := Int32.lt_iff_toInt_lt.mp w
  rw [show (Int32.ofInt 7).toInt = 7 from by decide] at a
  rw [show (Int32.ofInt 8).toInt = 8 from by decide] at b
  omega
theorem lt87 (v : Int) (h : ¬ lt32 7 v) : lt32 v 8 := by
  unfold lt32 at *
  refine Int32.lt_iff_toInt_lt.mpr ?_
  have a : ¬ (Int32.ofInt 7).toInt < (Int32.ofInt v).toInt := fun w => h (Int32.lt_iff_toInt_lt.mpr w)
  rw [show (Int32.ofInt 7).toInt = 7 from by decide] at a
  rw [show (Int32.ofInt 8).toInt = 8 from by decide]
  omega
section CU
variable {μ : Mem} {J : Nat → Nat → Int} {N n : Nat}
theorem q_ren {C m k' : Nat} {s : Ce} {o : Nat} {β : Type} (ho : s.1[o]? = some (C, m)) {f : Nat → Option β} : (gA (cMt μ J N s) C (N + 1 + o) k').bind f = f (rl N (look 0 s.2.1 o k')) := r_gA ho
/-- a new one, laid into an array -/
theorem q_elt {kk nn t m i : Nat} {s : Ce} {oa : Nat} {β : Type} {init : Nat → Nat → Mem → Option (Unit × Mem)} {F : Nat → Ce → Ce} (hE : mkE n kk nn init F) (hT : mkT kk nn F) (h : wfT s) (ho : s.1[oa]? = some (20 + t, m)) (hi : i < m) (hm : m < 1000) {f : Mem → Option β} : ((nwO (cMt μ J N s) kk nn).bind fun p => if p.1 = 0 then none else (init n p.1 p.2).bind fun q => (stA q.2 kk t (N + 1 + oa) (i : Int) p.1).bind f) = f (cMt μ J N (newT kk nn F oa i s)) := by
  unfold cMt
  rw [r_nwO h]
  dsimp only
  have e := hE μ J N (objT kk nn s) s.1.length (t_O h) t_On
  have e' : init n (N + 1 + s.1.length) (cM μ J N (s.1 ++ [(kk, nn)]) s.2.1 s.2.2) = some ((), cMt μ J N (F s.1.length (objT kk nn s))) := e
  rw [if_neg (by omega), bnd e']
  dsimp only
  obtain ⟨-, g, -⟩ := hT (objT kk nn s) s.1.length (t_O h) t_On
  unfold cMt
  rw [r_stA (g oa _ (t_Og ho)) (by omega) (g s.1.length _ t_On), Int.toNat_natCast]
  rfl
def eltB (n a kk nn C fld t : Nat) (init : Nat → Nat → Mem → Option (Unit × Mem)) (K : Mem → Option (Unit × Mem)) (top : Int) : (Int → Mem → Option (Unit × Mem)) → Int → Mem → Option (Unit × Mem) := fun nx v μ => if lt32 v top then (gA μ C a fld).bind fun x => (nwO μ kk nn).bind fun p => if p.1 = 0 then none else (init n p.1 p.2).bind fun q => (stA q.2 kk t x v p.1).bind fun μ' => nx (v + 1) μ' else K μ
theorem elt_l {kk nn C m0 fld t m : Nat} {o oa : Nat} {init : Nat → Nat → Mem → Option (Unit × Mem)} {F : Nat → Ce → Ce} (hE : mkE n kk nn init F) (hT : mkT kk nn F) (K : Mem → Option (Unit × Mem)) (hm : m < 1000) (hne : o ≠ oa) : ∀ (d kf i : Nat) (s : Ce), i + d = m → d < kf → wfT s → s.1[o]? = some (C, m0) → s.1[oa]? = some (20 + t, m) → look 0 s.2.1 o fld = oa + 1 → lp (eltB n (N + 1 + o) kk nn C fld t init K (m : Int)) kf (i : Int) (cMt μ J N s) = K (cMt μ J N (itr (newT kk nn F oa) i d s)) ∧ wfT (itr (newT kk nn F oa) i d s) ∧ (∀ (o' : Nat) (y : Nat × Nat), s.1[o']? = some y → (itr (newT kk nn F oa) i d s).1[o']? = some y) ∧ ∀ o1 k1 : Nat, o1 < s.1.length → o1 ≠ oa → look 0 (itr (newT kk nn F oa) i d s).2.1 o1 k1 = look 0 s.2.1 o1 k1
  | d, 0, i, s, h1, h2, h, ho, hoa, hl => absurd h2 (by omega)
  | 0, kf + 1, i, s, h1, h2, h, ho, hoa, hl => by
    refine ⟨?_, h, fun _ _ hy => hy, fun _ _ _ _ => rfl⟩
    generalize hB : lp (eltB n (N + 1 + o) kk nn C fld t init K (m : Int)) kf = slf
    show eltB n (N + 1 + o) kk nn C fld t init K (m : Int) (lp (eltB n (N + 1 + o) kk nn C fld t init K (m : Int)) kf) (i : Int) (cMt μ J N s) = _
    rw [hB]
    unfold eltB
    rw [i_lt_f (by omega)]
    rfl
  | d + 1, kf + 1, i, s, h1, h2, h, ho, hoa, hl => by
    obtain ⟨a1, a2, a3⟩ := t_N (k := i) hT h hoa
    obtain ⟨e, b1, b2, b3⟩ := elt_l hE hT K hm hne d kf (i + 1) (newT kk nn F oa i s) (by omega) (by omega) a1 (a2 o _ ho) (a2 oa _ hoa) (by rw [a3 o fld (get_lt ho) (by omega)]; exact hl)
    refine ⟨?_, b1, fun o' y hy => b2 o' y (a2 o' y hy), fun o1 k1 ho1 hn1 => (b3 o1 k1 (by
      have : o1 < (newT kk nn F oa i s).1.length := by
        obtain ⟨y, hy⟩ : ∃ y, s.1[o1]? = some y := ⟨s.1[o1], List.getElem?_eq_getElem ho1⟩
        exact get_lt (a2 o1 y hy)
      exact this) hn1).trans (a3 o1 k1 ho1 (by omega))⟩
    generalize hB : lp (eltB n (N + 1 + o) kk nn C fld t init K (m : Int)) kf = slf at e
    show eltB n (N + 1 + o) kk nn C fld t init K (m : Int) (lp (eltB n (N + 1 + o) kk nn C fld t init K (m : Int)) kf) (i : Int) (cMt μ J N s) = _
    rw [hB]
    unfold eltB
    rw [i_lt_t (by omega), q_ren ho, hl]
    show ((nwO (cMt μ J N s) kk nn).bind fun p => if p.1 = 0 then none else (init n p.1 p.2).bind fun q => (stA q.2 kk t (N + 1 + oa) (i : Int) p.1).bind fun μ' => slf ((i : Int) + 1) μ') = _
    rw [q_elt hE hT h hoa (by omega) hm]
    exact e
theorem fld_len {o k t x : Nat} {s : Ce} : (fldT o k t x s).1.length = s.1.length + 1 := by
  show (s.1 ++ [(20 + t, x)]).length = _
  rw [List.length_append]
  rfl
/-- the lonely one: four rows, and eight lands -/
def lonelyT (o : Nat) (s : Ce) : Ce := itr (newT 2 18 landT (s.1.length + 2)) 0 8 (fldT o 4 0 10 (fldT o 3 4 8 (fldT o 2 0 7 (fldT o 1 0 7 s))))
theorem lonely_a {s : Ce} {o : Nat} (h : wfT s) (ho : s.1[o]? = some (3, 7)) : wfT (fldT o 4 0 10 (fldT o 3 4 8 (fldT o 2 0 7 (fldT o 1 0 7 s)))) ∧ (∀ (o' : Nat) (y : Nat × Nat), s.1[o']? = some y → (fldT o 4 0 10 (fldT o 3 4 8 (fldT o 2 0 7 (fldT o 1 0 7 s)))).1[o']? = some y) ∧ (fldT o 4 0 10 (fldT o 3 4 8 (fldT o 2 0 7 (fldT o 1 0 7 s)))).1[s.1.length + 2]? = some (20 + 4, 8) ∧ look 0 (fldT o 4 0 10 (fldT o 3 4 8 (fldT o 2 0 7 (fldT o 1 0 7 s)))).2.1 o 3 = s.1.length + 2 + 1 ∧ (fldT o 4 0 10 (fldT o 3 4 8 (fldT o 2 0 7 (fldT o 1 0 7 s)))).1.length = s.1.length + 4 := by
  have w1 := t_F (k := 1) (t := 0) (x := 7) h ho
  have g1 := t_Fg (o := o) (k := 1) (t := 0) (x := 7) ho
  have w2 := t_F (k := 2) (t := 0) (x := 7) w1 g1
  have g2 := t_Fg (o := o) (k := 2) (t := 0) (x := 7) g1
  have w3 := t_F (k := 3) (t := 4) (x := 8) w2 g2
  have g3 := t_Fg (o := o) (k := 3) (t := 4) (x := 8) g2
  have w4 := t_F (k := 4) (t := 0) (x := 10) w3 g3
  have l2 : (fldT o 2 0 7 (fldT o 1 0 7 s)).1.length = s.1.length + 2 := by rw [fld_len, fld_len]
  have g3n : (fldT o 3 4 8 (fldT o 2 0 7 (fldT o 1 0 7 s))).1[s.1.length + 2]? = some (20 + 4, 8) := by
    rw [← l2]
    exact get_new
  refine ⟨w4, fun o' y hy => t_Fg (t_Fg (t_Fg (t_Fg hy))), t_Fg g3n, ?_, by rw [fld_len, fld_len, fld_len, fld_len]⟩
  show look 0 ((o, 4, _) :: (o, 3, (fldT o 2 0 7 (fldT o 1 0 7 s)).1.length + 1) :: _) o 3 = _
  rw [look_nj (show (3 : Nat) ≠ 4 by decide), look_at, l2]
theorem lonely_b {s : Ce} {o : Nat} (h : wfT s) (ho : s.1[o]? = some (3, 7)) (hn : 20000 ≤ n) : lp (eltB n (N + 1 + o) 2 18 3 3 4 mX1_init (fun μ => some ((), μ)) 8) n 0 (cMt μ J N (fldT o 4 0 10 (fldT o 3 4 8 (fldT o 2 0 7 (fldT o 1 0 7 s))))) = some ((), cMt μ J N (lonelyT o s)) ∧ wfT (lonelyT o s) ∧ (∀ (o' : Nat) (y : Nat × Nat), s.1[o']? = some y → (lonelyT o s).1[o']? = some y) ∧ ∀ o1 k1 : Nat, o1 < s.1.length → o1 ≠ o → look 0 (lonelyT o s).2.1 o1 k1 = look 0 s.2.1 o1 k1 := by
  obtain ⟨a1, a2, a3, a4, a5⟩ := lonely_a h ho
  have lt := get_lt ho
  obtain ⟨e, b1, b2, b3⟩ := elt_l (μ := μ) (J := J) (N := N) (n := n) (C := 3) (m0 := 7) (fld := 3) (t := 4) (m := 8) (o := o) (oa := s.1.length + 2) land_e land_k (fun μ => some ((), μ)) (by decide) (by omega) 8 n 0 _ (by omega) (by omega) a1 (a2 o _ ho) a3 a4
  refine ⟨e, b1, fun o' y hy => b2 o' y (a2 o' y hy), fun o1 k1 h1 h2 => (b3 o1 k1 (by omega) (by omega)).trans ?_⟩
  show look 0 ((o, 4, _) :: (o, 3, _) :: (o, 2, _) :: (o, 1, _) :: s.2.1) o1 k1 = _
  rw [look_ne h2, look_ne h2, look_ne h2, look_ne h2]
theorem lonely_k : mkT 3 7 lonelyT := fun s o h ho => (lonely_b (μ := ((fun _ => (0, 0)), (fun _ _ => 0), (fun _ _ => 0), 0, 0)) (J := fun _ _ => 0) (N := 0) (n := 20000) h ho (Nat.le_refl _)).2
theorem lonely_e (hn : 20000 ≤ n) : mkE n 3 7 mX2_init lonelyT := fun μ J N s o h ho => by
  have w1 := t_F (k := 1) (t := 0) (x := (7 : Int).toNat) h ho
  have g1 := t_Fg (o := o) (k := 1) (t := 0) (x := (7 : Int).toNat) ho
  have w2 := t_F (k := 2) (t := 0) (x := (7 : Int).toNat) w1 g1
  have g2 := t_Fg (o := o) (k := 2) (t := 0) (x := (7 : Int).toNat) g1
  have w3 := t_F (k := 3) (t := 4) (x := (8 : Int).toNat) w2 g2
  have g3 := t_Fg (o := o) (k := 3) (t := 4) (x := (8 : Int).toNat) g2
  unfold mX2_init
  rw [show ∀ {X : Option (Unit × Mem)}, inv (cMt μ J N s) 3 (N + 1 + o) X = X from fun {X} => r_inv ho]
  rw [q_fld (C := 3) h ho (by decide), q_fld (C := 3) w1 g1 (by decide), q_fld (C := 3) w2 g2 (by decide), q_fld (C := 3) w3 g3 (by decide)]
  refine Eq.trans ?_ (lonely_b (μ := μ) (J := J) (N := N) h ho hn).1
  congr 1
  funext nx v ν
  unfold eltB
  by_cases c : lt32 7 v
  · rw [if_pos c, if_neg (lt78 v c)]
  · rw [if_neg c, if_pos (lt87 v c)]
end CU
