/-! makers, told by lists -/
abbrev Ce : Type := List (Nat × Nat) × List (Nat × Nat × Nat) × List (Nat × Nat × Int)
def cMt (μ : Mem) (J : Nat → Nat → Int) (N : Nat) (s : Ce) : Mem := cM μ J N s.1 s.2.1 s.2.2
def wfT (s : Ce) : Prop := wfL s.1 s.2.1 s.2.2
def objT (k n : Nat) (s : Ce) : Ce := (s.1 ++ [(k, n)], s.2.1, s.2.2)
def putI (o k : Nat) (x : Int) (s : Ce) : Ce := (s.1, s.2.1, (o, k, x) :: s.2.2)
def putA (o k o2 : Nat) (s : Ce) : Ce := (s.1, (o, k, o2 + 1) :: s.2.1, s.2.2)
def fldT (o k t x : Nat) (s : Ce) : Ce := (s.1 ++ [(20 + t, x)], (o, k, s.1.length + 1) :: s.2.1, s.2.2)
/-- a maker that lays only new cells, and its own fields -/
def mkT (kk nn : Nat) (F : Nat → Ce → Ce) : Prop := ∀ (s : Ce) (o : Nat), wfT s → s.1[o]? = some (kk, nn) → wfT (F o s) ∧ (∀ (o' : Nat) (y : Nat × Nat), s.1[o']? = some y → (F o s).1[o']? = some y) ∧ ∀ o1 k1 : Nat, o1 < s.1.length → o1 ≠ o → look 0 (F o s).2.1 o1 k1 = look 0 s.2.1 o1 k1
def mkE (n kk nn : Nat) (init : Nat → Nat → Mem → Option (Unit × Mem)) (F : Nat → Ce → Ce) : Prop := ∀ (μ : Mem) (J : Nat → Nat → Int) (N : Nat) (s : Ce) (o : Nat), wfT s → s.1[o]? = some (kk, nn) → init n (N + 1 + o) (cMt μ J N s) = some ((), cMt μ J N (F o s))
def newT (kk nn : Nat) (F : Nat → Ce → Ce) (o k : Nat) (s : Ce) : Ce := putA o k s.1.length (F s.1.length (objT kk nn s))
section CT
variable {μ : Mem} {J : Nat → Nat → Int} {N o o2 k n C m : Nat} {s : Ce} {β : Type}
theorem t_I (h : wfT s) {x : Int} {y : Nat × Nat} (ho : s.1[o]? = some y) : wfT (putI o k x s) := h.ri (get_lt ho)
theorem t_A (h : wfT s) {y : Nat × Nat} (ho : s.1[o]? = some y) : wfT (putA o k o2 s) := h.ra (get_lt ho)
theorem t_F (h : wfT s) {t x : Nat} {y : Nat × Nat} (ho : s.1[o]? = some y) : wfT (fldT o k t x s) := h.fld ho
theorem t_Fg {t x : Nat} {o' : Nat} {y : Nat × Nat} (ho : s.1[o']? = some y) : (fldT o k t x s).1[o']? = some y := get_app ho
theorem t_Ig {x : Int} {o' : Nat} {y : Nat × Nat} (ho : s.1[o']? = some y) : (putI o k x s).1[o']? = some y := ho
theorem t_O (h : wfT s) {kk nn : Nat} : wfT (objT kk nn s) := h.app
theorem t_Og {kk nn : Nat} {o' : Nat} {y : Nat × Nat} (ho : s.1[o']? = some y) : (objT kk nn s).1[o']? = some y := get_app ho
theorem t_On {kk nn : Nat} : (objT kk nn s).1[s.1.length]? = some (kk, nn) := get_new
theorem q_fld (h : wfT s) (ho : s.1[o]? = some (C, m)) {t : Nat} {x : Int} (hx : 0 ≤ x ∧ x < 100000) {f : Mem → Option β} : ((nwA (cMt μ J N s) t x).bind fun p => (pA p.2 C (N + 1 + o) k p.1).bind f) = f (cMt μ J N (fldT o k t x.toNat s)) := r_fld h ho hx
theorem q_pI (ho : s.1[o]? = some (C, m)) {x : Int} {f : Mem → Option β} : (pI (cMt μ J N s) C (N + 1 + o) k x).bind f = f (cMt μ J N (putI o k x s)) := r_pI ho
theorem q_new {kk nn : Nat} {init : Nat → Nat → Mem → Option (Unit × Mem)} {F : Nat → Ce → Ce} (hE : mkE n kk nn init F) (hT : mkT kk nn F) (h : wfT s) (ho : s.1[o]? = some (C, m)) {f : Mem → Option β} : ((nwO (cMt μ J N s) kk nn).bind fun p => if p.1 = 0 then none else (init n p.1 p.2).bind fun q => (pA q.2 C (N + 1 + o) k p.1).bind f) = f (cMt μ J N (newT kk nn F o k s)) := by
  unfold cMt
  rw [r_nwO h]
  dsimp only
  have e := hE μ J N (objT kk nn s) s.1.length (t_O h) t_On
  have e' : init n (N + 1 + s.1.length) (cM μ J N (s.1 ++ [(kk, nn)]) s.2.1 s.2.2) = some ((), cMt μ J N (F s.1.length (objT kk nn s))) := e
  rw [if_neg (by omega), bnd e']
  dsimp only
  have g := (hT (objT kk nn s) s.1.length (t_O h) t_On).2.1 o _ (t_Og ho)
  unfold cMt
  rw [r_pA g]
  rfl
theorem look_ne {α : Type} {d : α} {l : List (Nat × Nat × α)} {e : Nat × Nat × α} {o j : Nat} (h : o ≠ e.1) : look d (e :: l) o j = look d l o j := if_neg (fun z => h z.1)
theorem look_nj {α : Type} {d : α} {l : List (Nat × Nat × α)} {e : Nat × Nat × α} {o j : Nat} (h : j ≠ e.2.1) : look d (e :: l) o j = look d l o j := if_neg (fun z => h z.2)
theorem look_at {α : Type} {d x : α} {l : List (Nat × Nat × α)} {o j : Nat} : look d ((o, j, x) :: l) o j = x := if_pos ⟨rfl, rfl⟩
theorem t_N {kk nn : Nat} {F : Nat → Ce → Ce} (hT : mkT kk nn F) (h : wfT s) {y : Nat × Nat} (ho : s.1[o]? = some y) : wfT (newT kk nn F o k s) ∧ (∀ (o' : Nat) (y : Nat × Nat), s.1[o']? = some y → (newT kk nn F o k s).1[o']? = some y) ∧ ∀ o1 k1 : Nat, o1 < s.1.length → ¬ (o1 = o ∧ k1 = k) → look 0 (newT kk nn F o k s).2.1 o1 k1 = look 0 s.2.1 o1 k1 := by
  obtain ⟨a, b, c⟩ := hT (objT kk nn s) s.1.length (t_O h) t_On
  refine ⟨t_A a (b o _ (t_Og ho)), fun o' y hy => b o' y (t_Og hy), fun o1 k1 h1 h2 => ?_⟩
  have : look 0 (newT kk nn F o k s).2.1 o1 k1 = look 0 (F s.1.length (objT kk nn s)).2.1 o1 k1 := if_neg h2
  rw [this, c o1 k1 (by show o1 < (s.1 ++ [(kk, nn)]).length; rw [List.length_append]; omega) (by omega)]
  rfl
def tapeT (o : Nat) (s : Ce) : Ce := fldT o 3 1 900 (putI o 2 (-1) (s))
theorem tape_k : mkT 9 9 tapeT := fun s o h ho => by
  have w0 := t_I (k := 2) (x := (-1)) h ho
  have w1 := t_F (k := 3) (t := 1) (x := 900) w0 ho
  have g1 := t_Fg (o := o) (k := 3) (t := 1) (x := 900) ho
  exact ⟨w1, fun o' y hy => t_Fg (hy), fun o1 k1 _ h1 => by
    unfold tapeT
    simp only [fldT, putI]
    rw [look_ne h1]⟩
theorem tape_e : mkE n 9 9 mX8_init tapeT := fun μ J N s o h ho => by
  unfold mX8_init
  rw [show ∀ {X : Option (Unit × Mem)}, inv (cMt μ J N s) 9 (N + 1 + o) X = X from fun {X} => r_inv ho]
  rw [q_pI (C := 9) ho]
  have w0 := t_I (k := 2) (x := (-1)) h ho
  have g0 : (putI o 2 (-1) _).1[o]? = some (9, 9) := ho
  rw [q_fld (C := 9) w0 g0 (by decide)]
  have w1 := t_F (k := 3) (t := 1) (x := (900 : Int).toNat) w0 g0
  have g1 := t_Fg (o := o) (k := 3) (t := 1) (x := (900 : Int).toNat) g0
  rfl
def landT (o : Nat) (s : Ce) : Ce := putI o 4 8 (putI o 3 5 (fldT o 17 2 32 (fldT o 16 0 32 (fldT o 15 0 32 (fldT o 14 2 16 (fldT o 13 0 16 (fldT o 12 0 16 (fldT o 11 0 10 (fldT o 10 0 10 (fldT o 9 0 10 (fldT o 8 0 10 (fldT o 7 0 10 (fldT o 6 0 10 (s))))))))))))))
theorem land_k : mkT 2 18 landT := fun s o h ho => by
  have w0 := t_F (k := 6) (t := 0) (x := 10) h ho
  have g0 := t_Fg (o := o) (k := 6) (t := 0) (x := 10) ho
  have w1 := t_F (k := 7) (t := 0) (x := 10) w0 g0
  have g1 := t_Fg (o := o) (k := 7) (t := 0) (x := 10) g0
  have w2 := t_F (k := 8) (t := 0) (x := 10) w1 g1
  have g2 := t_Fg (o := o) (k := 8) (t := 0) (x := 10) g1
  have w3 := t_F (k := 9) (t := 0) (x := 10) w2 g2
  have g3 := t_Fg (o := o) (k := 9) (t := 0) (x := 10) g2
  have w4 := t_F (k := 10) (t := 0) (x := 10) w3 g3
  have g4 := t_Fg (o := o) (k := 10) (t := 0) (x := 10) g3
  have w5 := t_F (k := 11) (t := 0) (x := 10) w4 g4
  have g5 := t_Fg (o := o) (k := 11) (t := 0) (x := 10) g4
  have w6 := t_F (k := 12) (t := 0) (x := 16) w5 g5
  have g6 := t_Fg (o := o) (k := 12) (t := 0) (x := 16) g5
  have w7 := t_F (k := 13) (t := 0) (x := 16) w6 g6
  have g7 := t_Fg (o := o) (k := 13) (t := 0) (x := 16) g6
  have w8 := t_F (k := 14) (t := 2) (x := 16) w7 g7
  have g8 := t_Fg (o := o) (k := 14) (t := 2) (x := 16) g7
  have w9 := t_F (k := 15) (t := 0) (x := 32) w8 g8
  have g9 := t_Fg (o := o) (k := 15) (t := 0) (x := 32) g8
  have w10 := t_F (k := 16) (t := 0) (x := 32) w9 g9
  have g10 := t_Fg (o := o) (k := 16) (t := 0) (x := 32) g9
  have w11 := t_F (k := 17) (t := 2) (x := 32) w10 g10
  have g11 := t_Fg (o := o) (k := 17) (t := 2) (x := 32) g10
  have w12 := t_I (k := 3) (x := 5) w11 g11
  have w13 := t_I (k := 4) (x := 8) w12 g11
  exact ⟨w13, fun o' y hy => t_Fg (o := o) (k := 17) (t := 2) (x := 32) (t_Fg (t_Fg (t_Fg (t_Fg (t_Fg (t_Fg (t_Fg (t_Fg (t_Fg (t_Fg (t_Fg (hy)))))))))))), fun o1 k1 _ h1 => by
    unfold landT
    simp only [fldT, putI]
    rw [look_ne h1, look_ne h1, look_ne h1, look_ne h1, look_ne h1, look_ne h1, look_ne h1, look_ne h1, look_ne h1, look_ne h1, look_ne h1, look_ne h1]⟩
theorem land_e : mkE n 2 18 mX1_init landT := fun μ J N s o h ho => by
  unfold mX1_init
  rw [show ∀ {X : Option (Unit × Mem)}, inv (cMt μ J N s) 2 (N + 1 + o) X = X from fun {X} => r_inv ho]
  rw [q_fld (C := 2) h ho (by decide)]
  have w0 := t_F (k := 6) (t := 0) (x := (10 : Int).toNat) h ho
  have g0 := t_Fg (o := o) (k := 6) (t := 0) (x := (10 : Int).toNat) ho
  rw [q_fld (C := 2) w0 g0 (by decide)]
  have w1 := t_F (k := 7) (t := 0) (x := (10 : Int).toNat) w0 g0
  have g1 := t_Fg (o := o) (k := 7) (t := 0) (x := (10 : Int).toNat) g0
  rw [q_fld (C := 2) w1 g1 (by decide)]
  have w2 := t_F (k := 8) (t := 0) (x := (10 : Int).toNat) w1 g1
  have g2 := t_Fg (o := o) (k := 8) (t := 0) (x := (10 : Int).toNat) g1
  rw [q_fld (C := 2) w2 g2 (by decide)]
  have w3 := t_F (k := 9) (t := 0) (x := (10 : Int).toNat) w2 g2
  have g3 := t_Fg (o := o) (k := 9) (t := 0) (x := (10 : Int).toNat) g2
  rw [q_fld (C := 2) w3 g3 (by decide)]
  have w4 := t_F (k := 10) (t := 0) (x := (10 : Int).toNat) w3 g3
  have g4 := t_Fg (o := o) (k := 10) (t := 0) (x := (10 : Int).toNat) g3
  rw [q_fld (C := 2) w4 g4 (by decide)]
  have w5 := t_F (k := 11) (t := 0) (x := (10 : Int).toNat) w4 g4
  have g5 := t_Fg (o := o) (k := 11) (t := 0) (x := (10 : Int).toNat) g4
  rw [q_fld (C := 2) w5 g5 (by decide)]
  have w6 := t_F (k := 12) (t := 0) (x := (16 : Int).toNat) w5 g5
  have g6 := t_Fg (o := o) (k := 12) (t := 0) (x := (16 : Int).toNat) g5
  rw [q_fld (C := 2) w6 g6 (by decide)]
  have w7 := t_F (k := 13) (t := 0) (x := (16 : Int).toNat) w6 g6
  have g7 := t_Fg (o := o) (k := 13) (t := 0) (x := (16 : Int).toNat) g6
  rw [q_fld (C := 2) w7 g7 (by decide)]
  have w8 := t_F (k := 14) (t := 2) (x := (16 : Int).toNat) w7 g7
  have g8 := t_Fg (o := o) (k := 14) (t := 2) (x := (16 : Int).toNat) g7
  rw [q_fld (C := 2) w8 g8 (by decide)]
  have w9 := t_F (k := 15) (t := 0) (x := (32 : Int).toNat) w8 g8
  have g9 := t_Fg (o := o) (k := 15) (t := 0) (x := (32 : Int).toNat) g8
  rw [q_fld (C := 2) w9 g9 (by decide)]
  have w10 := t_F (k := 16) (t := 0) (x := (32 : Int).toNat) w9 g9
  have g10 := t_Fg (o := o) (k := 16) (t := 0) (x := (32 : Int).toNat) g9
  rw [q_fld (C := 2) w10 g10 (by decide)]
  have w11 := t_F (k := 17) (t := 2) (x := (32 : Int).toNat) w10 g10
  have g11 := t_Fg (o := o) (k := 17) (t := 2) (x := (32 : Int).toNat) g10
  rw [q_pI (C := 2) g11]
  have w12 := t_I (k := 3) (x := 5) w11 g11
  have g12 := t_Ig (o := o) (k := 3) (x := 5) g11
  rw [q_pI (C := 2) g12]
  have w13 := t_I (k := 4) (x := 8) w12 g12
  rfl
def tallyT (o : Nat) (s : Ce) : Ce := fldT o 6 0 10 (s)
theorem tally_k : mkT 8 8 tallyT := fun s o h ho => by
  have w0 := t_F (k := 6) (t := 0) (x := 10) h ho
  have g0 := t_Fg (o := o) (k := 6) (t := 0) (x := 10) ho
  exact ⟨w0, fun o' y hy => t_Fg (hy), fun o1 k1 _ h1 => by
    unfold tallyT
    simp only [fldT, putI]
    rw [look_ne h1]⟩
theorem tally_e : mkE n 8 8 mX7_init tallyT := fun μ J N s o h ho => by
  unfold mX7_init
  rw [show ∀ {X : Option (Unit × Mem)}, inv (cMt μ J N s) 8 (N + 1 + o) X = X from fun {X} => r_inv ho]
  rw [q_fld (C := 8) h ho (by decide)]
  have w0 := t_F (k := 6) (t := 0) (x := (10 : Int).toNat) h ho
  have g0 := t_Fg (o := o) (k := 6) (t := 0) (x := (10 : Int).toNat) ho
  rfl
def tiesT (o : Nat) (s : Ce) : Ce := fldT o 0 0 10 (s)
theorem ties_k : mkT 10 2 tiesT := fun s o h ho => by
  have w0 := t_F (k := 0) (t := 0) (x := 10) h ho
  have g0 := t_Fg (o := o) (k := 0) (t := 0) (x := 10) ho
  exact ⟨w0, fun o' y hy => t_Fg (hy), fun o1 k1 _ h1 => by
    unfold tiesT
    simp only [fldT, putI]
    rw [look_ne h1]⟩
theorem ties_e : mkE n 10 2 mX9_init tiesT := fun μ J N s o h ho => by
  unfold mX9_init
  rw [show ∀ {X : Option (Unit × Mem)}, inv (cMt μ J N s) 10 (N + 1 + o) X = X from fun {X} => r_inv ho]
  rw [q_fld (C := 10) h ho (by decide)]
  have w0 := t_F (k := 0) (t := 0) (x := (10 : Int).toNat) h ho
  have g0 := t_Fg (o := o) (k := 0) (t := 0) (x := (10 : Int).toNat) ho
  rfl
def sightT (o : Nat) (s : Ce) : Ce := fldT o 3 0 10 (fldT o 2 2 64 (s))
theorem sight_k : mkT 6 4 sightT := fun s o h ho => by
  have w0 := t_F (k := 2) (t := 2) (x := 64) h ho
  have g0 := t_Fg (o := o) (k := 2) (t := 2) (x := 64) ho
  have w1 := t_F (k := 3) (t := 0) (x := 10) w0 g0
  have g1 := t_Fg (o := o) (k := 3) (t := 0) (x := 10) g0
  exact ⟨w1, fun o' y hy => t_Fg (t_Fg (hy)), fun o1 k1 _ h1 => by
    unfold sightT
    simp only [fldT, putI]
    rw [look_ne h1, look_ne h1]⟩
theorem sight_e : mkE n 6 4 mX5_init sightT := fun μ J N s o h ho => by
  unfold mX5_init
  rw [show ∀ {X : Option (Unit × Mem)}, inv (cMt μ J N s) 6 (N + 1 + o) X = X from fun {X} => r_inv ho]
  rw [q_fld (C := 6) h ho (by decide)]
  have w0 := t_F (k := 2) (t := 2) (x := (64 : Int).toNat) h ho
  have g0 := t_Fg (o := o) (k := 2) (t := 2) (x := (64 : Int).toNat) ho
  rw [q_fld (C := 6) w0 g0 (by decide)]
  have w1 := t_F (k := 3) (t := 0) (x := (10 : Int).toNat) w0 g0
  have g1 := t_Fg (o := o) (k := 3) (t := 0) (x := (10 : Int).toNat) g0
  rfl
def rowT (o : Nat) (s : Ce) : Ce := fldT o 2 3 60 (putI o 1 (-1) (s))
theorem row_k : mkT 4 3 rowT := fun s o h ho => by
  have w0 := t_I (k := 1) (x := (-1)) h ho
  have w1 := t_F (k := 2) (t := 3) (x := 60) w0 ho
  have g1 := t_Fg (o := o) (k := 2) (t := 3) (x := 60) ho
  exact ⟨w1, fun o' y hy => t_Fg (hy), fun o1 k1 _ h1 => by
    unfold rowT
    simp only [fldT, putI]
    rw [look_ne h1]⟩
theorem row_e : mkE n 4 3 mX3_init rowT := fun μ J N s o h ho => by
  unfold mX3_init
  rw [show ∀ {X : Option (Unit × Mem)}, inv (cMt μ J N s) 4 (N + 1 + o) X = X from fun {X} => r_inv ho]
  rw [q_pI (C := 4) ho]
  have w0 := t_I (k := 1) (x := (-1)) h ho
  have g0 : (putI o 1 (-1) _).1[o]? = some (4, 3) := ho
  rw [q_fld (C := 4) w0 g0 (by decide)]
  have w1 := t_F (k := 2) (t := 3) (x := (60 : Int).toNat) w0 g0
  have g1 := t_Fg (o := o) (k := 2) (t := 3) (x := (60 : Int).toNat) g0
  rfl
end CT
