/-! makers of the class and of the reference -/
def mrf (L : Nat) : List (Nat × Nat × Nat) := [(L, 0, L + 2), (L, 1, L + 3), (L, 2, L + 4), (L, 3, L + 5), (L, 4, L + 6), (L, 5, L + 7), (L, 6, L + 8)]
def mulT (s : Ce) : Ce := (s.1 ++ (26, 7) :: List.replicate 7 (20, 7), mrf s.1.length ++ s.2.1, s.2.2)
def homesT (o : Nat) (s : Ce) : Ce := putA o 4 (fldT o 3 0 7 (fldT o 2 0 7 s)).1.length (mulT (fldT o 3 0 7 (fldT o 2 0 7 s)))
section CV
variable {μ : Mem} {J : Nat → Nat → Int} {N n : Nat} {s : Ce} {β : Type}
theorem mul_len : (mulT s).1.length = s.1.length + 8 := by
  show (s.1 ++ (26, 7) :: List.replicate 7 (20, 7)).length = _
  rw [List.length_append]
  rfl
theorem mrf_at {L j : Nat} {r : List (Nat × Nat × Nat)} (hj : j < 7) : look 0 (mrf L ++ r) L j = L + 2 + j := by
  have : j = 0 ∨ j = 1 ∨ j = 2 ∨ j = 3 ∨ j = 4 ∨ j = 5 ∨ j = 6 := by omega
  rcases this with rfl | rfl | rfl | rfl | rfl | rfl | rfl <;> simp [mrf, look]
theorem mrf_ne {L o j : Nat} {r : List (Nat × Nat × Nat)} (h : o ≠ L) : look 0 (mrf L ++ r) o j = look 0 r o j := by
  simp [mrf, look, h]
theorem mrf_nj {L j : Nat} {r : List (Nat × Nat × Nat)} (h : ¬ j < 7) : look 0 (mrf L ++ r) L j = look 0 r L j := by
  have : j ≠ 0 ∧ j ≠ 1 ∧ j ≠ 2 ∧ j ≠ 3 ∧ j ≠ 4 ∧ j ≠ 5 ∧ j ≠ 6 := by omega
  simp [mrf, look, this]
theorem rep_at {i : Nat} (h : i < 7) : (List.replicate 7 ((20, 7) : Nat × Nat))[i]? = some (20, 7) := by rw [List.getElem?_replicate, if_pos h]
theorem q_mul (h : wfT s) {f : Nat × Mem → Option β} : (nwM (cMt μ J N s) 7 7).bind f = f (N + 1 + s.1.length, cMt μ J N (mulT s)) := by
  have e0 : nwM (cMt μ J N s) 7 7 = some (mN (cMt μ J N s) + 1, nwMm (cMt μ J N s)) := if_pos ⟨rfl, rfl⟩
  have eN : mN (cMt μ J N s) = N + s.1.length := rfl
  have ml : (mulT s).1.length = s.1.length + 8 := mul_len
  have gl : ∀ i : Nat, (mulT s).1[i]? = if i < s.1.length then s.1[i]? else if i = s.1.length then some (26, 7) else if i < s.1.length + 8 then some (20, 7) else none := fun i => by
    show (s.1 ++ (26, 7) :: List.replicate 7 (20, 7))[i]? = _
    by_cases c : i < s.1.length
    · rw [if_pos c, List.getElem?_append_left c]
    · rw [if_neg c, List.getElem?_append_right (by omega)]
      by_cases c1 : i = s.1.length
      · rw [if_pos c1, c1, Nat.sub_self]; rfl
      · rw [if_neg c1, show i - s.1.length = (i - s.1.length - 1) + 1 by omega, List.getElem?_cons_succ]
        by_cases c2 : i < s.1.length + 8
        · rw [if_pos c2, rep_at (by omega)]
        · rw [if_neg c2, List.getElem?_eq_none (by rw [List.length_replicate]; omega)]
  have e1 : (fun a => if a = N + s.1.length + 1 then ((26, 7) : Nat × Nat) else if N + s.1.length + 1 < a ∧ a ≤ N + s.1.length + 8 then (20, 7) else cS μ N s.1 a) = cS μ N (mulT s).1 := funext fun a => by
    unfold cS
    by_cases c1 : a ≤ N
    · rw [if_pos c1, if_neg (by omega), if_neg (by omega), if_pos c1]
    · rw [if_neg c1, if_neg c1, gl]
      by_cases c : a = N + s.1.length + 1
      · rw [if_pos c, if_neg (by omega), if_pos (by omega)]; rfl
      · rw [if_neg c]
        by_cases c2 : N + s.1.length + 1 < a ∧ a ≤ N + s.1.length + 8
        · rw [if_pos c2, if_neg (by omega), if_neg (by omega), if_pos (by omega)]; rfl
        · rw [if_neg c2]
          by_cases c3 : a - N - 1 < s.1.length
          · rw [if_pos c3]
          · rw [if_neg c3, if_neg (by omega), if_neg (by omega), List.getElem?_eq_none (by omega)]
  have e2 : (fun a => if N + s.1.length + 1 ≤ a ∧ a ≤ N + s.1.length + 8 then (fun _ => (0 : Int)) else cI J N s.1 s.2.2 a) = cI J N (mulT s).1 s.2.2 := funext fun a => by
    unfold cI
    rw [ml]
    by_cases c1 : a ≤ N
    · rw [if_pos c1, if_neg (by omega), if_pos c1]
    · rw [if_neg c1, if_neg c1]
      by_cases c2 : N + s.1.length + 1 ≤ a ∧ a ≤ N + s.1.length + 8
      · rw [if_pos c2, if_pos (by omega)]
        funext j
        exact (look_no (fun e he => by have := h.2 e he; omega)).symm
      · rw [if_neg c2]
        by_cases c3 : a - N - 1 < s.1.length
        · rw [if_pos c3, if_pos (by omega)]
        · rw [if_neg c3, if_neg (by omega)]
  have e3 : (fun a => if a = N + s.1.length + 1 then (fun j => if j < 7 then N + s.1.length + 2 + j else 0) else if N + s.1.length + 1 < a ∧ a ≤ N + s.1.length + 8 then (fun _ => 0) else cA μ N s.1 s.2.1 a) = cA μ N (mulT s).1 (mulT s).2.1 := funext fun a => by
    unfold cA
    rw [ml]
    by_cases c1 : a ≤ N
    · rw [if_pos c1, if_neg (by omega), if_neg (by omega), if_pos c1]
    · rw [if_neg c1, if_neg c1]
      by_cases c : a = N + s.1.length + 1
      · rw [if_pos c, if_pos (by omega)]
        funext j
        have ea : a - N - 1 = s.1.length := by omega
        rw [ea]
        show _ = rl N (look 0 (mrf s.1.length ++ s.2.1) s.1.length j)
        by_cases cj : j < 7
        · rw [if_pos cj, mrf_at cj]
          rw [show s.1.length + 2 + j = s.1.length + 1 + j + 1 by omega]
          show _ = N + 1 + (s.1.length + 1 + j)
          omega
        · rw [if_neg cj, mrf_nj cj, look_no h.1]
          rfl
      · rw [if_neg c]
        by_cases c2 : N + s.1.length + 1 < a ∧ a ≤ N + s.1.length + 8
        · rw [if_pos c2, if_pos (by omega)]
          funext j
          show _ = rl N (look 0 (mrf s.1.length ++ s.2.1) (a - N - 1) j)
          rw [mrf_ne (by omega), look_no (fun e he => by have := h.1 e he; omega)]
          rfl
        · rw [if_neg c2]
          by_cases c3 : a - N - 1 < s.1.length
          · rw [if_pos c3, if_pos (by omega)]
            funext j
            show _ = rl N (look 0 (mrf s.1.length ++ s.2.1) (a - N - 1) j)
            rw [mrf_ne (by omega)]
          · rw [if_neg c3, if_neg (by omega)]
  have e4 : nwMm (cMt μ J N s) = cMt μ J N (mulT s) := by
    show ((fun a => if a = N + s.1.length + 1 then ((26, 7) : Nat × Nat) else if N + s.1.length + 1 < a ∧ a ≤ N + s.1.length + 8 then (20, 7) else cS μ N s.1 a), (fun a => if N + s.1.length + 1 ≤ a ∧ a ≤ N + s.1.length + 8 then (fun _ => (0 : Int)) else cI J N s.1 s.2.2 a), (fun a => if a = N + s.1.length + 1 then (fun j => if j < 7 then N + s.1.length + 2 + j else 0) else if N + s.1.length + 1 < a ∧ a ≤ N + s.1.length + 8 then (fun _ => 0) else cA μ N s.1 s.2.1 a), N + s.1.length + 8, mW μ + szL s.1 + 56) = cMt μ J N (mulT s)
    rw [e1, e2, e3]
    unfold cMt cM
    rw [ml, show szL (mulT s).1 = szL s.1 + 56 from szL_app]
    rfl
  rw [e4, eN] at e0
  rw [bnd e0, show N + s.1.length + 1 = N + 1 + s.1.length by omega]
theorem t_M (h : wfT s) : wfT (mulT s) ∧ ∀ (o' : Nat) (y : Nat × Nat), s.1[o']? = some y → (mulT s).1[o']? = some y := by
  refine ⟨⟨fun e he => ?_, fun e he => ?_⟩, fun o' y hy => get_app hy⟩
  · show e.1 < (mulT s).1.length
    rw [mul_len]
    rcases List.mem_append.mp he with w | w
    · simp only [mrf, List.mem_cons, List.not_mem_nil, or_false] at w
      rcases w with rfl | rfl | rfl | rfl | rfl | rfl | rfl <;> (dsimp only; omega)
    · have := h.1 e w; omega
  · show e.1 < (mulT s).1.length
    rw [mul_len]
    have := h.2 e he; omega
theorem homes_k : mkT 1 6 homesT := fun s o h ho => by
  have w1 := t_F (k := 2) (t := 0) (x := 7) h ho
  have g1 := t_Fg (o := o) (k := 2) (t := 0) (x := 7) ho
  have w2 := t_F (k := 3) (t := 0) (x := 7) w1 g1
  have g2 := t_Fg (o := o) (k := 3) (t := 0) (x := 7) g1
  obtain ⟨w3, g3⟩ := t_M w2
  refine ⟨t_A w3 (g3 o _ g2), fun o' y hy => g3 o' y (t_Fg (t_Fg hy)), fun o1 k1 h1 h2 => ?_⟩
  show look 0 ((o, 4, _) :: (mrf (fldT o 3 0 7 (fldT o 2 0 7 s)).1.length ++ ((o, 3, _) :: (o, 2, _) :: s.2.1))) o1 k1 = _
  rw [look_ne h2, mrf_ne (by rw [fld_len, fld_len]; omega), look_ne h2, look_ne h2]
theorem homes_e : mkE n 1 6 mX0_init homesT := fun μ J N s o h ho => by
  have w1 := t_F (k := 2) (t := 0) (x := (7 : Int).toNat) h ho
  have g1 := t_Fg (o := o) (k := 2) (t := 0) (x := (7 : Int).toNat) ho
  have w2 := t_F (k := 3) (t := 0) (x := (7 : Int).toNat) w1 g1
  have g2 := t_Fg (o := o) (k := 3) (t := 0) (x := (7 : Int).toNat) g1
  unfold mX0_init
  rw [show ∀ {X : Option (Unit × Mem)}, inv (cMt μ J N s) 1 (N + 1 + o) X = X from fun {X} => r_inv ho]
  rw [q_fld (C := 1) h ho (by decide), q_fld (C := 1) w1 g1 (by decide), q_mul w2]
  dsimp only
  have g3 := (t_M w2).2 o _ g2
  unfold cMt
  rw [r_pA g3]
  rfl
end CV
/-! the class, whole: the class's own cell is the first -/
def k0T : Ce := ([(11, 12)], [], [])
def k1T : Ce := newT 6 4 sightT 0 10 (newT 1 6 homesT 0 9 (newT 3 7 lonelyT 0 8 (newT 10 2 tiesT 0 7 (newT 8 8 tallyT 0 6 (fldT 0 5 5 4 (fldT 0 4 2 2 (fldT 0 3 4 2 (newT 2 18 landT 0 2 (newT 2 18 landT 0 1 (newT 9 9 tapeT 0 0 k0T))))))))))
def k2T : Ce := itr (newT 2 18 landT 29) 0 2 k1T
def k3T : Ce := itr (newT 4 3 rowT 31) 0 4 k2T
