def upA (A : Nat → Int) (k : Nat) (x : Int) : Nat → Int := fun j => if j = k then x else A j
theorem upA_s {A : Nat → Int} {k : Nat} {x : Int} : upA A k x k = x := if_pos rfl
theorem upA_n {A : Nat → Int} {k j : Nat} {x : Int} (h : j ≠ k) : upA A k x j = A j := if_neg h
theorem up1_id (s : Ld) (k : Nat) : up1 s k (s k) = s := by
  funext b
  unfold up1
  split
  · rename_i e; rw [e]
  · rfl
theorem up21 (s : Ld) (c : Nat) (A : Nat → Int) (k : Nat) (x : Int) : up2 (up1 s c A) c k x = up1 s c (upA A k x) := by
  funext b j
  unfold up2 up1 upA
  by_cases e : b = c
  · subst e
    rw [if_pos rfl, if_pos rfl]
    by_cases e2 : j = k
    · rw [if_pos ⟨rfl, e2⟩, if_pos e2]
    · rw [if_neg (fun z => e2 z.2), if_neg e2]
  · rw [if_neg (fun z => e z.1), if_neg e, if_neg e]
section LRs
variable {l : Ld} {A : Nat → Int}
theorem LR.dep (h : LR l A) (hk : okL l) {r : Nat} (hr : (r : Int) < l 0 1) (x : Int) : LR (up2 l 8 r x) (upA A (124 + r) x) := by
  have hz := hk.1
  obtain ⟨h0, h1, h2⟩ := h
  refine ⟨?_, fun q hq => ?_, fun q hq => ?_⟩
  · simp (disch := omega) only [upA_n, up2_n]; exact h0
  · simp (disch := omega) only [up2_n] at hq
    simp (disch := omega) only [upA_n, up2_n]; exact h1 q hq
  · simp (disch := omega) only [up2_n] at hq
    have g := h2 q hq
    by_cases e : q = r
    · subst e
      simp (disch := omega) only [upA_s, up2_s, upA_n, up2_n, true_and]
      exact ⟨g.1, g.2.1, g.2.2.1, g.2.2.2.2⟩
    · simp (disch := omega) only [upA_n, up2_n]; exact g
theorem LR.ful (h : LR l A) (hk : okL l) {b : Nat} (hb : (b : Int) < 2 * l 0 1) (x : Int) : LR (up2 l 12 b x) (upA A (172 + 16 * (b % 2) + b / 2) x) := by
  have hz := hk.1
  obtain ⟨h0, h1, h2⟩ := h
  refine ⟨?_, fun q hq => ?_, fun q hq => ?_⟩
  · simp (disch := omega) only [upA_n, up2_n]; exact h0
  · simp (disch := omega) only [up2_n] at hq
    simp (disch := omega) only [upA_n, up2_n]; exact h1 q hq
  · simp (disch := omega) only [up2_n] at hq
    have g := h2 q hq
    by_cases e : q = b / 2
    · subst e
      rcases Nat.mod_two_eq_zero_or_one b with c | c
      · rw [c]
        have e2 : 2 * (b / 2) = b := by omega
        rw [show 172 + 16 * 0 + b / 2 = 172 + b / 2 by omega]
        simp (disch := omega) only [upA_n, upA_s, up2_n]
        refine ⟨g.1, g.2.1, g.2.2.1, g.2.2.2.1, g.2.2.2.2.1, g.2.2.2.2.2.1, ?_, g.2.2.2.2.2.2.2.1, g.2.2.2.2.2.2.2.2⟩
        rw [e2, up2_s]
      · rw [c]
        have e2 : 2 * (b / 2) + 1 = b := by omega
        rw [show 172 + 16 * 1 + b / 2 = 188 + b / 2 by omega]
        simp (disch := omega) only [upA_n, upA_s, up2_n]
        refine ⟨g.1, g.2.1, g.2.2.1, g.2.2.2.1, g.2.2.2.2.1, g.2.2.2.2.2.1, g.2.2.2.2.2.2.1, ?_, g.2.2.2.2.2.2.2.2⟩
        rw [e2, up2_s]
    · simp (disch := omega) only [upA_n, up2_n]; exact g
theorem LR.stk (h : LR l A) (hk : okL l) {q : Nat} (hq : (q : Int) < l 0 0) (x : Int) : LR (up2 l 3 q x) (upA A (26 + q) x) := by
  have hz := hk.1
  obtain ⟨h0, h1, h2⟩ := h
  refine ⟨?_, fun p hp => ?_, fun p hp => ?_⟩
  · simp (disch := omega) only [upA_n, up2_n]; exact h0
  · simp (disch := omega) only [up2_n] at hp
    have g := h1 p hp
    by_cases e : p = q
    · subst e
      simp (disch := omega) only [upA_s, up2_s, upA_n, up2_n, true_and]
      exact ⟨g.1, g.2.1, g.2.2.2⟩
    · simp (disch := omega) only [upA_n, up2_n]; exact g
  · simp (disch := omega) only [up2_n] at hp
    simp (disch := omega) only [upA_n, up2_n]; exact h2 p hp
/-- one more is drunk at q: k 5 quenched or 6 wasted there, c 56 or 66 here -/
theorem LR.drk (h : LR l A) (hk : okL l) {q k c : Nat} (hq : (q : Int) < l 0 0) (hkk : k = 5 ∨ k = 6) (hc : c = 56 ∨ c = 66) (y : Int) : LR (up2 l k q (l k q + 1)) (upA (upA A (46 + q) (A (46 + q) + 1)) (c + q) y) := by
  have hz := hk.1
  obtain ⟨h0, h1, h2⟩ := h
  refine ⟨?_, fun p hp => ?_, fun p hp => ?_⟩
  · simp (disch := omega) only [upA_n, up2_n]; exact h0
  · simp (disch := omega) only [up2_n] at hp
    have g := h1 p hp
    by_cases e : p = q
    · subst e
      simp (disch := omega) only [upA_s, upA_n, up2_n]
      rcases hkk with rfl | rfl
      · simp (disch := omega) only [up2_s, up2_n]; omega
      · simp (disch := omega) only [up2_s, up2_n]; omega
    · simp (disch := omega) only [upA_n, up2_n]; exact g
  · simp (disch := omega) only [up2_n] at hp
    simp (disch := omega) only [upA_n, up2_n]; exact h2 p hp
theorem LR.hour (h : LR l A) (x y : Int) : LR (up2 l 0 2 x) (upA A 2 y) := by
  obtain ⟨h0, h1, h2⟩ := h
  refine ⟨?_, fun p hp => ?_, fun p hp => ?_⟩
  · simp (disch := omega) only [upA_n, up2_n]; exact h0
  · simp (disch := omega) only [up2_n] at hp
    simp (disch := omega) only [upA_n, up2_n]; exact h1 p hp
  · simp (disch := omega) only [up2_n] at hp
    simp (disch := omega) only [upA_n, up2_n]; exact h2 p hp
theorem LR.hourA (h : LR l A) (y : Int) : LR l (upA A 2 y) := by
  obtain ⟨h0, h1, h2⟩ := h
  refine ⟨?_, fun p hp => ?_, fun p hp => ?_⟩
  · simp (disch := omega) only [upA_n]; exact h0
  · simp (disch := omega) only [upA_n]; exact h1 p hp
  · simp (disch := omega) only [upA_n]; exact h2 p hp
end LRs
section MG
variable {μ : Mem} {I : Nat → Nat → Int} {m n : Nat} {s l : Ld}
theorem mthirsts_eq (h : isM μ m) {q : Int} (h0 : 0 ≤ q) (h1 : q < 10) : mX11_thirsts n m q (wi μ (wm I m s)) = some (bi (eq32 (oAnd (oShr (s 1 (36 + q).toNat) (oRem (s 1 2) 12)) 1) 1), wi μ (wm I m s)) := by
  unfold mX11_thirsts
  simp (disch := omega) only [M_g1 h, M_ld1 h, Option.bind_some, wm_at, show (2 : Int).toNat = 2 from rfl]
  split
  · rename_i c; rw [bi_t c]; rfl
  · rename_i c; rw [bi_f c]; rfl
theorem nobody_eq (h : isM μ m) (hn : 100 ≤ n) : ∃ p : Nat → Int, (∀ k : Nat, k < 10 → p k = -1) ∧ mX11_nobody n m (wi μ (wm I m s)) = some ((), wi μ (wm I m (up1 s 5 p))) := by
  unfold mX11_nobody
  have hr := lp_run (B := fun nx2 (v2 : Int) (μ2 : Mem) => if lt32 v2 10 then (gA μ2 12 m 15).bind fun x9 => (stI μ2 0 x9 v2 (-1)).bind fun μ14 => nx2 (v2 + 1) μ14 else some ((), μ2)) (fun k _ => (k : Int)) (fun _ (p : Nat → Int) => wi μ (wm I m (up1 s 5 p))) (fun k p => upA p k (-1)) 10 (fun p => some ((), wi μ (wm I m (up1 s 5 p)))) (fun _ _ => True) (fun k p nx hlt _ => ⟨trivial, ?_⟩) (fun p nx _ => ?_) 10 0 (s 5) n (by omega) (by omega) trivial
  · rw [up1_id] at hr
    refine ⟨_, fun k hk => ?_, hr⟩
    have : ∀ (d j : Nat) (p : Nat → Int), (∀ k, k < j → p k = -1) → ∀ k, k < j + d → itr (fun k p => upA p k (-1)) j d p k = -1 := by
      intro d
      induction d with
      | zero => intro j p hp k hk; exact hp k hk
      | succ d ih =>
        intro j p hp k hk
        refine ih (j + 1) _ (fun i hi => ?_) k (by omega)
        show upA p j (-1) i = -1
        by_cases e : i = j
        · rw [e, upA_s]
        · rw [upA_n e]; exact hp i (by omega)
    exact this 10 0 (s 5) (fun k hk => absurd hk (by omega)) k (by omega)
  · simp (disch := omega) only [lt32_iff, M_g15 h, M_st5 h, Option.bind_some, wm_up, Int.toNat_natCast, up21]
    rw [if_pos (by omega)]
    rfl
  · simp (disch := omega) only [lt32_iff]
    rw [if_neg (by omega)]
end MG
