/-! the tally at t: its fields y, its pulls p, in the row behind it -/
def isTy (μ : Mem) (t : Nat) : Prop := mS μ t = (8, 8) ∧ mA μ t 6 = t + 1 ∧ mS μ (t + 1) = (20, 10)
theorem isTy.k {μ : Mem} {t : Nat} (h : isTy μ t) : (mS μ t).1 = 8 := by rw [h.1]
def wT (I : Nat → Nat → Int) (t : Nat) (y p : Nat → Int) : Nat → Nat → Int := fun b => if b = t then y else if b = t + 1 then p else I b
theorem wT_y {I : Nat → Nat → Int} {t : Nat} {y p : Nat → Int} : wT I t y p t = y := if_pos rfl
theorem wT_p {I : Nat → Nat → Int} {t : Nat} {y p : Nat → Int} : wT I t y p (t + 1) = p := (if_neg (by omega)).trans (if_pos rfl)
theorem wT_o {I : Nat → Nat → Int} {t b : Nat} {y p : Nat → Int} (h : b ≠ t ∧ b ≠ t + 1) : wT I t y p b = I b := (if_neg h.1).trans (if_neg h.2)
theorem wT_id (I : Nat → Nat → Int) (t : Nat) : wT I t (I t) (I (t + 1)) = I := by
  funext b
  unfold wT
  split
  · rename_i e; rw [e]
  · split
    · rename_i e; rw [e]
    · rfl
theorem wT_uy {I : Nat → Nat → Int} {t k : Nat} {y p : Nat → Int} {x : Int} : up2 (wT I t y p) t k x = wT I t (upA y k x) p := by
  funext b j
  unfold up2 wT upA
  by_cases e : b = t
  · subst e
    rw [if_pos rfl, if_pos rfl]
    by_cases e2 : j = k
    · rw [if_pos ⟨rfl, e2⟩, if_pos e2]
    · rw [if_neg (fun z => e2 z.2), if_neg e2]
  · rw [if_neg (fun z => e z.1), if_neg e, if_neg e]
theorem wT_up {I : Nat → Nat → Int} {t k : Nat} {y p : Nat → Int} {x : Int} : up2 (wT I t y p) (t + 1) k x = wT I t y (upA p k x) := by
  funext b j
  unfold up2 wT upA
  by_cases e : b = t
  · subst e
    rw [if_pos rfl, if_pos rfl, if_neg (by omega)]
  · rw [if_neg e, if_neg e]
    by_cases e1 : b = t + 1
    · subst e1
      rw [if_pos rfl, if_pos rfl]
      by_cases e2 : j = k
      · rw [if_pos ⟨rfl, e2⟩, if_pos e2]
      · rw [if_neg (fun z => e2 z.2), if_neg e2]
    · rw [if_neg (fun z => e1 z.1), if_neg e1, if_neg e1]
theorem wl_upo {I : Nat → Nat → Int} {a b k : Nat} {l : Ld} {x : Int} (h : b < a ∨ a + 12 < b) : up2 (wl I a l) b k x = wl (up2 I b k x) a l := by
  funext c j
  unfold up2 wl
  by_cases hc : a ≤ c ∧ c ≤ a + 12
  · rw [if_pos hc, if_pos hc, if_neg (by omega)]
  · rw [if_neg hc, if_neg hc]
theorem up2_upo {I : Nat → Nat → Int} {a b : Nat} {l : Ld} {f : Nat → Int} (h : b < a ∨ a + 12 < b) : up1 (wl I a l) b f = wl (up1 I b f) a l := by
  funext c j
  unfold up1 wl
  by_cases hc : a ≤ c ∧ c ≤ a + 12
  · rw [if_pos hc, if_neg (by omega), if_pos hc]
  · rw [if_neg hc]
    show _ = (if c = b then f else I c) j
    by_cases e : c = b
    · rw [if_pos e, if_pos e]
    · rw [if_neg e, if_neg e, if_neg hc]
/-- a row filled with one number -/
def flR (f : Nat → Int) (d : Nat) (x : Int) : Nat → Int := fun i => if i < d then x else f i
theorem flR_s (f : Nat → Int) (d : Nat) (x : Int) : upA (flR f d x) d x = flR f (d + 1) x := by
  funext i
  unfold upA flR
  by_cases e : i = d
  · rw [if_pos e, if_pos (by omega)]
  · rw [if_neg e]
    by_cases h : i < d
    · rw [if_pos h, if_pos (by omega)]
    · rw [if_neg h, if_neg (by omega)]
theorem up2_up1 {I : Nat → Nat → Int} {b k : Nat} {f : Nat → Int} {x : Int} : up2 (up1 I b f) b k x = up1 I b (upA f k x) := by
  funext c j
  unfold up2 up1 upA
  by_cases e : c = b
  · subst e
    rw [if_pos rfl, if_pos rfl]
    by_cases e2 : j = k
    · rw [if_pos ⟨rfl, e2⟩, if_pos e2]
    · rw [if_neg (fun z => e2 z.2), if_neg e2]
  · rw [if_neg (fun z => e z.1), if_neg e, if_neg e]
theorem fill_run (f : Nat → Int) (x : Int) : ∀ (d k : Nat), itr (fun k g => upA g k x) k d (flR f k x) = flR f (k + d) x
  | 0, k => rfl
  | d + 1, k => by
    show itr _ (k + 1) d (upA (flR f k x) k x) = _
    rw [flR_s, fill_run f x d (k + 1), show k + 1 + d = k + (d + 1) by omega]
theorem jfill_eq {μ : Mem} {I : Nat → Nat → Int} {b L n : Nat} {x : Int} (h : mS μ b = (20, L)) (hL : L < 20000) (hn : 20000 ≤ n) : mJ7_fill_53178 n b x (wi μ I) = some ((), wi μ (up1 I b (flR (I b) L x))) := by
  unfold mJ7_fill_53178
  rw [e_alen (t := 0) h, Option.bind_some]
  have e0 : (fun i => if i < 0 then x else I b i) = I b := funext fun i => if_neg (by omega)
  have hr := lp_run (B := fun nx5 (v5 : Int) (μ5 : Mem) => if lt32 v5 (L : Int) then (stI μ5 0 b v5 x).bind fun μ13 => nx5 (v5 + 1) μ13 else some ((), μ5)) (fun k _ => (k : Int)) (fun _ (g : Nat → Int) => wi μ (up1 I b g)) (fun k g => upA g k x) L (fun g => some ((), wi μ (up1 I b g))) (fun _ _ => True) (fun k g nx hlt _ => ⟨trivial, ?_⟩) (fun g nx _ => ?_) L 0 (flR (I b) 0 x) n (by omega) (by omega) trivial
  · rw [fill_run, Nat.zero_add] at hr
    rw [← hr]
    have e1 : up1 I b (flR (I b) 0 x) = I := by
      rw [show flR (I b) 0 x = I b from e0]
      exact up1_id I b
    rw [e1]
    rfl
  · simp (disch := omega) only [lt32_iff, e_stI (t := 0) h, Option.bind_some, Int.toNat_natCast, up2_up1]
    rw [if_pos (by omega)]
    rfl
  · simp (disch := omega) only [lt32_iff]
    rw [if_neg (by omega)]
theorem lfill_eq {μ : Mem} {I : Nat → Nat → Int} {b L n : Nat} {x : Int} (h : mS μ b = (23, L)) (hL : L < 20000) (hn : 20000 ≤ n) : mJ7_fill_d0a16 n b x (wi μ I) = some ((), wi μ (up1 I b (flR (I b) L x))) := by
  unfold mJ7_fill_d0a16
  rw [e_alen (t := 3) h, Option.bind_some]
  have e0 : (fun i => if i < 0 then x else I b i) = I b := funext fun i => if_neg (by omega)
  have hr := lp_run (B := fun nx6 (v6 : Int) (μ6 : Mem) => if lt32 v6 (L : Int) then (stI μ6 3 b v6 x).bind fun μ15 => nx6 (v6 + 1) μ15 else some ((), μ6)) (fun k _ => (k : Int)) (fun _ (g : Nat → Int) => wi μ (up1 I b g)) (fun k g => upA g k x) L (fun g => some ((), wi μ (up1 I b g))) (fun _ _ => True) (fun k g nx hlt _ => ⟨trivial, ?_⟩) (fun g nx _ => ?_) L 0 (flR (I b) 0 x) n (by omega) (by omega) trivial
  · rw [fill_run, Nat.zero_add] at hr
    rw [← hr]
    have e1 : up1 I b (flR (I b) 0 x) = I := by
      rw [show flR (I b) 0 x = I b from e0]
      exact up1_id I b
    rw [e1]
    rfl
  · simp (disch := omega) only [lt32_iff, e_stI (t := 3) h, Option.bind_some, Int.toNat_natCast, up2_up1]
    rw [if_pos (by omega)]
    rfl
  · simp (disch := omega) only [lt32_iff]
    rw [if_neg (by omega)]
/-- an hour looks at the pulls of houses alone -/
theorem itr_cg {σ : Type} {f g : Nat → σ → σ} {P : Nat → σ → Prop} : ∀ (d k : Nat) (s : σ), P k s → (∀ j s, k ≤ j → j < k + d → P j s → f j s = g j s ∧ P (j + 1) (f j s)) → itr f k d s = itr g k d s
  | 0, k, s, _, _ => rfl
  | d + 1, k, s, h, hs => by
    obtain ⟨e1, e2⟩ := hs k s (Nat.le_refl _) (by omega) h
    show itr f (k + 1) d (f k s) = itr g (k + 1) d (g k s)
    rw [← e1]
    exact itr_cg (P := P) d (k + 1) (f k s) e2 (fun j s h1 h2 => hs j s (by omega) (by omega))
theorem mvL_cg {l : Ld} {p q : Nat → Int} (hk : okL l) (h : ∀ k : Nat, k < 10 → p k = q k) : mvL p l = mvL q l := by
  have hz := hk.1
  refine itr_cg (P := fun _ s => okL s ∧ fxL l s) _ _ _ ⟨hk, fxL.rf⟩ (fun j s _ hj hi => ?_)
  have e1 := hi.2.1 1 (by omega)
  have hr : (j : Int) < s 0 1 := by omega
  refine ⟨?_, mvS_ok _ hi.1 hr, hi.2.tr (mvS_fx _ _ _)⟩
  have hz' := hi.1.1
  have g1 := hi.1.2.2.2 (2 * j) (by omega)
  have g2 := hi.1.2.2.2 (2 * j + 1) (by omega)
  unfold mvS
  rw [h (s 10 (2 * j)).toNat (by omega), h (s 10 (2 * j + 1)).toNat (by omega)]
theorem goL_cg {l : Ld} {p q : Nat → Int} (hk : okL l) (h : ∀ k : Nat, k < 10 → p k = q k) : goL p l = goL q l := by
  unfold goL
  rw [mvL_cg hk h]
section TL
variable {μ : Mem} {I : Nat → Nat → Int} {a t n : Nat} {l : Ld} {y p : Nat → Int}
theorem clearPulls_eq (h : isTy μ t) (hn : 20000 ≤ n) : mX7_clearPulls n t (wi μ (wT I t y p)) = some ((), wi μ (wT I t (upA y 7 0) (flR p 10 (-1)))) := by
  have e : up1 (wT I t y p) (t + 1) (flR p 10 (-1)) = wT I t y (flR p 10 (-1)) := by
    funext b
    unfold up1 wT
    by_cases e : b = t + 1
    · rw [if_pos e, if_neg (by omega), if_pos e]
    · rw [if_neg e, if_neg e, if_neg e]
  unfold mX7_clearPulls
  rw [e_gA h.k, h.2.1, Option.bind_some, jfill_eq h.2.2 (by omega) hn, Option.bind_some, wT_p, e]
  rw [e_pI h.k, Option.bind_some, wT_uy]
theorem wlT (h : t + 1 < a ∨ a + 12 < t) : wl (wT I t y p) a l = wT (wl I a l) t y p := by
  funext c j
  unfold wl wT
  by_cases hc : a ≤ c ∧ c ≤ a + 12
  · rw [if_pos hc, if_neg (by omega), if_neg (by omega)]
    show l (c - a) j = if a ≤ c ∧ c ≤ a + 12 then l (c - a) j else I c j
    rw [if_pos hc]
  · rw [if_neg hc]
    by_cases e : c = t
    · rw [if_pos e, if_pos e]
    · rw [if_neg e, if_neg e]
      by_cases e1 : c = t + 1
      · rw [if_pos e1, if_pos e1]
      · rw [if_neg e1, if_neg e1]
        show I c j = if a ≤ c ∧ c ≤ a + 12 then l (c - a) j else I c j
        rw [if_neg hc]
theorem tclear (h : isTy μ t) (ha : t + 1 < a ∨ a + 12 < t) (hn : 20000 ≤ n) : mX7_clearPulls n t (wi μ (wl (wT I t y p) a l)) = some ((), wi μ (wl (wT I t (upA y 7 0) (flR p 10 (-1))) a l)) := by
  rw [wlT ha, clearPulls_eq h hn, wlT ha]
theorem tget (h : isTy μ t) (ha : t + 1 < a ∨ a + 12 < t) (k : Nat) : gI (wi μ (wl (wT I t y p) a l)) 8 t k = some (y k) := by
  rw [e_gI h.k, wl_out (by omega), wT_y]
theorem tput (h : isTy μ t) (ha : t + 1 < a ∨ a + 12 < t) (k : Nat) (x : Int) : pI (wi μ (wl (wT I t y p) a l)) 8 t k x = some (wi μ (wl (wT I t (upA y k x) p) a l)) := by
  rw [e_pI h.k, wl_upo (by omega), wT_uy]
theorem tinv {ρ : Type} {f : Option ρ} (h : isTy μ t) : inv (wi μ I) 8 t f = f := e_inv h.k
/-- the fields behind begin -/
def yB (y : Nat → Int) : Nat → Int := upA (upA (upA (upA (upA (upA (upA y 0 (-1)) 1 0) 2 0) 3 0) 4 0) 5 0) 7 0
theorem tbegin (h : isTy μ t) (ha : t + 1 < a ∨ a + 12 < t) (hn : 20000 ≤ n) : mX7_begin n t (wi μ (wl (wT I t y p) a l)) = some ((), wi μ (wl (wT I t (yB y) (flR p 10 (-1))) a l)) := by
  unfold mX7_begin
  simp only [tput h ha, Option.bind_some, tinv h, tclear h ha hn]
  rfl
theorem taddPull (h : isTy μ t) (ha : t + 1 < a ∨ a + 12 < t) {b x : Int} (h0 : 0 ≤ b) (h1 : b < 10) : mX7_addPull n t b x (wi μ (wl (wT I t y p) a l)) = some ((), wi μ (wl (wT I t (upA y 7 (y 7 + 1)) (upA p b.toNat x)) a l)) := by
  unfold mX7_addPull
  rw [e_gA h.k, h.2.1, Option.bind_some, e_stI (t := 0) h.2.2 h0 (by omega) (by omega), Option.bind_some, wl_upo (by omega), wT_up, tget h ha, Option.bind_some, tput h ha, Option.bind_some]
/-- the fields behind an hour in which d were drunk -/
def yE (y : Nat → Int) (d : Int) : Nat → Int := upA (upA (upA (upA y 3 (y 3 + d)) 2 (y 2 + 1)) 4 (y 4 + y 7)) 7 0
theorem tendHour (hL : isL μ a) (h : isTy μ t) (ha : t + 1 < a ∨ a + 12 < t) (hk : okL l) (hh : -2147483648 ≤ l 0 2 ∧ l 0 2 < 2147483648) (hp : ∀ k : Nat, k < 10 → -2147483648 ≤ p k ∧ p k < 2147483648) (hn : 20000 ≤ n) : mX7_endHour n t a (wi μ (wl (wT I t y p) a l)) = some ((), wi μ (wl (wT I t (yE y (goL p l).2) (flR p 10 (-1))) a (goL p l).1)) := by
  have hg := goOn_eq (n := n) (I := wT I t y p) hL hk hh (p := t + 1) h.2.2 (by omega) (by rw [wT_p]; exact hp) (by omega)
  rw [wT_p] at hg
  unfold mX7_endHour
  rw [tget h ha, Option.bind_some, e_gA h.k, h.2.1, Option.bind_some, L_inv hL, hg, Option.bind_some]
  simp only [tput h ha, tget h ha, Option.bind_some, tinv h, tclear h ha hn]
  rfl
/-- the pulls of an hour in which one house alone pulls, or none -/
def oneP (l : Ld) (h r : Int) : Nat → Int := if 0 ≤ h ∧ h < l 0 0 then upA (fun _ => -1) h.toNat r else fun _ => -1
theorem flR_lt {f : Nat → Int} {d i : Nat} {x : Int} (h : i < d) : flR f d x i = x := if_pos h
theorem tdoHour (hL : isL μ a) (h : isTy μ t) (ha : t + 1 < a ∨ a + 12 < t) (hk : okL l) (hh : -2147483648 ≤ l 0 2 ∧ l 0 2 < 2147483648) {b x : Int} (hb : -2147483648 ≤ b ∧ b < 2147483648) (hx : -2147483648 ≤ x ∧ x < 2147483648) (hn : 20000 ≤ n) : ∃ y' p' : Nat → Int, mX7_doHour n t a b x (wi μ (wl (wT I t y p) a l)) = some ((), wi μ (wl (wT I t y' p') a (goL (oneP l b x) l).1)) ∧ y' 3 = (goL (oneP l b x) l).2 := by
  have hz := hk.1
  unfold mX7_doHour jn
  rw [tinv h, tbegin h ha hn, Option.bind_some, L_inv hL, hasHouse_eq hL hk hb, Option.bind_some]
  by_cases c : 0 ≤ b ∧ b < l 0 0
  · have hc : goL (upA (flR p 10 (-1)) b.toNat x) l = goL (oneP l b x) l := goL_cg hk fun k hk10 => by
      unfold oneP upA
      rw [if_pos c, flR_lt hk10]
    dsimp only
    rw [if_neg (show ¬ eq32 (bi (0 ≤ b ∧ b < l 0 0)) 0 from fun z => (eq32_bi _).mp z c), tinv h, taddPull h ha (by omega) (by omega), Option.bind_some, tinv h, tendHour hL h ha hk hh (fun k hk10 => ?_) hn, Option.bind_some, hc]
    · exact ⟨_, _, rfl, by simp [yE, yB, upA]⟩
    · unfold upA
      split
      · exact hx
      · rw [flR_lt hk10]; omega
  · have hc : goL (flR p 10 (-1)) l = goL (oneP l b x) l := goL_cg hk fun k hk10 => by
      unfold oneP
      rw [if_neg c, flR_lt hk10]
    dsimp only
    rw [if_pos (show eq32 (bi (0 ≤ b ∧ b < l 0 0)) 0 from (eq32_bi _).mpr c), tinv h, tendHour hL h ha hk hh (fun k hk10 => ?_) hn, Option.bind_some, hc]
    · exact ⟨_, _, rfl, by simp [yE, yB, upA]⟩
    · rw [flR_lt hk10]; omega
end TL
