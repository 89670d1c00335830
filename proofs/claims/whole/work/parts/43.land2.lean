/-! what a land tells: counts, sums, sets; copies of lands -/
section L2
variable {μ : Mem} {I : Nat → Nat → Int} {a n : Nat} {l : Ld}
def setB (s : Int) (r : Nat) : Int := oOr s (oShl 1 (r : Int))
def rbS (l : Ld) (h : Int) (r : Nat) (s : Int) : Int := if hgP l r h then setB s r else s
theorem ropeBits_eq (h : isL μ a) (hk : okL l) {b : Int} (hb : -2147483648 ≤ b ∧ b < 2147483648) (hn : 100 ≤ n) : mX1_ropeBits n a b (wi μ (wl I a l)) = some (itr (rbS l b) 0 (l 0 1).toNat 0, wi μ (wl I a l)) := by
  have hz := hk.1
  unfold mX1_ropeBits
  refine lp_run (fun k s => (s, (k : Int))) (fun _ _ => wi μ (wl I a l)) (rbS l b) (l 0 1).toNat (fun s => some (s, wi μ (wl I a l))) (fun _ _ => True) (fun k s nx hlt hi => ⟨trivial, ?_⟩) (fun s nx hi => ?_) (l 0 1).toNat 0 0 n (by omega) (by omega) trivial
  · simp (disch := omega) only [L_gI h, wl_0, Option.bind_some, lt32_iff, L_inv h, hangs_eq h hk (r := (k : Int)) ⟨by omega, by omega⟩ hb, eq32_bi]
    rw [if_pos (by omega)]
    unfold rbS setB
    by_cases c : hgP l k b
    · rw [if_neg (not_not_intro c), if_pos c]; rfl
    · rw [if_pos c, if_neg c]; rfl
  · simp (disch := omega) only [L_gI h, wl_0, Option.bind_some, lt32_iff]
    rw [if_neg (by omega)]
def ocS (l : Ld) (h : Int) (r : Nat) (s : Int) : Int := if hgP l r h ∧ l 9 r = 0 then s + 1 else s
def ocL (l : Ld) (h : Int) : Int := itr (ocS l h) 0 (l 0 1).toNat 0
theorem openCount_eq (h : isL μ a) (hk : okL l) {b : Int} (hb : -2147483648 ≤ b ∧ b < 2147483648) (hn : 100 ≤ n) : mX1_openCount n a b (wi μ (wl I a l)) = some (ocL l b, wi μ (wl I a l)) := by
  have hz := hk.1
  unfold mX1_openCount
  refine lp_run (fun k s => (s, (k : Int))) (fun _ _ => wi μ (wl I a l)) (ocS l b) (l 0 1).toNat (fun s => some (s, wi μ (wl I a l))) (fun _ _ => True) (fun k s nx hlt hi => ⟨trivial, ?_⟩) (fun s nx hi => ?_) (l 0 1).toNat 0 0 n (by omega) (by omega) trivial
  · simp (disch := omega) only [L_gI h, wl_0, Option.bind_some, lt32_iff, L_inv h, hangsOpen_eq h hk (r := (k : Int)) ⟨by omega, by omega⟩ hb, eq32_bi, Int.toNat_natCast]
    rw [if_pos (by omega)]
    unfold ocS
    by_cases c : hgP l k b ∧ l 9 k = 0
    · rw [if_neg (not_not_intro c), if_pos c]; rfl
    · rw [if_pos c, if_neg c]; rfl
  · simp (disch := omega) only [L_gI h, wl_0, Option.bind_some, lt32_iff]
    rw [if_neg (by omega)]
theorem had_eq (h : isL μ a) {i : Int} (h0 : 0 ≤ i) (h1 : i < 10) : mX1_had n a i (wi μ (wl I a l)) = some (l 5 i.toNat + l 6 i.toNat, wi μ (wl I a l)) := by
  unfold mX1_had
  simp (disch := omega) only [L_g10 h, L_g11 h, L_ld5 h, L_ld6 h, Option.bind_some, wl_at]
def smS (l : Ld) (k : Nat) (h : Nat) (s : Int) : Int := s + l k h
theorem allQuenched_eq (h : isL μ a) (hk : okL l) (hn : 100 ≤ n) : mX1_allQuenched n a (wi μ (wl I a l)) = some (itr (smS l 5) 0 (l 0 0).toNat 0, wi μ (wl I a l)) := by
  have hz := hk.1
  unfold mX1_allQuenched
  refine lp_run (fun k s => (s, (k : Int))) (fun _ _ => wi μ (wl I a l)) (smS l 5) (l 0 0).toNat (fun s => some (s, wi μ (wl I a l))) (fun _ _ => True) (fun k s nx hlt hi => ⟨trivial, ?_⟩) (fun s nx hi => ?_) (l 0 0).toNat 0 0 n (by omega) (by omega) trivial
  · simp (disch := omega) only [L_gI h, wl_0, Option.bind_some, lt32_iff, L_g10 h, L_ld5 h, wl_at, Int.toNat_natCast]
    rw [if_pos (by omega)]
    rfl
  · simp (disch := omega) only [L_gI h, wl_0, Option.bind_some, lt32_iff]
    rw [if_neg (by omega)]
theorem allStock_eq (h : isL μ a) (hk : okL l) (hn : 100 ≤ n) : mX1_allStock n a (wi μ (wl I a l)) = some (itr (smS l 3) 0 (l 0 0).toNat 0, wi μ (wl I a l)) := by
  have hz := hk.1
  unfold mX1_allStock
  refine lp_run (fun k s => (s, (k : Int))) (fun _ _ => wi μ (wl I a l)) (smS l 3) (l 0 0).toNat (fun s => some (s, wi μ (wl I a l))) (fun _ _ => True) (fun k s nx hlt hi => ⟨trivial, ?_⟩) (fun s nx hi => ?_) (l 0 0).toNat 0 0 n (by omega) (by omega) trivial
  · simp (disch := omega) only [L_gI h, wl_0, Option.bind_some, lt32_iff, L_g8 h, L_ld3 h, wl_at, Int.toNat_natCast]
    rw [if_pos (by omega)]
    rfl
  · simp (disch := omega) only [L_gI h, wl_0, Option.bind_some, lt32_iff]
    rw [if_neg (by omega)]
def fbS (l : Ld) (b : Nat) (s : Int) : Int := if l 12 b ≠ 0 ∧ l 9 (b / 2) = 0 then s + 1 else s
theorem fullBuckets_eq (h : isL μ a) (hk : okL l) (hn : 100 ≤ n) : mX1_fullBuckets n a (wi μ (wl I a l)) = some (itr (fbS l) 0 (2 * (l 0 1).toNat) 0, wi μ (wl I a l)) := by
  have hz := hk.1
  unfold mX1_fullBuckets
  refine lp_run (fun k s => (s, (k : Int))) (fun _ _ => wi μ (wl I a l)) (fbS l) (2 * (l 0 1).toNat) (fun s => some (s, wi μ (wl I a l))) (fun _ _ => True) (fun k s nx hlt hi => ⟨trivial, ?_⟩) (fun s nx hi => ?_) (2 * (l 0 1).toNat) 0 0 n (by omega) (by omega) trivial
  · have g := hk.2.2.2 k (by omega)
    have g2 := hk.2.2.1 (k / 2) (by omega)
    simp (disch := omega) only [L_gI h, wl_0, Option.bind_some, lt32_iff, L_g17 h, L_ld12 h, wl_at, Int.toNat_natCast, eq32_iff, L_g14 h, oDiv_of, L_ld9 h, tnd]
    rw [if_pos (by omega)]
    unfold fbS
    by_cases c1 : l 12 k = 0
    · rw [if_pos c1, if_neg (fun z => z.1 c1)]; rfl
    · rw [if_neg c1]
      by_cases c2 : l 9 (k / 2) = 0
      · rw [if_pos c2, if_pos ⟨c1, c2⟩]; rfl
      · rw [if_neg c2, if_neg (fun z => c2 z.2)]; rfl
  · simp (disch := omega) only [L_gI h, wl_0, Option.bind_some, lt32_iff]
    rw [if_neg (by omega)]
def rsS (l : Ld) (r : Nat) (s : Int) : Int := if l 9 r ≠ 0 ∨ dbL l r 0 0 = l 8 r then setB s r else s
def rsL (l : Ld) : Int := itr (rsS l) 0 (l 0 1).toNat 0
theorem restBits_eq (h : isL μ a) (hk : okL l) (hn : 100 ≤ n) : mX1_restBits n a (wi μ (wl I a l)) = some (rsL l, wi μ (wl I a l)) := by
  have hz := hk.1
  unfold mX1_restBits
  refine lp_run (fun k s => (s, (k : Int))) (fun _ _ => wi μ (wl I a l)) (rsS l) (l 0 1).toNat (fun s => some (s, wi μ (wl I a l))) (fun _ _ => True) (fun k s nx hlt hi => ⟨trivial, ?_⟩) (fun s nx hi => ?_) (l 0 1).toNat 0 0 n (by omega) (by omega) trivial
  · have hr : (k : Int) < l 0 1 := by omega
    have g2 := hk.2.2.1 k hr
    have g3 := db_range hk hr 0 0
    simp (disch := omega) only [L_gI h, wl_0, Option.bind_some, lt32_iff, L_g14 h, L_ld9 h, wl_at, Int.toNat_natCast, eq32_iff, jn, L_inv h, depthBehind_eq h hk hr (Or.inl rfl) (Or.inl rfl), L_g13 h, L_ld8 h]
    rw [if_pos (by omega)]
    unfold rsS setB
    by_cases c1 : l 9 k = 0
    · rw [if_pos c1]
      by_cases c2 : dbL l k 0 0 = l 8 k
      · rw [if_pos c2, if_pos (Or.inr c2)]; rfl
      · rw [if_neg c2, if_neg (fun z => z.elim (fun w => w c1) c2)]; rfl
    · rw [if_neg c1, if_pos (Or.inl c1)]; rfl
  · simp (disch := omega) only [L_gI h, wl_0, Option.bind_some, lt32_iff]
    rw [if_neg (by omega)]
/-! loops that may end early -/
def itx {σ τ : Type} (step : Nat → σ → σ ⊕ τ) (ex : σ → τ) : Nat → Nat → σ → τ
  | _, 0, s => ex s
  | k, d + 1, s => match step k s with
    | .inl s' => itx step ex (k + 1) d s'
    | .inr t => t
theorem lp_rux {α ρ σ : Type} {B : (α → Mem → Option (ρ × Mem)) → α → Mem → Option (ρ × Mem)} (e1 : Nat → σ → α) (e2 : Nat → σ → Mem) (step : Nat → σ → σ ⊕ Option (ρ × Mem)) (R : Nat) (ex : σ → Option (ρ × Mem)) (Inv : Nat → σ → Prop)
    (hs : ∀ (k : Nat) (s : σ) (nx : α → Mem → Option (ρ × Mem)), k < R → Inv k s → (∃ s', step k s = .inl s' ∧ Inv (k + 1) s' ∧ B nx (e1 k s) (e2 k s) = nx (e1 (k + 1) s') (e2 (k + 1) s')) ∨ (∃ t, step k s = .inr t ∧ B nx (e1 k s) (e2 k s) = t))
    (hx : ∀ (s : σ) (nx : α → Mem → Option (ρ × Mem)), Inv R s → B nx (e1 R s) (e2 R s) = ex s) : ∀ (d k : Nat) (s : σ) (n : Nat), k + d = R → d < n → Inv k s → lp B n (e1 k s) (e2 k s) = itx step ex k d s
  | d, k, s, 0, _, h, _ => absurd h (by omega)
  | 0, k, s, n + 1, e, _, hi => by
    have e : k = R := by omega
    subst e
    exact hx s (lp B n) hi
  | d + 1, k, s, n + 1, e, h, hi => by
    rcases hs k s (lp B n) (by omega) hi with ⟨s', h1, h2, h3⟩ | ⟨t, h1, h2⟩
    · show B (lp B n) (e1 k s) (e2 k s) = _
      rw [h3, itx, h1]
      exact lp_rux e1 e2 step R ex Inv hs hx d (k + 1) s' n (by omega) (by omega) h2
    · show B (lp B n) (e1 k s) (e2 k s) = _
      rw [h2, itx, h1]
/-- the nth of a house's ropes that aren't cut, from 1 on -/
def orS (l : Ld) (h nth : Int) (r : Nat) (s : Int) : Int ⊕ Int := if hgP l r h ∧ l 9 r = 0 then (if s + 1 = nth then .inr (r : Int) else .inl (s + 1)) else .inl s
def orL (l : Ld) (h nth : Int) : Int := itx (orS l h nth) (fun _ => -1) 0 (l 0 1).toNat 0
theorem itx_map {σ τ υ : Type} (f : τ → υ) {step : Nat → σ → σ ⊕ τ} {ex : σ → τ} : ∀ (d k : Nat) (s : σ), itx (fun k s => (step k s).elim Sum.inl (fun t => Sum.inr (f t))) (fun s => f (ex s)) k d s = f (itx step ex k d s)
  | 0, k, s => rfl
  | d + 1, k, s => by
    unfold itx
    cases h : step k s with
    | inl s' => exact itx_map f d (k + 1) s'
    | inr t => rfl
theorem openRope_eq (h : isL μ a) (hk : okL l) {b c : Int} (hb : -2147483648 ≤ b ∧ b < 2147483648) (hc : -2147483648 ≤ c ∧ c < 2147483648) (hn : 100 ≤ n) : mX1_openRope n a b c (wi μ (wl I a l)) = some (orL l b c, wi μ (wl I a l)) := by
  have hz := hk.1
  unfold mX1_openRope orL
  rw [← itx_map (fun t : Int => some (t, wi μ (wl I a l)))]
  refine lp_rux (fun k s => (s, (k : Int))) (fun _ _ => wi μ (wl I a l)) (fun k s => (orS l b c k s).elim Sum.inl (fun t => Sum.inr (some (t, wi μ (wl I a l))))) (l 0 1).toNat (fun _ => some (-1, wi μ (wl I a l))) (fun k s => 0 ≤ s ∧ s ≤ k) (fun k s nx hlt hi => ?_) (fun s nx hi => ?_) (l 0 1).toNat 0 0 n (by omega) (by omega) ⟨by omega, by omega⟩
  · simp (disch := omega) only [L_gI h, wl_0, Option.bind_some, lt32_iff, L_inv h, hangsOpen_eq h hk (r := (k : Int)) ⟨by omega, by omega⟩ hb, eq32_bi, Int.toNat_natCast, eq32_iff]
    rw [if_pos (by omega)]
    unfold orS
    by_cases c1 : hgP l k b ∧ l 9 k = 0
    · rw [if_neg (not_not_intro c1), if_pos c1]
      by_cases c2 : s + 1 = c
      · rw [if_pos c2, if_pos c2]
        exact Or.inr ⟨_, rfl, rfl⟩
      · rw [if_neg c2, if_neg c2]
        exact Or.inl ⟨s + 1, rfl, ⟨by omega, by omega⟩, rfl⟩
    · rw [if_pos c1, if_neg c1]
      exact Or.inl ⟨s, rfl, ⟨by omega, by omega⟩, rfl⟩
  · simp (disch := omega) only [L_gI h, wl_0, Option.bind_some, lt32_iff]
    rw [if_neg (by omega)]
/-! copies -/
def lnL (k : Nat) : Nat := if k = 0 then 6 else if k < 7 then 10 else if k < 10 then 16 else 32
/-- l' laid over l -/
def tkL (l l' : Ld) : Ld := fun k i => if i < lnL k then l' k i else l k i
def tmL (l l' : Ld) : Ld := fun k i => if (k = 0 ∧ i = 2) ∨ ((k = 3 ∨ k = 5 ∨ k = 6 ∨ k = 8 ∨ k = 12) ∧ i < lnL k) then l' k i else l k i
theorem wl_row {I : Nat → Nat → Int} {a : Nat} {l : Ld} {k : Nat} (h : k ≤ 12) : wl I a l (a + k) = l k := funext fun i => wl_at h i
theorem wl_up1 {I : Nat → Nat → Int} {a : Nat} {l : Ld} {k : Nat} {f : Nat → Int} (h : k ≤ 12) : up1 (wl I a l) (a + k) f = wl I a (up1 l k f) := by
  funext b
  unfold up1 wl
  by_cases e : b = a + k
  · rw [if_pos e]
    funext i
    rw [if_pos (by omega)]
    show f i = (if b - a = k then f else l (b - a)) i
    rw [if_pos (by omega)]
  · rw [if_neg e]
    funext i
    by_cases hb : a ≤ b ∧ b ≤ a + 12
    · rw [if_pos hb, if_pos hb]
      show _ = (if b - a = k then f else l (b - a)) i
      rw [if_neg (by omega)]
    · rw [if_neg hb, if_neg hb]
theorem up1_s {α : Type} {f : Nat → α} {a : Nat} {x : α} : up1 f a x a = x := if_pos rfl
theorem takeMoved_eq (h : isL μ a) {b : Nat} (hb : isL μ b) (hab : a + 12 < b ∨ b + 12 < a) {l' : Ld} (hl : ld I b = l') : mX1_takeMoved n a b (wi μ (wl I a l)) = some ((), wi μ (wl I a (tmL l l'))) := by
  have hout : ∀ (m : Ld) (k : Nat), k ≤ 12 → wl I a m (b + k) = l' k := fun m k hk => by
    rw [wl_out (by omega), ← hl]
    rfl
  have hout0 : ∀ (m : Ld), wl I a m b = l' 0 := fun m => hout m 0 (by omega)
  unfold mX1_takeMoved
  simp (disch := omega) only [L_gI hb, L_pI h, L_g8 h, L_g8 hb, L_g10 h, L_g10 hb, L_g11 h, L_g11 hb, L_g13 h, L_g13 hb, L_g17 h, L_g17 hb, Option.bind_some, e_cpI (t := 0) (L_s3 hb) (L_s3 h), e_cpI (t := 0) (L_s5 hb) (L_s5 h), e_cpI (t := 0) (L_s6 hb) (L_s6 h), e_cpI (t := 0) (L_s8 hb) (L_s8 h), e_cpI (t := 2) (L_s12 hb) (L_s12 h), hout, hout0, wl_row, wl_up0, wl_up1]
  refine congrArg (fun z => some ((), wi μ (wl I a z))) (funext fun k => funext fun i => ?_)
  by_cases k0 : k = 0
  · subst k0
    simp [up1, up2, va_cpy, tmL, lnL]
    split
    · rename_i e; rw [e]
    · rfl
  by_cases k3 : k = 3
  · subst k3; simp [up1, up2, va_cpy, tmL, lnL]
  by_cases k5 : k = 5
  · subst k5; simp [up1, up2, va_cpy, tmL, lnL]
  by_cases k6 : k = 6
  · subst k6; simp [up1, up2, va_cpy, tmL, lnL]
  by_cases k8 : k = 8
  · subst k8; simp [up1, up2, va_cpy, tmL, lnL]
  by_cases k12 : k = 12
  · subst k12; simp [up1, up2, va_cpy, tmL, lnL]
  simp [up1, up2, tmL, k0, k3, k5, k6, k8, k12]
theorem takeAll_eq (h : isL μ a) {b : Nat} (hb : isL μ b) (hab : a + 12 < b ∨ b + 12 < a) {l' : Ld} (hl : ld I b = l') : ∃ m : Ld, mX1_takeAll n a b (wi μ (wl I a l)) = some ((), wi μ (wl I a m)) ∧ ∀ k i : Nat, k ≤ 12 → i < lnL k → m k i = l' k i := by
  have hout : ∀ (m : Ld) (k : Nat), k ≤ 12 → wl I a m (b + k) = l' k := fun m k hk => by
    rw [wl_out (by omega), ← hl]
    rfl
  have hout0 : ∀ (m : Ld), wl I a m b = l' 0 := fun m => hout m 0 (by omega)
  unfold mX1_takeAll
  simp (disch := omega) only [L_gI hb, L_pI h, L_inv h, L_g6 h, L_g6 hb, L_g7 h, L_g7 hb, L_g9 h, L_g9 hb, L_g12 h, L_g12 hb, L_g14 h, L_g14 hb, L_g15 h, L_g15 hb, L_g16 h, L_g16 hb, Option.bind_some, e_cpI (t := 0) (L_s1 hb) (L_s1 h), e_cpI (t := 0) (L_s2 hb) (L_s2 h), e_cpI (t := 0) (L_s4 hb) (L_s4 h), e_cpI (t := 0) (L_s7 hb) (L_s7 h), e_cpI (t := 2) (L_s9 hb) (L_s9 h), e_cpI (t := 0) (L_s10 hb) (L_s10 h), e_cpI (t := 0) (L_s11 hb) (L_s11 h), hout, hout0, wl_row, wl_up0, wl_up1, takeMoved_eq h hb hab hl]
  refine ⟨_, rfl, fun k i hk hi => ?_⟩
  have hk13 : k = 0 ∨ k = 1 ∨ k = 2 ∨ k = 3 ∨ k = 4 ∨ k = 5 ∨ k = 6 ∨ k = 7 ∨ k = 8 ∨ k = 9 ∨ k = 10 ∨ k = 11 ∨ k = 12 := by omega
  rcases hk13 with rfl | rfl | rfl | rfl | rfl | rfl | rfl | rfl | rfl | rfl | rfl | rfl | rfl
  · have hi : i < 6 := hi
    have : i = 0 ∨ i = 1 ∨ i = 2 ∨ i = 3 ∨ i = 4 ∨ i = 5 := by omega
    rcases this with rfl | rfl | rfl | rfl | rfl | rfl <;> simp [up1, up2, va_cpy, tmL, lnL]
  all_goals
    simp [lnL] at hi
    simp [up1, up2, va_cpy, tmL, lnL, hi]
end L2
