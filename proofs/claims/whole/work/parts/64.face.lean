/-! the class at c: where its parts lie; the reference lies at c + 193 -/
def isC (μ : Mem) (c : Nat) : Prop := (mS μ c).1 = 11 ∧ (mA μ c 0 = c + 1 ∧ mA μ c 1 = c + 3 ∧ mA μ c 2 = c + 16 ∧ mA μ c 3 = c + 29 ∧ mA μ c 4 = c + 30 ∧ mA μ c 5 = c + 31 ∧ mA μ c 6 = c + 32 ∧ mA μ c 7 = c + 34 ∧ mA μ c 8 = c + 36 ∧ mA μ c 9 = c + 145 ∧ mA μ c 10 = c + 156) ∧
  (isL μ (c + 3) ∧ isL μ (c + 16)) ∧ (mS μ (c + 29) = (24, 2) ∧ mS μ (c + 30) = (22, 2) ∧ mS μ (c + 31) = (25, 4)) ∧ (∀ i : Nat, i < 2 → isL μ (c + 159 + 13 * i) ∧ mA μ (c + 29) i = c + 159 + 13 * i) ∧ (∀ i : Nat, i < 4 → isN μ (c + 185 + 2 * i) ∧ mA μ (c + 31) i = c + 185 + 2 * i) ∧ isTy μ (c + 32) ∧
  (mS μ (c + 1) = (9, 9) ∧ mA μ (c + 1) 3 = c + 2 ∧ mS μ (c + 2) = (21, 900)) ∧ (mS μ (c + 34) = (10, 2) ∧ mA μ (c + 34) 0 = c + 35 ∧ mS μ (c + 35) = (20, 10)) ∧
  (mS μ (c + 36) = (3, 7) ∧ mA μ (c + 36) 1 = c + 37 ∧ mA μ (c + 36) 2 = c + 38 ∧ mA μ (c + 36) 3 = c + 39 ∧ mA μ (c + 36) 4 = c + 40 ∧ mS μ (c + 37) = (20, 7) ∧ mS μ (c + 38) = (20, 7) ∧ mS μ (c + 39) = (24, 8) ∧ mS μ (c + 40) = (20, 10) ∧ ∀ i : Nat, i < 8 → isL μ (c + 41 + 13 * i) ∧ mA μ (c + 39) i = c + 41 + 13 * i) ∧
  (mS μ (c + 145) = (1, 6) ∧ mA μ (c + 145) 2 = c + 146 ∧ mA μ (c + 145) 3 = c + 147 ∧ mA μ (c + 145) 4 = c + 148 ∧ mS μ (c + 146) = (20, 7) ∧ mS μ (c + 147) = (20, 7) ∧ mS μ (c + 148) = (26, 7) ∧ ∀ i : Nat, i < 7 → mA μ (c + 148) i = c + 149 + i ∧ mS μ (c + 149 + i) = (20, 7)) ∧
  (mS μ (c + 156) = (6, 4) ∧ mA μ (c + 156) 2 = c + 157 ∧ mA μ (c + 156) 3 = c + 158 ∧ mS μ (c + 157) = (22, 64) ∧ mS μ (c + 158) = (20, 10))
theorem isC.k {μ : Mem} {c : Nat} (h : isC μ c) : (mS μ c).1 = 11 := h.1
theorem isC.here {μ : Mem} {c : Nat} (h : isC μ c) : isL μ (c + 3) := h.2.2.1.1
theorem isC.trial {μ : Mem} {c : Nat} (h : isC μ c) : isL μ (c + 16) := h.2.2.1.2
theorem isC.ty {μ : Mem} {c : Nat} (h : isC μ c) : isTy μ (c + 32) := h.2.2.2.2.2.2.1
theorem isC.tape {μ : Mem} {c : Nat} (h : isC μ c) : mS μ (c + 1) = (9, 9) ∧ mA μ (c + 1) 3 = c + 2 ∧ mS μ (c + 2) = (21, 900) := h.2.2.2.2.2.2.2.1
theorem C_g0 {μ : Mem} {I : Nat → Nat → Int} {c : Nat} (h : isC μ c) : gA (wi μ I) 11 c 0 = some (c + 1) := (e_gA h.k).trans (congrArg some h.2.1.1)
theorem C_g1 {μ : Mem} {I : Nat → Nat → Int} {c : Nat} (h : isC μ c) : gA (wi μ I) 11 c 1 = some (c + 3) := (e_gA h.k).trans (congrArg some h.2.1.2.1)
theorem C_g2 {μ : Mem} {I : Nat → Nat → Int} {c : Nat} (h : isC μ c) : gA (wi μ I) 11 c 2 = some (c + 16) := (e_gA h.k).trans (congrArg some h.2.1.2.2.1)
theorem C_g3 {μ : Mem} {I : Nat → Nat → Int} {c : Nat} (h : isC μ c) : gA (wi μ I) 11 c 3 = some (c + 29) := (e_gA h.k).trans (congrArg some h.2.1.2.2.2.1)
theorem C_g4 {μ : Mem} {I : Nat → Nat → Int} {c : Nat} (h : isC μ c) : gA (wi μ I) 11 c 4 = some (c + 30) := (e_gA h.k).trans (congrArg some h.2.1.2.2.2.2.1)
theorem C_g5 {μ : Mem} {I : Nat → Nat → Int} {c : Nat} (h : isC μ c) : gA (wi μ I) 11 c 5 = some (c + 31) := (e_gA h.k).trans (congrArg some h.2.1.2.2.2.2.2.1)
theorem C_g6 {μ : Mem} {I : Nat → Nat → Int} {c : Nat} (h : isC μ c) : gA (wi μ I) 11 c 6 = some (c + 32) := (e_gA h.k).trans (congrArg some h.2.1.2.2.2.2.2.2.1)
theorem C_inv {ρ : Type} {μ : Mem} {I : Nat → Nat → Int} {c : Nat} {f : Option ρ} (h : isC μ c) : inv (wi μ I) 11 c f = f := e_inv h.k
/-- cells that a call may leave as it likes: the trial land, the tally and the other helpers, and what is made later -/
def tmp (c b : Nat) : Prop := (c + 16 ≤ b ∧ b ≤ c + 28) ∨ (c + 32 ≤ b ∧ b ≤ c + 158) ∨ c + 215 ≤ b
/-- a call of the class that changes nothing that lasts -/
def CF (c : Nat) (I J : Nat → Nat → Int) : Prop := ∀ b : Nat, ¬ tmp c b → J b = I b
/-- .. nothing that lasts but the land -/
def CFh (c : Nat) (I J : Nat → Nat → Int) : Prop := ∀ b : Nat, ¬ tmp c b → ¬ (c + 3 ≤ b ∧ b ≤ c + 15) → J b = I b
theorem CF.rf (c : Nat) (I : Nat → Nat → Int) : CF c I I := fun _ _ => rfl
theorem CF.tr {c : Nat} {I J K : Nat → Nat → Int} (h1 : CF c I J) (h2 : CF c J K) : CF c I K := fun b h => (h2 b h).trans (h1 b h)
theorem CF.h {c : Nat} {I J : Nat → Nat → Int} (h1 : CF c I J) : CFh c I J := fun b h _ => h1 b h
theorem CF.ld {c a : Nat} {I J : Nat → Nat → Int} (h : CF c I J) (ha : ∀ k : Nat, k ≤ 12 → ¬ tmp c (a + k)) : ∀ k i : Nat, k ≤ 12 → ld J a k i = ld I a k i := fun k i hk => congrFun (h (a + k) (ha k hk)) i
/-- what the class's land and the reference's row have in common -/
def RLl (l : Ld) (A : Nat → Int) : Prop := okL l ∧ LR l A ∧ LRq l A ∧ 0 ≤ l 0 2 ∧ l 0 2 ≤ 9999 ∧ qnL l
section FC
variable {μ : Mem} {I : Nat → Nat → Int} {c n : Nat}
theorem wlwT_id (I : Nat → Nat → Int) (t a : Nat) : wl (wT I t (I t) (I (t + 1))) a (ld I a) = I := by rw [wT_id, wl_ld]
/-- the refusal of a number of hours -/
def crF (h b : Int) : Int := if b < 1 ∨ 99 < b then -3 else if 9999 < h + b then -5 else 0
theorem customRefusal_eq (h : isC μ c) (hh : 0 ≤ I (c + 3) 2 ∧ I (c + 3) 2 ≤ 9999) {b : Int} (hb : -2147483648 ≤ b ∧ b < 2147483648) : mX10_customRefusal n c b (wi μ I) = some (crF (I (c + 3) 2) b, wi μ I) := by
  unfold mX10_customRefusal crF
  by_cases c1 : b < 1
  · rw [if_pos ((lt32_iff (by omega) (by omega) (by omega) (by omega)).mpr c1), if_pos (Or.inl c1)]
  rw [if_neg (fun z => c1 ((lt32_iff (by omega) (by omega) (by omega) (by omega)).mp z))]
  by_cases c2 : 99 < b
  · rw [if_pos ((lt32_iff (by omega) (by omega) (by omega) (by omega)).mpr c2), if_pos (Or.inr c2)]
  rw [if_neg (fun z => c2 ((lt32_iff (by omega) (by omega) (by omega) (by omega)).mp z)), if_neg (by omega), C_g1 h, Option.bind_some, L_gI h.here, Option.bind_some]
  by_cases c3 : 9999 < I (c + 3) 2 + b
  · rw [if_pos ((lt32_iff (by omega) (by omega) (by omega) (by omega)).mpr c3), if_pos c3]
  · rw [if_neg (fun z => c3 ((lt32_iff (by omega) (by omega) (by omega) (by omega)).mp z)), if_neg c3]
/-- live: what it answers, and the land behind it -/
theorem live_eq (h : isC μ c) (hk : okL (ld I (c + 3))) (hh : 0 ≤ I (c + 3) 2 ∧ I (c + 3) 2 ≤ 9999) {b : Int} (hb : -2147483648 ≤ b ∧ b < 2147483648) (hn : 20000 ≤ n) : ∃ J : Nat → Nat → Int, CFh c I J ∧ mX10_live n c b (wi μ I) = some (if crF (I (c + 3) 2) b = 0 then (itr cuA 0 b.toNat (ld I (c + 3), 0, 0, 0)).2.1 else crF (I (c + 3) 2) b, wi μ J) ∧ ∀ k i : Nat, k ≤ 12 → J (c + 3 + k) i = (if crF (I (c + 3) 2) b = 0 then (itr cuA 0 b.toNat (ld I (c + 3), 0, 0, 0)).1 else ld I (c + 3)) k i := by
  unfold mX10_live
  rw [C_inv h, customRefusal_eq h hh hb, Option.bind_some]
  try dsimp only
  by_cases c0 : crF (I (c + 3) 2) b = 0
  · have hb1 : 1 ≤ b ∧ b ≤ 99 := by
      unfold crF at c0
      split at c0
      · omega
      · omega
    have hd := tdoCustom (n := n) (I := I) (t := c + 32) (a := c + 3) (y := I (c + 32)) (p := I (c + 32 + 1)) h.here h.ty (by omega) hk (l := ld I (c + 3)) (by show -2147483648 ≤ I (c + 3) 2 ∧ I (c + 3) 2 < 2147483648; omega) (b := b) (by omega) hn rfl
    have hr := cuS_run (l := ld I (c + 3)) (y := I (c + 32)) (p := I (c + 32 + 1)) hk (by show -2147483648 ≤ I (c + 3) 2 ∧ I (c + 3) 2 < 2147483648; omega) b.toNat
    rw [wlwT_id] at hd
    generalize itr cuS 0 b.toNat (ld I (c + 3), yB (I (c + 32)), flR (I (c + 32 + 1)) 10 (-1)) = s at hd hr
    generalize itr cuA 0 b.toNat (ld I (c + 3), 0, 0, 0) = u at hr ⊢
    obtain ⟨e1, e3, -⟩ := hr
    refine ⟨wl (wT I (c + 32) s.2.1 s.2.2) (c + 3) s.1, fun b hb1 hb2 => ?_, ?_, fun k i hk => ?_⟩
    · unfold tmp at hb1
      rw [wl_out (by omega), wT_o (by omega)]
    · rw [if_pos (show eq32 (crF (I (c + 3) 2) b) 0 by rw [c0]), if_pos c0, C_g6 h, Option.bind_some, C_g1 h, Option.bind_some, tinv h.ty, hd, Option.bind_some]
      try dsimp only
      rw [C_g6 h, Option.bind_some, tget h.ty (by omega), Option.bind_some, e3]
    · rw [if_pos c0, wl_at hk, e1]
  · have hne : ¬ eq32 (crF (I (c + 3) 2) b) 0 := fun z => by
      have hr : -5 ≤ crF (I (c + 3) 2) b ∧ crF (I (c + 3) 2) b ≤ 0 := by unfold crF; split; omega; split <;> omega
      exact c0 ((eq32_iff (by omega) (by omega) (by omega) (by omega)).mp z)
    refine ⟨I, fun _ _ _ => rfl, ?_, fun k i _ => ?_⟩
    · rw [if_neg hne, if_neg c0]
    · rw [if_neg c0]
      rfl
end FC
