/-! hours of the custom; hours of a drought -/
theorem oRem_range (x y : Int) : -2147483648 ≤ oRem x y ∧ oRem x y < 2147483648 := by
  unfold oRem
  have h1 := Int32.minValue_le_toInt (Int32.ofInt x - Int32.ofInt x / Int32.ofInt y * Int32.ofInt y)
  have h2 := Int32.toInt_lt (Int32.ofInt x - Int32.ofInt x / Int32.ofInt y * Int32.ofInt y)
  have e1 : Int32.minValue.toInt = -2147483648 := by decide
  omega
section TL3
variable {μ : Mem} {I : Nat → Nat → Int} {a t n : Nat} {l : Ld} {y p : Nat → Int}
abbrev Ts : Type := (Nat → Int) × (Nat → Int)
def inS (l : Ld) (h : Nat) (q : Ts) : Ts := if thL l h ∧ ftL l h ≠ -1 then (upA q.1 7 (q.1 7 + 1), upA q.2 h (ftL l h)) else q
def cuQ (l : Ld) (y p : Nat → Int) : Ts := itr (inS l) 0 (l 0 0).toNat (y, p)
def cuY (l : Ld) (q : Ts) : Nat → Int := upA q.1 5 (itr (cbS l q.2) 0 (l 0 1).toNat (q.1 5))
def enS (l : Ld) (y p : Nat → Int) : Ld × Ts := ((goL p l).1, yE y (goL p l).2, flR p 10 (-1))
def cuS (_ : Nat) (s : Ld × Ts) : Ld × Ts := enS s.1 (cuY s.1 (cuQ s.1 s.2.1 s.2.2)) (cuQ s.1 s.2.1 s.2.2).2
/-- what a tally's loops keep -/
def okT (s : Ld × Ts) : Prop := okL s.1 ∧ (-2147483648 ≤ s.1 0 2 ∧ s.1 0 2 < 2147483648) ∧ ∀ k : Nat, k < 10 → -1 ≤ s.2.2 k ∧ s.2.2 k < 16
theorem enS_ok (hk : okL l) (hh : -2147483648 ≤ l 0 2 ∧ l 0 2 < 2147483648) : okT (enS l y p) := by
  refine ⟨(goL_ok p hk).1, ?_, fun k hk => ?_⟩
  · show -2147483648 ≤ (goL p l).1 0 2 ∧ (goL p l).1 0 2 < 2147483648
    rw [goL_hr]
    split <;> omega
  · show -1 ≤ flR p 10 (-1) k ∧ flR p 10 (-1) k < 16
    rw [flR_lt hk]
    omega
theorem inS_ok (hk : okL l) {h : Nat} {q : Ts} (hq : ∀ k : Nat, k < 10 → -1 ≤ q.2 k ∧ q.2 k < 16) : ∀ k : Nat, k < 10 → -1 ≤ (inS l h q).2 k ∧ (inS l h q).2 k < 16 := by
  intro k hk10
  unfold inS
  split
  · show -1 ≤ upA q.2 h (ftL l h) k ∧ upA q.2 h (ftL l h) k < 16
    unfold upA
    split
    · exact ft_range hk h
    · exact hq k hk10
  · exact hq k hk10
theorem cuQ_ok (hk : okL l) (hp : ∀ k : Nat, k < 10 → -1 ≤ p k ∧ p k < 16) : ∀ k : Nat, k < 10 → -1 ≤ (cuQ l y p).2 k ∧ (cuQ l y p).2 k < 16 :=
  itr_inv (step := inS l) (P := fun _ (q : Ts) => ∀ k : Nat, k < 10 → -1 ≤ q.2 k ∧ q.2 k < 16) (l 0 0).toNat 0 (y, p) hp (fun j q _ _ hq => inS_ok hk hq)
theorem cuS_ok {k : Nat} {s : Ld × Ts} (h : okT s) : okT (cuS k s) := enS_ok h.1 h.2.1
theorem begin_ok (hk : okL l) (hh : -2147483648 ≤ l 0 2 ∧ l 0 2 < 2147483648) : okT (l, yB y, flR p 10 (-1)) := by
  refine ⟨hk, hh, fun k hk => ?_⟩
  show -1 ≤ flR p 10 (-1) k ∧ flR p 10 (-1) k < 16
  rw [flR_lt hk]
  omega
theorem tdoCustom (hL : isL μ a) (h : isTy μ t) (ha : t + 1 < a ∨ a + 12 < t) (hk : okL l) (hh : -2147483648 ≤ l 0 2 ∧ l 0 2 < 2147483648) {b : Int} (hb : 0 ≤ b ∧ b < 10000) (hn : 20000 ≤ n) {s : Ld × Ts} (hs : itr cuS 0 b.toNat (l, yB y, flR p 10 (-1)) = s) : mX7_doCustom n t a b (wi μ (wl (wT I t y p) a l)) = some ((), wi μ (wl (wT I t s.2.1 s.2.2) a s.1)) := by
  unfold mX7_doCustom
  rw [tinv h, tbegin h ha hn, Option.bind_some, ← hs]
  refine lp_run (fun k (_ : Ld × Ts) => (k : Int)) (fun _ (s : Ld × Ts) => wi μ (wl (wT I t s.2.1 s.2.2) a s.1)) cuS b.toNat (fun s => some ((), wi μ (wl (wT I t s.2.1 s.2.2) a s.1))) (fun _ s => okT s) (fun k s nx hlt hi => ⟨cuS_ok hi, ?_⟩) (fun s nx hi => ?_) b.toNat 0 (l, yB y, flR p 10 (-1)) n (by omega) (by omega) (begin_ok hk hh)
  · obtain ⟨l, y, p⟩ := s
    obtain ⟨ik, ih, ip⟩ := hi
    dsimp only at ik ih ip ⊢
    have hz := ik.1
    rw [if_pos (show lt32 (k : Int) b from (lt32_iff (by omega) (by omega) (by omega) (by omega)).mpr (by omega))]
    refine (lp_run (fun j (_ : Ts) => (j : Int)) (fun _ (q : Ts) => wi μ (wl (wT I t q.1 q.2) a l)) (inS l) (l 0 0).toNat (fun q => nx ((k : Int) + 1) (wi μ (wl (wT I t (enS l (cuY l q) q.2).2.1 (enS l (cuY l q) q.2).2.2) a (enS l (cuY l q) q.2).1))) (fun _ q => ∀ k : Nat, k < 10 → -1 ≤ q.2 k ∧ q.2 k < 16) (fun j q nx' hlt' hi' => ⟨inS_ok ik hi', ?_⟩) (fun q nx' hi' => ?_) (l 0 0).toNat 0 (y, p) n (by omega) (by omega) ip).trans rfl
    · obtain ⟨y, p⟩ := q
      dsimp only at hi' ⊢
      rw [L_gI hL, Option.bind_some, wl_0, if_pos (show lt32 (j : Int) (l 0 0) from (lt32_iff (by omega) (by omega) (by omega) (by omega)).mpr (by omega)), L_inv hL, thirstsNow_eq hL (by omega) (by omega), Option.bind_some]
      unfold jn inS
      dsimp only
      have hf := ft_range ik (j : Int)
      rw [Int.toNat_natCast]
      by_cases c1 : thL l j
      · rw [if_neg (fun z => (eq32_bi _).mp z c1), firstToLift_eq hL ik ⟨by omega, by omega⟩ (by omega), Option.bind_some]
        dsimp only
        by_cases c2 : ftL l j = -1
        · rw [if_pos ((eq32_iff (by omega) (by omega) (by omega) (by omega)).mpr c2), if_neg (fun z => z.2 c2)]
          rfl
        · rw [if_neg (fun z => c2 ((eq32_iff (by omega) (by omega) (by omega) (by omega)).mp z)), if_pos ⟨c1, c2⟩, tinv h, taddPull h ha (by omega) (by omega), Option.bind_some, Int.toNat_natCast]
          rfl
      · rw [if_pos ((eq32_bi _).mpr c1), if_pos ((eq32_iff (by omega) (by omega) (by omega) (by omega)).mpr rfl), if_neg (fun z => c1 z.1)]
        rfl
    · obtain ⟨y, p⟩ := q
      dsimp only at hi' ⊢
      have hp : ∀ k : Nat, k < 10 → -2147483648 ≤ p k ∧ p k < 2147483648 := fun k hk => by have := hi' k hk; omega
      rw [L_gI hL, Option.bind_some, wl_0, if_neg (show ¬ lt32 ((l 0 0).toNat : Int) (l 0 0) from fun z => absurd ((lt32_iff (by omega) (by omega) (by omega) (by omega)).mp z) (by omega)), tinv h, tcountBoth hL h ha ik hp (by omega), Option.bind_some, tinv h, tendHour hL h ha ik ih hp hn, Option.bind_some]
      rfl
  · rw [if_neg (show ¬ lt32 (b.toNat : Int) b from fun z => absurd ((lt32_iff (by omega) (by omega) (by omega) (by omega)).mp z) (by omega))]
/-! a drought -/
theorem oc_range (hk : okL l) (h : Int) : 0 ≤ ocL l h ∧ ocL l h ≤ 16 := by
  have hz := hk.1
  have := itr_inv (step := ocS l h) (P := fun k s => 0 ≤ s ∧ s ≤ (k : Int)) (l 0 1).toNat 0 0 ⟨by omega, by omega⟩ (fun j s _ _ hs => by
    unfold ocS
    split <;> omega)
  unfold ocL
  omega
theorem or_range (hk : okL l) (h nth : Int) : -1 ≤ orL l h nth ∧ orL l h nth < 16 := by
  have hz := hk.1
  have : ∀ (d k : Nat) (s : Int), k + d ≤ 16 → -1 ≤ itx (orS l h nth) (fun _ => -1) k d s ∧ itx (orS l h nth) (fun _ => -1) k d s < 16 := by
    intro d
    induction d with
    | zero => intro k s _; unfold itx; omega
    | succ d ih =>
      intro k s hd
      unfold itx
      unfold orS
      split
      · rename_i s' he
        exact ih (k + 1) s' (by omega)
      · rename_i t he
        split at he
        · split at he
          · cases he; omega
          · cases he
        · cases he
  exact this _ _ _ (by omega)
def nthL (l : Ld) (h x : Int) : Int := oRem (oUshr (1103515245 * x + 12345) 16) (ocL l h + 1)
def dhS (l : Ld) (h : Nat) (q : Int × Ts) : Int × Ts := if lt32 0 (nthL l h q.1) then (1103515245 * q.1 + 12345, upA q.2.1 7 (q.2.1 7 + 1), upA q.2.2 h (orL l h (nthL l h q.1))) else (1103515245 * q.1 + 12345, q.2)
def dhQ (l : Ld) (x : Int) (y p : Nat → Int) : Int × Ts := itr (dhS l) 0 (l 0 0).toNat (x, y, p)
def dhE (_ : Nat) (s : Int × Ld × Ts) : Int × Ld × Ts := ((dhQ s.2.1 s.1 s.2.2.1 s.2.2.2).1, enS s.2.1 (dhQ s.2.1 s.1 s.2.2.1 s.2.2.2).2.1 (dhQ s.2.1 s.1 s.2.2.1 s.2.2.2).2.2)
theorem dhS_ok (hk : okL l) {h : Nat} {q : Int × Ts} (hq : ∀ k : Nat, k < 10 → -1 ≤ q.2.2 k ∧ q.2.2 k < 16) : ∀ k : Nat, k < 10 → -1 ≤ (dhS l h q).2.2 k ∧ (dhS l h q).2.2 k < 16 := by
  intro k hk10
  unfold dhS
  split
  · show -1 ≤ upA q.2.2 h _ k ∧ upA q.2.2 h _ k < 16
    unfold upA
    split
    · exact or_range hk h _
    · exact hq k hk10
  · exact hq k hk10
theorem tdoDrawn (hL : isL μ a) (h : isTy μ t) (ha : t + 1 < a ∨ a + 12 < t) (hk : okL l) (hh : -2147483648 ≤ l 0 2 ∧ l 0 2 < 2147483648) {x b : Int} (hb : 0 ≤ b ∧ b < 10000) (hn : 20000 ≤ n) {s : Int × Ld × Ts} (hs : itr dhE 0 b.toNat (x, l, yB y, flR p 10 (-1)) = s) : mX7_doDrawn n t a x b (wi μ (wl (wT I t y p) a l)) = some ((), wi μ (wl (wT I t s.2.2.1 s.2.2.2) a s.2.1)) := by
  unfold mX7_doDrawn
  rw [tinv h, tbegin h ha hn, Option.bind_some, ← hs]
  refine lp_run (fun k (s : Int × Ld × Ts) => (s.1, (k : Int))) (fun _ (s : Int × Ld × Ts) => wi μ (wl (wT I t s.2.2.1 s.2.2.2) a s.2.1)) dhE b.toNat (fun s => some ((), wi μ (wl (wT I t s.2.2.1 s.2.2.2) a s.2.1))) (fun _ s => okT s.2) (fun k s nx hlt hi => ⟨enS_ok hi.1 hi.2.1, ?_⟩) (fun s nx hi => ?_) b.toNat 0 (x, l, yB y, flR p 10 (-1)) n (by omega) (by omega) (begin_ok hk hh)
  · obtain ⟨x, l, y, p⟩ := s
    obtain ⟨ik, ih, ip⟩ := hi
    dsimp only at ik ih ip ⊢
    have hz := ik.1
    rw [if_pos (show lt32 (k : Int) b from (lt32_iff (by omega) (by omega) (by omega) (by omega)).mpr (by omega))]
    refine (lp_run (fun j (q : Int × Ts) => (q.1, (j : Int))) (fun _ (q : Int × Ts) => wi μ (wl (wT I t q.2.1 q.2.2) a l)) (dhS l) (l 0 0).toNat (fun q => nx (q.1, (k : Int) + 1) (wi μ (wl (wT I t (enS l q.2.1 q.2.2).2.1 (enS l q.2.1 q.2.2).2.2) a (enS l q.2.1 q.2.2).1))) (fun _ q => ∀ k : Nat, k < 10 → -1 ≤ q.2.2 k ∧ q.2.2 k < 16) (fun j q nx' hlt' hi' => ⟨dhS_ok ik hi', ?_⟩) (fun q nx' hi' => ?_) (l 0 0).toNat 0 (x, y, p) n (by omega) (by omega) ip).trans rfl
    · obtain ⟨x, y, p⟩ := q
      dsimp only at hi' ⊢
      have ho := oc_range ik (j : Int)
      have hne : ¬ Int32.ofInt (ocL l (j : Int) + 1) = 0 := fun z => by
        have := (eq32_iff (x := ocL l (j : Int) + 1) (y := 0) (by omega) (by omega) (by omega) (by omega)).mp z
        omega
      rw [L_gI hL, Option.bind_some, wl_0, if_pos (show lt32 (j : Int) (l 0 0) from (lt32_iff (by omega) (by omega) (by omega) (by omega)).mpr (by omega)), L_inv hL, openCount_eq hL ik ⟨by omega, by omega⟩ (by omega), Option.bind_some]
      dsimp only
      rw [if_neg hne]
      unfold dhS
      dsimp only
      by_cases c : lt32 0 (nthL l j x)
      · rw [if_pos c, if_pos (show lt32 0 (oRem (oUshr ((1103515245 * x) + 12345) 16) (ocL l (j : Int) + 1)) from c), L_inv hL, openRope_eq hL ik ⟨by omega, by omega⟩ (oRem_range _ _) (by omega), Option.bind_some]
        dsimp only
        rw [tinv h, taddPull h ha (by omega) (by omega), Option.bind_some, Int.toNat_natCast]
        rfl
      · rw [if_neg c, if_neg (show ¬ lt32 0 (oRem (oUshr ((1103515245 * x) + 12345) 16) (ocL l (j : Int) + 1)) from c)]
        rfl
    · obtain ⟨x, y, p⟩ := q
      dsimp only at hi' ⊢
      have hp : ∀ k : Nat, k < 10 → -2147483648 ≤ p k ∧ p k < 2147483648 := fun k hk => by have := hi' k hk; omega
      rw [L_gI hL, Option.bind_some, wl_0, if_neg (show ¬ lt32 ((l 0 0).toNat : Int) (l 0 0) from fun z => absurd ((lt32_iff (by omega) (by omega) (by omega) (by omega)).mp z) (by omega)), tinv h, tendHour hL h ha ik ih hp hn, Option.bind_some]
      rfl
  · rw [if_neg (show ¬ lt32 (b.toNat : Int) b from fun z => absurd ((lt32_iff (by omega) (by omega) (by omega) (by omega)).mp z) (by omega))]
end TL3
