/-! the reference's counts of a house's ropes -/
section HG
variable {μ : Mem} {I : Nat → Nat → Int} {m n : Nat} {s l : Ld}
theorem hg_end {l : Ld} {b k : Nat} (hb : (b : Int) < l 0 0) (hr : (k : Int) < l 0 1) : hgP l k b ↔ (l 10 (2 * k) = b ∨ l 10 (2 * k + 1) = b) := by
  refine ⟨fun z => ?_, fun z => ⟨⟨by omega, hb⟩, ⟨by omega, hr⟩, ?_⟩⟩
  · have := z.2.2
    rw [tn2, tn3] at this
    exact this
  · rw [tn2, tn3]; exact z
theorem hanging_eq (h : isM μ m) (hl : LR l (s 1)) (hk : okL l) {b : Nat} (hb : (b : Int) < l 0 0) (hn : 100 ≤ n) : mX11_hanging n m (b : Int) (wi μ (wm I m s)) = some (ocL l b, wi μ (wm I m s)) := by
  have hz := hk.1
  have a1 : ldI (wi μ (wm I m s)) 0 (m + 1) 1 = some (l 0 1) := by rw [M_ld1 h (by omega) (by omega), wm_at (by omega)]; exact congrArg some hl.1.2.1
  unfold mX11_hanging ocL
  refine lp_run (fun k (x : Int) => (x, (k : Int))) (fun _ _ => wi μ (wm I m s)) (ocS l b) (l 0 1).toNat (fun x => some (x, wi μ (wm I m s))) (fun _ _ => True) (fun k x nx hlt hi => ⟨trivial, ?_⟩) (fun x nx hi => ?_) (l 0 1).toNat 0 0 n (by omega) (by omega) trivial
  · have hr : (k : Int) < l 0 1 := by omega
    have he := isEnd_eq (n := n) (I := I) (s := s) (l := l) h hl hk (b := (b : Int)) (by omega) hr
    have mg := mhangs_eq (n := n) (I := I) (s := s) (l := l) h hl hk hr
    try dsimp only
    rw [M_g1 h, Option.bind_some, a1, Option.bind_some, if_pos (show lt32 (k : Int) (l 0 1) from (lt32_iff (by omega) (by omega) (by omega) (by omega)).mpr (by omega)), M_inv h, he, Option.bind_some]
    try dsimp only
    unfold ocS
    by_cases ce : l 10 (2 * k) = b ∨ l 10 (2 * k + 1) = b
    · rw [if_neg (fun z => (eq32_bi _).mp z ce), M_inv h, mg, Option.bind_some]
      try dsimp only
      by_cases c9 : l 9 k = 0
      · rw [if_neg (fun z => (eq32_bi _).mp z c9), if_pos ⟨(hg_end hb hr).mpr ce, c9⟩]
        rfl
      · rw [if_pos ((eq32_bi _).mpr c9), if_neg (fun z => c9 z.2), Int.add_zero]
        rfl
    · rw [if_pos ((eq32_bi _).mpr ce), if_neg (fun z => ce ((hg_end hb hr).mp z.1)), Int.add_zero]
      rfl
  · try dsimp only
    rw [M_g1 h, Option.bind_some, a1, Option.bind_some, if_neg (show ¬ lt32 ((l 0 1).toNat : Int) (l 0 1) from fun z => absurd ((lt32_iff (by omega) (by omega) (by omega) (by omega)).mp z) (by omega))]
theorem hangingAt_eq (h : isM μ m) (hl : LR l (s 1)) (hk : okL l) {b : Nat} (hb : (b : Int) < l 0 0) {x : Int} (hx : -1000000 ≤ x ∧ x < 2147483648) (hn : 100 ≤ n) : mX11_hangingAt n m (b : Int) x (wi μ (wm I m s)) = some (orL l b x, wi μ (wm I m s)) := by
  have hz := hk.1
  have a1 : ldI (wi μ (wm I m s)) 0 (m + 1) 1 = some (l 0 1) := by rw [M_ld1 h (by omega) (by omega), wm_at (by omega)]; exact congrArg some hl.1.2.1
  unfold mX11_hangingAt orL
  rw [← itx_map (fun t : Int => some (t, wi μ (wm I m s)))]
  have hr0 := lp_rux (B := fun nx5 (v5 : Int × Int) (μ5 : Mem) => (gA μ5 12 m 1).bind fun x8 => (ldI μ5 0 x8 1).bind fun x12 => if lt32 v5.2 x12 then (inv μ5 12 m (mX11_isEnd n m (b : Int) v5.2 μ5)).bind fun p20 => if eq32 p20.1 0 then nx5 (v5.1, (v5.2 + 1)) p20.2 else (inv p20.2 12 m (mX11_hangs n m v5.2 p20.2)).bind fun p29 => if eq32 p29.1 0 then nx5 (v5.1, (v5.2 + 1)) p29.2 else if eq32 (v5.1 + (-1)) 0 then some (v5.2, p29.2) else nx5 ((v5.1 + (-1)), (v5.2 + 1)) p29.2 else some ((-1), μ5)) (fun k (y : Int) => (x - y, (k : Int))) (fun _ _ => wi μ (wm I m s)) (fun k y => (orS l b x k y).elim Sum.inl (fun t => Sum.inr (some (t, wi μ (wm I m s))))) (l 0 1).toNat (fun _ => some (-1, wi μ (wm I m s))) (fun k y => 0 ≤ y ∧ y ≤ k) (fun k y nx hlt hi => ?_) (fun y nx hi => ?_) (l 0 1).toNat 0 0 n (by omega) (by omega) ⟨by omega, by omega⟩
  · rw [Int.sub_zero] at hr0
    exact hr0
  · have hr : (k : Int) < l 0 1 := by omega
    have he := isEnd_eq (n := n) (I := I) (s := s) (l := l) h hl hk (b := (b : Int)) (by omega) hr
    have mg := mhangs_eq (n := n) (I := I) (s := s) (l := l) h hl hk hr
    try dsimp only
    rw [M_g1 h, Option.bind_some, a1, Option.bind_some, if_pos (show lt32 (k : Int) (l 0 1) from (lt32_iff (by omega) (by omega) (by omega) (by omega)).mpr (by omega)), M_inv h, he, Option.bind_some]
    try dsimp only
    unfold orS
    by_cases ce : l 10 (2 * k) = b ∨ l 10 (2 * k + 1) = b
    · rw [if_neg (fun z => (eq32_bi _).mp z ce), M_inv h, mg, Option.bind_some]
      try dsimp only
      by_cases c9 : l 9 k = 0
      · rw [if_neg (fun z => (eq32_bi _).mp z c9), if_pos ⟨(hg_end hb hr).mpr ce, c9⟩]
        by_cases c2 : y + 1 = x
        · rw [if_pos ((eq32_iff (by omega) (by omega) (by omega) (by omega)).mpr (by omega)), if_pos c2]
          exact Or.inr ⟨_, rfl, rfl⟩
        · rw [if_neg (fun z => absurd ((eq32_iff (by omega) (by omega) (by omega) (by omega)).mp z) (by omega)), if_neg c2, show x - y + -1 = x - (y + 1) by omega]
          exact Or.inl ⟨y + 1, rfl, ⟨by omega, by omega⟩, rfl⟩
      · rw [if_pos ((eq32_bi _).mpr c9), if_neg (fun z => c9 z.2)]
        exact Or.inl ⟨y, rfl, ⟨by omega, by omega⟩, rfl⟩
    · rw [if_pos ((eq32_bi _).mpr ce), if_neg (fun z => ce ((hg_end hb hr).mp z.1))]
      exact Or.inl ⟨y, rfl, ⟨by omega, by omega⟩, rfl⟩
  · try dsimp only
    rw [M_g1 h, Option.bind_some, a1, Option.bind_some, if_neg (show ¬ lt32 ((l 0 1).toNat : Int) (l 0 1) from fun z => absurd ((lt32_iff (by omega) (by omega) (by omega) (by omega)).mp z) (by omega))]
end HG
