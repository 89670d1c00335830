/-! keeps, isAgain, byCustom, lives -/
def cpR (d : Nat) (f g : Nat → Int) : Nat → Int := fun k => if k < d then g k else f k
theorem cp_run (f g : Nat → Int) : ∀ (d k : Nat), itr (fun k h => upA h k (g k)) k d (cpR k f g) = cpR (k + d) f g
  | 0, k => rfl
  | d + 1, k => by
    show itr _ (k + 1) d (upA (cpR k f g) k (g k)) = _
    have e : upA (cpR k f g) k (g k) = cpR (k + 1) f g := by
      funext i
      unfold upA cpR
      by_cases e : i = k
      · rw [if_pos e, if_pos (by omega), e]
      · rw [if_neg e]
        by_cases h : i < k
        · rw [if_pos h, if_pos (by omega)]
        · rw [if_neg h, if_neg (by omega)]
    rw [e, cp_run f g d (k + 1), show k + 1 + d = k + (d + 1) by omega]
theorem cpR_0 (f g : Nat → Int) : cpR 0 f g = f := funext fun i => if_neg (by omega)
section MC
variable {μ : Mem} {I : Nat → Nat → Int} {m n : Nat} {s l : Ld}
theorem keeps_eq (h : isM μ m) (hn : 1000 ≤ n) : mX11_keeps n m (wi μ (wm I m s)) = some ((), wi μ (wm I m (up1 s 6 (cpR 220 (s 6) (s 1))))) := by
  unfold mX11_keeps
  have hr := lp_run (B := fun nx2 (v2 : Int) (μ2 : Mem) => if lt32 v2 220 then (gA μ2 12 m 16).bind fun x10 => (gA μ2 12 m 1).bind fun x15 => (ldI μ2 0 x15 v2).bind fun x19 => (stI μ2 0 x10 v2 x19).bind fun μ20 => nx2 (v2 + 1) μ20 else some ((), μ2)) (fun k _ => (k : Int)) (fun _ (p : Nat → Int) => wi μ (wm I m (up1 s 6 p))) (fun k p => upA p k (s 1 k)) 220 (fun p => some ((), wi μ (wm I m (up1 s 6 p)))) (fun _ _ => True) (fun k p nx hlt _ => ⟨trivial, ?_⟩) (fun p nx _ => ?_) 220 0 (cpR 0 (s 6) (s 1)) n (by omega) (by omega) trivial
  · rw [cp_run, cpR_0, up1_id] at hr
    exact hr
  · have e1 : (up1 s 6 p) 1 = s 1 := rfl
    rw [if_pos (show lt32 (k : Int) 220 from (lt32_iff (by omega) (by omega) (by omega) (by omega)).mpr (by omega)), M_g16 h, Option.bind_some, M_g1 h, Option.bind_some, M_ld1 h (by omega) (by omega), Option.bind_some, wm_at (by omega), M_st6 h (by omega) (by omega), Option.bind_some, wm_up (by omega), up21, Int.toNat_natCast, e1]
    rfl
  · rw [if_neg (show ¬ lt32 ((220 : Nat) : Int) 220 from fun z => absurd ((lt32_iff (by omega) (by omega) (by omega) (by omega)).mp z) (by omega))]
theorem isAgain_eq (h : isM μ m) (hn : 1000 ≤ n) : mX11_isAgain n m (wi μ (wm I m s)) = some ((), wi μ (wm I m (up1 s 1 (cpR 220 (s 1) (s 6))))) := by
  unfold mX11_isAgain
  have hr := lp_run (B := fun nx2 (v2 : Int) (μ2 : Mem) => if lt32 v2 220 then (gA μ2 12 m 1).bind fun x10 => (gA μ2 12 m 16).bind fun x15 => (ldI μ2 0 x15 v2).bind fun x19 => (stI μ2 0 x10 v2 x19).bind fun μ20 => nx2 (v2 + 1) μ20 else some ((), μ2)) (fun k _ => (k : Int)) (fun _ (p : Nat → Int) => wi μ (wm I m (up1 s 1 p))) (fun k p => upA p k (s 6 k)) 220 (fun p => some ((), wi μ (wm I m (up1 s 1 p)))) (fun _ _ => True) (fun k p nx hlt _ => ⟨trivial, ?_⟩) (fun p nx _ => ?_) 220 0 (cpR 0 (s 1) (s 6)) n (by omega) (by omega) trivial
  · rw [cp_run, cpR_0, up1_id] at hr
    exact hr
  · have e1 : (up1 s 1 p) 6 = s 6 := rfl
    rw [if_pos (show lt32 (k : Int) 220 from (lt32_iff (by omega) (by omega) (by omega) (by omega)).mpr (by omega)), M_g1 h, Option.bind_some, M_g16 h, Option.bind_some, M_ld6 h (by omega) (by omega), Option.bind_some, wm_at (by omega), M_st1 h (by omega) (by omega), Option.bind_some, wm_up (by omega), up21, Int.toNat_natCast, e1]
    rfl
  · rw [if_neg (show ¬ lt32 ((220 : Nat) : Int) 220 from fun z => absurd ((lt32_iff (by omega) (by omega) (by omega) (by omega)).mp z) (by omega))]
/-- the reference's counts of pulls -/
def cnS (p : Nat → Int) (h : Nat) (x : Int) : Int := x + (if p h = -1 then 0 else 1)
def bnS (l : Ld) (p : Nat → Int) (r : Nat) (x : Int) : Int := x + (if p (l 10 (2 * r)).toNat = r ∧ p (l 10 (2 * r + 1)).toNat = r then 1 else 0)
theorem mth_eq (h : isM μ m) (hl : LR l (s 1)) (hq : s 1 2 = l 0 2) {q : Nat} (hh : (q : Int) < l 0 0) (hk : okL l) : mX11_thirsts n m (q : Int) (wi μ (wm I m s)) = some (bi (thL l q), wi μ (wm I m s)) := by
  have hz := hk.1
  rw [mthirsts_eq h (by omega) (by omega), show (36 + (q : Int)).toNat = 36 + q by omega, (hl.2.1 q hh).2.2.2.1, hq]
theorem up1_up1 {s : Ld} {c : Nat} {f g : Nat → Int} : up1 (up1 s c f) c g = up1 s c g := by
  funext b
  unfold up1
  split <;> rfl
theorem up1_o {s : Ld} {c b : Nat} {f : Nat → Int} (h : b ≠ c) : up1 s c f b = s b := if_neg h
theorem up2_up {s : Ld} {c k : Nat} {x y : Int} : up2 (up2 s c k x) c k y = up2 s c k y := by
  funext b j
  unfold up2
  split <;> rfl
theorem up2_self (s : Ld) (c k : Nat) : up2 s c k (s c k) = s := by
  funext b j
  unfold up2
  split
  · rename_i e; rw [e.1, e.2]
  · rfl
theorem byCustom_eq (h : isM μ m) (hl : LR l (s 1)) (hq : s 1 2 = l 0 2) (hk : okL l) (hn : 1000 ≤ n) : ∃ p : Nat → Int, (∀ k : Nat, (k : Int) < l 0 0 → p k = cuP l k) ∧ (∀ k : Nat, k < 10 → -2147483648 ≤ p k ∧ p k < 2147483648) ∧ mX11_byCustom n m (wi μ (wm I m s)) = some ((), wi μ (wm I m (up2 (up2 (up1 s 5 p) 0 20 (s 0 20 + cmL l)) 0 21 (s 0 21 + cbL l)))) := by
  have hz := hk.1
  obtain ⟨p0, hp0, e0⟩ := nobody_eq (n := n) (I := I) (s := s) h (by omega)
  have a1 : ∀ s' : Ld, s' 1 = s 1 → ldI (wi μ (wm I m s')) 0 (m + 1) 1 = some (l 0 1) := fun s' e => by rw [M_ld1 h (by omega) (by omega), wm_at (by omega), e]; exact congrArg some hl.1.2.1
  have a0 : ∀ s' : Ld, s' 1 = s 1 → ldI (wi μ (wm I m s')) 0 (m + 1) 0 = some (l 0 0) := fun s' e => by rw [M_ld1 h (by omega) (by omega), wm_at (by omega), e]; exact congrArg some hl.1.1
  have hR : ∀ j : Nat, j < (l 0 1).toNat → (l 0 1 - 1 - (j : Int)) = (((l 0 1).toNat - 1 - j : Nat) : Int) := fun j hj => by omega
  have hstep : ∀ (j : Nat) (q : Nat → Int), (∀ k : Nat, k < 10 → -1 ≤ q k ∧ q k < 16) → ∀ k : Nat, k < 10 → -1 ≤ byL l j q k ∧ byL l j q k < 16 := fun j q hi k hk10 => by
    unfold byL byS
    split
    · show -1 ≤ byT l _ 1 (byT l _ 0 q) k ∧ byT l _ 1 (byT l _ 0 q) k < 16
      have hb : ∀ (w : Nat) (q : Nat → Int), (-1 ≤ q k ∧ q k < 16) → -1 ≤ byT l ((l 0 1).toNat - 1 - j) w q k ∧ byT l ((l 0 1).toNat - 1 - j) w q k < 16 := fun w q hq => by
        unfold byT
        split
        · unfold upA
          try dsimp only
          split <;> omega
        · exact hq
      exact hb 1 _ (hb 0 _ (hi k hk10))
    · exact hi k hk10
  have hrange : ∀ k : Nat, k < 10 → -1 ≤ itr (byL l) 0 (l 0 1).toNat p0 k ∧ itr (byL l) 0 (l 0 1).toNat p0 k < 16 :=
    itr_inv (step := byL l) (P := fun _ q => ∀ k : Nat, k < 10 → -1 ≤ q k ∧ q k < 16) (l 0 1).toNat 0 p0 (fun k hk => by rw [hp0 k hk]; omega) (fun j q _ hj hi => hstep j q hi)
  have hspec : ∀ k : Nat, (k : Int) < l 0 0 → itr (byL l) 0 (l 0 1).toNat p0 k = cuP l k := fun k hk' => byL_spec hk hp0 hk'
  refine ⟨itr (byL l) 0 (l 0 1).toNat p0, hspec, fun k hk => by have := hrange k hk; omega, ?_⟩
  unfold mX11_byCustom
  rw [M_inv h, e0, Option.bind_some, M_g1 h, Option.bind_some, a1 _ (up1_o (by omega)), Option.bind_some]
  have key := lp_run (B := fun nx13 (v13 : Int) (μ13 : Mem) => if lt32 v13 0 then lp (fun nx88 (v88 : Int) (μ88 : Mem) => (gA μ88 12 m 1).bind fun x90 => (ldI μ88 0 x90 0).bind fun x94 => if lt32 v88 x94 then (gI μ88 12 m 20).bind fun x100 => (gA μ88 12 m 15).bind fun x104 => (ldI μ88 0 x104 v88).bind fun x108 => jn (fun (v118 : Int) (μ118 : Mem) => (pI μ118 12 m 20 (x100 + v118)).bind fun μ119 => nx88 (v88 + 1) μ119) (fun j118 => if eq32 x108 (-1) then j118 0 μ88 else j118 1 μ88) else lp (fun nx130 (v130 : Int) (μ130 : Mem) => (gA μ130 12 m 1).bind fun x132 => (ldI μ130 0 x132 1).bind fun x136 => if lt32 v130 x136 then (gI μ130 12 m 21).bind fun x142 => (gA μ130 12 m 15).bind fun x146 => (gA μ130 12 m 1).bind fun x150 => (ldI μ130 0 x150 (76 + v130)).bind fun x157 => (ldI μ130 0 x146 x157).bind fun x158 => jn (fun (v186 : Int) (μ186 : Mem) => (pI μ186 12 m 21 (x142 + v186)).bind fun μ187 => nx130 (v130 + 1) μ187) (fun j186 => if eq32 x158 v130 then (gA μ130 12 m 15).bind fun x164 => (gA μ130 12 m 1).bind fun x168 => (ldI μ130 0 x168 (92 + v130)).bind fun x175 => (ldI μ130 0 x164 x175).bind fun x176 => if eq32 x176 v130 then j186 1 μ130 else j186 0 μ130 else j186 0 μ130) else some ((), μ130)) n 0 μ88) n 0 μ13 else (inv μ13 12 m (mX11_hangs n m v13 μ13)).bind fun p19 => if eq32 p19.1 0 then nx13 (v13 + (-1)) p19.2 else lp (fun nx30 (v30 : Int) (μ30 : Mem) => if lt32 v30 2 then (gA μ30 12 m 1).bind fun x36 => (ldI μ30 0 x36 ((76 + (16 * v30)) + v13)).bind fun x48 => (inv μ30 12 m (mX11_thirsts n m x48 μ30)).bind fun p52 => if eq32 p52.1 0 then nx30 (v30 + 1) p52.2 else (inv p52.2 12 m (mX11_depth n m v13 v30 p52.2)).bind fun p61 => if lt32 0 p61.1 then (gA p61.2 12 m 15).bind fun x68 => (stI p61.2 0 x68 x48 v13).bind fun μ73 => nx30 (v30 + 1) μ73 else nx30 (v30 + 1) p61.2 else nx13 (v13 + (-1)) μ30) n 0 p19.2)
    (fun j _ => l 0 1 - 1 - (j : Int)) (fun _ (p : Nat → Int) => wi μ (wm I m (up1 s 5 p))) (byL l) (l 0 1).toNat (fun p => some ((), wi μ (wm I m (up2 (up2 (up1 s 5 p) 0 20 (itr (cnS p) 0 (l 0 0).toNat (s 0 20))) 0 21 (itr (bnS l p) 0 (l 0 1).toNat (s 0 21)))))) (fun j p => j ≤ (l 0 1).toNat ∧ ∀ k : Nat, k < 10 → -1 ≤ p k ∧ p k < 16) (fun j p nx hlt hi => ?_) (fun p nx hi => ?_) (l 0 1).toNat 0 p0 n (by omega) (by omega) ⟨by omega, fun k hk => by rw [hp0 k hk]; omega⟩
  · have hsum1 : itr (cnS (itr (byL l) 0 (l 0 1).toNat p0)) 0 (l 0 0).toNat (s 0 20) = s 0 20 + cmL l := by
      unfold cmL
      rw [← itr_add (cmS_add l)]
      refine itr_cg (P := fun _ _ => True) _ _ _ trivial (fun j x _ hj _ => ⟨?_, trivial⟩)
      unfold cnS cmS
      rw [hspec j (by omega)]
      split <;> omega
    have hsum2 : itr (bnS l (itr (byL l) 0 (l 0 1).toNat p0)) 0 (l 0 1).toNat (s 0 21) = s 0 21 + cbL l := by
      unfold cbL
      rw [← itr_add (cbS_add l (cuP l))]
      refine itr_cg (P := fun _ _ => True) _ _ _ trivial (fun j x _ hj _ => ⟨?_, trivial⟩)
      have g1 := hk.2.2.2 (2 * j) (by omega)
      have g2 := hk.2.2.2 (2 * j + 1) (by omega)
      unfold bnS cbS
      rw [hspec _ (by omega), hspec _ (by omega)]
      split <;> omega
    rw [hsum1, hsum2] at key
    refine Eq.trans ?_ key
    rw [show l 0 1 - 1 - ((0 : Nat) : Int) = l 0 1 - 1 by omega]
  · refine ⟨⟨by omega, hstep j p hi.2⟩, ?_⟩
    have hidx : (((l 0 1).toNat - 1 - j : Nat) : Int) + (-1) = l 0 1 - 1 - ((j + 1 : Nat) : Int) := by omega
    try dsimp only
    rw [hR j hlt]
    unfold byL
    generalize hr0 : (l 0 1).toNat - 1 - j = r at hidx ⊢
    have hr : (r : Int) < l 0 1 := by omega
    have gd := hk.2.2.1 r hr
    rw [if_neg (show ¬ lt32 (r : Int) 0 from fun z => absurd ((lt32_iff (by omega) (by omega) (by omega) (by omega)).mp z) (by omega)), M_inv h, mhangs_eq h (s := up1 s 5 p) hl hk hr, Option.bind_some, hidx]
    try dsimp only
    unfold byS
    by_cases c9 : l 9 r = 0
    · rw [if_neg (fun z => (eq32_bi _).mp z c9), if_pos c9]
      refine (lp_run (fun w _ => (w : Int)) (fun _ (q : Nat → Int) => wi μ (wm I m (up1 s 5 q))) (byT l r) 2 (fun q => nx (l 0 1 - 1 - ((j + 1 : Nat) : Int)) (wi μ (wm I m (up1 s 5 q)))) (fun _ _ => True) (fun w q nx' hw _ => ⟨trivial, ?_⟩) (fun q nx' _ => ?_) 2 0 p n (by omega) (by omega) trivial).trans rfl
      · have hb : ((2 * r + w : Nat) : Int) < 2 * l 0 1 := by omega
        have e1 := (hl.b hb).1
        rw [show (2 * r + w) % 2 = w by omega, show (2 * r + w) / 2 = r by omega] at e1
        have g := hk.2.2.2 (2 * r + w) hb
        have gdp := dp_range hk hb
        have e1' : (up1 s 5 q) 1 (76 + 16 * w + r) = l 10 (2 * r + w) := e1
        have ht := mth_eq (n := n) (I := I) (s := up1 s 5 q) h hl hq (q := (l 10 (2 * r + w)).toNat) (by omega) hk
        rw [Int.toNat_of_nonneg g.1] at ht
        try dsimp only
        rw [if_pos (show lt32 (w : Int) 2 from (lt32_iff (by omega) (by omega) (by omega) (by omega)).mpr (by omega)), M_g1 h, Option.bind_some, M_ld1 h (by omega) (by omega), Option.bind_some, wm_at (by omega), tw76, e1', M_inv h, ht, Option.bind_some]
        try dsimp only
        unfold byT
        by_cases ct : thL l (l 10 (2 * r + w)).toNat
        · rw [if_neg (fun z => (eq32_bi _).mp z ct), M_inv h, mdepth_eq h (s := up1 s 5 q) hl hk hr hw, Option.bind_some]
          try dsimp only
          by_cases cd : 0 < dpL l (2 * r + w)
          · rw [if_pos ((lt32_iff (by omega) (by omega) (by omega) (by omega)).mpr cd), if_pos ⟨ct, cd⟩, M_g15 h, Option.bind_some, M_st5 h (by omega) (by omega), Option.bind_some, wm_up (by omega), up21]
            rfl
          · rw [if_neg (fun z => cd ((lt32_iff (by omega) (by omega) (by omega) (by omega)).mp z)), if_neg (fun z => cd z.2)]
            rfl
        · rw [if_pos ((eq32_bi _).mpr ct), if_neg (fun z => ct z.1)]
          rfl
      · try dsimp only
        rw [if_neg (show ¬ lt32 ((2 : Nat) : Int) 2 from fun z => absurd ((lt32_iff (by omega) (by omega) (by omega) (by omega)).mp z) (by omega))]
    · rw [if_pos ((eq32_bi _).mpr c9), if_neg c9]
  · have hpr := hi.2
    try dsimp only
    rw [if_pos (show lt32 (l 0 1 - 1 - ((l 0 1).toNat : Int)) 0 from (lt32_iff (by omega) (by omega) (by omega) (by omega)).mpr (by omega))]
    have e20 : up1 s 5 p = up2 (up1 s 5 p) 0 20 (s 0 20) := (up2_self (up1 s 5 p) 0 20).symm
    conv => lhs; rw [e20]
    refine (lp_run (fun q _ => (q : Int)) (fun _ (x : Int) => wi μ (wm I m (up2 (up1 s 5 p) 0 20 x))) (cnS p) (l 0 0).toNat (fun x => some ((), wi μ (wm I m (up2 (up2 (up1 s 5 p) 0 20 x) 0 21 (itr (bnS l p) 0 (l 0 1).toNat (s 0 21)))))) (fun _ _ => True) (fun q x nx' hq' _ => ⟨trivial, ?_⟩) (fun x nx' _ => ?_) (l 0 0).toNat 0 (s 0 20) n (by omega) (by omega) trivial).trans rfl
    · have r1 : (up2 (up1 s 5 p) 0 20 x) 1 = s 1 := (up2_row (show (1 : Nat) ≠ 0 by decide)).trans (up1_o (by decide))
      have r5 : (up2 (up1 s 5 p) 0 20 x) 5 = p := (up2_row (show (5 : Nat) ≠ 0 by decide)).trans up1_s
      have hpq := hpr q (by omega)
      try dsimp only
      rw [M_g1 h, Option.bind_some, a0 _ r1, Option.bind_some, if_pos (show lt32 (q : Int) (l 0 0) from (lt32_iff (by omega) (by omega) (by omega) (by omega)).mpr (by omega)), M_gI h, Option.bind_some, wm_0, up2_s, M_g15 h, Option.bind_some, M_ld5 h (by omega) (by omega), Option.bind_some, wm_at (by omega), r5, Int.toNat_natCast]
      unfold jn cnS
      try dsimp only
      by_cases c : p q = -1
      · rw [if_pos ((eq32_iff (by omega) (by omega) (by omega) (by omega)).mpr c), if_pos c, M_pI h, Option.bind_some, wm_up0, up2_up]
        rfl
      · rw [if_neg (fun z => c ((eq32_iff (by omega) (by omega) (by omega) (by omega)).mp z)), if_neg c, M_pI h, Option.bind_some, wm_up0, up2_up]
        rfl
    · have r1 : (up2 (up1 s 5 p) 0 20 x) 1 = s 1 := (up2_row (show (1 : Nat) ≠ 0 by decide)).trans (up1_o (by decide))
      try dsimp only
      rw [M_g1 h, Option.bind_some, a0 _ r1, Option.bind_some, if_neg (show ¬ lt32 ((l 0 0).toNat : Int) (l 0 0) from fun z => absurd ((lt32_iff (by omega) (by omega) (by omega) (by omega)).mp z) (by omega))]
      have r5 : (up2 (up1 s 5 p) 0 20 x) 5 = p := (up2_row (show (5 : Nat) ≠ 0 by decide)).trans up1_s
      have r0 : (up2 (up1 s 5 p) 0 20 x) 0 21 = s 0 21 := (up2_n (by omega)).trans rfl
      generalize up2 (up1 s 5 p) 0 20 x = t at r1 r5 r0 ⊢
      have e21 : t = up2 t 0 21 (s 0 21) := by rw [← r0]; exact (up2_self t 0 21).symm
      conv => lhs; rw [e21]
      refine (lp_run (fun q _ => (q : Int)) (fun _ (x : Int) => wi μ (wm I m (up2 t 0 21 x))) (bnS l p) (l 0 1).toNat (fun x => some ((), wi μ (wm I m (up2 t 0 21 x)))) (fun _ _ => True) (fun q x nx' hq' _ => ⟨trivial, ?_⟩) (fun x nx' _ => ?_) (l 0 1).toNat 0 (s 0 21) n (by omega) (by omega) trivial).trans rfl
      · have t1 : (up2 t 0 21 x) 1 = s 1 := (up2_row (show (1 : Nat) ≠ 0 by decide)).trans r1
        have t5 : (up2 t 0 21 x) 5 = p := (up2_row (show (5 : Nat) ≠ 0 by decide)).trans r5
        have hr : (q : Int) < l 0 1 := by omega
        have k1 := hl.2.2 q hr
        have g1 := hk.2.2.2 (2 * q) (by omega)
        have g2 := hk.2.2.2 (2 * q + 1) (by omega)
        have p1 := hpr (l 10 (2 * q)).toNat (by omega)
        have p2 := hpr (l 10 (2 * q + 1)).toNat (by omega)
        try dsimp only
        rw [M_g1 h, Option.bind_some, a1 _ t1, Option.bind_some, if_pos (show lt32 (q : Int) (l 0 1) from (lt32_iff (by omega) (by omega) (by omega) (by omega)).mpr (by omega)), M_gI h, Option.bind_some, wm_0, up2_s, M_g15 h, Option.bind_some, Option.bind_some, M_ld1 h (by omega) (by omega), Option.bind_some, wm_at (by omega), t1, t76, k1.1, M_ld5 h (by omega) (by omega), Option.bind_some, wm_at (by omega), t5]
        unfold jn bnS
        try dsimp only
        by_cases c1 : p (l 10 (2 * q)).toNat = q
        · rw [if_pos ((eq32_iff (by omega) (by omega) (by omega) (by omega)).mpr c1), Option.bind_some, Option.bind_some, M_ld1 h (by omega) (by omega), Option.bind_some, wm_at (by omega), t1, t92, k1.2.1, M_ld5 h (by omega) (by omega), Option.bind_some, wm_at (by omega), t5]
          by_cases c2 : p (l 10 (2 * q + 1)).toNat = q
          · rw [if_pos ((eq32_iff (by omega) (by omega) (by omega) (by omega)).mpr c2), if_pos ⟨c1, c2⟩, M_pI h, Option.bind_some, wm_up0, up2_up]
            rfl
          · rw [if_neg (fun z => c2 ((eq32_iff (by omega) (by omega) (by omega) (by omega)).mp z)), if_neg (fun z => c2 z.2), M_pI h, Option.bind_some, wm_up0, up2_up]
            rfl
        · rw [if_neg (fun z => c1 ((eq32_iff (by omega) (by omega) (by omega) (by omega)).mp z)), if_neg (fun z => c1 z.1), M_pI h, Option.bind_some, wm_up0, up2_up]
          rfl
      · have t1 : (up2 t 0 21 x) 1 = s 1 := (up2_row (show (1 : Nat) ≠ 0 by decide)).trans r1
        try dsimp only
        rw [M_g1 h, Option.bind_some, a1 _ t1, Option.bind_some, if_neg (show ¬ lt32 ((l 0 1).toNat : Int) (l 0 1) from fun z => absurd ((lt32_iff (by omega) (by omega) (by omega) (by omega)).mp z) (by omega))]
end MC
