/-! the hour's number behind an hour; the tally's loops -/
theorem drS_0 (b : Nat) (s : Ld × Int) : (drS b s).1 0 = s.1 0 := by
  unfold drS
  split
  · split
    · dsimp only
      rw [up2_row (show (0 : Nat) ≠ 5 by decide), up2_row (show (0 : Nat) ≠ 12 by decide)]
    · dsimp only
      rw [up2_row (show (0 : Nat) ≠ 6 by decide), up2_row (show (0 : Nat) ≠ 12 by decide)]
  · rfl
theorem goL_hr {l : Ld} (p : Nat → Int) : (goL p l).1 0 2 = if l 0 2 < 9999 then l 0 2 + 1 else l 0 2 := by
  have q0 : mvL p l 0 = l 0 := itr_inv (P := fun _ z => z 0 = l 0) (l 0 1).toNat 0 l rfl (fun j z _ _ hz => ((mvS_q p j z).2.2).trans hz)
  have q1 : flL (mvL p l) 0 = l 0 := (itr_inv (P := fun _ z => z 0 = mvL p l 0) (2 * (mvL p l 0 1).toNat) 0 (mvL p l) rfl (fun j z _ _ hz => ((flS_q j z).2.2).trans hz)).trans q0
  have q2 : (drL (flL (mvL p l))).1 0 = l 0 := (itr_inv (step := drS) (P := fun _ z => z.1 0 = flL (mvL p l) 0) (2 * (flL (mvL p l) 0 1).toNat) 0 (flL (mvL p l), 0) rfl (fun j z _ _ hz => (drS_0 j z).trans hz)).trans q1
  unfold goL
  dsimp only
  rw [q2]
  split
  · rw [up2_s]
  · rw [q2]
section TL2
variable {μ : Mem} {I : Nat → Nat → Int} {a t n : Nat} {l : Ld} {y p : Nat → Int}
/-- the bucket of house h at rope r -/
def bkL (l : Ld) (h : Int) (r : Nat) : Nat := if l 10 (2 * r) = h then 2 * r else 2 * r + 1
def ftS (l : Ld) (h : Int) (r : Nat) (s : Int) : Int ⊕ Int := if (hgP l r h ∧ l 9 r = 0) ∧ dpL l (bkL l h r) ≠ 0 then .inr (r : Int) else .inl s
def ftL (l : Ld) (h : Int) : Int := itx (ftS l h) (fun _ => -1) 0 (l 0 1).toNat 0
theorem firstToLift_eq (h : isL μ a) (hk : okL l) {b : Int} (hb : -2147483648 ≤ b ∧ b < 2147483648) (hn : 100 ≤ n) : mX7_firstToLift n a b (wi μ (wl I a l)) = some (ftL l b, wi μ (wl I a l)) := by
  have hz := hk.1
  unfold mX7_firstToLift ftL
  rw [← itx_map (fun t : Int => some (t, wi μ (wl I a l)))]
  refine lp_rux (fun k s => (k : Int)) (fun _ _ => wi μ (wl I a l)) (fun k s => (ftS l b k s).elim Sum.inl (fun t => Sum.inr (some (t, wi μ (wl I a l))))) (l 0 1).toNat (fun _ => some (-1, wi μ (wl I a l))) (fun k s => True) (fun k s nx hlt hi => ?_) (fun s nx hi => ?_) (l 0 1).toNat 0 0 n (by omega) (by omega) trivial
  · have g1 := hk.2.2.2 (2 * k) (by omega)
    have hbk : ((bkL l b k : Nat) : Int) < 2 * l 0 1 := by unfold bkL; split <;> omega
    have gd := dp_range hk hbk
    have e : (if eq32 (l 10 (2 * k)) b then (2 * (k : Int)) else (2 * (k : Int)) + 1) = ((bkL l b k : Nat) : Int) := by
      unfold bkL
      by_cases c : l 10 (2 * k) = b
      · rw [if_pos ((eq32_iff (by omega) (by omega) (by omega) (by omega)).mpr c), if_pos c]; omega
      · rw [if_neg (fun z => c ((eq32_iff (by omega) (by omega) (by omega) (by omega)).mp z)), if_neg c]; omega
    have key : ∀ x : Int, x = ((bkL l b k : Nat) : Int) → ((inv (wi μ (wl I a l)) 2 a (mX1_hangsOpen n a (k : Int) b (wi μ (wl I a l)))).bind fun p37 => if eq32 p37.1 0 then nx ((k : Int) + 1) p37.2 else (inv p37.2 2 a (mX1_depthOf n a x p37.2)).bind fun p45 => if eq32 p45.1 0 then nx ((k : Int) + 1) p45.2 else some ((k : Int), p45.2)) = if (hgP l k b ∧ l 9 k = 0) ∧ dpL l (bkL l b k) ≠ 0 then some ((k : Int), wi μ (wl I a l)) else nx ((k : Int) + 1) (wi μ (wl I a l)) := by
      intro x hx
      subst hx
      simp (disch := omega) only [Option.bind_some, L_inv h, hangsOpen_eq h hk (r := (k : Int)) ⟨by omega, by omega⟩ hb, eq32_bi, Int.toNat_natCast, depthOf_eq h hk hbk, eq32_iff]
      by_cases c1 : hgP l k b ∧ l 9 k = 0
      · rw [if_neg (not_not_intro c1)]
        by_cases c2 : dpL l (bkL l b k) = 0
        · rw [if_pos c2, if_neg (fun z => z.2 c2)]
        · rw [if_neg c2, if_pos ⟨c1, c2⟩]
      · rw [if_pos c1, if_neg (fun z => c1 z.1)]
    have hgo : ((gI (wi μ (wl I a l)) 2 a 1).bind fun x4 => if lt32 (k : Int) x4 then (gA (wi μ (wl I a l)) 2 a 15).bind fun x11 => (ldI (wi μ (wl I a l)) 0 x11 (2 * (k : Int))).bind fun x17 => jn (fun (v33 : Int) (μ33 : Mem) => (inv μ33 2 a (mX1_hangsOpen n a (k : Int) b μ33)).bind fun p37 => if eq32 p37.1 0 then nx ((k : Int) + 1) p37.2 else (inv p37.2 2 a (mX1_depthOf n a v33 p37.2)).bind fun p45 => if eq32 p45.1 0 then nx ((k : Int) + 1) p45.2 else some ((k : Int), p45.2)) (fun j33 => if eq32 x17 b then j33 (2 * (k : Int)) (wi μ (wl I a l)) else j33 ((2 * (k : Int)) + 1) (wi μ (wl I a l))) else some ((-1), (wi μ (wl I a l)))) = if (hgP l k b ∧ l 9 k = 0) ∧ dpL l (bkL l b k) ≠ 0 then some ((k : Int), wi μ (wl I a l)) else nx ((k : Int) + 1) (wi μ (wl I a l)) := by
      rw [L_gI h, Option.bind_some, wl_0, if_pos (show lt32 (k : Int) (l 0 1) from (lt32_iff (by omega) (by omega) (by omega) (by omega)).mpr (by omega)), L_g15 h, Option.bind_some, L_ld10 h (by omega) (by omega), Option.bind_some, wl_at (by omega)]
      unfold jn
      dsimp only
      by_cases c : eq32 (l 10 (2 * (k : Int)).toNat) b
      · rw [if_pos c]
        rw [tn2] at c
        rw [if_pos c] at e
        exact key _ e
      · rw [if_neg c]
        rw [tn2] at c
        rw [if_neg c] at e
        exact key _ e
    by_cases c : (hgP l k b ∧ l 9 k = 0) ∧ dpL l (bkL l b k) ≠ 0
    · rw [if_pos c] at hgo
      refine Or.inr ⟨some ((k : Int), wi μ (wl I a l)), ?_, hgo⟩
      unfold ftS
      rw [if_pos c]; rfl
    · rw [if_neg c] at hgo
      refine Or.inl ⟨s, ?_, trivial, hgo⟩
      unfold ftS
      rw [if_neg c]; rfl
  · simp (disch := omega) only [L_gI h, wl_0, Option.bind_some, lt32_iff]
    rw [if_neg (by omega)]
theorem ft_range (hk : okL l) (h : Int) : -1 ≤ ftL l h ∧ ftL l h < 16 := by
  have hz := hk.1
  have : ∀ (d k : Nat) (s : Int), k + d ≤ 16 → -1 ≤ itx (ftS l h) (fun _ => -1) k d s ∧ itx (ftS l h) (fun _ => -1) k d s < 16 := by
    intro d
    induction d with
    | zero => intro k s _; unfold itx; omega
    | succ d ih =>
      intro k s hd
      unfold itx
      unfold ftS
      split
      · rename_i s' he
        split at he
        · cases he
        · exact ih (k + 1) s' (by omega)
      · rename_i t he
        split at he
        · cases he; omega
        · cases he
  exact this _ _ _ (by omega)
/-- the ropes that both their houses pull -/
def cbS (l : Ld) (p : Nat → Int) (r : Nat) (s : Int) : Int := if p (l 10 (2 * r)).toNat = r ∧ p (l 10 (2 * r + 1)).toNat = r then s + 1 else s
theorem tld (h : isTy μ t) (ha : t + 1 < a ∨ a + 12 < t) {i : Int} (h0 : 0 ≤ i) (h1 : i < 10) : ldI (wi μ (wl (wT I t y p) a l)) 0 (t + 1) i = some (p i.toNat) := by
  rw [e_ldI (t := 0) h.2.2 h0 (by omega) (by omega), wl_out (by omega), wT_p]
theorem tgA (h : isTy μ t) : gA (wi μ I) 8 t 6 = some (t + 1) := by
  rw [e_gA h.k, h.2.1]
theorem upA_up {A : Nat → Int} {k : Nat} {x z : Int} : upA (upA A k x) k z = upA A k z := by
  funext j
  unfold upA
  split <;> rfl
theorem tcountBoth (hL : isL μ a) (h : isTy μ t) (ha : t + 1 < a ∨ a + 12 < t) (hk : okL l) (hp : ∀ k : Nat, k < 10 → -2147483648 ≤ p k ∧ p k < 2147483648) (hn : 100 ≤ n) : mX7_countBoth n t a (wi μ (wl (wT I t y p) a l)) = some ((), wi μ (wl (wT I t (upA y 5 (itr (cbS l p) 0 (l 0 1).toNat (y 5))) p) a l)) := by
  have hz := hk.1
  unfold mX7_countBoth
  have e : upA y 5 (y 5) = y := by
    funext j
    unfold upA
    split
    · rename_i e; rw [e]
    · rfl
  have hr := lp_run (B := fun nx2 (v2 : Int) (μ2 : Mem) => (gI μ2 2 a 1).bind fun x4 => if lt32 v2 x4 then (gA μ2 8 t 6).bind fun x11 => (gA μ2 2 a 15).bind fun x15 => (ldI μ2 0 x15 (2 * v2)).bind fun x21 => (ldI μ2 0 x11 x21).bind fun x22 => if eq32 x22 v2 then (gA μ2 8 t 6).bind fun x28 => (gA μ2 2 a 15).bind fun x32 => (ldI μ2 0 x32 ((2 * v2) + 1)).bind fun x40 => (ldI μ2 0 x28 x40).bind fun x41 => if eq32 x41 v2 then (gI μ2 8 t 5).bind fun x48 => (pI μ2 8 t 5 (x48 + 1)).bind fun μ53 => nx2 (v2 + 1) μ53 else nx2 (v2 + 1) μ2 else nx2 (v2 + 1) μ2 else some ((), μ2)) (fun k _ => (k : Int)) (fun _ (s : Int) => wi μ (wl (wT I t (upA y 5 s) p) a l)) (cbS l p) (l 0 1).toNat (fun s => some ((), wi μ (wl (wT I t (upA y 5 s) p) a l))) (fun _ _ => True) (fun k s nx hlt _ => ⟨trivial, ?_⟩) (fun s nx _ => ?_) (l 0 1).toNat 0 (y 5) n (by omega) (by omega) trivial
  · rw [e] at hr
    exact hr
  · have g1 := hk.2.2.2 (2 * k) (by omega)
    have g2 := hk.2.2.2 (2 * k + 1) (by omega)
    have p1 := hp (l 10 (2 * k)).toNat (by omega)
    have p2 := hp (l 10 (2 * k + 1)).toNat (by omega)
    rw [L_gI hL, Option.bind_some, wl_0, if_pos (show lt32 (k : Int) (l 0 1) from (lt32_iff (by omega) (by omega) (by omega) (by omega)).mpr (by omega)), tgA h, Option.bind_some, L_g15 hL, Option.bind_some, L_ld10 hL (by omega) (by omega), Option.bind_some, wl_at (by omega), tn2, tld h ha (by omega) (by omega), Option.bind_some]
    unfold cbS
    by_cases c1 : p (l 10 (2 * k)).toNat = k
    · rw [if_pos ((eq32_iff (by omega) (by omega) (by omega) (by omega)).mpr c1), Option.bind_some, Option.bind_some, L_ld10 hL (by omega) (by omega), Option.bind_some, wl_at (by omega), tn3, tld h ha (by omega) (by omega), Option.bind_some]
      by_cases c2 : p (l 10 (2 * k + 1)).toNat = k
      · rw [if_pos ((eq32_iff (by omega) (by omega) (by omega) (by omega)).mpr c2), if_pos ⟨c1, c2⟩, tget h ha, Option.bind_some, tput h ha, Option.bind_some, upA_up, upA_s]
        rfl
      · rw [if_neg (fun z => c2 ((eq32_iff (by omega) (by omega) (by omega) (by omega)).mp z)), if_neg (fun z => c2 z.2)]
        rfl
    · rw [if_neg (fun z => c1 ((eq32_iff (by omega) (by omega) (by omega) (by omega)).mp z)), if_neg (fun z => c1 z.1)]
      rfl
  · simp (disch := omega) only [L_gI hL, wl_0, Option.bind_some, lt32_iff]
    rw [if_neg (by omega)]
end TL2
