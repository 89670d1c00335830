/-! a row of numbers at r: its fields and its numbers, in the row behind it -/
def isN (μ : Mem) (r : Nat) : Prop := mS μ r = (4, 3) ∧ mA μ r 2 = r + 1 ∧ mS μ (r + 1) = (23, 60)
theorem isN.k {μ : Mem} {r : Nat} (h : isN μ r) : (mS μ r).1 = 4 := by rw [h.1]
/-- number i of a row with the fields y and the numbers p -/
def rwG (y p : Nat → Int) (i : Int) : Int := if 0 ≤ i ∧ i < y 0 then p i.toNat else 0
/-- a number cut to a sort -/
def cutS (s v : Int) : Int := if s = 0 then oI2l (oI2b v) else if s = 1 then oI2l (oI2s v) else if s = 2 then oI2l v else v
section NR
variable {μ : Mem} {I : Nat → Nat → Int} {r n : Nat} {y p : Nat → Int}
theorem isMissing_eq (h : isN μ r) (hs : -2147483648 ≤ I r 1 ∧ I r 1 < 2147483648) : mX3_isMissing n r (wi μ I) = some (bi (I r 1 = -1), wi μ I) := by
  unfold mX3_isMissing
  rw [e_gI h.k, Option.bind_some]
  by_cases c : I r 1 = -1
  · rw [if_pos ((eq32_iff (by omega) (by omega) (by omega) (by omega)).mpr c), retZ_1, bi_t c]
  · rw [if_neg (fun z => c ((eq32_iff (by omega) (by omega) (by omega) (by omega)).mp z)), retZ_0, bi_f c]
theorem nget_eq (h : isN μ r) (hs : 0 ≤ I r 0 ∧ I r 0 ≤ 60) {i : Int} (hi : -2147483648 ≤ i ∧ i < 2147483648) : mX3_get n r i (wi μ I) = some (rwG (I r) (I (r + 1)) i, wi μ I) := by
  unfold mX3_get rwG
  by_cases c : i < 0
  · rw [if_pos ((lt32_iff (by omega) (by omega) (by omega) (by omega)).mpr c), if_neg (by omega)]
  · rw [if_neg (fun z => c ((lt32_iff (by omega) (by omega) (by omega) (by omega)).mp z)), e_gI h.k, Option.bind_some]
    by_cases c2 : i < I r 0
    · rw [if_pos ((lt32_iff (by omega) (by omega) (by omega) (by omega)).mpr c2), e_gA h.k, h.2.1, Option.bind_some, e_ldI (t := 3) h.2.2 (by omega) (by omega) (by omega), Option.bind_some, if_pos ⟨by omega, c2⟩]
    · rw [if_neg (fun z => c2 ((lt32_iff (by omega) (by omega) (by omega) (by omega)).mp z)), if_neg (fun z => c2 z.2)]
theorem cutToSort_eq (h : isN μ r) (hs : -2147483648 ≤ I r 1 ∧ I r 1 < 2147483648) {v : Int} : mX3_cutToSort n r v (wi μ I) = some (cutS (I r 1) v, wi μ I) := by
  unfold mX3_cutToSort cutS
  rw [e_gI h.k, Option.bind_some]
  by_cases c0 : I r 1 = 0
  · rw [if_pos ((eq32_iff (by omega) (by omega) (by omega) (by omega)).mpr c0), if_pos c0]
  rw [if_neg (fun z => c0 ((eq32_iff (by omega) (by omega) (by omega) (by omega)).mp z)), if_neg c0]
  by_cases c1 : I r 1 = 1
  · rw [if_pos ((eq32_iff (by omega) (by omega) (by omega) (by omega)).mpr c1), if_pos c1]
  rw [if_neg (fun z => c1 ((eq32_iff (by omega) (by omega) (by omega) (by omega)).mp z)), if_neg c1]
  by_cases c2 : I r 1 = 2
  · rw [if_pos ((eq32_iff (by omega) (by omega) (by omega) (by omega)).mpr c2), if_pos c2]
  rw [if_neg (fun z => c2 ((eq32_iff (by omega) (by omega) (by omega) (by omega)).mp z)), if_neg c2]
theorem nput_eq (h : isN μ r) (hs : -2147483648 ≤ y 1 ∧ y 1 < 2147483648) (hz : 0 ≤ y 0 ∧ y 0 ≤ 60) {i v : Int} (h0 : 0 ≤ i) (h1 : i < y 0) : mX3_put n r i v (wi μ (wT I r y p)) = some (cutS (y 1) v, wi μ (wT I r y (upA p i.toNat (cutS (y 1) v)))) := by
  have e1 : wT I r y p r = y := wT_y
  unfold mX3_put
  rw [if_neg (fun z => absurd ((lt32_iff (by omega) (by omega) (by omega) (by omega)).mp z) (by omega)), e_gI h.k, e1, Option.bind_some, if_pos ((lt32_iff (by omega) (by omega) (by omega) (by omega)).mpr h1), e_gA h.k, h.2.1, Option.bind_some, e_inv h.k, cutToSort_eq h (by rw [e1]; exact hs), Option.bind_some, e1, e_stI (t := 3) h.2.2 h0 (by omega) (by omega), Option.bind_some, wT_up, e_gA h.k, h.2.1, Option.bind_some, e_ldI (t := 3) h.2.2 h0 (by omega) (by omega), Option.bind_some, wT_p, upA_s]
theorem nbegin_eq (h : isN μ r) {s k : Int} (hk : -2147483648 ≤ k ∧ k < 2147483648) (hn : 20000 ≤ n) : mX3_begin n r s k (wi μ (wT I r y p)) = some ((), wi μ (wT I r (upA (upA y 1 s) 0 (max 0 (min k 60))) (flR p 60 0))) := by
  have e : ∀ y : Nat → Int, up1 (wT I r y p) (r + 1) (flR p 60 0) = wT I r y (flR p 60 0) := fun y => by
    funext b
    unfold up1 wT
    by_cases e : b = r + 1
    · rw [if_pos e, if_neg (by omega), if_pos e]
    · rw [if_neg e, if_neg e, if_neg e]
  unfold mX3_begin
  simp (disch := omega) only [e_pI h.k, Option.bind_some, wT_uy, mMin_of, mMax_of, e_gA h.k, h.2.1, lfill_eq h.2.2 (by omega) hn, wT_p, e]
end NR
/-! hours that a row tells -/
section TT
variable {μ : Mem} {I : Nat → Nat → Int} {a t r n : Nat} {l : Ld} {y p : Nat → Int}
def tlP (l : Ld) (y p : Nat → Int) (v : Int) : Int × Ld × Ts :=
  if v = -1 then (if l 0 2 < 9999 then (0, enS l y p) else (3, l, y, p))
  else if v < 0 ∨ 200 ≤ v then (1, l, y, p)
  else if hgP l (v % 20) (v / 20) ∧ l 9 (v % 20).toNat = 0 then (if p (v / 20).toNat = -1 then (0, l, upA y 7 (y 7 + 1), upA p (v / 20).toNat (v % 20)) else (2, l, y, p))
  else (1, l, y, p)
theorem ttellHourEnd (hL : isL μ a) (h : isTy μ t) (ha : t + 1 < a ∨ a + 12 < t) (hs : okT (l, y, p)) (hn : 20000 ≤ n) : mX7_tellHourEnd n t a (wi μ (wl (wT I t y p) a l)) = some ((tlP l y p (-1)).1, wi μ (wl (wT I t (tlP l y p (-1)).2.2.1 (tlP l y p (-1)).2.2.2) a (tlP l y p (-1)).2.1)) := by
  obtain ⟨hk, hh, hp⟩ := hs
  dsimp only at hk hh hp
  unfold mX7_tellHourEnd tlP
  rw [L_gI hL, Option.bind_some, wl_0, if_pos rfl]
  by_cases c : l 0 2 < 9999
  · rw [if_pos c, if_pos ((lt32_iff (by omega) (by omega) (by omega) (by omega)).mpr c), tinv h, tendHour hL h ha hk hh (fun k hk => by have := hp k hk; omega) hn, Option.bind_some]
    rfl
  · rw [if_neg c, if_neg (fun z => c ((lt32_iff (by omega) (by omega) (by omega) (by omega)).mp z))]
theorem ttellPull (hL : isL μ a) (h : isTy μ t) (ha : t + 1 < a ∨ a + 12 < t) (hs : okT (l, y, p)) {v : Int} (hv : -9223372036854775808 ≤ v ∧ v < 9223372036854775808) (hne : v ≠ -1) (hn : 20000 ≤ n) : mX7_tellPull n t a v (wi μ (wl (wT I t y p) a l)) = some ((tlP l y p v).1, wi μ (wl (wT I t (tlP l y p v).2.2.1 (tlP l y p v).2.2.2) a (tlP l y p v).2.1)) := by
  obtain ⟨hk, hh, hp⟩ := hs
  dsimp only at hk hh hp
  have hz := hk.1
  unfold mX7_tellPull tlP
  rw [if_neg hne]
  by_cases c1 : v < 0
  · rw [if_pos ((lcmp_lt (by omega) (by omega) (by omega) (by omega)).mpr c1), if_pos (Or.inl c1)]
  rw [if_neg (fun z => c1 ((lcmp_lt (by omega) (by omega) (by omega) (by omega)).mp z))]
  by_cases c2 : v < 200
  · rw [if_pos ((lcmp_lt (by omega) (by omega) (by omega) (by omega)).mpr c2), if_neg (by omega), oRem_of (by omega) (by omega) (by omega) (by omega), oDiv_of (by omega) (by omega) (by omega) (by omega), L_inv hL, hangsOpen_eq hL hk ⟨by omega, by omega⟩ ⟨by omega, by omega⟩, Option.bind_some]
    dsimp only
    by_cases c3 : hgP l (v % 20) (v / 20) ∧ l 9 (v % 20).toNat = 0
    · have hq := hp (v / 20).toNat (by omega)
      rw [if_pos c3, if_neg (fun z => (eq32_bi _).mp z c3), tgA h, Option.bind_some, tld h ha (by omega) (by omega), Option.bind_some]
      by_cases c4 : p (v / 20).toNat = -1
      · rw [if_pos c4, if_pos ((eq32_iff (by omega) (by omega) (by omega) (by omega)).mpr c4), tinv h, taddPull h ha (by omega) (by omega), Option.bind_some]
      · rw [if_neg c4, if_neg (fun z => c4 ((eq32_iff (by omega) (by omega) (by omega) (by omega)).mp z))]
    · rw [if_neg c3, if_pos ((eq32_bi _).mpr c3)]
  · rw [if_neg (fun z => c2 ((lcmp_lt (by omega) (by omega) (by omega) (by omega)).mp z)), if_pos (Or.inr (by omega))]
theorem tlP_ok {v : Int} (hs : okT (l, y, p)) : okT (tlP l y p v).2 ∧ 0 ≤ (tlP l y p v).1 ∧ (tlP l y p v).1 ≤ 3 := by
  unfold tlP
  split
  · split
    · exact ⟨enS_ok hs.1 hs.2.1, by dsimp only; omega, by dsimp only; omega⟩
    · exact ⟨hs, by dsimp only; omega, by dsimp only; omega⟩
  split
  · exact ⟨hs, by dsimp only; omega, by dsimp only; omega⟩
  split
  · split
    · refine ⟨⟨hs.1, hs.2.1, fun k hk => ?_⟩, by dsimp only; omega, by dsimp only; omega⟩
      have hz := hs.1.1
      show -1 ≤ upA p _ _ k ∧ upA p _ _ k < 16
      unfold upA
      split
      · rename_i hc _ _
        have := hc.1.2.1
        dsimp only at hz
        omega
      · exact hs.2.2 k hk
    · exact ⟨hs, by dsimp only; omega, by dsimp only; omega⟩
  · exact ⟨hs, by dsimp only; omega, by dsimp only; omega⟩
/-- what stands at place k: a row's number, or behind its last the sign between hours -/
def toldAt (yr pr : Nat → Int) (k : Nat) : Int := if (k : Int) < yr 0 then pr k else -1
def tlS (yr pr : Nat → Int) (k : Nat) (s : Ld × Ts) : (Ld × Ts) ⊕ (Ld × Ts) :=
  if s.2.1 1 = 0 then
    let q := tlP s.1 s.2.1 s.2.2 (toldAt yr pr k)
    .inl (q.2.1, (if q.1 = 0 then upA q.2.2.1 1 q.1 else upA (upA q.2.2.1 1 q.1) 0 k), q.2.2.2)
  else .inr s
def tlL (yr pr : Nat → Int) (s : Ld × Ts) : Ld × Ts := itx (tlS yr pr) (fun s => s) 0 ((yr 0).toNat + 1) s
theorem tdoTold (hL : isL μ a) (h : isTy μ t) (hN : isN μ r) (ha : t + 1 < a ∨ a + 12 < t) (hra : r + 1 < a ∨ a + 12 < r) (hrt : r + 1 < t ∨ t + 1 < r) (hk : okL l) (hh : -2147483648 ≤ l 0 2 ∧ l 0 2 < 2147483648) (hz : 0 ≤ I r 0 ∧ I r 0 ≤ 60) (hv : ∀ k : Nat, k < 60 → -9223372036854775808 ≤ I (r + 1) k ∧ I (r + 1) k < 9223372036854775808) (hn : 20000 ≤ n) {s : Ld × Ts} (hs : tlL (I r) (I (r + 1)) (l, yB y, flR p 10 (-1)) = s) : mX7_doTold n t a r (wi μ (wl (wT I t y p) a l)) = some ((), wi μ (wl (wT I t s.2.1 s.2.2) a s.1)) := by
  have er : ∀ (l : Ld) (y p : Nat → Int), wl (wT I t y p) a l r = I r := fun l y p => by rw [wl_out (by omega), wT_o (by omega)]
  have er1 : ∀ (l : Ld) (y p : Nat → Int), wl (wT I t y p) a l (r + 1) = I (r + 1) := fun l y p => by rw [wl_out (by omega), wT_o (by omega)]
  unfold mX7_doTold
  rw [tinv h, tbegin h ha hn, Option.bind_some, ← hs]
  unfold tlL
  have hm := itx_map (step := tlS (I r) (I (r + 1))) (ex := fun s => s) (fun s : Ld × Ts => (some ((), wi μ (wl (wT I t s.2.1 s.2.2) a s.1)) : Option (Unit × Mem))) ((I r 0).toNat + 1) 0 (l, yB y, flR p 10 (-1))
  refine Eq.trans ?_ hm
  refine lp_rux (fun k (_ : Ld × Ts) => (k : Int)) (fun _ (s : Ld × Ts) => wi μ (wl (wT I t s.2.1 s.2.2) a s.1)) _ ((I r 0).toNat + 1) _ (fun _ s => okT s ∧ -2147483648 ≤ s.2.1 1 ∧ s.2.1 1 < 2147483648) (fun k s nx hlt hi => ?_) (fun s nx hi => ?_) ((I r 0).toNat + 1) 0 (l, yB y, flR p 10 (-1)) n (by omega) (by omega) ⟨begin_ok hk hh, show (-2147483648 : Int) ≤ 0 by decide, show (0 : Int) < 2147483648 by decide⟩
  · obtain ⟨l, y, p⟩ := s
    obtain ⟨ik, iw⟩ := hi
    dsimp only at iw ⊢
    rw [e_gI hN.k, Option.bind_some, er, if_neg (show ¬ lt32 (I r 0) (k : Int) from fun z => absurd ((lt32_iff (by omega) (by omega) (by omega) (by omega)).mp z) (by omega)), tget h ha, Option.bind_some]
    unfold tlS
    dsimp only
    by_cases c : y 1 = 0
    · rw [if_pos c, if_pos ((eq32_iff (by omega) (by omega) (by omega) (by omega)).mpr c), Option.bind_some]
      obtain ⟨ok1, w0, w3⟩ := tlP_ok (v := toldAt (I r) (I (r + 1)) k) ik
      refine Or.inl ⟨_, rfl, ⟨⟨ok1.1, ok1.2.1, ok1.2.2⟩, ?_⟩, ?_⟩
      · dsimp only
        split
        · rw [upA_s]; omega
        · rw [upA_n (by omega), upA_s]; omega
      · generalize hq : tlP l y p (toldAt (I r) (I (r + 1)) k) = q at *
        obtain ⟨w, l', y', p'⟩ := q
        dsimp only at w0 w3 ⊢
        have fin : ∀ v : Int, v = toldAt (I r) (I (r + 1)) k → (jn (fun (v67 : Int) (μ67 : Mem) => (pI μ67 8 t 1 v67).bind fun μ67 => (gI μ67 8 t 1).bind fun x71 => if eq32 x71 0 then nx ((k : Int) + 1) μ67 else (pI μ67 8 t 0 (k : Int)).bind fun μ79 => nx ((k : Int) + 1) μ79) (fun j67 => if eq32 (oLcmp v (-1)) 0 then (inv (wi μ (wl (wT I t y p) a l)) 8 t (mX7_tellHourEnd n t a (wi μ (wl (wT I t y p) a l)))).bind fun p54 => j67 p54.1 p54.2 else (inv (wi μ (wl (wT I t y p) a l)) 8 t (mX7_tellPull n t a v (wi μ (wl (wT I t y p) a l)))).bind fun p64 => j67 p64.1 p64.2)) = nx (((k + 1 : Nat) : Int)) (wi μ (wl (wT I t (if w = 0 then upA y' 1 w else upA (upA y' 1 w) 0 (k : Int)) p') a l')) := by
          intro v hv'
          have hr : -9223372036854775808 ≤ v ∧ v < 9223372036854775808 := by
            rw [hv']
            unfold toldAt
            split
            · exact hv k (by omega)
            · decide
          have last : ((pI (wi μ (wl (wT I t y' p') a l')) 8 t 1 w).bind fun μ67 => (gI μ67 8 t 1).bind fun x71 => if eq32 x71 0 then nx ((k : Int) + 1) μ67 else (pI μ67 8 t 0 (k : Int)).bind fun μ79 => nx ((k : Int) + 1) μ79) = nx (((k + 1 : Nat) : Int)) (wi μ (wl (wT I t (if w = 0 then upA y' 1 w else upA (upA y' 1 w) 0 (k : Int)) p') a l')) := by
            rw [tput h ha, Option.bind_some, tget h ha, Option.bind_some, upA_s]
            by_cases c : w = 0
            · rw [if_pos ((eq32_iff (by omega) (by omega) (by omega) (by omega)).mpr c), if_pos c]
              rfl
            · rw [if_neg (fun z => c ((eq32_iff (by omega) (by omega) (by omega) (by omega)).mp z)), if_neg c, tput h ha, Option.bind_some]
              rfl
          rw [← hv'] at hq
          unfold jn
          dsimp only
          by_cases c1 : v = -1
          · rw [if_pos ((lcmp_eq (by omega) (by omega) (by omega) (by omega)).mpr c1), tinv h, ttellHourEnd hL h ha ik hn, Option.bind_some]
            rw [c1] at hq
            rw [hq]
            exact last
          · rw [if_neg (fun z => c1 ((lcmp_eq (by omega) (by omega) (by omega) (by omega)).mp z)), tinv h, ttellPull hL h ha ik hr c1 hn, Option.bind_some, hq]
            exact last
        by_cases c2 : (k : Int) < I r 0
        · refine Eq.trans ?_ (fin (rwG (I r) (I (r + 1)) k) ?_)
          · unfold jn
            dsimp only
            rw [if_pos ((lt32_iff (by omega) (by omega) (by omega) (by omega)).mpr c2), e_inv hN.k, nget_eq hN (by rw [er]; exact hz) ⟨by omega, by omega⟩, Option.bind_some, er, er1]
          · unfold rwG toldAt
            rw [if_pos ⟨by omega, c2⟩, if_pos c2, Int.toNat_natCast]
        · refine Eq.trans ?_ (fin (-1) ?_)
          · unfold jn
            dsimp only
            rw [if_neg (fun z => c2 ((lt32_iff (by omega) (by omega) (by omega) (by omega)).mp z))]
          · unfold toldAt
            rw [if_neg c2]
    · rw [if_neg c, if_neg (fun z => c ((eq32_iff (by omega) (by omega) (by omega) (by omega)).mp z))]
      exact Or.inr ⟨_, rfl, rfl⟩
  · rw [e_gI hN.k, Option.bind_some, er, if_pos ((lt32_iff (by omega) (by omega) (by omega) (by omega)).mpr (by omega))]
end TT
