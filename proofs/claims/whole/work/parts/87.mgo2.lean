/-! the reference's hour, where only the pulls of houses are known -/
section G2
variable {μ : Mem} {I : Nat → Nat → Int} {m n : Nat} {s l : Ld}
theorem strengthOn_2w (h : isM μ m) (hl : LR l (s 1)) (hk : okL l) (hp : ∀ k : Nat, (k : Int) < l 0 0 → -2147483648 ≤ s 5 k ∧ s 5 k < 2147483648) {r w : Nat} (hr : (r : Int) < l 0 1) (hw : w < 2) : mX11_strengthOn n m (r : Int) (w : Int) (wi μ (wm I m s)) = some (if s 5 (l 10 (2 * r + w)).toNat = r then l 1 (l 10 (2 * r + w)).toNat else 0, wi μ (wm I m s)) := by
  have hz := hk.1
  obtain ⟨e1, -⟩ := hl.b (b := 2 * r + w) (by omega)
  rw [show (2 * r + w) % 2 = w by omega, show (2 * r + w) / 2 = r by omega] at e1
  have g1 := hk.2.2.2 (2 * r + w) (by omega)
  obtain ⟨e2, -⟩ := hl.2.1 (l 10 (2 * r + w)).toNat (by omega)
  have g2 := hp (l 10 (2 * r + w)).toNat (by omega)
  have e3 : (6 + l 10 (2 * r + w)).toNat = 6 + (l 10 (2 * r + w)).toNat := by omega
  unfold mX11_strengthOn
  simp (disch := omega) only [M_g1 h, M_ld1 h, Option.bind_some, wm_at, tw76, e1, M_g15 h, M_ld5 h, eq32_iff, e3, e2]
  split <;> rfl
theorem depthThen_2w (h : isM μ m) (hl : LR l (s 1)) (hk : okL l) (hp : ∀ k : Nat, (k : Int) < l 0 0 → -2147483648 ≤ s 5 k ∧ s 5 k < 2147483648) {r : Nat} (hr : (r : Int) < l 0 1) : mX11_depthThen n m (r : Int) (wi μ (wm I m s)) = some (mvS (s 5) r l 8 r, wi μ (wm I m s)) := by
  have hz := hk.1
  obtain ⟨-, -, e3, e4, -⟩ := hl.2.2 r hr
  have e5 : s 1 (4 : Int).toNat = l 0 4 := hl.1.2.2.2.1
  have g := hk.2.2.1 r hr
  have w0 := wt_range hk (b := 2 * r + 0) (by omega)
  have w1 := wt_range hk (b := 2 * r + 1) (by omega)
  have p0 := mweight_eq (n := n) (I := I) h hl hk hr (w := 0) (by omega)
  have p1 := mweight_eq (n := n) (I := I) h hl hk hr (w := 1) (by omega)
  have q0 := strengthOn_2w (n := n) (I := I) h hl hk hp hr (w := 0) (by omega)
  have q1 := strengthOn_2w (n := n) (I := I) h hl hk hp hr (w := 1) (by omega)
  rw [show ((0 : Nat) : Int) = 0 from rfl] at p0 q0
  rw [show ((1 : Nat) : Int) = 1 from rfl] at p1 q1
  have epl : plL l r (bi (s 5 (l 10 (2 * r)).toNat = r)) (bi (s 5 (l 10 (2 * r + 1)).toNat = r)) = (if s 5 (l 10 (2 * r + 1)).toNat = r then l 1 (l 10 (2 * r + 1)).toNat else 0) - (if s 5 (l 10 (2 * r + 0)).toNat = r then l 1 (l 10 (2 * r + 0)).toNat else 0) := by
    unfold plL bi
    split <;> split <;> simp_all
  have hpr := pl_range hk hr (bi (s 5 (l 10 (2 * r)).toNat = r)) (bi (s 5 (l 10 (2 * r + 1)).toNat = r))
  have s0 : 0 ≤ (if s 5 (l 10 (2 * r + 0)).toNat = r then l 1 (l 10 (2 * r + 0)).toNat else 0) ∧ (if s 5 (l 10 (2 * r + 0)).toNat = r then l 1 (l 10 (2 * r + 0)).toNat else 0) ≤ 20 := by
    have k1 := hk.2.2.2 (2 * r + 0) (by omega)
    have k2 := hk.2.1 (l 10 (2 * r + 0)).toNat (by omega)
    split <;> omega
  have s1 : 0 ≤ (if s 5 (l 10 (2 * r + 1)).toNat = r then l 1 (l 10 (2 * r + 1)).toNat else 0) ∧ (if s 5 (l 10 (2 * r + 1)).toNat = r then l 1 (l 10 (2 * r + 1)).toNat else 0) ≤ 20 := by
    have k1 := hk.2.2.2 (2 * r + 1) (by omega)
    have k2 := hk.2.1 (l 10 (2 * r + 1)).toNat (by omega)
    split <;> omega
  unfold mX11_depthThen mvS dbL
  rw [epl]
  generalize (if s 5 (l 10 (2 * r + 0)).toNat = r then l 1 (l 10 (2 * r + 0)).toNat else 0) = S0 at *
  generalize (if s 5 (l 10 (2 * r + 1)).toNat = r then l 1 (l 10 (2 * r + 1)).toNat else 0) = S1 at *
  rw [show 2 * r + 0 = 2 * r from rfl] at p0 w0
  generalize wtL l (2 * r) = W0 at *
  generalize wtL l (2 * r + 1) = W1 at *
  simp only [M_inv h, p0, p1, q0, q1, mhangs_eq h hl hk hr, Option.bind_some, eq32_bi, jn, M_g1 h]
  have a4 : ldI (wi μ (wm I m s)) 0 (m + 1) 4 = some (l 0 4) := by rw [M_ld1 h (by omega) (by omega), wm_at (by omega), e5]
  have a8 : ldI (wi μ (wm I m s)) 0 (m + 1) (124 + (r : Int)) = some (l 8 r) := by rw [M_ld1 h (by omega) (by omega), wm_at (by omega), t124, e4]
  have a7 : ldI (wi μ (wm I m s)) 0 (m + 1) (108 + (r : Int)) = some (l 7 r) := by rw [M_ld1 h (by omega) (by omega), wm_at (by omega), t108, e3]
  simp only [a4, a7, a8, Option.bind_some]
  clear p0 p1 q0 q1 a4 a7 a8 epl
  simp (disch := omega) only [eq32_iff, lt32_iff]
  by_cases c1 : l 9 r = 0
  · rw [if_neg (not_not_intro c1), if_pos c1, up2_s]
    unfold dfL
    by_cases c2 : W0 + S1 - (W1 + S0) = 0
    · rw [if_pos c2, if_neg (by omega), if_neg (by omega)]
    · rw [if_neg c2]
      by_cases c3 : W0 + S1 - (W1 + S0) < l 0 4
      · rw [if_pos c3]
        by_cases c4 : -(W0 + S1 - (W1 + S0)) < l 0 4
        · rw [if_pos c4]
          rw [if_pos (show max (W0 - W1 + (S1 - S0)) (-(W0 - W1 + (S1 - S0))) < l 0 4 by omega)]
          by_cases c5 : 0 < W0 + S1 - (W1 + S0)
          · rw [if_pos c5, if_pos (show 0 < W0 - W1 + (S1 - S0) by omega), if_neg (by omega)]
            by_cases c6 : l 7 r < l 8 r + 1
            · rw [if_pos c6]
              congr 2
              omega
            · rw [if_neg c6]
              congr 2
              omega
          · rw [if_neg c5, if_neg (show ¬ 0 < W0 - W1 + (S1 - S0) by omega), if_pos (show W0 - W1 + (S1 - S0) < 0 by omega)]
            by_cases c6 : l 8 r + -1 < 0
            · rw [if_pos c6]
              congr 2
              omega
            · rw [if_neg c6, if_neg (by omega)]
              congr 2
              omega
        · rw [if_neg c4, if_neg (show ¬ 0 < W0 - W1 + (S1 - S0) by omega), if_pos (show W0 - W1 + (S1 - S0) < 0 by omega), if_neg (show ¬ max (W0 - W1 + (S1 - S0)) (-(W0 - W1 + (S1 - S0))) < l 0 4 by omega)]
          congr 2
          omega
      · rw [if_neg c3, if_pos (show 0 < W0 - W1 + (S1 - S0) by omega), if_neg (show ¬ max (W0 - W1 + (S1 - S0)) (-(W0 - W1 + (S1 - S0))) < l 0 4 by omega)]
        congr 2
        omega
  · rw [if_pos c1, if_neg c1]
theorem goes_gq2 (h : isM μ m) (hl : LR l (s 1)) (hk : okL l) (hp : ∀ k : Nat, (k : Int) < l 0 0 → -2147483648 ≤ s 5 k ∧ s 5 k < 2147483648) (hn : 100 ≤ n) : GQ μ I m s l (drL (flL (mvL (s 5) l))) (mX11_goes n m (wi μ (wm I m s))) := by
  have hz := hk.1
  unfold mX11_goes
  refine lp_sim (mvS (s 5)) (l 0 1).toNat (fun k z a ν => a = (k : Int) ∧ GP μ I m s l z ν) (fun z x => GQ μ I m s l (drL (flL z)) x) (fun k z a ν nx hlt hP => ?_) (fun z a ν nx hP => ?_) (l 0 1).toNat 0 l 0 _ n (by omega) (by omega) ⟨rfl, s 1, by rw [up1_id], hl, hk, fxL.rf, rfl, rfl, fun hq => hq.2, fun _ _ => rfl⟩
  · obtain ⟨rfl, A, rfl, hA, ok, fx, a2, z2, hq, kp⟩ := hP
    have e1 := fx.1 1 (by omega)
    have hz' := ok.1
    have hr : (k : Int) < z 0 1 := by omega
    have q1 := hA.1.2.1
    have dt := depthThen_2w (n := n) (I := I) (s := up1 s 1 A) h hA ok (by rw [fx.1 0 (by decide)]; exact hp) hr
    have eA1 : (up1 s 1 A) 1 = A := rfl
    have eA5 : (up1 s 1 A) 5 = s 5 := rfl
    rw [eA5] at dt
    refine ⟨(k : Int) + 1, wi μ (wm I m (up1 s 1 (upA A (124 + k) (mvS (s 5) k z 8 k)))), ⟨by omega, _, rfl, ?_, mvS_ok _ ok hr, fx.tr (mvS_fx _ k z), by rw [upA_n (by omega)]; exact a2, by rw [(mvS_q _ _ _).2.2]; exact z2, fun hh q hq' => ?_, fun j hj => by rw [upA_n (by omega)]; exact kp j hj⟩, ?_⟩
    · unfold mvS
      by_cases c : z 9 k = 0
      · rw [if_pos c, up2_s]
        exact hA.dep ok hr _
      · rw [if_neg c, upA_id (hA.2.2 k hr).2.2.2.1]
        exact hA
    · rw [(mvS_q _ _ _).1, (mvS_q _ _ _).2.1, upA_n (by omega), upA_n (by omega)]
      exact hq hh q hq'
    · have a1 : ldI (wi μ (wm I m (up1 s 1 A))) 0 (m + 1) 1 = some (z 0 1) := by rw [M_ld1 h (by omega) (by omega), wm_at (by omega)]; exact congrArg some q1
      try dsimp only
      rw [M_g1 h, Option.bind_some, a1, Option.bind_some, if_pos (show lt32 (k : Int) (z 0 1) from (lt32_iff (by omega) (by omega) (by omega) (by omega)).mpr (by omega)), Option.bind_some, M_inv h, dt, Option.bind_some, M_st1 h (by omega) (by omega), Option.bind_some, wm_up (by omega), t124, up21]
  · obtain ⟨rfl, A, rfl, hA, ok, fx, a2, z2, hq, kp⟩ := hP
    have e1 := fx.1 1 (by omega)
    have hz' := ok.1
    have q1 := hA.1.2.1
    have a1 : ldI (wi μ (wm I m (up1 s 1 A))) 0 (m + 1) 1 = some (z 0 1) := by rw [M_ld1 h (by omega) (by omega), wm_at (by omega)]; exact congrArg some q1
    try dsimp only
    rw [M_g1 h, Option.bind_some, a1, Option.bind_some, if_neg (show ¬ lt32 ((l 0 1).toNat : Int) (z 0 1) from fun c => absurd ((lt32_iff (by omega) (by omega) (by omega) (by omega)).mp c) (by omega))]
    have hlen : (l 0 1).toNat = (z 0 1).toNat := by omega
    show GQ μ I m s l (drL (itr flS 0 (2 * (z 0 1).toNat) z)) _
    refine lp_sim flS (2 * (z 0 1).toNat) (fun k y a ν => a = (k : Int) ∧ GP μ I m s l y ν) (fun y x => GQ μ I m s l (drL y) x) (fun k y a ν nx hlt hP => ?_) (fun y a ν nx hP => ?_) (2 * (z 0 1).toNat) 0 z 0 _ n (by omega) (by omega) ⟨rfl, A, rfl, hA, ok, fx, a2, z2, hq, kp⟩
    · obtain ⟨rfl, A, rfl, hA, ok, fx, a2, y2, hq, kp⟩ := hP
      have e1 := fx.1 1 (by omega)
      have e0 := fx.1 0 (by omega)
      have hz' := ok.1
      have hb : (k : Int) < 2 * y 0 1 := by omega
      have hr2 : ((k / 2 : Nat) : Int) < y 0 1 := by omega
      have q1 := hA.1.2.1
      obtain ⟨b1, b2, b3, b4, b5, b6⟩ := hA.b hb
      have g := ok.2.2.2 k hb
      obtain ⟨c1, c2, c3, -⟩ := hA.2.1 (y 10 k).toNat (by omega)
      have g3 := ok.2.1 (y 10 k).toNat (by omega)
      have g4 := dp_range ok hb
      have eA1 : (up1 s 1 A) 1 = A := rfl
      have i1 : (1 : Int).toNat = 1 := rfl
      have hh := mhangs_eq (n := n) (I := I) (s := up1 s 1 A) h hA ok hr2
      have hd := mdepth_eq (n := n) (I := I) (s := up1 s 1 A) h hA ok hr2 (w := k % 2) (by omega)
      rw [show 2 * (k / 2) + k % 2 = k by omega] at hd
      rw [show ((k / 2 : Nat) : Int) = (k : Int) / 2 by omega] at hh hd
      rw [show ((k % 2 : Nat) : Int) = (k : Int) % 2 by omega] at hd
      have t16 : (16 + y 10 k).toNat = 16 + (y 10 k).toNat := by omega
      have t26 : (26 + y 10 k).toNat = 26 + (y 10 k).toNat := by omega
      have hfx := fx.tr (flS_fx k y)
      have hok := flS_ok ok hb
      have hq2 := flS_q k y
      unfold flS at hfx hok hq2 ⊢
      have red : ∀ y', y' = y → ∃ a' μ', (a' = ((k + 1 : Nat) : Int) ∧ GP μ I m s l y' μ') ∧ nx ((k : Int) + 1) (wi μ (wm I m (up1 s 1 A))) = nx a' μ' := fun y' e => ⟨(k : Int) + 1, _, ⟨by omega, A, rfl, e ▸ hA, e ▸ ok, e ▸ fx, a2, e ▸ y2, e ▸ hq, kp⟩, rfl⟩
      have a1 : ldI (wi μ (wm I m (up1 s 1 A))) 0 (m + 1) 1 = some (y 0 1) := by rw [M_ld1 h (by omega) (by omega), wm_at (by omega)]; exact congrArg some q1
      try dsimp only
      rw [M_g1 h, Option.bind_some, a1, Option.bind_some, if_pos (show lt32 (k : Int) (2 * y 0 1) from (lt32_iff (by omega) (by omega) (by omega) (by omega)).mpr (by omega)), Option.bind_some]
      simp (disch := omega) only [M_g1 h, M_ld1 h, Option.bind_some, wm_at, eA1, oRem_of, oDiv_of, tb76, tb172, b1, b3, M_inv h, hh, hd, eq32_bi, eq32_iff, lt32_iff, t16, t26, c2, c3]
      by_cases d1 : y 9 (k / 2) = 0
      · rw [if_neg (not_not_intro d1)]
        by_cases d2 : y 12 k = 1
        · rw [if_pos d2]
          exact red _ (if_neg (by omega))
        · rw [if_neg d2]
          by_cases d3 : dpL y k < y 2 (y 10 k).toNat
          · rw [if_pos d3]
            exact red _ (if_neg (by omega))
          · rw [if_neg d3]
            by_cases d4 : y 3 (y 10 k).toNat = 0
            · rw [if_pos d4]
              exact red _ (if_neg (by omega))
            · rw [if_neg d4]
              have cc : y 9 (k / 2) = 0 ∧ y 12 k = 0 ∧ 0 < y 3 (y 10 k).toNat ∧ y 2 (y 10 k).toNat ≤ dpL y k := ⟨d1, by omega, by omega, by omega⟩
              rw [if_pos cc] at hfx hok hq2 ⊢
              refine ⟨(k : Int) + 1, wi μ (wm I m (up1 s 1 (upA (upA A (172 + 16 * (k % 2) + k / 2) 1) (26 + (y 10 k).toNat) (y 3 (y 10 k).toNat - 1)))), ⟨by omega, _, rfl, ?_, hok, hfx, ?_, by rw [hq2.2.2]; exact y2, fun hh q hq' => ?_, fun j hj => by rw [upA_n (by omega), upA_n (by omega)]; exact kp j hj⟩, ?_⟩
              · have f1 := hA.ful ok hb 1
                have ok1 : okL (up2 y 12 k 1) := by
                  refine ok.fx (fx_up (by omega)) (fun h hh => ?_) (fun r hr => ?_) (fun b hb => ?_)
                  · have := ok.2.1 h hh
                    rw [up2_n (by omega)]; omega
                  · have := ok.2.2.1 r hr
                    rw [up2_n (by omega)]; omega
                  · have := ok.2.2.2 b hb
                    by_cases e : b = k
                    · subst e; rw [up2_s]; omega
                    · rw [up2_n (by omega)]; omega
                exact f1.stk ok1 (by rw [up2_n (by omega)]; omega) _
              · rw [upA_n (by omega), upA_n (by omega)]; exact a2
              · rw [hq2.1, hq2.2.1, upA_n (by omega), upA_n (by omega), upA_n (by omega), upA_n (by omega)]
                exact hq hh q hq'
              · simp (disch := omega) only [M_st1 h, wm_up, up21, Option.bind_some, tb172, M_g1 h, M_ld1 h, wm_at, t26]
                have e26 : (up1 s 1 (upA A (172 + 16 * (k % 2) + k / 2) 1)) 1 (26 + (y 10 k).toNat) = y 3 (y 10 k).toNat := by
                  show upA A (172 + 16 * (k % 2) + k / 2) 1 (26 + (y 10 k).toNat) = _
                  rw [upA_n (by omega)]; exact c3
                rw [e26]
      · rw [if_pos d1]
        exact red _ (if_neg (fun z => d1 z.1))
    · obtain ⟨rfl, A, rfl, hA, ok, fx, a2, y2, hq, kp⟩ := hP
      have e1 := fx.1 1 (by omega)
      have hz' := ok.1
      have q1 := hA.1.2.1
      have a1 : ldI (wi μ (wm I m (up1 s 1 A))) 0 (m + 1) 1 = some (y 0 1) := by rw [M_ld1 h (by omega) (by omega), wm_at (by omega)]; exact congrArg some q1
      try dsimp only
      rw [M_g1 h, Option.bind_some, a1, Option.bind_some, if_neg (show ¬ lt32 ((2 * (z 0 1).toNat : Nat) : Int) (2 * y 0 1) from fun c => absurd ((lt32_iff (by omega) (by omega) (by omega) (by omega)).mp c) (by omega))]
      show GQ μ I m s l (itr drS 0 (2 * (y 0 1).toNat) (y, 0)) _
      refine lp_sim drS (2 * (y 0 1).toNat) (fun k w a ν => a = (w.2, (k : Int)) ∧ GP μ I m s l w.1 ν) (fun w x => GQ μ I m s l w x) (fun k w a ν nx hlt hP => ?_) (fun w a ν nx hP => ?_) (2 * (y 0 1).toNat) 0 (y, 0) (0, 0) _ n (by omega) (by omega) ⟨rfl, A, rfl, hA, ok, fx, a2, y2, hq, kp⟩
      · obtain ⟨rfl, A, rfl, hA, ok, fx, a2, y2, hq, kp⟩ := hP
        have e1 := fx.1 1 (by omega)
        have e0 := fx.1 0 (by omega)
        have hz' := ok.1
        have hb : (k : Int) < 2 * w.1 0 1 := by omega
        have hr2 : ((k / 2 : Nat) : Int) < w.1 0 1 := by omega
        have q1 := hA.1.2.1
        obtain ⟨b1, b2, b3, b4, b5, b6⟩ := hA.b hb
        have g := ok.2.2.2 k hb
        obtain ⟨c1, c2, c3, c4, c5⟩ := hA.2.1 (w.1 10 k).toNat (by omega)
        have g4 := dp_range ok hb
        have eA1 : (up1 s 1 A) 1 = A := rfl
        have hh := mhangs_eq (n := n) (I := I) (s := up1 s 1 A) h hA ok hr2
        have hd := mdepth_eq (n := n) (I := I) (s := up1 s 1 A) h hA ok hr2 (w := k % 2) (by omega)
        rw [show 2 * (k / 2) + k % 2 = k by omega] at hd
        rw [show ((k / 2 : Nat) : Int) = (k : Int) / 2 by omega] at hh hd
        rw [show ((k % 2 : Nat) : Int) = (k : Int) % 2 by omega] at hd
        have hfx := fx.tr (drS_fx k w)
        have hok := drS_ok ok hb
        have red : drS k w = w → ∃ a' μ', (a' = ((drS k w).2, ((k + 1 : Nat) : Int)) ∧ GP μ I m s l (drS k w).1 μ') ∧ nx (w.2, (k : Int) + 1) (wi μ (wm I m (up1 s 1 A))) = nx a' μ' := fun e => by
          rw [e]
          exact ⟨(w.2, (k : Int) + 1), _, ⟨rfl, A, rfl, hA, ok, fx, a2, y2, hq, kp⟩, rfl⟩
        have a1 : ldI (wi μ (wm I m (up1 s 1 A))) 0 (m + 1) 1 = some (w.1 0 1) := by rw [M_ld1 h (by omega) (by omega), wm_at (by omega)]; exact congrArg some q1
        try dsimp only
        rw [M_g1 h, Option.bind_some, a1, Option.bind_some, if_pos (show lt32 (k : Int) (2 * w.1 0 1) from (lt32_iff (by omega) (by omega) (by omega) (by omega)).mpr (by omega)), Option.bind_some]
        simp (disch := omega) only [M_g1 h, M_ld1 h, Option.bind_some, wm_at, eA1, oRem_of, oDiv_of, tb76, tb172, b1, b3, M_inv h, hh, hd, eq32_bi, eq32_iff, lt32_iff]
        by_cases d1 : w.1 9 (k / 2) = 0
        · rw [if_neg (not_not_intro d1)]
          by_cases d2 : w.1 12 k = 0
          · rw [if_pos d2]
            exact red (if_neg (fun z => z.2.1 d2))
          · rw [if_neg d2]
            by_cases d3 : 0 < dpL w.1 k
            · rw [if_pos d3]
              exact red (if_neg (by omega))
            · rw [if_neg d3]
              have cc : w.1 9 (k / 2) = 0 ∧ w.1 12 k ≠ 0 ∧ dpL w.1 k = 0 := ⟨d1, d2, by omega⟩
              have t46 : (46 + w.1 10 k).toNat = 46 + (w.1 10 k).toNat := by omega
              have t36 : (36 + w.1 10 k).toNat = 36 + (w.1 10 k).toNat := by omega
              have t56 : (56 + w.1 10 k).toNat = 56 + (w.1 10 k).toNat := by omega
              have t66 : (66 + w.1 10 k).toNat = 66 + (w.1 10 k).toNat := by omega
              have ok1 : okL (up2 w.1 12 k 0) := by
                refine ok.fx (fx_up (by omega)) (fun h hh => ?_) (fun r hr => ?_) (fun b hb => ?_)
                · have := ok.2.1 h hh
                  rw [up2_n (by omega)]; omega
                · have := ok.2.2.1 r hr
                  rw [up2_n (by omega)]; omega
                · have := ok.2.2.2 b hb
                  by_cases e : b = k
                  · subst e; rw [up2_s]; omega
                  · rw [up2_n (by omega)]; omega
              have f1 := hA.ful ok hb 0
              have v46 : (up1 s 1 (upA A (172 + 16 * (k % 2) + k / 2) 0)) 1 (46 + (w.1 10 k).toNat) = A (46 + (w.1 10 k).toNat) := by
                show upA A (172 + 16 * (k % 2) + k / 2) 0 (46 + (w.1 10 k).toNat) = _
                rw [upA_n (by omega)]
              simp (disch := omega) only [M_st1 h, wm_up, up21, Option.bind_some, tb172, M_g1 h, M_ld1 h, wm_at, t46, v46, M_inv h, mthirsts_eq h, eq32_bi, jn, t36]
              generalize hA2 : upA (upA A (172 + 16 * (k % 2) + k / 2) 0) (46 + (w.1 10 k).toNat) (A (46 + (w.1 10 k).toNat) + 1) = A2
              have hA2' : A2 = upA (upA A (172 + 16 * (k % 2) + k / 2) 0) (46 + (w.1 10 k).toNat) ((upA A (172 + 16 * (k % 2) + k / 2) 0) (46 + (w.1 10 k).toNat) + 1) := by rw [← hA2, upA_n (k := 172 + 16 * (k % 2) + k / 2) (by omega)]
              have eT : A2 (36 + (w.1 10 k).toNat) = w.1 4 (w.1 10 k).toNat := by rw [← hA2, upA_n (by omega), upA_n (by omega)]; exact c4
              have eH : A2 2 = s 1 2 := by rw [← hA2, upA_n (by omega), upA_n (by omega)]; exact a2
              have v56 : ∀ c : Nat, 56 ≤ c → c < 76 → A2 c = A c := fun c h1 h2 => by rw [← hA2, upA_n (by omega), upA_n (by omega)]
              have eAA : (up1 s 1 A2) 1 = A2 := rfl
              simp only [eAA, eT, eH]
              have hw2 : ∀ c y, upA A2 c y = upA (upA (upA A (172 + 16 * (k % 2) + k / 2) 0) (46 + (w.1 10 k).toNat) ((upA A (172 + 16 * (k % 2) + k / 2) 0) (46 + (w.1 10 k).toNat) + 1)) c y := fun c y => by rw [← hA2']
              have hth : LRq l (s 1) → (eq32 (oAnd (oShr (w.1 4 (w.1 10 k).toNat) (oRem (s 1 2) 12)) 1) 1 ↔ thL w.1 (w.1 10 k).toNat) := fun q => by
                unfold thL
                rw [q.1, y2]
              have hdr : drS k w = (if thL w.1 (w.1 10 k).toNat then (up2 (up2 w.1 12 k 0) 5 (w.1 10 k).toNat (w.1 5 (w.1 10 k).toNat + 1), w.2 + 1) else (up2 (up2 w.1 12 k 0) 6 (w.1 10 k).toNat (w.1 6 (w.1 10 k).toNat + 1), w.2 + 1)) := if_pos cc
              have fin : ∀ c : Nat, (c = 56 ∨ c = 66) → (LRq l (s 1) → (c = 56 ↔ thL w.1 (w.1 10 k).toNat)) → ∃ a' μ', (a' = ((drS k w).2, ((k + 1 : Nat) : Int)) ∧ GP μ I m s l (drS k w).1 μ') ∧ nx (w.2 + 1, (k : Int) + 1) (wi μ (wm I m (up1 s 1 (upA A2 (c + (w.1 10 k).toNat) (A2 (c + (w.1 10 k).toNat) + 1))))) = nx a' μ' := by
                intro c hc hcq
                have e10 : ((up2 w.1 12 k 0) 10 k) = w.1 10 k := up2_n (by omega)
                have hq0 : (((w.1 10 k).toNat : Nat) : Int) < (up2 w.1 12 k 0) 0 0 := by rw [up2_n (by omega)]; omega
                refine ⟨(w.2 + 1, (k : Int) + 1), _, ⟨?_, _, rfl, ?_, hok, hfx, ?_, ?_, fun hh q hq' => ?_, fun j hj => by rw [upA_n (by omega), ← hA2, upA_n (by omega), upA_n (by omega)]; exact kp j hj⟩, rfl⟩
                · rw [hdr]; split <;> rfl
                · rw [hw2, hdr]
                  split
                  · have := f1.drk ok1 hq0 (k := 5) (c := c) (Or.inl rfl) hc (A2 (c + (w.1 10 k).toNat) + 1)
                    rw [up2_n (show ¬ (5 = 12 ∧ (w.1 10 k).toNat = k) by omega)] at this
                    exact this
                  · have := f1.drk ok1 hq0 (k := 6) (c := c) (Or.inr rfl) hc (A2 (c + (w.1 10 k).toNat) + 1)
                    rw [up2_n (show ¬ (6 = 12 ∧ (w.1 10 k).toNat = k) by omega)] at this
                    exact this
                · rw [upA_n (by omega)]; exact eH
                · rw [hdr]
                  split
                  · dsimp only
                    rw [up2_n (by omega), up2_n (by omega)]; exact y2
                  · dsimp only
                    rw [up2_n (by omega), up2_n (by omega)]; exact y2
                · have gq := hq hh q hq'
                  have gh := hq hh (w.1 10 k).toNat (by omega)
                  have hc2 := hcq hh
                  rw [hdr]
                  by_cases ct : thL w.1 (w.1 10 k).toNat
                  · rw [if_pos ct]
                    have c56 : c = 56 := hc2.mpr ct
                    subst c56
                    dsimp only
                    rw [upA_n (j := 66 + q) (by omega), v56 (66 + q) (by omega) (by omega), up2_n (b := 6) (by omega), up2_n (b := 6) (by omega)]
                    refine ⟨?_, gq.2⟩
                    by_cases eq : q = (w.1 10 k).toNat
                    · rw [eq, upA_s, up2_s, v56 _ (by omega) (by omega), gh.1]
                    · rw [upA_n (by omega), v56 _ (by omega) (by omega), up2_n (by omega), up2_n (by omega)]; exact gq.1
                  · rw [if_neg ct]
                    have c66 : c = 66 := hc.resolve_left (fun z => ct (hc2.mp z))
                    subst c66
                    dsimp only
                    rw [upA_n (j := 56 + q) (by omega), v56 (56 + q) (by omega) (by omega), up2_n (b := 5) (by omega), up2_n (b := 5) (by omega)]
                    refine ⟨gq.1, ?_⟩
                    by_cases eq : q = (w.1 10 k).toNat
                    · rw [eq, upA_s, up2_s, v56 _ (by omega) (by omega), gh.2]
                    · rw [upA_n (by omega), v56 _ (by omega) (by omega), up2_n (by omega), up2_n (by omega)]; exact gq.2
              by_cases ct : eq32 (oAnd (oShr (w.1 4 (w.1 10 k).toNat) (oRem (s 1 2) 12)) 1) 1
              · rw [if_neg (not_not_intro ct)]
                simp (disch := omega) only [M_ld1 h, wm_at, Option.bind_some, M_st1 h, wm_up, up21, t56, eAA]
                exact fin 56 (Or.inl rfl) (fun q => ⟨fun _ => (hth q).mp ct, fun _ => rfl⟩)
              · rw [if_pos ct]
                simp (disch := omega) only [M_ld1 h, wm_at, Option.bind_some, M_st1 h, wm_up, up21, t66, eAA]
                exact fin 66 (Or.inr rfl) (fun q => ⟨fun z => absurd z (by omega), fun z => absurd ((hth q).mpr z) ct⟩)
        · rw [if_pos d1]
          exact red (if_neg (fun z => d1 z.1))
      · obtain ⟨rfl, A, rfl, hA, ok, fx, a2, y2, hq, kp⟩ := hP
        have e1 := fx.1 1 (by omega)
        have hz' := ok.1
        have q1 := hA.1.2.1
        have a1 : ldI (wi μ (wm I m (up1 s 1 A))) 0 (m + 1) 1 = some (w.1 0 1) := by rw [M_ld1 h (by omega) (by omega), wm_at (by omega)]; exact congrArg some q1
        have a3 : ldI (wi μ (wm I m (up1 s 1 A))) 0 (m + 1) 2 = some (s 1 2) := by rw [M_ld1 h (by omega) (by omega), wm_at (by omega)]; exact congrArg some a2
        try dsimp only
        rw [M_g1 h, Option.bind_some, a1, Option.bind_some, if_neg (show ¬ lt32 ((2 * (y 0 1).toNat : Nat) : Int) (2 * w.1 0 1) from fun c => absurd ((lt32_iff (by omega) (by omega) (by omega) (by omega)).mp c) (by omega)), Option.bind_some, a3, Option.bind_some, M_st1 h (by omega) (by omega), Option.bind_some, wm_up (by omega), up21]
        refine ⟨_, rfl, hA.hourA _, ok, fx, upA_s, y2, fun hh q hq' => ?_, fun j hj => by rw [upA_n (show j ≠ (2 : Int).toNat by show j ≠ 2; omega)]; exact kp j hj⟩
        rw [upA_n (show 56 + q ≠ (2 : Int).toNat by show 56 + q ≠ 2; omega), upA_n (show 66 + q ≠ (2 : Int).toNat by show 66 + q ≠ 2; omega)]
        exact hq hh q hq'
/-- the reference's hour: as the land's; the hour itself, and what quenched, where they were alike and the last hour isn't reached -/
theorem goes_2w (h : isM μ m) (hl : LR l (s 1)) (hk : okL l) (hp : ∀ k : Nat, (k : Int) < l 0 0 → -2147483648 ≤ s 5 k ∧ s 5 k < 2147483648) (hn : 100 ≤ n) : ∃ A : Nat → Int, mX11_goes n m (wi μ (wm I m s)) = some ((goL (s 5) l).2, wi μ (wm I m (up1 s 1 A))) ∧ LR (goL (s 5) l).1 A ∧ A 2 = s 1 2 + 1 ∧ (LRq l (s 1) → l 0 2 < 9999 → LRq (goL (s 5) l).1 A) ∧ ∀ j : Nat, 220 ≤ j → A j = s 1 j := by
  obtain ⟨A, e, hA, ok, fx, a2, y2, hq, kp⟩ := goes_gq2 (n := n) (I := I) h hl hk hp hn
  have hg2 : (goL (s 5) l).2 = (drL (flL (mvL (s 5) l))).2 := rfl
  refine ⟨A, by rw [hg2]; exact e, ?_, a2, fun q hh => ?_, kp⟩
  · unfold goL
    dsimp only
    split
    · have := hA.hour ((drL (flL (mvL (s 5) l))).1 0 2 + 1) (A 2)
      rw [upA_id rfl] at this
      exact this
    · exact hA
  · have e0 := fx.1 0 (by omega)
    unfold goL
    dsimp only
    rw [if_pos (by omega)]
    refine ⟨by rw [up2_s, a2, q.1]; omega, fun p hp' => ?_⟩
    rw [up2_n (by omega)] at hp'
    rw [up2_n (by omega), up2_n (by omega)]
    exact hq q p (by omega)
end G2
