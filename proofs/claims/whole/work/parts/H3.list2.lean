/-! the class's search: the list of choices, the recursion -/
section LJ
variable {μ : Mem} {J : Nat → Nat → Int} {a c n o H R i : Nat} {ro : Nat → Nat} {l : Ld} {Q : Int} {self : Nat × Int × Int × Int → Mem → Option (Unit × Mem)}
/-- what a call for the houses from i on does -/
def lsP (μ : Mem) (a c : Nat) (l : Ld) (o H i : Nat) (ro : Nat → Nat) (Q : Int) (self : Nat × Int × Int × Int → Mem → Option (Unit × Mem)) (N : Nat → Nat) : Prop := ∀ (v q z : Nat) (J : Nat → Nat → Int), v < 64 → (∀ t : Nat, t < 6 → v.testBit t = true → t < 2 * o ∧ en l ro t < i) → q ≤ 4 → ((pcN v + q : Nat) : Int) = Q → envS J a c l o ro → J a 6 = (z : Int) → z + N q ≤ 40 → ∃ K : Nat → Nat → Int, self (a, (i : Int), (v : Int), (q : Int)) (wi μ J) = some ((), wi μ K) ∧ LC J K a z (z + N q) Q (ext l o H ro v i q)
theorem lfS_l (hE : isSe μ a c) (hL : isL μ (c + 3)) (ha : c + 15 < a) (hk : okL l) (hH : (H : Int) = l 0 0) (op : opn l o ro R) (ho : o ≤ 3) (hi : i < H) (hH4 : H ≤ 4) {N : Nat → Nat} (hself : lsP μ a c l o H (i + 1) ro Q self N) (nx : Int → Mem → Option (Unit × Mem)) {v q k : Nat} (hv : v < 64) (hb : ∀ t : Nat, t < 6 → v.testBit t = true → t < 2 * o ∧ en l ro t < i) (hq : q + 1 ≤ 4) (hQ : ((pcN v + (q + 1) : Nat) : Int) = Q) (hko : k < o) : ∀ (d kk s z : Nat) (J : Nat → Nat → Int), s + d = 2 → d < kk → envS J a c l o ro → J a 6 = (z : Int) → z + dg (en l ro) i (2 * k + s) d * N q ≤ 40 → ∃ K : Nat → Nat → Int, lp (lfS n a self (i : Int) (v : Int) ((q + 1 : Nat) : Int) nx (k : Int)) kk (s : Int) (wi μ J) = nx ((k : Int) + 1) (wi μ K) ∧ LC J K a z (z + dg (en l ro) i (2 * k + s) d * N q) Q (fun w => ∃ t : Nat, 2 * k + s ≤ t ∧ t < 2 * k + 2 ∧ en l ro t = i ∧ ext l o H ro (v ||| 2 ^ t) (i + 1) q w)
  | d, 0, s, z, J, h1, h2, hJ, hz, h40 => absurd h2 (by omega)
  | 0, kk + 1, s, z, J, h1, h2, hJ, hz, h40 => by
    refine ⟨J, ?_, ?_⟩
    · generalize hB : lp (lfS n a self (i : Int) (v : Int) ((q + 1 : Nat) : Int) nx (k : Int)) kk = slf
      show lfS n a self (i : Int) (v : Int) ((q + 1 : Nat) : Int) nx (k : Int) (lp (lfS n a self (i : Int) (v : Int) ((q + 1 : Nat) : Int) nx (k : Int)) kk) (s : Int) (wi μ J) = _
      rw [hB]
      unfold lfS
      rw [i_lt_f (by omega)]
    · have e : z + dg (en l ro) i (2 * k + s) 0 * N q = z := by
        show z + 0 * N q = z
        rw [Nat.zero_mul, Nat.add_zero]
      rw [e]
      exact LC.none hz (fun w hw => by obtain ⟨t, t1, t2, -⟩ := hw; omega)
  | d + 1, kk + 1, s, z, J, h1, h2, hJ, hz, h40 => by
    have t2o : 2 * k + s < 2 * o := by omega
    obtain ⟨e1, e2⟩ := en_lt hk hH op t2o
    have rr := (op.2.1 k hko).1
    have r1 := op.1
    have k0 := hk.1
    have ks : (2 * k + s) / 2 = k := by omega
    have km : (2 * k + s) % 2 = s := by omega
    rw [ks, km] at e2
    have st : dg (en l ro) i (2 * k + s) (d + 1) = (if en l ro (2 * k + s) = i then 1 else 0) + dg (en l ro) i (2 * k + (s + 1)) d := rfl
    rw [st] at h40
    have ih := lfS_l hE hL ha hk hH op ho hi hH4 hself nx hv hb hq hQ hko d kk (s + 1)
    have pre : ∀ slf : Int → Mem → Option (Unit × Mem), lfS n a self (i : Int) (v : Int) ((q + 1 : Nat) : Int) nx (k : Int) slf (s : Int) (wi μ J) = if eq32 ((en l ro (2 * k + s) : Nat) : Int) (i : Int) then (self (a, ((i + 1 : Nat) : Int), ((v ||| 2 ^ (2 * k + s) : Nat) : Int), (q : Int)) (wi μ J)).bind fun p134 => slf ((s + 1 : Nat) : Int) p134.2 else slf ((s + 1 : Nat) : Int) (wi μ J) := fun slf => by
      unfold lfS
      have e2' : ld J (c + 3) 10 (2 * ((ro k : Nat) : Int) + (s : Int)).toNat = ((en l ro (2 * k + s) : Nat) : Int) := by
        rw [hJ.1 10 (by decide) (by decide), show (2 * ((ro k : Nat) : Int) + (s : Int)).toNat = 2 * ro k + s by omega]
        exact e2
      rw [i_lt_t (by omega), bE_g10 hE, bL_g15 hL, bE_g2 hE, bE_ld9 hE (by omega) (by omega), Int.toNat_natCast, hJ.2.2 k hko, bL_ld10 hL (by omega) (by omega), e2', bE_inv hE, show (2 * (k : Int)) + (s : Int) = ((2 * k + s : Nat) : Int) by omega, oShl1 _ (by omega), oOr_n (by omega) (Nat.lt_of_lt_of_le (Nat.pow_lt_pow_right (by decide) (show 2 * k + s < 6 by omega)) (by decide)), show ((q + 1 : Nat) : Int) - 1 = (q : Int) by omega]
      rfl
    generalize hB : lp (lfS n a self (i : Int) (v : Int) ((q + 1 : Nat) : Int) nx (k : Int)) kk = slf at ih
    show ∃ K : Nat → Nat → Int, lfS n a self (i : Int) (v : Int) ((q + 1 : Nat) : Int) nx (k : Int) (lp (lfS n a self (i : Int) (v : Int) ((q + 1 : Nat) : Int) nx (k : Int)) kk) (s : Int) (wi μ J) = _ ∧ _
    rw [hB, pre, st]
    by_cases ce : en l ro (2 * k + s) = i
    · have nb : v.testBit (2 * k + s) = false := by
        cases hx : v.testBit (2 * k + s) with
        | false => rfl
        | true =>
          have := (hb _ (by omega) hx).2
          omega
      obtain ⟨pc1, pc2⟩ := pc_or v hv (2 * k + s) (by omega) nb
      rw [if_pos ce] at h40 ⊢
      rw [Nat.add_mul, Nat.one_mul] at h40 ⊢
      obtain ⟨K, e3, lc⟩ := hself (v ||| 2 ^ (2 * k + s)) q z J pc2 (fun t ht hx => by
        rcases tb_or.mp hx with hx | hx
        · have := hb t ht hx
          exact ⟨this.1, by omega⟩
        · subst hx
          exact ⟨t2o, by omega⟩) (by omega) (by rw [pc1, ← hQ]; congr 1; omega) hJ hz (by omega)
      obtain ⟨K2, e4, lc2⟩ := ih (z + N q) K (by omega) (by omega) (lc.env ha hJ) lc.1.2.2 (by omega)
      refine ⟨K2, ?_, ?_⟩
      · rw [i_eq_t (by rw [ce]), bnd e3]
        exact e4
      · have tr := lc.tr lc2
        rw [show z + N q + dg (en l ro) i (2 * k + (s + 1)) d * N q = z + (N q + dg (en l ro) i (2 * k + (s + 1)) d * N q) by omega] at tr
        refine tr.iff (fun w => ⟨fun hw => ?_, fun hw => ?_⟩)
        · rcases hw with hw | ⟨t, t1, t2, t3, t4⟩
          · exact ⟨2 * k + s, Nat.le_refl _, by omega, ce, hw⟩
          · exact ⟨t, by omega, t2, t3, t4⟩
        · obtain ⟨t, t1, t2, t3, t4⟩ := hw
          by_cases ct : t = 2 * k + s
          · subst ct; exact Or.inl t4
          · exact Or.inr ⟨t, by omega, t2, t3, t4⟩
    · rw [if_neg ce] at h40 ⊢
      rw [Nat.zero_add] at h40 ⊢
      obtain ⟨K2, e4, lc2⟩ := ih z J (by omega) (by omega) hJ hz h40
      refine ⟨K2, ?_, lc2.iff (fun w => ⟨fun hw => ?_, fun hw => ?_⟩)⟩
      · rw [i_eq_f (by omega)]
        exact e4
      · obtain ⟨t, t1, t2, t3, t4⟩ := hw
        exact ⟨t, by omega, t2, t3, t4⟩
      · obtain ⟨t, t1, t2, t3, t4⟩ := hw
        refine ⟨t, ?_, t2, t3, t4⟩
        by_cases ct : t = 2 * k + s
        · subst ct; exact absurd t3 ce
        · omega
theorem lfK_l (hE : isSe μ a c) (hL : isL μ (c + 3)) (ha : c + 15 < a) (hk : okL l) (hH : (H : Int) = l 0 0) (op : opn l o ro R) (ho : o ≤ 3) (hi : i < H) (hH4 : H ≤ 4) (hn : 20000 ≤ n) {N : Nat → Nat} (hself : lsP μ a c l o H (i + 1) ro Q self N) {v q : Nat} (hv : v < 64) (hb : ∀ t : Nat, t < 6 → v.testBit t = true → t < 2 * o ∧ en l ro t < i) (hq : q + 1 ≤ 4) (hQ : ((pcN v + (q + 1) : Nat) : Int) = Q) : ∀ (d kk k z : Nat) (J : Nat → Nat → Int), k + d = o → d < kk → envS J a c l o ro → J a 6 = (z : Int) → z + dg (en l ro) i (2 * k) (2 * d) * N q ≤ 40 → ∃ K : Nat → Nat → Int, lp (lfK n a self (i : Int) (v : Int) ((q + 1 : Nat) : Int)) kk (k : Int) (wi μ J) = some ((), wi μ K) ∧ LC J K a z (z + dg (en l ro) i (2 * k) (2 * d) * N q) Q (fun w => ∃ t : Nat, 2 * k ≤ t ∧ t < 2 * o ∧ en l ro t = i ∧ ext l o H ro (v ||| 2 ^ t) (i + 1) q w)
  | d, 0, k, z, J, h1, h2, hJ, hz, h40 => absurd h2 (by omega)
  | 0, kk + 1, k, z, J, h1, h2, hJ, hz, h40 => by
    refine ⟨J, ?_, ?_⟩
    · generalize hB : lp (lfK n a self (i : Int) (v : Int) ((q + 1 : Nat) : Int)) kk = slf
      show lfK n a self (i : Int) (v : Int) ((q + 1 : Nat) : Int) (lp (lfK n a self (i : Int) (v : Int) ((q + 1 : Nat) : Int)) kk) (k : Int) (wi μ J) = _
      rw [hB]
      unfold lfK
      rw [bE_gI hE, hJ.2.1, i_lt_f (by omega)]
    · have e : z + dg (en l ro) i (2 * k) (2 * 0) * N q = z := by
        show z + 0 * N q = z
        rw [Nat.zero_mul, Nat.add_zero]
      rw [e]
      exact LC.none hz (fun w hw => by obtain ⟨t, t1, t2, -⟩ := hw; omega)
  | d + 1, kk + 1, k, z, J, h1, h2, hJ, hz, h40 => by
    have st : dg (en l ro) i (2 * k) (2 * (d + 1)) = dg (en l ro) i (2 * k + 0) 2 + dg (en l ro) i (2 * (k + 1)) (2 * d) := by
      rw [show 2 * (d + 1) = 2 + 2 * d by omega, dg_add]
      rfl
    rw [st, Nat.add_mul] at h40
    have ih := lfK_l hE hL ha hk hH op ho hi hH4 hn hself hv hb hq hQ d kk (k + 1)
    generalize hB : lp (lfK n a self (i : Int) (v : Int) ((q + 1 : Nat) : Int)) kk = slf at ih
    obtain ⟨K, e1, lc⟩ := lfS_l (n := n) hE hL ha hk hH op ho hi hH4 hself slf hv hb hq hQ (k := k) (by omega) 2 n 0 z J (by omega) (by omega) hJ hz (by omega)
    obtain ⟨K2, e2, lc2⟩ := ih (z + dg (en l ro) i (2 * k + 0) 2 * N q) K (by omega) (by omega) (lc.env ha hJ) lc.1.2.2 (by omega)
    refine ⟨K2, ?_, ?_⟩
    · show lfK n a self (i : Int) (v : Int) ((q + 1 : Nat) : Int) (lp (lfK n a self (i : Int) (v : Int) ((q + 1 : Nat) : Int)) kk) (k : Int) (wi μ J) = _
      rw [hB]
      unfold lfK
      rw [bE_gI hE, hJ.2.1, i_lt_t (by omega), i_lt_t (by omega)]
      exact e1.trans e2
    · have tr := lc.tr lc2
      rw [show z + dg (en l ro) i (2 * k + 0) 2 * N q + dg (en l ro) i (2 * (k + 1)) (2 * d) * N q = z + dg (en l ro) i (2 * k) (2 * (d + 1)) * N q by rw [st, Nat.add_mul]; omega] at tr
      refine tr.iff (fun w => ⟨fun hw => ?_, fun hw => ?_⟩)
      · rcases hw with ⟨t, t1, t2, t3, t4⟩ | ⟨t, t1, t2, t3, t4⟩
        · exact ⟨t, by omega, by omega, t3, t4⟩
        · exact ⟨t, by omega, t2, t3, t4⟩
      · obtain ⟨t, t1, t2, t3, t4⟩ := hw
        by_cases ct : t < 2 * k + 2
        · exact Or.inl ⟨t, by omega, ct, t3, t4⟩
        · exact Or.inr ⟨t, by omega, t2, t3, t4⟩
theorem listFrom_r (hE : isSe μ a c) (hL : isL μ (c + 3)) (ha : c + 15 < a) (hk : okL l) (hH : (H : Int) = l 0 0) (op : opn l o ro R) (ho : o ≤ 3) (hH4 : H ≤ 4) (hn : 20000 ≤ n) : ∀ (d k i : Nat), i + d = H → d < k → lsP μ a c l o H i ro Q (rX4_listFrom n k) (nn (fun i => dg (en l ro) i 0 (2 * o)) i d)
  | d, 0, i, h1, h2 => absurd h2 (by omega)
  | 0, k + 1, i, h1, h2 => by
    intro v q z J hv hb hq hQ hJ hz h40
    have ei : i = H := by omega
    subst ei
    obtain ⟨K, e, lc⟩ := lfE_w (n := n) hE hv hz h40 hq hQ hk hH op
    refine ⟨K, ?_, lc⟩
    show bX4_listFrom n (lp (bX4_listFrom n) k) (a, (i : Int), (v : Int), (q : Int)) (wi μ J) = _
    rw [listFrom_s, bE_g10 hE, bL_gI hL, hJ.1 0 (by decide) (by decide), i_lt_f (by omega)]
    exact e
  | d + 1, k + 1, i, h1, h2 => by
    intro v q z J hv hb hq hQ hJ hz h40
    have ih := listFrom_r hE hL ha hk hH op ho hH4 hn d k (i + 1) (by omega) (by omega)
    have ih' : lsP μ a c l o H (i + 1) ro Q (lp (bX4_listFrom n) k) (nn (fun i => dg (en l ro) i 0 (2 * o)) (i + 1) d) := ih
    generalize hB : lp (bX4_listFrom n) k = slf at ih'
    have hb' : ∀ t : Nat, t < 6 → v.testBit t = true → t < 2 * o ∧ en l ro t < i + 1 := fun t ht hx => ⟨(hb t ht hx).1, by have := (hb t ht hx).2; omega⟩
    cases q with
    | zero =>
      have e0 : nn (fun i => dg (en l ro) i 0 (2 * o)) i (d + 1) 0 = nn (fun i => dg (en l ro) i 0 (2 * o)) (i + 1) d 0 := rfl
      rw [e0] at h40 ⊢
      obtain ⟨K, e1, lc⟩ := ih' v 0 z J hv hb' hq hQ hJ hz h40
      have hJ2 := lc.env ha hJ
      refine ⟨K, ?_, lc.iff (fun w => ⟨fun hw => (ext_st hk hH op ho (by omega)).mpr (Or.inl hw), fun hw => ?_⟩)⟩
      · show bX4_listFrom n (lp (bX4_listFrom n) k) (a, (i : Int), (v : Int), ((0 : Nat) : Int)) (wi μ J) = _
        rw [hB, listFrom_s, bE_g10 hE, bL_gI hL, hJ.1 0 (by decide) (by decide), i_lt_t (by omega), bE_inv hE]
        have e1' : slf (a, (i : Int) + 1, (v : Int), ((0 : Nat) : Int)) (wi μ J) = some ((), wi μ K) := e1
        rw [bnd e1']
        dsimp only
        cases n with
        | zero => exact absurd hn (by omega)
        | succ n =>
          show lfK (n + 1) a slf (i : Int) (v : Int) ((0 : Nat) : Int) (lp (lfK (n + 1) a slf (i : Int) (v : Int) ((0 : Nat) : Int)) n) 0 (wi μ K) = _
          unfold lfK
          rw [bE_gI hE, hJ2.2.1]
          by_cases c0 : 0 < o
          · rw [i_lt_t (by omega), i_lt_f (by omega)]
          · rw [i_lt_f (by omega)]
      · rcases (ext_st hk hH op ho (by omega)).mp hw with hw | ⟨q', q1, -⟩
        · exact hw
        · omega
    | succ q =>
      have e0 : nn (fun i => dg (en l ro) i 0 (2 * o)) i (d + 1) (q + 1) = nn (fun i => dg (en l ro) i 0 (2 * o)) (i + 1) d (q + 1) + dg (en l ro) i 0 (2 * o) * nn (fun i => dg (en l ro) i 0 (2 * o)) (i + 1) d q := rfl
      rw [e0] at h40 ⊢
      obtain ⟨K, e1, lc⟩ := ih' v (q + 1) z J hv hb' hq hQ hJ hz (by omega)
      have hJ2 := lc.env ha hJ
      obtain ⟨K2, e2, lc2⟩ := lfK_l (n := n) (Q := Q) hE hL ha hk hH op ho (by omega) hH4 hn ih' hv hb hq hQ o n 0 (z + nn (fun i => dg (en l ro) i 0 (2 * o)) (i + 1) d (q + 1)) K (by omega) (by omega) hJ2 lc.1.2.2 (by
        rw [Nat.mul_zero]
        omega)
      refine ⟨K2, ?_, ?_⟩
      · show bX4_listFrom n (lp (bX4_listFrom n) k) (a, (i : Int), (v : Int), ((q + 1 : Nat) : Int)) (wi μ J) = _
        rw [hB, listFrom_s, bE_g10 hE, bL_gI hL, hJ.1 0 (by decide) (by decide), i_lt_t (by omega), bE_inv hE]
        have e1' : slf (a, (i : Int) + 1, (v : Int), ((q + 1 : Nat) : Int)) (wi μ J) = some ((), wi μ K) := e1
        rw [bnd e1']
        exact e2
      · have tr := lc.tr lc2
        rw [Nat.mul_zero, Nat.add_assoc] at tr
        refine tr.iff (fun w => ⟨fun hw => ?_, fun hw => ?_⟩)
        · rcases hw with hw | ⟨t, t1, t2, t3, t4⟩
          · exact (ext_st hk hH op ho (by omega)).mpr (Or.inl hw)
          · exact (ext_st hk hH op ho (by omega)).mpr (Or.inr ⟨q, rfl, t, t2, t3, t4⟩)
        · rcases (ext_st hk hH op ho (by omega)).mp hw with hw | ⟨q', q1, t, t2, t3, t4⟩
          · exact Or.inl hw
          · have : q' = q := by omega
            subst this
            exact Or.inr ⟨t, by omega, t2, t3, t4⟩
/-- the choices, as they stand in the list -/
def chZ (K : Nat → Nat → Int) (a : Nat) (l : Ld) (o H : Nat) (ro : Nat → Nat) (z : Nat) : Prop := K a 6 = (z : Int) ∧ z ≤ 36 ∧ (∀ j : Nat, j < z → ∃ (p : Nat → Int) (w : Nat), vP l o H ro p ∧ whoB l o ro p w ∧ K (a + 10) j = (w : Int) ∧ K (a + 11) j = cn p 0 H) ∧ (∀ j k : Nat, j ≤ k → k < z → K (a + 11) j ≤ K (a + 11) k) ∧ ∀ p : Nat → Int, vP l o H ro p → ∃ (j w : Nat), j < z ∧ whoB l o ro p w ∧ K (a + 10) j = (w : Int) ∧ K (a + 11) j = cn p 0 H
end LJ
