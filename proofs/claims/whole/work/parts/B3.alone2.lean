section AM
variable {μ : Mem} {I J : Nat → Nat → Int} {c m n q N : Nat} {s L0 l : Ld} {β : Type}
theorem aF_in {h R : Nat} {H0 : Int} : ∀ (d k : Nat) (l : Ld) (row : Nat → Int) (M M' : Am), M.1 = M'.1 → (aF h H0 R d k l row M = aF h H0 R d k l row M') ∨ (aF h H0 R d k l row M = M ∧ aF h H0 R d k l row M' = M')
  | 0, k, l, row, M, M', e => by
    show ((if M.1 < hd l h - H0 then (hd l h - H0, row) else M) = (if M'.1 < hd l h - H0 then (hd l h - H0, row) else M')) ∨ ((if M.1 < hd l h - H0 then (hd l h - H0, row) else M) = M ∧ (if M'.1 < hd l h - H0 then (hd l h - H0, row) else M') = M')
    by_cases c : M.1 < hd l h - H0
    · rw [if_pos c, if_pos (by omega)]; exact Or.inl rfl
    · rw [if_neg c, if_neg (by omega)]; exact Or.inr ⟨rfl, rfl⟩
  | d + 1, k, l, row, M, M', e => by
    have := itr_rel (step := fun i M => @ite Am (awL l h i) (Classical.propDecidable _) (aF h H0 R d (k + 1) (goL (pl1 h ((i : Int) - 1)) l).1 (upA row k ((i : Int) - 1)) M) M) (step' := fun i M => @ite Am (awL l h i) (Classical.propDecidable _) (aF h H0 R d (k + 1) (goL (pl1 h ((i : Int) - 1)) l).1 (upA row k ((i : Int) - 1)) M) M) (P := fun _ (z z' : Am) => z = z' ∨ (z = M ∧ z' = M')) (R + 1) 0 M M' (Or.inr ⟨rfl, rfl⟩) (fun j z z' _ _ hz => by
      try dsimp only
      rcases hz with rfl | ⟨rfl, rfl⟩
      · exact Or.inl rfl
      · by_cases c : awL l h j
        · rw [if_pos c, if_pos c]
          exact aF_in d (k + 1) _ _ z z' e
        · rw [if_neg c, if_neg c]
          exact Or.inr ⟨rfl, rfl⟩)
    exact this
theorem goL_hd (hk : okL l) {h : Nat} (p : Nat → Int) : hd l h ≤ hd (goL p l).1 h := by
  have hz := hk.1
  obtain ⟨ok1, fx1⟩ := mvL_ok p hk
  obtain ⟨ok2, fx2⟩ := flL_ok ok1
  have mv := itr_inv (step := mvS p) (P := fun _ m => hd m h = hd l h) (l 0 1).toNat 0 l rfl (fun j m _ _ hm => by
    have q := mvS_q p j m
    unfold hd
    rw [q.1, q.2.1]
    exact hm)
  have fl := itr_inv (step := flS) (P := fun _ m => hd m h = hd l h) (2 * (mvL p l 0 1).toNat) 0 (mvL p l) mv (fun j m _ _ hm => by
    have q := flS_q j m
    unfold hd
    rw [q.1, q.2.1]
    exact hm)
  have dr := itr_inv (step := drS) (P := fun _ (z : Ld × Int) => okL z.1 ∧ z.1 0 1 = flL (mvL p l) 0 1 ∧ hd l h ≤ hd z.1 h) (2 * (flL (mvL p l) 0 1).toNat) 0 (flL (mvL p l), 0) ⟨ok2, rfl, Int.le_of_eq fl.symm⟩ (fun j z _ hj hz' => by
    obtain ⟨ok, e1, le⟩ := hz'
    have okz := ok.1
    have hj2 : (j : Int) < 2 * z.1 0 1 := by omega
    obtain ⟨-, -, w⟩ := drS_W (s := z) (h := h) ok (R2 := j + 1) (b := j) (by omega) hj2
    refine ⟨drS_ok ok hj2, ((drS_fx j z).1 1 (by decide)).trans e1, ?_⟩
    rcases w with ⟨-, -, -, -, w⟩ | ⟨-, w, -⟩ <;> omega)
  have hg : hd (goL p l).1 h = hd (drL (flL (mvL p l))).1 h := by
    show hd (if (drL (flL (mvL p l))).1 0 2 < 9999 then up2 (drL (flL (mvL p l))).1 0 2 ((drL (flL (mvL p l))).1 0 2 + 1) else (drL (flL (mvL p l))).1) h = _
    split
    · unfold hd
      rw [up2_row (by decide), up2_row (by decide)]
    · rfl
  rw [hg]
  exact dr.2.2
theorem lv_nn {h R : Nat} {H0 X : Int} : ∀ (d : Nat) (l : Ld), okL l → lvB h H0 R d l X → hd l h - H0 ≤ X
  | 0, l, _, z => z
  | d + 1, l, hk, z => by
    have g := lv_nn d _ (goL_ok (pl1 h (((0 : Nat) : Int) - 1)) hk).1 (z 0 (Nat.zero_le _) (Or.inl rfl))
    have := goL_hd hk (h := h) (pl1 h (((0 : Nat) : Int) - 1))
    omega
theorem seek_c (hC : isC μ c) (hl : RLl (ld I (c + 3)) (I (c + 193 + 1))) {q N : Nat} (hq : (q : Int) < ld I (c + 3) 0 0) (hN : 1 ≤ N ∧ N ≤ 7) (hn : 20000 ≤ n) : ∃ (K : Nat → Nat → Int) (B0 : Nat → Int), mX2_seek n (c + 36) (c + 3) (q : Int) (N : Int) (wi μ I) = some ((), wi μ K) ∧ (∀ b : Nat, b < c + 36 ∨ c + 36 + 108 < b → K b = I b) ∧ K (c + 36) 0 = (aF q (hd (ld I (c + 3)) q) (ld I (c + 3) 0 1).toNat N 0 (ld I (c + 3)) (fun _ => 0) (-1, B0)).1 ∧ ∀ j : Nat, j < N → K (c + 36 + 1) j = (aF q (hd (ld I (c + 3)) q) (ld I (c + 3) 0 1).toNat N 0 (ld I (c + 3)) (fun _ => 0) (-1, B0)).2 j := by
  have hT := hC.lo
  have hH := hC.here
  have hk := hl.1
  have hz := hk.1
  unfold mX2_seek
  refine lp_ind (fun d (v : Int) ν => ∃ (K : Nat → Nat → Int) (i : Nat), ν = wi μ K ∧ v = (i : Int) ∧ i + d = 8 ∧ (∀ b : Nat, b < c + 36 + 5 ∨ c + 36 + 108 < b → K b = I b) ∧ ∀ j : Nat, j < i → EqL (ld I (c + 3)) (ld K (c + 36 + 5 + 13 * j))) (fun X => ∃ (K : Nat → Nat → Int) (B0 : Nat → Int), X = some ((), wi μ K) ∧ (∀ b : Nat, b < c + 36 ∨ c + 36 + 108 < b → K b = I b) ∧ K (c + 36) 0 = (aF q (hd (ld I (c + 3)) q) (ld I (c + 3) 0 1).toNat N 0 (ld I (c + 3)) (fun _ => 0) (-1, B0)).1 ∧ ∀ j : Nat, j < N → K (c + 36 + 1) j = (aF q (hd (ld I (c + 3)) q) (ld I (c + 3) 0 1).toNat N 0 (ld I (c + 3)) (fun _ => 0) (-1, B0)).2 j) (fun d v ν nx hP hnx => ?_) n 8 _ _ (by omega) ⟨I, 0, rfl, rfl, by omega, fun _ _ => rfl, fun j hj => by omega⟩
  obtain ⟨K, i, rfl, rfl, h1, oK, h2⟩ := hP
  cases d with
  | succ d =>
    have hLi := hT.l (i := i) (by omega)
    obtain ⟨m, ht, hm⟩ := takeAll_w (n := n) (I := K) (a := c + 36 + 5 + 13 * i) (b := c + 3) hLi hH (by omega)
    have l3 : ∀ k : Nat, k ≤ 12 → ld K (c + 3) k = ld I (c + 3) k := fun k hk => oK _ (by omega)
    simp (disch := omega) only [↓i_lt_t, ↓i_lt_f, ↓i_eq_t, ↓i_eq_f, ↓i_bi_t, ↓i_bi_f, ↓i_some, ↓bl_g3 hT, ↓bl_lda hT, Int.toNat_natCast, ↓bL_inv hLi, ↓bnd ht]
    refine hnx d _ _ (by omega) ⟨_, i + 1, rfl, rfl, by omega, fun b hb => ?_, fun j hj => ?_⟩
    · rw [wl_out (by omega), oK b hb]
    · by_cases ej : j = i
      · subst ej
        intro a x ha hx
        rw [ldwl ha, hm a x ha hx, l3 a ha]
      · intro a x ha hx
        show wl K (c + 36 + 5 + 13 * i) m (c + 36 + 5 + 13 * j + a) x = _
        rw [wl_out (by omega)]
        exact h2 j (by omega) a x ha hx
  | zero =>
    have fl := jfill_eq (n := n) (I := K) (x := -1) hT.2.2.2.2.2.2.2.2.1 (by omega) hn
    generalize hK1 : up1 K (c + 36 + 4) (flR (K (c + 36 + 4)) 10 (-1)) = K1 at fl
    generalize hK2 : up2 (up2 (up2 K1 (c + 36) 5 (q : Int)) (c + 36) 6 (N : Int)) (c + 36) 0 (-1) = K2
    have o2 : ∀ b : Nat, b ≠ c + 36 → b ≠ c + 36 + 4 → K2 b = K b := fun b n0 n4 => by
      rw [← hK2, up2_row n0, up2_row n0, up2_row n0, ← hK1]
      unfold up1
      rw [if_neg n4]
    have l2 : ∀ j : Nat, ld K2 (c + 36 + 5 + j) = ld K (c + 36 + 5 + j) := fun j => funext fun a => o2 _ (by omega) (by omega)
    have hP0 : loP K2 K2 (c + 36) q N (ld I (c + 3)) 0 (ld I (c + 3)) (fun _ => 0) (-1, K2 (c + 36 + 1)) := by
      refine ⟨fun _ _ => rfl, ⟨?_, ?_, ?_⟩, fun _ _ => rfl, fun j hj => by omega, fun j hj => ?_, fun j hj => ?_, ?_, ?_, by dsimp only; omega⟩
      · rw [← hK2, up2_n (by omega), up2_n (by omega), up2_s]
      · rw [← hK2, up2_n (by omega), up2_s]
      · rw [← hK2, up2_s]
      · have e : K2 (c + 36 + 4) j = -1 := by
          rw [← hK2, up2_row (by omega), up2_row (by omega), up2_row (by omega), ← hK1]
          unfold up1
          rw [if_pos rfl, flR_lt hj]
        rw [e]
        exact ⟨fun _ => rfl, by omega, by omega⟩
      · rw [l2]; exact (h2 j (by omega)).st
      · have := h2 0 (by omega)
        rw [← l2 (13 * 0)] at this
        exact this
      · have := h2 0 (by omega)
        rw [← l2 (13 * 0)] at this
        exact this
    obtain ⟨K', e1, hP', -⟩ := seek_eq (n := n) (G := K2) (N := N) (q := q) hT hk hq (by omega) hn N 12 0 K2 (ld I (c + 3)) (fun _ => 0) (-1, K2 (c + 36 + 1)) (by omega) (by omega) hP0 ⟨hk, fxL.rf, ⟨hl.2.2.2.1, hl.2.2.2.2.1⟩, rfl⟩
    have e1' : mX2_seekFrom n (c + 36) 0 (wi μ K2) = some ((), wi μ K') := e1
    obtain ⟨r1, ⟨-, -, r0⟩, rB, -⟩ := hP'
    simp (disch := omega) only [↓i_lt_t, ↓i_lt_f, ↓i_eq_t, ↓i_eq_f, ↓i_bi_t, ↓i_bi_f, ↓i_some, ↓bl_g4 hT, ↓bnd fl, ↓bl_pI hT, hK2, ↓bl_inv hT, ↓bnd e1']
    exact ⟨K', K2 (c + 36 + 1), rfl, fun b hb => by rw [r1 b hb, o2 b (by omega) (by omega), oK b (by omega)], r0, rB⟩
theorem both_alone (hC : isC μ c) (hM : isM μ (c + 193)) (hR : RelC c I) {b x y : Int} (hb : -2147483648 ≤ b ∧ b < 2147483648) (hx : -2147483648 ≤ x ∧ x < 2147483648) (hy : -2147483648 ≤ y ∧ y < 2147483648) (hn : 20000 ≤ n) : Both μ c I (mX10_alone n c b x y) (mX11_alone n (c + 193) b x y) := by
  obtain ⟨hk, lr, lq, h0, h9⟩ := id hR.1
  have hz := hk.1
  have hH := hC.here
  have hT := hC.lo
  have s1 := s1_of (I := I) (J := I) (c := c) rfl
  have lr' : LR (ld I (c + 3)) (up2 (ld I (c + 193)) 0 0 0 1) := by rw [s1]; exact lr
  by_cases ch : 0 ≤ b ∧ b < ld I (c + 3) 0 0
  · obtain ⟨q, rfl⟩ : ∃ q : Nat, b = (q : Int) := ⟨b.toNat, by omega⟩
    have oc := openCount_eq (n := n) (I := I) (a := c + 3) (l := ld I (c + 3)) hH hk (b := (q : Int)) (by omega) (by omega)
    rw [wiwl] at oc
    have ocr := oc_range hk (q : Int)
    by_cases cy : y = 0 ∨ (10 ≤ y ∧ y ≤ 16)
    · by_cases cx : 1 ≤ x ∧ x ≤ 7
      · by_cases c3 : 3 < ocL (ld I (c + 3)) (q : Int)
        · have hg := hanging_eq (n := n) (I := I) (s := up2 (ld I (c + 193)) 0 0 0) (l := ld I (c + 3)) hM lr' hk (b := q) ch.2 (by omega)
          refine Both.q (v := -4) hR ?_ ?_
          · unfold mX10_alone
            rcases cy with cy | cy
            · simp (disch := omega) only [jn, ↓i_lt_t, ↓i_lt_f, ↓i_eq_t, ↓i_eq_f, ↓i_bi_t, ↓i_bi_f, ↓i_some, ↓bC_g0 hC, ↓bC_g1 hC, ↓bC_g2 hC, ↓bC_g3 hC, ↓bC_g4 hC, ↓bC_g5 hC, ↓bC_g6 hC, ↓bC_g7 hC, ↓bC_g8 hC, ↓bC_g9 hC, ↓bC_g10 hC, ↓bC_inv hC, ↓bL_inv hH, ↓hasHouse_w hH hk, ↓bnd oc]
            · simp (disch := omega) only [jn, ↓i_lt_t, ↓i_lt_f, ↓i_eq_t, ↓i_eq_f, ↓i_bi_t, ↓i_bi_f, ↓i_some, ↓bC_g0 hC, ↓bC_g1 hC, ↓bC_g2 hC, ↓bC_g3 hC, ↓bC_g4 hC, ↓bC_g5 hC, ↓bC_g6 hC, ↓bC_g7 hC, ↓bC_g8 hC, ↓bC_g9 hC, ↓bC_g10 hC, ↓bC_inv hC, ↓bL_inv hH, ↓hasHouse_w hH hk, ↓bnd oc]
          · unfold mX11_alone
            rcases cy with cy | cy
            · simp (disch := omega) only [jn, ↓i_lt_t, ↓i_lt_f, ↓i_eq_t, ↓i_eq_f, ↓i_bi_t, ↓i_bi_f, ↓i_some, ↓bM_gI hM, ↓bM_pI hM, ↓bM_inv hM, ↓bM_g1 hM, ↓bM_g2 hM, ↓bM_g3 hM, ↓bM_g4 hM, ↓bM_g15 hM, ↓bM_g16 hM, ↓bM_g22 hM, ↓bM_g23 hM, ↓bM_g24 hM, ↓bM_g25 hM, ↓bM_g28 hM, ↓bM_g29 hM, ↓bM_g30 hM, ↓bM_g32 hM, ↓bM_g33 hM, ↓bM_g34 hM, ↓bM_g36 hM, ↓bM_g37 hM, ↓bM_g41 hM, ↓bM_g42 hM, ↓bM_g43 hM, ↓bM_ld1 hM, ↓bM_ld2 hM, ↓bM_ld3 hM, ↓bM_ld4 hM, ↓bM_ld5 hM, ↓bM_ld6 hM, ↓bM_ld7 hM, ↓bM_ld8 hM, ↓bM_ld9 hM, ↓bM_ld10 hM, ↓bM_ld11 hM, ↓bM_ld12 hM, ↓bM_ld13 hM, ↓bM_ld14 hM, ↓bM_ld15 hM, ↓bM_ld16 hM, ↓bM_ld17 hM, ↓bM_ld18 hM, ↓bM_ld19 hM, ↓bM_ld20 hM, ↓bM_ld21 hM, ↓bM_st1 hM, ↓bM_st2 hM, ↓bM_st3 hM, ↓bM_st4 hM, ↓bM_st5 hM, ↓bM_st6 hM, ↓bM_st7 hM, ↓bM_st8 hM, ↓bM_st9 hM, ↓bM_st10 hM, ↓bM_st11 hM, ↓bM_st12 hM, ↓bM_st13 hM, ↓bM_st14 hM, ↓bM_st15 hM, ↓bM_st16 hM, ↓bM_st17 hM, ↓bM_st18 hM, ↓bM_st19 hM, ↓bM_st20 hM, ↓bM_st21 hM, ↓isHouse_w hM lr' hk, ↓within_w, ↓bnd hg]
            · simp (disch := omega) only [jn, ↓i_lt_t, ↓i_lt_f, ↓i_eq_t, ↓i_eq_f, ↓i_bi_t, ↓i_bi_f, ↓i_some, ↓bM_gI hM, ↓bM_pI hM, ↓bM_inv hM, ↓bM_g1 hM, ↓bM_g2 hM, ↓bM_g3 hM, ↓bM_g4 hM, ↓bM_g15 hM, ↓bM_g16 hM, ↓bM_g22 hM, ↓bM_g23 hM, ↓bM_g24 hM, ↓bM_g25 hM, ↓bM_g28 hM, ↓bM_g29 hM, ↓bM_g30 hM, ↓bM_g32 hM, ↓bM_g33 hM, ↓bM_g34 hM, ↓bM_g36 hM, ↓bM_g37 hM, ↓bM_g41 hM, ↓bM_g42 hM, ↓bM_g43 hM, ↓bM_ld1 hM, ↓bM_ld2 hM, ↓bM_ld3 hM, ↓bM_ld4 hM, ↓bM_ld5 hM, ↓bM_ld6 hM, ↓bM_ld7 hM, ↓bM_ld8 hM, ↓bM_ld9 hM, ↓bM_ld10 hM, ↓bM_ld11 hM, ↓bM_ld12 hM, ↓bM_ld13 hM, ↓bM_ld14 hM, ↓bM_ld15 hM, ↓bM_ld16 hM, ↓bM_ld17 hM, ↓bM_ld18 hM, ↓bM_ld19 hM, ↓bM_ld20 hM, ↓bM_ld21 hM, ↓bM_st1 hM, ↓bM_st2 hM, ↓bM_st3 hM, ↓bM_st4 hM, ↓bM_st5 hM, ↓bM_st6 hM, ↓bM_st7 hM, ↓bM_st8 hM, ↓bM_st9 hM, ↓bM_st10 hM, ↓bM_st11 hM, ↓bM_st12 hM, ↓bM_st13 hM, ↓bM_st14 hM, ↓bM_st15 hM, ↓bM_st16 hM, ↓bM_st17 hM, ↓bM_st18 hM, ↓bM_st19 hM, ↓bM_st20 hM, ↓bM_st21 hM, ↓isHouse_w hM lr' hk, ↓within_w, ↓bnd hg]
        · obtain ⟨N, rfl⟩ : ∃ N : Nat, x = (N : Int) := ⟨x.toNat, by omega⟩
          -- the reference seeks
          have ref : ∀ K : Nat → Nat → Int, ∃ (s' : Ld) (B1 : Nat → Int), mX11_pullsAlone n (c + 193) 0 (N : Int) (q : Int) (hd (ld I (c + 3)) q) (wi μ (wm K (c + 193) (up2 (up2 (ld I (c + 193)) 0 0 0) 0 35 (-1)))) = some ((), wi μ (wm K (c + 193) s')) ∧ FrW (ld I (c + 193)) s' ∧ s' 1 = I (c + 193 + 1) ∧ s' 0 35 = (aF q (hd (ld I (c + 3)) q) (ld I (c + 3) 0 1).toNat N 0 (ld I (c + 3)) (fun _ => 0) (-1, B1)).1 ∧ ∀ j : Nat, j < N → s' 15 j = (aF q (hd (ld I (c + 3)) q) (ld I (c + 3) 0 1).toNat N 0 (ld I (c + 3)) (fun _ => 0) (-1, B1)).2 j := by
            intro K
            have u1 : up2 (up2 (ld I (c + 193)) 0 0 0) 0 35 (-1) 1 = I (c + 193 + 1) := by rw [up2_row (by decide)]; exact s1
            obtain ⟨s', e, f, o, r⟩ := alone_m (n := n) (I := K) (m := c + 193) (q := q) (N := N) (L0 := ld I (c + 3)) hM hk ch.2 (by omega) hn N 12 0 (up2 (up2 (ld I (c + 193)) 0 0 0) 0 35 (-1)) (ld I (c + 3)) (fun _ => 0) (-1, up2 (up2 (ld I (c + 193)) 0 0 0) 0 35 (-1) 15) (by omega) (by omega) (by rw [u1]; exact lr) ⟨hk, fxL.rf, ⟨h0, h9.1⟩, rfl⟩ ⟨up2_s, fun _ _ => rfl, fun j hj => by omega, by dsimp only; omega⟩
            refine ⟨s', _, e, ?_, o.trans u1, r.1, r.2.1⟩
            have g : ∀ k : Nat, k ≠ 0 → k ≠ 5 → k ≠ 14 → k ≠ 15 → k ≠ 16 → k ≠ 1 → s' k = ld I (c + 193) k := fun k n0 n5 n14 n15 n16 n1 => by rw [f.1 k n0 n5 n14 n15 n16 n1, up2_row n0, up2_row n0]
            refine ⟨⟨g 2 (by decide) (by decide) (by decide) (by decide) (by decide) (by decide), g 3 (by decide) (by decide) (by decide) (by decide) (by decide) (by decide), g 19 (by decide) (by decide) (by decide) (by decide) (by decide) (by decide), g 20 (by decide) (by decide) (by decide) (by decide) (by decide) (by decide), g 21 (by decide) (by decide) (by decide) (by decide) (by decide) (by decide)⟩, fun j j0 j1 => ?_, fun j _ => by rw [o, u1]; rfl⟩
            rw [f.2.1 j (by omega), up2_n (by omega), up2_n (by omega)]
          have e46 : up2 (up2 (ld I (c + 193)) 0 0 0) 0 35 (-1) 1 (46 + q) = hd (ld I (c + 3)) q := by
            rw [up2_row (by decide)]
            exact (lr'.2.1 q ch.2).2.2.2.2
          by_cases c7 : y = 0 ∨ y - 10 < (N : Int)
          · obtain ⟨K, B0, e1, oK, k0, kB⟩ := seek_c (n := n) hC hR.1 (q := q) (N := N) ch.2 (by omega) hn
            obtain ⟨s', B1, e2, fw, s1', q0, qB⟩ := ref K
            have eqA : aF q (hd (ld I (c + 3)) q) (ld I (c + 3) 0 1).toNat N 0 (ld I (c + 3)) (fun _ => 0) (-1, B0) = aF q (hd (ld I (c + 3)) q) (ld I (c + 3) 0 1).toNat N 0 (ld I (c + 3)) (fun _ => 0) (-1, B1) := by
              rcases aF_in (h := q) (R := (ld I (c + 3) 0 1).toNat) (H0 := hd (ld I (c + 3)) q) N 0 (ld I (c + 3)) (fun _ => 0) (-1, B0) (-1, B1) rfl with z | ⟨z, -⟩
              · exact z
              · have lv := aF_lv (h := q) (R := (ld I (c + 3) 0 1).toNat) (H0 := hd (ld I (c + 3)) q) N 0 (ld I (c + 3)) (fun _ => 0) (-1, B0)
                rw [z] at lv
                have := lv_nn N _ hk lv
                dsimp only at this
                omega
            rw [eqA] at k0 kB
            generalize aF q (hd (ld I (c + 3)) q) (ld I (c + 3) 0 1).toNat N 0 (ld I (c + 3)) (fun _ => 0) (-1, B1) = Z at k0 kB q0 qB
            have cK : CF c I K := fun b hb => oK b (by unfold tmp at hb; omega)
            have jr : ld K (c + 193) = ld I (c + 193) := funext fun k => oK _ (by omega)
            have hg := hanging_eq (n := n) (I := K) (s := up2 (ld I (c + 193)) 0 0 0) (l := ld I (c + 3)) hM lr' hk (b := q) ch.2 (by omega)
            have el := ldwm (μ := μ) K (c + 193)
            rw [jr] at el
            refine Both.mk (J := K) (v := if y = 0 then Z.1 else Z.2 (y - 10).toNat) (s' := s') hR cK.h ?_ ?_ (by rw [jr]; exact fw) ?_
            · unfold mX10_alone
              by_cases y0 : y = 0
              · simp (disch := omega) only [jn, ↓i_lt_t, ↓i_lt_f, ↓i_eq_t, ↓i_eq_f, ↓i_bi_t, ↓i_bi_f, ↓i_some, ↓bC_g0 hC, ↓bC_g1 hC, ↓bC_g2 hC, ↓bC_g3 hC, ↓bC_g4 hC, ↓bC_g5 hC, ↓bC_g6 hC, ↓bC_g7 hC, ↓bC_g8 hC, ↓bC_g9 hC, ↓bC_g10 hC, ↓bC_inv hC, ↓bL_inv hH, ↓hasHouse_w hH hk, ↓bnd oc, ↓bl_inv hT, ↓bnd e1, ↓bl_gI hT, k0, if_pos y0]
              · have kB' := kB (y - 10).toNat (by omega)
                simp (disch := omega) only [jn, ↓i_lt_t, ↓i_lt_f, ↓i_eq_t, ↓i_eq_f, ↓i_bi_t, ↓i_bi_f, ↓i_some, ↓bC_g0 hC, ↓bC_g1 hC, ↓bC_g2 hC, ↓bC_g3 hC, ↓bC_g4 hC, ↓bC_g5 hC, ↓bC_g6 hC, ↓bC_g7 hC, ↓bC_g8 hC, ↓bC_g9 hC, ↓bC_g10 hC, ↓bC_inv hC, ↓bL_inv hH, ↓hasHouse_w hH hk, ↓bnd oc, ↓bl_inv hT, ↓bnd e1, ↓bl_g1 hT, ↓bl_ld1 hT, kB', if_neg y0]
            · rw [← el]
              unfold mX11_alone
              by_cases y0 : y = 0
              · simp (disch := omega) only [jn, ↓i_lt_t, ↓i_lt_f, ↓i_eq_t, ↓i_eq_f, ↓i_bi_t, ↓i_bi_f, ↓i_some, ↓bM_gI hM, ↓bM_pI hM, ↓bM_inv hM, ↓bM_g1 hM, ↓bM_g2 hM, ↓bM_g3 hM, ↓bM_g4 hM, ↓bM_g15 hM, ↓bM_g16 hM, ↓bM_g22 hM, ↓bM_g23 hM, ↓bM_g24 hM, ↓bM_g25 hM, ↓bM_g28 hM, ↓bM_g29 hM, ↓bM_g30 hM, ↓bM_g32 hM, ↓bM_g33 hM, ↓bM_g34 hM, ↓bM_g36 hM, ↓bM_g37 hM, ↓bM_g41 hM, ↓bM_g42 hM, ↓bM_g43 hM, ↓bM_ld1 hM, ↓bM_ld2 hM, ↓bM_ld3 hM, ↓bM_ld4 hM, ↓bM_ld5 hM, ↓bM_ld6 hM, ↓bM_ld7 hM, ↓bM_ld8 hM, ↓bM_ld9 hM, ↓bM_ld10 hM, ↓bM_ld11 hM, ↓bM_ld12 hM, ↓bM_ld13 hM, ↓bM_ld14 hM, ↓bM_ld15 hM, ↓bM_ld16 hM, ↓bM_ld17 hM, ↓bM_ld18 hM, ↓bM_ld19 hM, ↓bM_ld20 hM, ↓bM_ld21 hM, ↓bM_st1 hM, ↓bM_st2 hM, ↓bM_st3 hM, ↓bM_st4 hM, ↓bM_st5 hM, ↓bM_st6 hM, ↓bM_st7 hM, ↓bM_st8 hM, ↓bM_st9 hM, ↓bM_st10 hM, ↓bM_st11 hM, ↓bM_st12 hM, ↓bM_st13 hM, ↓bM_st14 hM, ↓bM_st15 hM, ↓bM_st16 hM, ↓bM_st17 hM, ↓bM_st18 hM, ↓bM_st19 hM, ↓bM_st20 hM, ↓bM_st21 hM, ↓isHouse_w hM lr' hk, ↓within_w, ↓bnd hg, Int.toNat_add, Int.toNat_mul, Int.toNat_natCast, Int.reduceToNat, Nat.reduceAdd, Nat.reduceMul, e46, ↓bnd e2, q0, if_pos y0]
              · have qB' := qB (y - 10).toNat (by omega)
                simp (disch := omega) only [jn, ↓i_lt_t, ↓i_lt_f, ↓i_eq_t, ↓i_eq_f, ↓i_bi_t, ↓i_bi_f, ↓i_some, ↓bM_gI hM, ↓bM_pI hM, ↓bM_inv hM, ↓bM_g1 hM, ↓bM_g2 hM, ↓bM_g3 hM, ↓bM_g4 hM, ↓bM_g15 hM, ↓bM_g16 hM, ↓bM_g22 hM, ↓bM_g23 hM, ↓bM_g24 hM, ↓bM_g25 hM, ↓bM_g28 hM, ↓bM_g29 hM, ↓bM_g30 hM, ↓bM_g32 hM, ↓bM_g33 hM, ↓bM_g34 hM, ↓bM_g36 hM, ↓bM_g37 hM, ↓bM_g41 hM, ↓bM_g42 hM, ↓bM_g43 hM, ↓bM_ld1 hM, ↓bM_ld2 hM, ↓bM_ld3 hM, ↓bM_ld4 hM, ↓bM_ld5 hM, ↓bM_ld6 hM, ↓bM_ld7 hM, ↓bM_ld8 hM, ↓bM_ld9 hM, ↓bM_ld10 hM, ↓bM_ld11 hM, ↓bM_ld12 hM, ↓bM_ld13 hM, ↓bM_ld14 hM, ↓bM_ld15 hM, ↓bM_ld16 hM, ↓bM_ld17 hM, ↓bM_ld18 hM, ↓bM_ld19 hM, ↓bM_ld20 hM, ↓bM_ld21 hM, ↓bM_st1 hM, ↓bM_st2 hM, ↓bM_st3 hM, ↓bM_st4 hM, ↓bM_st5 hM, ↓bM_st6 hM, ↓bM_st7 hM, ↓bM_st8 hM, ↓bM_st9 hM, ↓bM_st10 hM, ↓bM_st11 hM, ↓bM_st12 hM, ↓bM_st13 hM, ↓bM_st14 hM, ↓bM_st15 hM, ↓bM_st16 hM, ↓bM_st17 hM, ↓bM_st18 hM, ↓bM_st19 hM, ↓bM_st20 hM, ↓bM_st21 hM, ↓isHouse_w hM lr' hk, ↓within_w, ↓bnd hg, Int.toNat_add, Int.toNat_mul, Int.toNat_natCast, Int.reduceToNat, Nat.reduceAdd, Nat.reduceMul, e46, ↓bnd e2, qB', if_neg y0]
            · rw [s1']
              exact hR.1.cg (fun k hk => cK _ (by unfold tmp; omega))
          · obtain ⟨s', B1, e2, fw, s1', q0, qB⟩ := ref I
            have hg := hanging_eq (n := n) (I := I) (s := up2 (ld I (c + 193)) 0 0 0) (l := ld I (c + 3)) hM lr' hk (b := q) ch.2 (by omega)
            refine Both.mk (J := I) (v := -7) (s' := s') hR (CF.rf c I).h ?_ ?_ fw ?_
            · unfold mX10_alone
              simp (disch := omega) only [jn, ↓i_lt_t, ↓i_lt_f, ↓i_eq_t, ↓i_eq_f, ↓i_bi_t, ↓i_bi_f, ↓i_some, ↓bC_g0 hC, ↓bC_g1 hC, ↓bC_g2 hC, ↓bC_g3 hC, ↓bC_g4 hC, ↓bC_g5 hC, ↓bC_g6 hC, ↓bC_g7 hC, ↓bC_g8 hC, ↓bC_g9 hC, ↓bC_g10 hC, ↓bC_inv hC, ↓bL_inv hH, ↓hasHouse_w hH hk, ↓bnd oc]
            · rw [← ldwm I (c + 193)]
              unfold mX11_alone
              simp (disch := omega) only [jn, ↓i_lt_t, ↓i_lt_f, ↓i_eq_t, ↓i_eq_f, ↓i_bi_t, ↓i_bi_f, ↓i_some, ↓bM_gI hM, ↓bM_pI hM, ↓bM_inv hM, ↓bM_g1 hM, ↓bM_g2 hM, ↓bM_g3 hM, ↓bM_g4 hM, ↓bM_g15 hM, ↓bM_g16 hM, ↓bM_g22 hM, ↓bM_g23 hM, ↓bM_g24 hM, ↓bM_g25 hM, ↓bM_g28 hM, ↓bM_g29 hM, ↓bM_g30 hM, ↓bM_g32 hM, ↓bM_g33 hM, ↓bM_g34 hM, ↓bM_g36 hM, ↓bM_g37 hM, ↓bM_g41 hM, ↓bM_g42 hM, ↓bM_g43 hM, ↓bM_ld1 hM, ↓bM_ld2 hM, ↓bM_ld3 hM, ↓bM_ld4 hM, ↓bM_ld5 hM, ↓bM_ld6 hM, ↓bM_ld7 hM, ↓bM_ld8 hM, ↓bM_ld9 hM, ↓bM_ld10 hM, ↓bM_ld11 hM, ↓bM_ld12 hM, ↓bM_ld13 hM, ↓bM_ld14 hM, ↓bM_ld15 hM, ↓bM_ld16 hM, ↓bM_ld17 hM, ↓bM_ld18 hM, ↓bM_ld19 hM, ↓bM_ld20 hM, ↓bM_ld21 hM, ↓bM_st1 hM, ↓bM_st2 hM, ↓bM_st3 hM, ↓bM_st4 hM, ↓bM_st5 hM, ↓bM_st6 hM, ↓bM_st7 hM, ↓bM_st8 hM, ↓bM_st9 hM, ↓bM_st10 hM, ↓bM_st11 hM, ↓bM_st12 hM, ↓bM_st13 hM, ↓bM_st14 hM, ↓bM_st15 hM, ↓bM_st16 hM, ↓bM_st17 hM, ↓bM_st18 hM, ↓bM_st19 hM, ↓bM_st20 hM, ↓bM_st21 hM, ↓isHouse_w hM lr' hk, ↓within_w, ↓bnd hg, Int.toNat_add, Int.toNat_mul, Int.toNat_natCast, Int.reduceToNat, Nat.reduceAdd, Nat.reduceMul, e46, ↓bnd e2]
            · rw [s1']; exact hR.1
      · refine Both.q (v := -3) hR ?_ ?_
        · unfold mX10_alone
          by_cases x1 : x < 1
          · rcases cy with cy | cy
            · simp (disch := omega) only [jn, ↓i_lt_t, ↓i_lt_f, ↓i_eq_t, ↓i_eq_f, ↓i_bi_t, ↓i_bi_f, ↓i_some, ↓bC_g0 hC, ↓bC_g1 hC, ↓bC_g2 hC, ↓bC_g3 hC, ↓bC_g4 hC, ↓bC_g5 hC, ↓bC_g6 hC, ↓bC_g7 hC, ↓bC_g8 hC, ↓bC_g9 hC, ↓bC_g10 hC, ↓bC_inv hC, ↓bL_inv hH, ↓hasHouse_w hH hk]
            · simp (disch := omega) only [jn, ↓i_lt_t, ↓i_lt_f, ↓i_eq_t, ↓i_eq_f, ↓i_bi_t, ↓i_bi_f, ↓i_some, ↓bC_g0 hC, ↓bC_g1 hC, ↓bC_g2 hC, ↓bC_g3 hC, ↓bC_g4 hC, ↓bC_g5 hC, ↓bC_g6 hC, ↓bC_g7 hC, ↓bC_g8 hC, ↓bC_g9 hC, ↓bC_g10 hC, ↓bC_inv hC, ↓bL_inv hH, ↓hasHouse_w hH hk]
          · rcases cy with cy | cy
            · simp (disch := omega) only [jn, ↓i_lt_t, ↓i_lt_f, ↓i_eq_t, ↓i_eq_f, ↓i_bi_t, ↓i_bi_f, ↓i_some, ↓bC_g0 hC, ↓bC_g1 hC, ↓bC_g2 hC, ↓bC_g3 hC, ↓bC_g4 hC, ↓bC_g5 hC, ↓bC_g6 hC, ↓bC_g7 hC, ↓bC_g8 hC, ↓bC_g9 hC, ↓bC_g10 hC, ↓bC_inv hC, ↓bL_inv hH, ↓hasHouse_w hH hk]
            · simp (disch := omega) only [jn, ↓i_lt_t, ↓i_lt_f, ↓i_eq_t, ↓i_eq_f, ↓i_bi_t, ↓i_bi_f, ↓i_some, ↓bC_g0 hC, ↓bC_g1 hC, ↓bC_g2 hC, ↓bC_g3 hC, ↓bC_g4 hC, ↓bC_g5 hC, ↓bC_g6 hC, ↓bC_g7 hC, ↓bC_g8 hC, ↓bC_g9 hC, ↓bC_g10 hC, ↓bC_inv hC, ↓bL_inv hH, ↓hasHouse_w hH hk]
        · unfold mX11_alone
          rcases cy with cy | cy
          · simp (disch := omega) only [jn, ↓i_lt_t, ↓i_lt_f, ↓i_eq_t, ↓i_eq_f, ↓i_bi_t, ↓i_bi_f, ↓i_some, ↓bM_gI hM, ↓bM_pI hM, ↓bM_inv hM, ↓bM_g1 hM, ↓bM_g2 hM, ↓bM_g3 hM, ↓bM_g4 hM, ↓bM_g15 hM, ↓bM_g16 hM, ↓bM_g22 hM, ↓bM_g23 hM, ↓bM_g24 hM, ↓bM_g25 hM, ↓bM_g28 hM, ↓bM_g29 hM, ↓bM_g30 hM, ↓bM_g32 hM, ↓bM_g33 hM, ↓bM_g34 hM, ↓bM_g36 hM, ↓bM_g37 hM, ↓bM_g41 hM, ↓bM_g42 hM, ↓bM_g43 hM, ↓bM_ld1 hM, ↓bM_ld2 hM, ↓bM_ld3 hM, ↓bM_ld4 hM, ↓bM_ld5 hM, ↓bM_ld6 hM, ↓bM_ld7 hM, ↓bM_ld8 hM, ↓bM_ld9 hM, ↓bM_ld10 hM, ↓bM_ld11 hM, ↓bM_ld12 hM, ↓bM_ld13 hM, ↓bM_ld14 hM, ↓bM_ld15 hM, ↓bM_ld16 hM, ↓bM_ld17 hM, ↓bM_ld18 hM, ↓bM_ld19 hM, ↓bM_ld20 hM, ↓bM_ld21 hM, ↓bM_st1 hM, ↓bM_st2 hM, ↓bM_st3 hM, ↓bM_st4 hM, ↓bM_st5 hM, ↓bM_st6 hM, ↓bM_st7 hM, ↓bM_st8 hM, ↓bM_st9 hM, ↓bM_st10 hM, ↓bM_st11 hM, ↓bM_st12 hM, ↓bM_st13 hM, ↓bM_st14 hM, ↓bM_st15 hM, ↓bM_st16 hM, ↓bM_st17 hM, ↓bM_st18 hM, ↓bM_st19 hM, ↓bM_st20 hM, ↓bM_st21 hM, ↓isHouse_w hM lr' hk, ↓within_w]
          · simp (disch := omega) only [jn, ↓i_lt_t, ↓i_lt_f, ↓i_eq_t, ↓i_eq_f, ↓i_bi_t, ↓i_bi_f, ↓i_some, ↓bM_gI hM, ↓bM_pI hM, ↓bM_inv hM, ↓bM_g1 hM, ↓bM_g2 hM, ↓bM_g3 hM, ↓bM_g4 hM, ↓bM_g15 hM, ↓bM_g16 hM, ↓bM_g22 hM, ↓bM_g23 hM, ↓bM_g24 hM, ↓bM_g25 hM, ↓bM_g28 hM, ↓bM_g29 hM, ↓bM_g30 hM, ↓bM_g32 hM, ↓bM_g33 hM, ↓bM_g34 hM, ↓bM_g36 hM, ↓bM_g37 hM, ↓bM_g41 hM, ↓bM_g42 hM, ↓bM_g43 hM, ↓bM_ld1 hM, ↓bM_ld2 hM, ↓bM_ld3 hM, ↓bM_ld4 hM, ↓bM_ld5 hM, ↓bM_ld6 hM, ↓bM_ld7 hM, ↓bM_ld8 hM, ↓bM_ld9 hM, ↓bM_ld10 hM, ↓bM_ld11 hM, ↓bM_ld12 hM, ↓bM_ld13 hM, ↓bM_ld14 hM, ↓bM_ld15 hM, ↓bM_ld16 hM, ↓bM_ld17 hM, ↓bM_ld18 hM, ↓bM_ld19 hM, ↓bM_ld20 hM, ↓bM_ld21 hM, ↓bM_st1 hM, ↓bM_st2 hM, ↓bM_st3 hM, ↓bM_st4 hM, ↓bM_st5 hM, ↓bM_st6 hM, ↓bM_st7 hM, ↓bM_st8 hM, ↓bM_st9 hM, ↓bM_st10 hM, ↓bM_st11 hM, ↓bM_st12 hM, ↓bM_st13 hM, ↓bM_st14 hM, ↓bM_st15 hM, ↓bM_st16 hM, ↓bM_st17 hM, ↓bM_st18 hM, ↓bM_st19 hM, ↓bM_st20 hM, ↓bM_st21 hM, ↓isHouse_w hM lr' hk, ↓within_w]
    · refine Both.q (v := -2) hR ?_ ?_
      · unfold mX10_alone
        by_cases y1 : y < 10
        · simp (disch := omega) only [jn, ↓i_lt_t, ↓i_lt_f, ↓i_eq_t, ↓i_eq_f, ↓i_bi_t, ↓i_bi_f, ↓i_some, ↓bC_g0 hC, ↓bC_g1 hC, ↓bC_g2 hC, ↓bC_g3 hC, ↓bC_g4 hC, ↓bC_g5 hC, ↓bC_g6 hC, ↓bC_g7 hC, ↓bC_g8 hC, ↓bC_g9 hC, ↓bC_g10 hC, ↓bC_inv hC, ↓bL_inv hH, ↓hasHouse_w hH hk]
        · simp (disch := omega) only [jn, ↓i_lt_t, ↓i_lt_f, ↓i_eq_t, ↓i_eq_f, ↓i_bi_t, ↓i_bi_f, ↓i_some, ↓bC_g0 hC, ↓bC_g1 hC, ↓bC_g2 hC, ↓bC_g3 hC, ↓bC_g4 hC, ↓bC_g5 hC, ↓bC_g6 hC, ↓bC_g7 hC, ↓bC_g8 hC, ↓bC_g9 hC, ↓bC_g10 hC, ↓bC_inv hC, ↓bL_inv hH, ↓hasHouse_w hH hk]
      · unfold mX11_alone
        simp (disch := omega) only [jn, ↓i_lt_t, ↓i_lt_f, ↓i_eq_t, ↓i_eq_f, ↓i_bi_t, ↓i_bi_f, ↓i_some, ↓bM_gI hM, ↓bM_pI hM, ↓bM_inv hM, ↓bM_g1 hM, ↓bM_g2 hM, ↓bM_g3 hM, ↓bM_g4 hM, ↓bM_g15 hM, ↓bM_g16 hM, ↓bM_g22 hM, ↓bM_g23 hM, ↓bM_g24 hM, ↓bM_g25 hM, ↓bM_g28 hM, ↓bM_g29 hM, ↓bM_g30 hM, ↓bM_g32 hM, ↓bM_g33 hM, ↓bM_g34 hM, ↓bM_g36 hM, ↓bM_g37 hM, ↓bM_g41 hM, ↓bM_g42 hM, ↓bM_g43 hM, ↓bM_ld1 hM, ↓bM_ld2 hM, ↓bM_ld3 hM, ↓bM_ld4 hM, ↓bM_ld5 hM, ↓bM_ld6 hM, ↓bM_ld7 hM, ↓bM_ld8 hM, ↓bM_ld9 hM, ↓bM_ld10 hM, ↓bM_ld11 hM, ↓bM_ld12 hM, ↓bM_ld13 hM, ↓bM_ld14 hM, ↓bM_ld15 hM, ↓bM_ld16 hM, ↓bM_ld17 hM, ↓bM_ld18 hM, ↓bM_ld19 hM, ↓bM_ld20 hM, ↓bM_ld21 hM, ↓bM_st1 hM, ↓bM_st2 hM, ↓bM_st3 hM, ↓bM_st4 hM, ↓bM_st5 hM, ↓bM_st6 hM, ↓bM_st7 hM, ↓bM_st8 hM, ↓bM_st9 hM, ↓bM_st10 hM, ↓bM_st11 hM, ↓bM_st12 hM, ↓bM_st13 hM, ↓bM_st14 hM, ↓bM_st15 hM, ↓bM_st16 hM, ↓bM_st17 hM, ↓bM_st18 hM, ↓bM_st19 hM, ↓bM_st20 hM, ↓bM_st21 hM, ↓isHouse_w hM lr' hk, ↓within_w]
  · refine Both.q (v := -2) hR ?_ ?_
    · unfold mX10_alone
      by_cases y1 : y < 10
      · simp (disch := omega) only [jn, ↓i_lt_t, ↓i_lt_f, ↓i_eq_t, ↓i_eq_f, ↓i_bi_t, ↓i_bi_f, ↓i_some, ↓bC_g0 hC, ↓bC_g1 hC, ↓bC_g2 hC, ↓bC_g3 hC, ↓bC_g4 hC, ↓bC_g5 hC, ↓bC_g6 hC, ↓bC_g7 hC, ↓bC_g8 hC, ↓bC_g9 hC, ↓bC_g10 hC, ↓bC_inv hC, ↓bL_inv hH, ↓hasHouse_w hH hk]
      · by_cases y2 : y < 17
        · simp (disch := omega) only [jn, ↓i_lt_t, ↓i_lt_f, ↓i_eq_t, ↓i_eq_f, ↓i_bi_t, ↓i_bi_f, ↓i_some, ↓bC_g0 hC, ↓bC_g1 hC, ↓bC_g2 hC, ↓bC_g3 hC, ↓bC_g4 hC, ↓bC_g5 hC, ↓bC_g6 hC, ↓bC_g7 hC, ↓bC_g8 hC, ↓bC_g9 hC, ↓bC_g10 hC, ↓bC_inv hC, ↓bL_inv hH, ↓hasHouse_w hH hk]
        · simp (disch := omega) only [jn, ↓i_lt_t, ↓i_lt_f, ↓i_eq_t, ↓i_eq_f, ↓i_bi_t, ↓i_bi_f, ↓i_some, ↓bC_g0 hC, ↓bC_g1 hC, ↓bC_g2 hC, ↓bC_g3 hC, ↓bC_g4 hC, ↓bC_g5 hC, ↓bC_g6 hC, ↓bC_g7 hC, ↓bC_g8 hC, ↓bC_g9 hC, ↓bC_g10 hC, ↓bC_inv hC, ↓bL_inv hH, ↓hasHouse_w hH hk]
    · unfold mX11_alone
      simp (disch := omega) only [↓i_lt_t, ↓i_lt_f, ↓i_eq_t, ↓i_eq_f, ↓i_bi_t, ↓i_bi_f, ↓i_some, ↓bM_gI hM, ↓bM_pI hM, ↓bM_inv hM, ↓bM_g1 hM, ↓bM_g2 hM, ↓bM_g3 hM, ↓bM_g4 hM, ↓bM_g15 hM, ↓bM_g16 hM, ↓bM_g22 hM, ↓bM_g23 hM, ↓bM_g24 hM, ↓bM_g25 hM, ↓bM_g28 hM, ↓bM_g29 hM, ↓bM_g30 hM, ↓bM_g32 hM, ↓bM_g33 hM, ↓bM_g34 hM, ↓bM_g36 hM, ↓bM_g37 hM, ↓bM_g41 hM, ↓bM_g42 hM, ↓bM_g43 hM, ↓bM_ld1 hM, ↓bM_ld2 hM, ↓bM_ld3 hM, ↓bM_ld4 hM, ↓bM_ld5 hM, ↓bM_ld6 hM, ↓bM_ld7 hM, ↓bM_ld8 hM, ↓bM_ld9 hM, ↓bM_ld10 hM, ↓bM_ld11 hM, ↓bM_ld12 hM, ↓bM_ld13 hM, ↓bM_ld14 hM, ↓bM_ld15 hM, ↓bM_ld16 hM, ↓bM_ld17 hM, ↓bM_ld18 hM, ↓bM_ld19 hM, ↓bM_ld20 hM, ↓bM_ld21 hM, ↓bM_st1 hM, ↓bM_st2 hM, ↓bM_st3 hM, ↓bM_st4 hM, ↓bM_st5 hM, ↓bM_st6 hM, ↓bM_st7 hM, ↓bM_st8 hM, ↓bM_st9 hM, ↓bM_st10 hM, ↓bM_st11 hM, ↓bM_st12 hM, ↓bM_st13 hM, ↓bM_st14 hM, ↓bM_st15 hM, ↓bM_st16 hM, ↓bM_st17 hM, ↓bM_st18 hM, ↓bM_st19 hM, ↓bM_st20 hM, ↓bM_st21 hM, ↓isHouse_w hM lr' hk]
end AM
