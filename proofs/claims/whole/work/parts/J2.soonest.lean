/-! soonest, cheapest, of both -/
section BSO
variable {μ : Mem} {I : Nat → Nat → Int} {c n : Nat}
theorem An.sg {x0 : Int} {St : Int → Int → Prop} {Go : Int → Prop} {r : Int} (h : An x0 St Go r) : r = -4 ∨ r = -1 ∨ 1 ≤ r := by
  obtain ⟨k, -, ⟨e, -⟩ | ⟨-, ⟨e, -⟩ | ⟨e, -⟩⟩⟩ := h <;> omega
theorem soon_un {l : Ld} {o H h R : Nat} {ro : Nat → Nat} {b G r a : Int} (hG : 1 ≤ G ∧ G ≤ 3) (hkl : okL l) (hH : (H : Int) = l 0 0) (op : opn l o ro R) (hb : b = hd l h) (h1 : (¬ (o ≤ 3 ∧ H ≤ 4) ∧ r = -4) ∨ ((o ≤ 3 ∧ H ≤ 4) ∧ An (kC o H h ro b l) (StL (kC o H h ro b) l o H h ro b G) (GoL (kC o H h ro b) l o H h ro b G) r)) (h2 : (¬ (o ≤ 3 ∧ H ≤ 4) ∧ a = -4) ∨ ((o ≤ 3 ∧ H ≤ 4) ∧ An (kM o H h ro b l) (StL (kM o H h ro b) l o H h ro b G) (GoL (kM o H h ro b) l o H h ro b G) a)) : a = r ∧ (r = -4 ∨ r = -1 ∨ 1 ≤ r) := by
  have v0 : VG l h b G l := ⟨⟨hkl, fxL.rf⟩, by omega, by omega⟩
  rcases h1 with ⟨c1, e1⟩ | ⟨c1, a1⟩
  · rcases h2 with ⟨-, e2⟩ | ⟨c2, -⟩
    · exact ⟨by omega, Or.inl e1⟩
    · exact absurd c2 c1
  · rcases h2 with ⟨c2, -⟩ | ⟨-, a2⟩
    · exact absurd c1 c2
    · exact ⟨a2.un (An_tr (cdE_of hG.2 hH c1.2 op c1.1) v0 a1), a1.sg⟩
theorem qn_rg {l : Ld} {A : Nat → Int} (h : RLl l A) {q : Nat} (hq : (q : Int) < l 0 0) : 0 ≤ hd l q ∧ hd l q ≤ 1000000 := by
  have a := h.2.2.2.2.2 q hq
  have b := h.2.2.2.2.1
  unfold hd
  omega
theorem both_soonest (hC : isC μ c) (hM : isM μ (c + 193)) (hs : hasS μ c) (hR : RelC c I) {b x : Int} (hb : -2147483648 ≤ b ∧ b < 2147483648) (hx : -2147483648 ≤ x ∧ x < 2147483648) (hn : 20000 ≤ n) : BothS μ c I (mX10_soonest n c b x) (mX11_soonest n (c + 193) b x) := by
  obtain ⟨hk, lr, lq, h0, h9⟩ := id hR.1
  have hz := hk.1
  have hH := hC.here
  have s1 := s1_of (I := I) (J := I) (c := c) rfl
  have lr' : LR (ld I (c + 3)) (up2 (ld I (c + 193)) 0 0 0 1) := by rw [s1]; exact lr
  by_cases ch : 0 ≤ b ∧ b < ld I (c + 3) 0 0
  · obtain ⟨q, rfl⟩ : ∃ q : Nat, b = (q : Int) := ⟨b.toNat, by omega⟩
    by_cases cx : 1 ≤ x ∧ x ≤ 3
    · obtain ⟨H, hHe⟩ : ∃ H : Nat, (H : Int) = ld I (c + 3) 0 0 := ⟨(ld I (c + 3) 0 0).toNat, by omega⟩
      obtain ⟨R, hRe⟩ : ∃ R : Nat, (R : Int) = ld I (c + 3) 0 1 := ⟨(ld I (c + 3) 0 1).toNat, by omega⟩
      obtain ⟨ν, K1, e1, sm, m11, hE, n2, w2, k1⟩ := searcher_eq (n := n) (J := I) hC hs
      have hC2 := hC.sm sm
      have hM2 := hM.sm sm
      have nl : ∀ k : Nat, k ≤ 12 → ld K1 (c + 3) k = ld I (c + 3) k := fun k hk' => k1 _ (by omega)
      obtain ⟨K2, r, e2, fq, r3, alt⟩ := fewestHours_eq (n := n) (J := K1) (l := ld I (c + 3)) (G := x) (sk := q) (b3 := -1) hE hC2.here (by omega) hk hRe hHe cx (by omega) hn (by decide) (hk.cg nl) ⟨fun k hk' _ => nl k hk', fun r' _ => by rw [nl 9 (by decide)]; exact ⟨fun w => ⟨w, by omega⟩, fun w => w.1⟩⟩ rfl rfl
      have kI : ∀ b : Nat, b < c + 215 → K2 b = I b := fun b hb' => (fq b (Or.inl hb')).trans (k1 b hb')
      have kR : ld K2 (c + 193) = ld I (c + 193) ∨ True := Or.inr trivial
      have s2 := s1_of (I := I) (J := K2) (c := c) (kI _ (by omega))
      have hbd := qn_rg hR.1 (q := q) ch.2
      obtain ⟨u, a, e3, fw, u1, alt2⟩ := soonestOf_eq (n := n) (I := K2) (s := up2 (ld K2 (c + 193)) 0 0 0) (l := ld I (c + 3)) (h := q) (G := x) hM2 (by rw [s2]; exact lr) hk hRe hHe (by omega) hbd cx hn rfl rfl
      obtain ⟨er, -⟩ := soon_un cx hk hHe (opn_of hRe) rfl alt alt2
      rw [er] at e3
      have f0 : FrW (ld K2 (c + 193)) (up2 (ld K2 (c + 193)) 0 0 0) := (Fr.f0 _ (Or.inl rfl)).w
      have hsn : hasS ν c := Or.inr ⟨m11, hE, n2⟩
      refine BothS.mk (ν := ν) (J := K2) (s' := u) (v := r) hR (fun b b1 b2 => kI b (by unfold tmp at b1; omega)) ?_ ?_ (f0.tr fw) ?_ ⟨sm, hC2, hM2, hsn, ?_⟩
      · unfold mX10_soonest
        rw [bC_g1 hC, bL_inv hH, hasHouse_w hH hk hb]
        dsimp only
        rw [i_bi_t ch, i_lt_f (by omega), i_lt_f (by omega), bC_inv hC, bnd e1]
        dsimp only
        rw [bE_inv hE, bnd e2]
      · rw [← ldwm K2 (c + 193)]
        unfold mX11_soonest
        have lrK : LR (ld I (c + 3)) (up2 (ld K2 (c + 193)) 0 0 0 1) := by rw [s2]; exact lr
        rw [bM_pI hM2, bM_inv hM2, isHouse_w hM2 lrK hk hb]
        dsimp only
        rw [i_bi_t ch, within_w hx (by omega) (by omega)]
        dsimp only
        rw [i_bi_t cx, bM_inv hM2, bnd e3]
      · rw [u1, s2]
        exact hR.1.cg (fun k hk' => kI _ (by omega))
      · rcases w2 with ⟨w, w'⟩ | ⟨w, w'⟩
        · exact Or.inl ⟨w, by omega⟩
        · exact Or.inr ⟨w, w', n2⟩
    · refine (Both.q (v := -3) hR ?_ ?_).s hC hM hs
      · unfold mX10_soonest
        rw [bC_g1 hC, bL_inv hH, hasHouse_w hH hk hb]
        dsimp only
        rw [i_bi_t ch]
        by_cases c1 : x < 1
        · rw [i_lt_t (by omega)]
        · rw [i_lt_f (by omega), i_lt_t (by omega)]
      · unfold mX11_soonest
        rw [bM_pI hM, bM_inv hM, isHouse_w hM lr' hk hb]
        dsimp only
        rw [i_bi_t ch, within_w hx (by omega) (by omega)]
        dsimp only
        rw [i_bi_f cx]
  · refine (Both.q (v := -2) hR ?_ ?_).s hC hM hs
    · unfold mX10_soonest
      rw [bC_g1 hC, bL_inv hH, hasHouse_w hH hk hb]
      dsimp only
      rw [i_bi_f ch]
    · unfold mX11_soonest
      rw [bM_pI hM, bM_inv hM, isHouse_w hM lr' hk hb]
      dsimp only
      rw [i_bi_f ch]
theorem both_cheapest (hC : isC μ c) (hM : isM μ (c + 193)) (hs : hasS μ c) (hR : RelC c I) {b x : Int} (hb : -2147483648 ≤ b ∧ b < 2147483648) (hx : -2147483648 ≤ x ∧ x < 2147483648) (hn : 20000 ≤ n) : BothS μ c I (mX10_cheapest n c b x) (mX11_cheapest n (c + 193) b x) := by
  obtain ⟨hk, lr, lq, h0, h9⟩ := id hR.1
  have hz := hk.1
  have hH := hC.here
  have s1 := s1_of (I := I) (J := I) (c := c) rfl
  have lr' : LR (ld I (c + 3)) (up2 (ld I (c + 193)) 0 0 0 1) := by rw [s1]; exact lr
  by_cases ch : 0 ≤ b ∧ b < ld I (c + 3) 0 0
  · obtain ⟨q, rfl⟩ : ∃ q : Nat, b = (q : Int) := ⟨b.toNat, by omega⟩
    by_cases cx : 1 ≤ x ∧ x ≤ 6
    · obtain ⟨N, rfl⟩ : ∃ N : Nat, x = (N : Int) := ⟨x.toNat, by omega⟩
      obtain ⟨H, hHe⟩ : ∃ H : Nat, (H : Int) = ld I (c + 3) 0 0 := ⟨(ld I (c + 3) 0 0).toNat, by omega⟩
      obtain ⟨R, hRe⟩ : ∃ R : Nat, (R : Int) = ld I (c + 3) 0 1 := ⟨(ld I (c + 3) 0 1).toNat, by omega⟩
      obtain ⟨ν, K1, e1, sm, m11, hE, n2, w2, k1⟩ := searcher_eq (n := n) (J := I) hC hs
      have hC1 := hC.sm sm
      have nl : ∀ k : Nat, k ≤ 12 → ld K1 (c + 3) k = ld I (c + 3) k := fun k hk' => k1 _ (by omega)
      obtain ⟨ρ, K2, r, e2, sw, hE2, fq, alt⟩ := fewestPulls_eq (n := n) (J := K1) (l := ld I (c + 3)) (sk := q) (N := N) hE hC1.here (by omega) hk hRe hHe (by omega) hn (by omega) (hk.cg nl) ⟨fun k hk' _ => nl k hk', fun r' _ => by rw [nl 9 (by decide)]; exact ⟨fun w => ⟨w, by omega⟩, fun w => w.1⟩⟩ rfl rfl
      have sm2 : SM μ ρ c := sm.tr ⟨fun b _ => by rw [sw.1], fun b j hb' _ => sw.2.2.2 b j (by omega)⟩
      have hC2 := hC.sm sm2
      have hM2 := hM.sm sm2
      have kI : ∀ b : Nat, b < c + 215 → K2 b = I b := fun b hb' => (fq b (Or.inl hb')).trans (k1 b hb')
      have s2 := s1_of (I := I) (J := K2) (c := c) (kI _ (by omega))
      have hbd := qn_rg hR.1 (q := q) ch.2
      obtain ⟨u, a, e3, fw, u1, alt2⟩ := mcheapest_eq (n := n) (I := K2) (s := ld K2 (c + 193)) (l := ld I (c + 3)) (h := q) (N := N) hM2 (by show LR _ (K2 (c + 193 + 1)); rw [kI _ (by omega)]; exact lr) hk hRe hHe (by omega) hbd (by omega) hn rfl rfl
      have er : a = r := by
        have v0 : VG (ld I (c + 3)) q (hd (ld I (c + 3)) q) 1 (ld I (c + 3)) := ⟨⟨hk, fxL.rf⟩, by omega, by omega⟩
        rcases alt with ⟨c1, e1⟩ | ⟨c1, a1⟩
        · rcases alt2 with ⟨-, e2⟩ | ⟨c2, -⟩
          · omega
          · exact absurd c2 c1
        · rcases alt2 with ⟨c2, -⟩ | ⟨-, a2⟩
          · exact absurd c1 c2
          · exact a2.un (Ac_tr (cdE_of (by decide) hHe c1.2 (opn_of hRe) c1.1) v0 c1.2 a1)
      rw [er] at e3
      have hsn : hasS ρ c := Or.inr ⟨by rw [sw.2.2.2 c 11 (by omega)]; exact m11, hE2, by rw [sw.2.1]; exact n2⟩
      refine BothS.mk (ν := ρ) (J := K2) (s' := u) (v := r) hR (fun b b1 b2 => kI b (by unfold tmp at b1; omega)) ?_ ?_ fw ?_ ⟨sm2, hC2, hM2, hsn, ?_⟩
      · unfold mX10_cheapest
        rw [bC_g1 hC, bL_inv hH, hasHouse_w hH hk hb]
        dsimp only
        rw [i_bi_t ch, i_lt_f (by omega), i_lt_f (by omega), bC_inv hC, bnd e1]
        dsimp only
        rw [bE_inv hE, bnd e2]
      · rw [← ldwm K2 (c + 193)]
        exact e3
      · rw [u1]
        show RLl _ (K2 (c + 193 + 1))
        rw [kI (c + 193 + 1) (by omega)]
        exact hR.1.cg (fun k hk' => kI _ (by omega))
      · rw [sw.2.1, sw.2.2.1]
        rcases w2 with ⟨w, w'⟩ | ⟨w, w'⟩
        · exact Or.inl ⟨w, by omega⟩
        · exact Or.inr ⟨w, w', n2⟩
    · refine (Both.q (v := -3) hR ?_ ?_).s hC hM hs
      · unfold mX10_cheapest
        rw [bC_g1 hC, bL_inv hH, hasHouse_w hH hk hb]
        dsimp only
        rw [i_bi_t ch]
        by_cases c1 : x < 1
        · rw [i_lt_t (by omega)]
        · rw [i_lt_f (by omega), i_lt_t (by omega)]
      · rw [cheapest_s, bM_pI hM, bM_inv hM, isHouse_w hM lr' hk hb]
        dsimp only
        rw [i_bi_t ch, within_w hx (by omega) (by omega)]
        dsimp only
        rw [i_bi_f cx]
  · refine (Both.q (v := -2) hR ?_ ?_).s hC hM hs
    · unfold mX10_cheapest
      rw [bC_g1 hC, bL_inv hH, hasHouse_w hH hk hb]
      dsimp only
      rw [i_bi_f ch]
    · rw [cheapest_s, bM_pI hM, bM_inv hM, isHouse_w hM lr' hk hb]
      dsimp only
      rw [i_bi_f ch]
end BSO
