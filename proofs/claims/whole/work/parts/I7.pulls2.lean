/-! the class's search: fewestPulls, whole -/
section FR
variable {J : Nat → Nat → Int} {a c n o H R sk nC : Nat} {ro : Nat → Nat} {l : Ld} {gB : Int}
theorem fpO_l (ha : c + 15 < a) (hkl : okL l) (hH : (H : Int) = l 0 0) (hH4 : H ≤ 4) (op : opn l o ro R) (ho : o ≤ 3) (hsk : sk < H) (hn : 20000 ≤ n) (v0 : VG l sk gB 1 l) {N : Nat} (hN : 1 ≤ N ∧ N ≤ 6) : ∀ (d kk k z : Nat) (μ : Mem) (J : Nat → Nat → Int), k + d = N → d < kk → isSe μ a c → isL μ (c + 3) → cxS J a c l o H ro sk 1 nC → z ≤ 3000 → J (mA μ a 0) 0 = (z : Int) → PL (kC o H sk ro gB l) (SpL (kC o H sk ro gB) l o H sk ro gB) k (J (mA μ a 0 + 1)) (J (mA μ a 0 + 2)) z → Fm (kC o H sk ro gB l) (SpL (kC o H sk ro gB) l o H sk ro gB) (GpL (kC o H sk ro gB) l o H sk ro gB) k (J a 13) → (∀ j : Nat, 1 ≤ j → j ≤ k → j < N → ¬ mnC (kC o H sk ro gB l) (SpL (kC o H sk ro gB) l o H sk ro gB) j) → ∃ (ν : Mem) (K : Nat → Nat → Int) (r : Int), lp (fpO n a (N : Int)) kk ((k : Int) + 1) (wi μ J) = some (r, wi ν K) ∧ SWP μ ν a ∧ isSe ν a c ∧ FQ J K a ∧ Ac (kC o H sk ro gB l) (SpL (kC o H sk ro gB) l o H sk ro gB) (GpL (kC o H sk ro gB) l o H sk ro gB) N r
  | d, 0, k, z, μ, J, h1, h2, hE, hL, hx, hz, hz0, hP, hF, hm => absurd h2 (by omega)
  | 0, kk + 1, k, z, μ, J, h1, h2, hE, hL, hx, hz, hz0, hP, hF, hm => by
    have ek : k = N := by omega
    subst ek
    refine ⟨μ, J, J a 13, ?_, SWP.rf, hE, fun _ _ => rfl, Or.inr ⟨fun j a b => hm j a (by omega) b, hF⟩⟩
    generalize hB : lp (fpO n a (k : Int)) kk = slf
    show fpO n a (k : Int) (lp (fpO n a (k : Int)) kk) ((k : Int) + 1) (wi μ J) = _
    rw [hB]
    unfold fpO
    rw [i_lt_t (by omega), bE_gI hE]
  | d + 1, kk + 1, k, z, μ, J, h1, h2, hE, hL, hx, hz, hz0, hP, hF, hm => by
    have ih := fpO_l ha hkl hH hH4 op ho hsk hn v0 hN d kk (k + 1)
    generalize hB : lp (fpO n a (N : Int)) kk = slf at ih
    obtain ⟨q, hq0⟩ : ∃ q : Nat, mA μ a 0 = q := ⟨_, rfl⟩
    obtain ⟨q', hq1⟩ : ∃ q : Nat, mA μ a 1 = q := ⟨_, rfl⟩
    obtain ⟨hq, hS⟩ := hE.q0 hq0
    obtain ⟨hq', hS'⟩ := hE.q1 hq1
    have hqq : q ≠ q' := by
      rcases hE.2.2.2.2.2 with ⟨x, y⟩ | ⟨x, y⟩ <;> omega
    rw [hq0] at hz0 hP
    obtain ⟨K1, e1, f1, s1⟩ := clear_w (n := n) (J := J) hS' hn
    have k1a : K1 a = J a := f1 a (by omega) (by omega)
    have fr := Fm.rg v0 hH4 hF
    have hx1 : cxS K1 a c l o H ro sk 1 nC := hx.cg ha (fun b hb => f1 b (by omega) (by omega)) (fun j _ => by rw [k1a])
    have sc1 : SC K1 a q' 0 := ⟨s1, fun i hi => absurd hi (by omega), by rw [k1a]; omega, by rw [k1a]; omega⟩
    have hSP : ∀ j : Nat, j < z → (∃ L : Ld, VG l sk gB 1 L ∧ J (q + 1) j = kC o H sk ro gB L) ∧ 0 ≤ J (q + 2) j ∧ J (q + 2) j ≤ 90000 := fun j hj => by
      obtain ⟨x1, x2, x3⟩ := Ck.vg v0 hH4 k _ _ (hP.1 j hj)
      exact ⟨x1, x2, by omega⟩
    obtain ⟨K3, z1, e3, f3, c3, ad⟩ := fpI_l (n := n) (M := (N : Int)) (v := (k : Int) + 1) (T0 := K1 (q' + 1)) (Q0 := K1 (q' + 2)) (f0 := K1 a 13) hE hL ha hkl hH hH4 op ho hsk hn hq0 hq1 slf hz hSP z n 0 0 K1 (by omega) (by omega) hx1 (by rw [f1 q (by omega) (by omega)]; exact hz0) (f1 (q + 1) (by omega) (by omega)) (f1 (q + 2) (by omega) (by omega)) sc1 (AdL.rf (fun x c w => by obtain ⟨j, hj, -⟩ := w; omega) (fun c w => by obtain ⟨j, hj, -⟩ := w; omega))
    rw [k1a] at ad
    have us := c3.1
    obtain ⟨w1, w2, w3⟩ := hP.st hF ad us.2.2.1.2.2.1 us.2.1
    have fq3 : FQ J K3 a := FQ.tr (fun b hb => f1 b (by omega) (by omega)) (f3.fq hq')
    have hx3 : cxS K3 a c l o H ro sk 1 nC := hx1.fs ha hq' f3
    have e3' : lp (fpI n a (N : Int) slf ((k : Int) + 1)) n 0 (wi μ K1) = _ := e3
    have pre : lp (fpO n a (N : Int)) (kk + 1) ((k : Int) + 1) (wi μ J) = fpX n a (N : Int) slf ((k : Int) + 1) (wi μ K3) := by
      show fpO n a (N : Int) (lp (fpO n a (N : Int)) kk) ((k : Int) + 1) (wi μ J) = _
      rw [hB]
      unfold fpO
      rw [i_lt_f (by omega), bE_g1 hE, hq1, bS_inv hS', bnd e1]
      exact e3'
    rw [pre]
    unfold fpX
    have sw := swp_s μ a
    obtain ⟨m0, m1⟩ := swp_0 μ a
    have hE2 := swp_se hE
    have hL2 := sw.la (b := c + 3) (by omega) hL
    by_cases cN : k + 1 = N
    · rw [i_lt_f (by omega), fpS_w hE]
      cases kk with
      | zero => exact absurd h2 (by omega)
      | succ kk =>
        refine ⟨swp μ a, K3, K3 a 13, ?_, sw, hE2, fq3, Or.inr ⟨fun j a b => hm j a (by omega) b, by rw [← cN]; exact w1⟩⟩
        rw [← hB]
        show fpO n a (N : Int) (lp (fpO n a (N : Int)) kk) ((k : Int) + 1 + 1) (wi (swp μ a) K3) = _
        unfold fpO
        rw [i_lt_t (by omega), bE_gI hE2]
    · rw [i_lt_t (by omega), bE_g1 hE, hq1, bS_inv hS', overflows_w hS' us.1 us.2.1]
      dsimp only
      by_cases cz : 3000 < z1
      · rw [i_bi_t cz]
        exact ⟨μ, K3, -4, rfl, SWP.rf, hE, fq3, Or.inl ⟨rfl, k + 1, by omega, by omega, w2 cz⟩⟩
      · obtain ⟨w4, w5⟩ := w3 (by omega)
        rw [i_bi_f cz, fpS_w hE]
        obtain ⟨ν, K4, r, e4, g1, g2, g3, g4⟩ := ih z1 (swp μ a) K3 (by omega) (by omega) hE2 hL2 hx3 (by omega) (by rw [m0, hq1]; exact us.1) (by rw [m0, hq1]; exact w5) w1 (fun j a b c => by
          by_cases cj : j = k + 1
          · rw [cj]; exact w4
          · exact hm j a (by omega) c)
        exact ⟨ν, K4, r, e4, sw.tr g1, g2, fq3.tr g3, g4⟩
theorem fewestPulls_eq {μ : Mem} (hE : isSe μ a c) (hL : isL μ (c + 3)) (ha : c + 15 < a) (hkl : okL l) (hR : (R : Int) = l 0 1) (hH : (H : Int) = l 0 0) (hsk : sk < H) (hn : 20000 ≤ n) {N : Nat} (hN : 1 ≤ N ∧ N ≤ 6) (hm : okL (ld J (c + 3))) (hv : vir l (ld J (c + 3)) R (-1)) (ho : oN (l 9) R = o) (hro : oR (l 9) R = ro) : ∃ (ν : Mem) (K : Nat → Nat → Int) (r : Int), mX4_fewestPulls n a (sk : Int) (N : Int) (wi μ J) = some (r, wi ν K) ∧ SWP μ ν a ∧ isSe ν a c ∧ FQ J K a ∧ ((¬ (o ≤ 3 ∧ H ≤ 4) ∧ r = -4) ∨ ((o ≤ 3 ∧ H ≤ 4) ∧ Ac (kC o H sk ro (hd l sk) l) (SpL (kC o H sk ro (hd l sk)) l o H sk ro (hd l sk)) (GpL (kC o H sk ro (hd l sk)) l o H sk ro (hd l sk)) N r)) := by
  have op := opn_of (l := l) hR
  rw [ho, hro] at op
  obtain ⟨K1, e1, g1, g2, g3⟩ := prepare_eq (n := n) (J := J) (b3 := -1) (h := (sk : Int)) (G := 1) hE hL ha hkl hH hR (by decide) hn hm hv ho hro
  have fq1 : FQ J K1 a := fun b hb => g1 b (by omega) (by omega) (by omega) (by omega)
  rw [fewestPulls_s, bE_inv hE, bnd e1]
  dsimp only
  by_cases cc : o ≤ 3 ∧ H ≤ 4
  · obtain ⟨q, hq0⟩ : ∃ q : Nat, mA μ a 0 = q := ⟨_, rfl⟩
    obtain ⟨hq, hS⟩ := hE.q0 hq0
    obtain ⟨env1, nC, ch1⟩ := g3 cc
    have v0 : VG l sk (hd l sk) 1 l := ⟨⟨hkl, fxL.rf⟩, by omega, by omega⟩
    have hx1 : cxS K1 a c l o H ro sk 1 nC := ⟨env1, g2.1, g2.2, hm.cg (fun k hk => g1 _ (by omega) (by omega) (by omega) (by omega)), ch1⟩
    obtain ⟨K2, e2, f2, s2⟩ := clear_w (n := n) (J := K1) hS hn
    have hx2 : cxS K2 a c l o H ro sk 1 nC := hx1.cg ha (fun b hb => f2 b (by omega) (by omega)) (fun j _ => by rw [f2 a (by omega) (by omega)])
    have e3 := stateNow_eq (n := n) (h := sk) (J := K2) hE hL hkl hH cc.2 op cc.1 hx2.1 hn
    have rg := rg_of (ro := ro) (o := o) (g := hd l sk - hd l sk) hkl hH (fun k hk' => by have := (op.2.1 k hk').1; omega) (by omega)
    obtain ⟨X, x1, x2⟩ := cd_x rg
    have x1' : kC o H sk ro (hd l sk) l = (X : Int) := x1
    obtain ⟨K3, e4, ad⟩ := add_eq (n := n) (x := kC o H sk ro (hd l sk) l) (v := 0) hS s2 (by rw [x1']; have := x2.1; omega) hn
    obtain ⟨a1, a2, a3, a4⟩ := (ad.2 (fun w => by obtain ⟨i, hi, -⟩ := w; omega)).2 (by omega)
    have hx3 : cxS K3 a c l o H ro sk 1 nC := hx2.cg ha (fun b hb => a1 b (by omega)) (fun j _ => by rw [a1 a (by omega)])
    have hx4 : cxS (up2 K3 a 13 (-1)) a c l o H ro sk 1 nC := hx3.cg ha (fun b hb => up2_row (by omega)) (fun j hj => up2_n (by omega))
    have fq3 : FQ K1 (up2 K3 a 13 (-1)) a := fun b hb => by rw [up2_row (by omega), a1 b (by omega), f2 b (by omega) (by omega)]
    have pl : PL (kC o H sk ro (hd l sk) l) (SpL (kC o H sk ro (hd l sk)) l o H sk ro (hd l sk)) 0 (up2 K3 a 13 (-1) (q + 1)) (up2 K3 a 13 (-1) (q + 2)) 1 := by
      rw [up2_row (by omega), up2_row (by omega), a3, a4]
      refine ⟨fun i hi => ?_, fun x d hx => ⟨0, by omega, by rw [upA_s]; exact hx.1.symm, by rw [upA_s, hx.2]; decide⟩⟩
      have : i = 0 := by omega
      subst this
      rw [upA_s, upA_s]
      exact ⟨rfl, rfl⟩
    obtain ⟨ν, K4, r, e5, h1, h2, h3, h4⟩ := fpO_l (n := n) (gB := hd l sk) ha hkl hH cc.2 op cc.1 hsk hn v0 hN N n 0 1 μ (up2 K3 a 13 (-1)) (by omega) (by omega) hE hL hx4 (by omega) (by rw [hq0, up2_row (by omega)]; exact a2.1) (by rw [hq0]; exact pl) (Or.inl ⟨up2_s, fun j hj => absurd hj (by omega)⟩) (fun j a b => absurd a (by omega))
    rw [i_bi_t cc, bE_g0 hE, hq0, bS_inv hS, bnd e2]
    dsimp only
    rw [bE_g0 hE, hq0, bE_inv hE, bnd e3]
    dsimp only
    rw [bS_inv hS, bnd e4]
    dsimp only
    rw [bE_pI hE]
    exact ⟨ν, K4, r, e5, h1, h2, (fq1.tr fq3).tr h3, Or.inr ⟨cc, h4⟩⟩
  · rw [i_bi_f cc]
    exact ⟨μ, K1, -4, rfl, SWP.rf, hE, fq1, Or.inl ⟨cc, rfl⟩⟩
end FR
