/-! the class's search: fewestPulls -/
def fpS (a : Nat) (nx39 : Int → Mem → Option (Int × Mem)) (v39 : Int) (μ118 : Mem) : Option (Int × Mem) := (gA μ118 5 a 0).bind fun x119 => (gA μ118 5 a 1).bind fun x126 => (pA μ118 5 a 0 x126).bind fun μ129 => (pA μ129 5 a 1 x119).bind fun μ135 => nx39 (v39 + 1) μ135
def fpX (n a : Nat) (M : Int) (nx39 : Int → Mem → Option (Int × Mem)) (v39 : Int) (μ54 : Mem) : Option (Int × Mem) := if lt32 v39 M then (gA μ54 5 a 1).bind fun x106 => (inv μ54 7 x106 (mX6_overflows n x106 μ54)).bind fun p109 => if eq32 p109.1 0 then fpS a nx39 v39 p109.2 else some ((-4), p109.2) else fpS a nx39 v39 μ54
def fpI (n a : Nat) (M : Int) (nx39 : Int → Mem → Option (Int × Mem)) (v39 : Int) : (Int → Mem → Option (Int × Mem)) → Int → Mem → Option (Int × Mem) := fun nx54 v54 μ54 => (gA μ54 5 a 0).bind fun x57 => (gI μ54 7 x57 0).bind fun x60 => if lt32 v54 x60 then (gA μ54 5 a 0).bind fun x68 => (gA μ54 7 x68 1).bind fun x71 => (ldI μ54 3 x71 v54).bind fun x76 => (gA μ54 5 a 0).bind fun x78 => (gA μ54 7 x78 2).bind fun x81 => (ldI μ54 0 x81 v54).bind fun x86 => (gA μ54 5 a 1).bind fun x88 => (inv μ54 5 a (mX4_spread n a x76 x86 x88 μ54)).bind fun p91 => nx54 (v54 + 1) p91.2 else fpX n a M nx39 v39 μ54
def fpO (n a : Nat) (M : Int) : (Int → Mem → Option (Int × Mem)) → Int → Mem → Option (Int × Mem) := fun nx39 v39 μ39 => if lt32 M v39 then (gI μ39 5 a 13).bind fun x145 => some (x145, μ39) else (gA μ39 5 a 1).bind fun x45 => (inv μ39 7 x45 (mX6_clear n x45 μ39)).bind fun p48 => lp (fpI n a M nx39 v39) n 0 p48.2
theorem fewestPulls_s {n a : Nat} {b1 b2 : Int} (μ : Mem) : mX4_fewestPulls n a b1 b2 μ = ((inv μ 5 a (mX4_prepare n a b1 1 (-1) μ)).bind fun p4 => if eq32 p4.1 0 then some ((-4), p4.2) else (gA p4.2 5 a 0).bind fun x14 => (inv p4.2 7 x14 (mX6_clear n x14 p4.2)).bind fun p17 => (gA p17.2 5 a 0).bind fun x21 => (inv p17.2 5 a (mX4_stateNow n a p17.2)).bind fun p25 => (inv p25.2 7 x21 (mX6_add n x21 p25.1 0 p25.2)).bind fun p29 => (pI p29.2 5 a 13 (-1)).bind fun μ34 => lp (fpO n a b2) n 1 μ34) := rfl
/-- the two sets may be changed about -/
def SWP (μ ν : Mem) (a : Nat) : Prop := mS ν = mS μ ∧ mN ν = mN μ ∧ mW ν = mW μ ∧ ∀ b k : Nat, ¬ (b = a ∧ k < 2) → mA ν b k = mA μ b k
theorem SWP.rf {μ : Mem} {a : Nat} : SWP μ μ a := ⟨rfl, rfl, rfl, fun _ _ _ => rfl⟩
theorem SWP.tr {μ ν ρ : Mem} {a : Nat} (h1 : SWP μ ν a) (h2 : SWP ν ρ a) : SWP μ ρ a := ⟨h2.1.trans h1.1, h2.2.1.trans h1.2.1, h2.2.2.1.trans h1.2.2.1, fun b k hb => (h2.2.2.2 b k hb).trans (h1.2.2.2 b k hb)⟩
def swp (μ : Mem) (a : Nat) : Mem := sA (sA μ a 0 (mA μ a 1)) a 1 (mA μ a 0)
theorem swp_s (μ : Mem) (a : Nat) : SWP μ (swp μ a) a := ⟨rfl, rfl, rfl, fun b k hb => by
  show up2 (up2 (mA μ) a 0 (mA μ a 1)) a 1 (mA μ a 0) b k = _
  unfold up2
  rw [if_neg (by omega), if_neg (by omega)]⟩
theorem swp_0 (μ : Mem) (a : Nat) : mA (swp μ a) a 0 = mA μ a 1 ∧ mA (swp μ a) a 1 = mA μ a 0 := by
  refine ⟨?_, ?_⟩
  · show up2 (up2 (mA μ) a 0 (mA μ a 1)) a 1 (mA μ a 0) a 0 = _
    unfold up2
    rw [if_neg (by omega), if_pos ⟨rfl, rfl⟩]
  · show up2 (up2 (mA μ) a 0 (mA μ a 1)) a 1 (mA μ a 0) a 1 = _
    unfold up2
    rw [if_pos ⟨rfl, rfl⟩]
section FP
variable {μ : Mem} {J : Nat → Nat → Int} {a c n o H R sk nC : Nat} {ro : Nat → Nat} {l : Ld} {gB : Int}
theorem SWP.ss {ν : Mem} {q : Nat} (h : SWP μ ν a) (hq : a < q) (hS : isSS μ q) : isSS ν q := by
  obtain ⟨h1, h2, h3, h4⟩ := h
  unfold isSS at *
  rw [h1, h4 q 1 (by omega), h4 q 2 (by omega), h4 q 3 (by omega)]
  exact hS
theorem SWP.la {ν : Mem} (h : SWP μ ν a) {b : Nat} (hb : b + 12 < a) (hL : isL μ b) : isL ν b := by
  obtain ⟨h1, h2, h3, h4⟩ := h
  unfold isL at *
  rw [h1]
  refine ⟨hL.1, fun k hk => ?_, hL.2.2⟩
  rw [h4 b _ (by omega)]
  exact hL.2.1 k hk
theorem swp_se (hE : isSe μ a c) : isSe (swp μ a) a c := by
  have h := swp_s μ a
  obtain ⟨e0, e1⟩ := swp_0 μ a
  obtain ⟨c1, c2, c3, c4, c5, c6⟩ := hE
  refine ⟨by rw [h.1]; exact c1, ?_, by rw [h.1]; exact c3, h.ss (by omega) c4, h.ss (by omega) c5, ?_⟩
  · rw [h.2.2.2 a 2 (by omega), h.2.2.2 a 4 (by omega), h.2.2.2 a 5 (by omega), h.2.2.2 a 7 (by omega), h.2.2.2 a 8 (by omega), h.2.2.2 a 9 (by omega), h.2.2.2 a 10 (by omega)]
    exact c2
  · rw [e0, e1]
    rcases c6 with ⟨x, y⟩ | ⟨x, y⟩
    · exact Or.inr ⟨y, x⟩
    · exact Or.inl ⟨y, x⟩
theorem fpS_w (hE : isSe μ a c) (nx : Int → Mem → Option (Int × Mem)) (v : Int) : fpS a nx v (wi μ J) = nx (v + 1) (wi (swp μ a) J) := by
  have k5 : (mS μ a).1 = 5 := by rw [hE.1]
  unfold fpS
  rw [bE_g0 hE, bE_g1 hE]
  have p1 : pA (wi μ J) 5 a 0 (mA μ a 1) = some (wi (sA μ a 0 (mA μ a 1)) J) := if_pos k5
  have p2 : pA (wi (sA μ a 0 (mA μ a 1)) J) 5 a 1 (mA μ a 0) = some (wi (swp μ a) J) := if_pos k5
  rw [bnd p1, bnd p2]
theorem fpI_l (hE : isSe μ a c) (hL : isL μ (c + 3)) (ha : c + 15 < a) (hkl : okL l) (hH : (H : Int) = l 0 0) (hH4 : H ≤ 4) (op : opn l o ro R) (ho : o ≤ 3) (hsk : sk < H) (hn : 20000 ≤ n) {q q' : Nat} (hq0 : mA μ a 0 = q) (hq1 : mA μ a 1 = q') {M : Int} (nx : Int → Mem → Option (Int × Mem)) {v : Int} {zS : Nat} (hzS : zS ≤ 3000) {S P T0 Q0 : Nat → Int} {f0 : Int} (hSP : ∀ j : Nat, j < zS → (∃ L : Ld, VG l sk gB 1 L ∧ S j = kC o H sk ro gB L) ∧ 0 ≤ P j ∧ P j ≤ 90000) : ∀ (d kk i z : Nat) (J : Nat → Nat → Int), i + d = zS → d < kk → cxS J a c l o H ro sk 1 nC → J q 0 = (zS : Int) → J (q + 1) = S → J (q + 2) = P → SC J a q' z → AdL (fun x c => ∃ j : Nat, j < i ∧ ∃ e : Int, SpL (kC o H sk ro gB) l o H sk ro gB (S j) x e ∧ c = P j + e) (fun c => ∃ j : Nat, j < i ∧ ∃ e : Int, GpL (kC o H sk ro gB) l o H sk ro gB (S j) e ∧ c = P j + e) T0 Q0 0 f0 (J (q' + 1)) (J (q' + 2)) z (J a 13) → ∃ (K : Nat → Nat → Int) (z1 : Nat), lp (fpI n a M nx v) kk (i : Int) (wi μ J) = fpX n a M nx v (wi μ K) ∧ FS J K a q' ∧ SC K a q' z1 ∧ AdL (fun x c => ∃ j : Nat, j < zS ∧ ∃ e : Int, SpL (kC o H sk ro gB) l o H sk ro gB (S j) x e ∧ c = P j + e) (fun c => ∃ j : Nat, j < zS ∧ ∃ e : Int, GpL (kC o H sk ro gB) l o H sk ro gB (S j) e ∧ c = P j + e) T0 Q0 0 f0 (K (q' + 1)) (K (q' + 2)) z1 (K a 13)
  | d, 0, i, z, J, h1, h2, hx, hz0, hS1, hP1, hz, hA => absurd h2 (by omega)
  | 0, kk + 1, i, z, J, h1, h2, hx, hz0, hS1, hP1, hz, hA => by
    have ei : i = zS := by omega
    subst ei
    obtain ⟨hq, hS⟩ := hE.q0 hq0
    refine ⟨J, z, ?_, FS.rf, hz, hA⟩
    generalize hB : lp (fpI n a M nx v) kk = slf
    show fpI n a M nx v (lp (fpI n a M nx v) kk) (i : Int) (wi μ J) = _
    rw [hB]
    unfold fpI
    rw [bE_g0 hE, hq0, bS_gI hS, hz0, i_lt_f (by omega)]
  | d + 1, kk + 1, i, z, J, h1, h2, hx, hz0, hS1, hP1, hz, hA => by
    obtain ⟨hq, hS⟩ := hE.q0 hq0
    obtain ⟨hq', hS'⟩ := hE.q1 hq1
    have hqq : q ≠ q' := by
      rcases hE.2.2.2.2.2 with ⟨x, y⟩ | ⟨x, y⟩ <;> omega
    obtain ⟨⟨L, vg, ey⟩, p0, p9⟩ := hSP i (by omega)
    obtain ⟨K, z1, e1, f1, c1, ad⟩ := spread_eq (n := n) (pc := P i) hE hL ha hkl vg hH hH4 op ho (by decide) hsk hn hS' hq' ⟨p0, p9⟩ hx hz
    have ad1 := sp_ad vg hH hH4 op ho ad
    rw [← ey] at ad1
    have ad2 := (hA.tr ad1).iff (E' := fun x c => ∃ j : Nat, j < i + 1 ∧ ∃ e : Int, SpL (kC o H sk ro gB) l o H sk ro gB (S j) x e ∧ c = P j + e) (F' := fun c => ∃ j : Nat, j < i + 1 ∧ ∃ e : Int, GpL (kC o H sk ro gB) l o H sk ro gB (S j) e ∧ c = P j + e) (fun x c => ⟨fun w => by
        rcases w with ⟨j, q1, q2⟩ | w
        · exact ⟨j, by omega, q2⟩
        · exact ⟨i, by omega, w⟩, fun w => by
        obtain ⟨j, q1, q2⟩ := w
        by_cases cj : j = i
        · subst cj; exact Or.inr q2
        · exact Or.inl ⟨j, by omega, q2⟩⟩) (fun c => ⟨fun w => by
        rcases w with ⟨j, q1, q2⟩ | w
        · exact ⟨j, by omega, q2⟩
        · exact ⟨i, by omega, w⟩, fun w => by
        obtain ⟨j, q1, q2⟩ := w
        by_cases cj : j = i
        · subst cj; exact Or.inr q2
        · exact Or.inl ⟨j, by omega, q2⟩⟩)
    have kq : ∀ j : Nat, j ≤ 2 → K (q + j) = J (q + j) := fun j hj => f1.1 _ (by omega) (by omega) (by omega) (by omega) (by omega)
    obtain ⟨N, z2, e2, f2, c2, ad3⟩ := fpI_l (zS := zS) (S := S) (P := P) (T0 := T0) (Q0 := Q0) (f0 := f0) hE hL ha hkl hH hH4 op ho hsk hn hq0 hq1 nx hzS hSP d kk (i + 1) z1 K (by omega) (by omega) (hx.fs ha hq' f1) (by rw [show K q = J q from kq 0 (by decide)]; exact hz0) ((kq 1 (by decide)).trans hS1) ((kq 2 (by decide)).trans hP1) c1 ad2
    refine ⟨N, z2, ?_, f1.tr f2, c2, ad3⟩
    generalize hB : lp (fpI n a M nx v) kk = slf at e2
    show fpI n a M nx v (lp (fpI n a M nx v) kk) (i : Int) (wi μ J) = _
    rw [hB]
    unfold fpI
    rw [bE_g0 hE, hq0, bS_gI hS, hz0, i_lt_t (by omega), bE_g0 hE, hq0, bS_g1 hS, bS_ld1 hS (by omega) (by omega), Int.toNat_natCast, hS1, bE_g0 hE, hq0, bS_g2 hS, bS_ld2 hS (by omega) (by omega), Int.toNat_natCast, hP1, bE_g1 hE, hq1, bE_inv hE, ey, bnd e1]
    exact e2
end FP
