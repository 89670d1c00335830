/-! the class's search: fewestHours -/
def fhX (n a : Nat) (nx38 : Int × Int → Mem → Option (Int × Mem)) (x50 hr : Int) (μ104 : Mem) : Option (Int × Mem) := (gI μ104 5 a 13).bind fun x105 => if eq32 x105 (-1) then (gA μ104 5 a 0).bind fun x116 => (inv μ104 7 x116 (mX6_overflows n x116 μ104)).bind fun p119 => if eq32 p119.1 0 then (gA p119.2 5 a 0).bind fun x129 => (gI p119.2 7 x129 0).bind fun x132 => if eq32 x132 x50 then some ((-1), p119.2) else nx38 (x50, (hr + 1)) p119.2 else some ((-4), p119.2) else some (hr, μ104)
def fhI (n a : Nat) (nx38 : Int × Int → Mem → Option (Int × Mem)) (x50 hr : Int) : (Int → Mem → Option (Int × Mem)) → Int → Mem → Option (Int × Mem) := fun nx64 v64 μ64 => if lt32 v64 x50 then (gI μ64 5 a 13).bind fun x72 => if eq32 x72 (-1) then (gA μ64 5 a 0).bind fun x81 => (gA μ64 7 x81 1).bind fun x84 => (ldI μ64 3 x84 v64).bind fun x89 => (gA μ64 5 a 0).bind fun x92 => (inv μ64 5 a (mX4_spread n a x89 0 x92 μ64)).bind fun p95 => nx64 (v64 + 1) p95.2 else fhX n a nx38 x50 hr μ64 else fhX n a nx38 x50 hr μ64
def fhO (n a : Nat) : (Int × Int → Mem → Option (Int × Mem)) → Int × Int → Mem → Option (Int × Mem) := fun nx38 v38 μ38 => if lt32 3001 v38.2 then some ((-1), μ38) else (gA μ38 5 a 0).bind fun x47 => (gI μ38 7 x47 0).bind fun x50 => (pI μ38 5 a 13 (-1)).bind fun μ57 => lp (fhI n a nx38 x50 v38.2) n v38.1 μ57
theorem fewestHours_s {n a : Nat} {b1 b2 b3 : Int} (μ : Mem) : mX4_fewestHours n a b1 b2 b3 μ = ((inv μ 5 a (mX4_prepare n a b1 b2 b3 μ)).bind fun p4 => if eq32 p4.1 0 then some ((-4), p4.2) else (gA p4.2 5 a 0).bind fun x14 => (inv p4.2 7 x14 (mX6_clear n x14 p4.2)).bind fun p17 => (gA p17.2 5 a 0).bind fun x21 => (inv p17.2 5 a (mX4_stateNow n a p17.2)).bind fun p25 => (inv p25.2 7 x21 (mX6_add n x21 p25.1 0 p25.2)).bind fun p29 => lp (fhO n a) n (0, 1) p29.2) := rfl
section FH
variable {μ : Mem} {J : Nat → Nat → Int} {a c n o H R sk q nC : Nat} {ro : Nat → Nat} {l : Ld} {gB G : Int}
theorem isSe.q0 (hE : isSe μ a c) (e : mA μ a 0 = q) : (q = a + 1 ∨ q = a + 5) ∧ isSS μ q := by
  obtain ⟨-, -, -, s1, s5, al⟩ := hE
  rcases al with ⟨x, -⟩ | ⟨x, -⟩
  · rw [x] at e; subst e; exact ⟨Or.inl rfl, s1⟩
  · rw [x] at e; subst e; exact ⟨Or.inr rfl, s5⟩
theorem isSe.q1 (hE : isSe μ a c) (e : mA μ a 1 = q) : (q = a + 1 ∨ q = a + 5) ∧ isSS μ q := by
  obtain ⟨-, -, -, s1, s5, al⟩ := hE
  rcases al with ⟨-, x⟩ | ⟨-, x⟩
  · rw [x] at e; subst e; exact ⟨Or.inr rfl, s5⟩
  · rw [x] at e; subst e; exact ⟨Or.inl rfl, s1⟩
theorem fhI_l (hE : isSe μ a c) (hL : isL μ (c + 3)) (ha : c + 15 < a) (hkl : okL l) (hH : (H : Int) = l 0 0) (hH4 : H ≤ 4) (op : opn l o ro R) (ho : o ≤ 3) (hG : 1 ≤ G ∧ G ≤ 3) (hsk : sk < H) (hn : 20000 ≤ n) (hq0 : mA μ a 0 = q) (nx : Int × Int → Mem → Option (Int × Mem)) {hr : Int} {to : Nat} : ∀ (d kk i z : Nat) (J : Nat → Nat → Int), i + d = to → d < kk → cxS J a c l o H ro sk G nC → SC J a q z → to ≤ z → J a 13 = -1 → (∀ j : Nat, j < to → ∃ L : Ld, VG l sk gB G L ∧ J (q + 1) j = kC o H sk ro gB L) → ∃ (K : Nat → Nat → Int) (z1 : Nat), lp (fhI n a nx (to : Int) hr) kk (i : Int) (wi μ J) = fhX n a nx (to : Int) hr (wi μ K) ∧ FS J K a q ∧ SC K a q z1 ∧ LV (StL (kC o H sk ro gB) l o H sk ro gB G) (GoL (kC o H sk ro gB) l o H sk ro gB G) (J (q + 1)) i to z (K (q + 1)) z1 (K a 13 ≠ -1)
  | d, 0, i, z, J, h1, h2, hx, hz, ht, hf, hc => absurd h2 (by omega)
  | 0, kk + 1, i, z, J, h1, h2, hx, hz, ht, hf, hc => by
    have z3 := hz.1.2.1
    refine ⟨J, z, ?_, FS.rf, hz, ⟨Nat.le_refl _, fun _ _ => rfl⟩, fun x hx => Or.inl hx, fun e => absurd hf e, fun _ j a b => absurd b (by omega)⟩
    generalize hB : lp (fhI n a nx (to : Int) hr) kk = slf
    show fhI n a nx (to : Int) hr (lp (fhI n a nx (to : Int) hr) kk) (i : Int) (wi μ J) = _
    rw [hB]
    unfold fhI
    rw [i_lt_f (by omega)]
  | d + 1, kk + 1, i, z, J, h1, h2, hx, hz, ht, hf, hc => by
    have z3 := hz.1.2.1
    obtain ⟨hq, hS⟩ := hE.q0 hq0
    obtain ⟨L, vg, ey⟩ := hc i (by omega)
    obtain ⟨K, z1, e1, f1, c1, ad⟩ := spread_eq (n := n) (pc := 0) hE hL ha hkl vg hH hH4 op ho hG hsk hn hS hq (by decide) hx hz
    rw [hf] at ad
    obtain ⟨q1, q2, q3, q4⟩ := sp_lv vg hG hH hH4 op ho ad
    rw [← ey] at q2 q3 q4
    have run : ∀ slf : Int → Mem → Option (Int × Mem), fhI n a nx (to : Int) hr slf (i : Int) (wi μ J) = slf ((i + 1 : Nat) : Int) (wi μ K) := fun slf => by
      unfold fhI
      rw [i_lt_t (by omega), bE_gI hE, hf, i_eq_t rfl, bE_g0 hE, hq0, bS_g1 hS, bS_ld1 hS (by omega) (by omega), Int.toNat_natCast, ey, bE_g0 hE, hq0, bE_inv hE, bnd e1]
      rfl
    by_cases cf : K a 13 = -1
    · obtain ⟨M, z2, e2, f2, c2, lv⟩ := fhI_l (to := to) hE hL ha hkl hH hH4 op ho hG hsk hn hq0 nx d kk (i + 1) z1 K (by omega) (by omega) (hx.fs ha hq f1) c1 (by omega) cf (fun j hj => by rw [q1.2 j (by omega)]; exact hc j hj)
      refine ⟨M, z2, ?_, f1.tr f2, c2, LV.cons (by omega) ht q1 q2 (q3 cf) lv⟩
      show fhI n a nx (to : Int) hr (lp (fhI n a nx (to : Int) hr) kk) (i : Int) (wi μ J) = _
      rw [run]
      exact e2
    · refine ⟨K, z1, ?_, f1, c1, q1, fun x hx => ?_, fun _ => ⟨i, Nat.le_refl _, by omega, q4 cf⟩, fun e => absurd cf e⟩
      · show fhI n a nx (to : Int) hr (lp (fhI n a nx (to : Int) hr) kk) (i : Int) (wi μ J) = _
        rw [run]
        cases kk with
        | zero => exact absurd h2 (by omega)
        | succ kk =>
          generalize hB : lp (fhI n a nx (to : Int) hr) kk = slf
          show fhI n a nx (to : Int) hr (lp (fhI n a nx (to : Int) hr) kk) ((i + 1 : Nat) : Int) (wi μ K) = _
          rw [hB]
          unfold fhI
          have c13 := c1.2.2
          by_cases c : i + 1 < to
          · rw [i_lt_t (by omega), bE_gI hE, i_eq_f (by omega)]
          · rw [i_lt_f (by omega)]
      · rcases q2 x hx with w | w
        · exact Or.inl w
        · exact Or.inr ⟨i, Nat.le_refl _, by omega, w⟩
theorem fhO_l (hE : isSe μ a c) (hL : isL μ (c + 3)) (ha : c + 15 < a) (hkl : okL l) (hH : (H : Int) = l 0 0) (hH4 : H ≤ 4) (op : opn l o ro R) (ho : o ≤ 3) (hG : 1 ≤ G ∧ G ≤ 3) (hsk : sk < H) (hn : 20000 ≤ n) (hq0 : mA μ a 0 = q) (v0 : VG l sk gB G l) : ∀ (d kk k fr to : Nat) (J : Nat → Nat → Int), k + d = 3000 → d < kk → cxS J a c l o H ro sk G nC → SC J a q to → fr < to → Lin (kC o H sk ro gB l) (StL (kC o H sk ro gB) l o H sk ro gB G) (GoL (kC o H sk ro gB) l o H sk ro gB G) k (J (q + 1)) fr to → (∀ j : Nat, j < k → (∀ w : Int, Rc (kC o H sk ro gB l) (StL (kC o H sk ro gB) l o H sk ro gB G) j w → ¬ GoL (kC o H sk ro gB) l o H sk ro gB G w) ∧ ¬ mny (Rc (kC o H sk ro gB l) (StL (kC o H sk ro gB) l o H sk ro gB G) (j + 1)) ∧ ∃ w : Int, Rc (kC o H sk ro gB l) (StL (kC o H sk ro gB) l o H sk ro gB G) (j + 1) w ∧ ¬ Rc (kC o H sk ro gB l) (StL (kC o H sk ro gB) l o H sk ro gB G) j w) → ∃ (K : Nat → Nat → Int) (r : Int), lp (fhO n a) kk ((fr : Int), (k : Int) + 1) (wi μ J) = some (r, wi μ K) ∧ FS J K a q ∧ r ≤ 3001 ∧ An (kC o H sk ro gB l) (StL (kC o H sk ro gB) l o H sk ro gB G) (GoL (kC o H sk ro gB) l o H sk ro gB G) r
  | d, 0, k, fr, to, J, h1, h2, hx, hz, hf, hLi, hp => absurd h2 (by omega)
  | 0, kk + 1, k, fr, to, J, h1, h2, hx, hz, hf, hLi, hp => by
    have := hLi.2.2.1
    have := hLi.2.2.2
    omega
  | d + 1, kk + 1, k, fr, to, J, h1, h2, hx, hz, hf, hLi, hp => by
    have t3 := hLi.2.2.1
    obtain ⟨hq, hS⟩ := hE.q0 hq0
    have ih := fhO_l hE hL ha hkl hH hH4 op ho hG hsk hn hq0 v0 d kk (k + 1) to
    generalize hB : lp (fhO n a) kk = slf at ih
    have hx1 : cxS (up2 J a 13 (-1)) a c l o H ro sk G nC := hx.cg ha (fun b hb => up2_row (by omega)) (fun j hj => up2_n (by omega))
    have hz1 : SC (up2 J a 13 (-1)) a q to := by
      unfold SC SSt
      rw [up2_row (by omega), up2_row (by omega), up2_row (by omega), up2_row (by omega), up2_s]
      exact ⟨hz.1, hz.2.1, by decide, by decide⟩
    have f01 : FS J (up2 J a 13 (-1)) a q := ⟨fun b b1 _ _ _ _ => up2_row b1, fun j hj => up2_n (by omega)⟩
    have r1 : up2 J a 13 (-1) (q + 1) = J (q + 1) := up2_row (by omega)
    have hc : ∀ j : Nat, j < to → ∃ L : Ld, VG l sk gB G L ∧ up2 J a 13 (-1) (q + 1) j = kC o H sk ro gB L := fun j hj => by
      rw [r1]
      exact Rc.vg v0 k _ ((hLi.1 _).mp ⟨j, hj, rfl⟩)
    obtain ⟨K, z1, e1, f1, c1, lv⟩ := fhI_l (to := to) (n := n) hE hL ha hkl hH hH4 op ho hG hsk hn hq0 slf (hr := (k : Int) + 1) (to - fr) n fr to (up2 J a 13 (-1)) (by omega) (by omega) hx1 hz1 (Nat.le_refl _) up2_s hc
    rw [r1] at lv
    have us := c1.1
    obtain ⟨w1, w2⟩ := hLi.st lv us.2.2.1.2.2.1 us.2.1
    have z13 := us.2.1
    have pre : lp (fhO n a) (kk + 1) ((fr : Int), (k : Int) + 1) (wi μ J) = fhX n a slf (to : Int) ((k : Int) + 1) (wi μ K) := by
      show fhO n a (lp (fhO n a) kk) ((fr : Int), (k : Int) + 1) (wi μ J) = _
      rw [hB]
      unfold fhO
      dsimp only
      rw [i_lt_f (by omega), bE_g0 hE, hq0, bS_gI hS, hz.1.1, bE_pI hE, e1]
    rw [pre]
    unfold fhX
    have c13 := c1.2.2
    rw [bE_gI hE]
    by_cases cr : K a 13 = -1
    · have cr' : ¬ K a 13 ≠ -1 := fun w => w cr
      obtain ⟨w3, w4, w5⟩ := w2 cr'
      rw [i_eq_t cr, bE_g0 hE, hq0, bS_inv hS, overflows_w hS us.1 us.2.1]
      dsimp only
      by_cases cz : 3000 < z1
      · rw [i_bi_t cz]
        exact ⟨K, -4, rfl, f01.tr f1, by decide, k, hp, Or.inr ⟨w3, Or.inl ⟨rfl, w4 cz⟩⟩⟩
      · obtain ⟨w6, w7, w8⟩ := w5 (by omega)
        have lt := lv.1.1
        rw [i_bi_f cz, bE_g0 hE, hq0, bS_gI hS, us.1]
        by_cases ce : z1 = to
        · rw [i_eq_t (by rw [ce])]
          exact ⟨K, -1, rfl, f01.tr f1, by decide, k, hp, Or.inr ⟨w3, Or.inr ⟨rfl, w6, w7 ce⟩⟩⟩
        · obtain ⟨w9, w10⟩ := w8 (by omega)
          obtain ⟨M, r, e2, f2, r3, an⟩ := ih z1 K (by omega) (by omega) (hx1.fs ha hq f1) c1 (by omega) w9 (fun j hj => by
            by_cases cj : j = k
            · rw [cj]; exact ⟨w3, w6, w10⟩
            · exact hp j (by omega))
          rw [i_eq_f (by omega)]
          exact ⟨M, r, e2, (f01.tr f1).tr f2, r3, an⟩
    · rw [i_eq_f (by omega)]
      exact ⟨K, (k : Int) + 1, rfl, f01.tr f1, by omega, k, hp, Or.inl ⟨rfl, w1 cr⟩⟩
/-- what a search leaves alone -/
def FQ (J K : Nat → Nat → Int) (a : Nat) : Prop := ∀ b : Nat, b < a ∨ a + 14 < b → K b = J b
theorem FQ.tr {K M : Nat → Nat → Int} (h1 : FQ J K a) (h2 : FQ K M a) : FQ J M a := fun b hb => (h2 b hb).trans (h1 b hb)
theorem FS.fq {K : Nat → Nat → Int} (h : FS J K a q) (hq : q = a + 1 ∨ q = a + 5) : FQ J K a := fun b hb => h.1 b (by omega) (by omega) (by omega) (by omega) (by omega)
theorem fewestHours_eq (hE : isSe μ a c) (hL : isL μ (c + 3)) (ha : c + 15 < a) (hkl : okL l) (hR : (R : Int) = l 0 1) (hH : (H : Int) = l 0 0) (hG : 1 ≤ G ∧ G ≤ 3) (hsk : sk < H) (hn : 20000 ≤ n) {b3 : Int} (hb : -1 ≤ b3 ∧ b3 ≤ 100) (hm : okL (ld J (c + 3))) (hv : vir l (ld J (c + 3)) R b3) (ho : oN (l 9) R = o) (hro : oR (l 9) R = ro) : ∃ (K : Nat → Nat → Int) (r : Int), mX4_fewestHours n a (sk : Int) G b3 (wi μ J) = some (r, wi μ K) ∧ FQ J K a ∧ r ≤ 3001 ∧ ((¬ (o ≤ 3 ∧ H ≤ 4) ∧ r = -4) ∨ ((o ≤ 3 ∧ H ≤ 4) ∧ An (kC o H sk ro (hd l sk) l) (StL (kC o H sk ro (hd l sk)) l o H sk ro (hd l sk) G) (GoL (kC o H sk ro (hd l sk)) l o H sk ro (hd l sk) G) r)) := by
  have op := opn_of (l := l) hR
  rw [ho, hro] at op
  obtain ⟨K1, e1, g1, g2, g3⟩ := prepare_eq (n := n) (J := J) (h := (sk : Int)) (G := G) hE hL ha hkl hH hR hb hn hm hv ho hro
  have fq1 : FQ J K1 a := fun b hb => g1 b (by omega) (by omega) (by omega) (by omega)
  rw [fewestHours_s, bE_inv hE, bnd e1]
  dsimp only
  by_cases cc : o ≤ 3 ∧ H ≤ 4
  · obtain ⟨q, hq0⟩ : ∃ q : Nat, mA μ a 0 = q := ⟨_, rfl⟩
    obtain ⟨hq, hS⟩ := hE.q0 hq0
    obtain ⟨env1, nC, ch1⟩ := g3 cc
    have v0 : VG l sk (hd l sk) G l := ⟨⟨hkl, fxL.rf⟩, by omega, by omega⟩
    have hx1 : cxS K1 a c l o H ro sk G nC := ⟨env1, g2.1, g2.2, hm.cg (fun k hk => g1 _ (by omega) (by omega) (by omega) (by omega)), ch1⟩
    obtain ⟨K2, e2, f2, s2⟩ := clear_w (n := n) (J := K1) hS hn
    have hx2 : cxS K2 a c l o H ro sk G nC := hx1.cg ha (fun b hb => f2 b (by omega) (by omega)) (fun j _ => by rw [f2 a (by omega) (by omega)])
    have e3 := stateNow_eq (n := n) (h := sk) (J := K2) hE hL hkl hH cc.2 op cc.1 hx2.1 hn
    have rg := rg_of (ro := ro) (o := o) (g := hd l sk - hd l sk) hkl hH (fun k hk' => by have := (op.2.1 k hk').1; omega) (by omega)
    obtain ⟨X, x1, x2⟩ := cd_x rg
    have x1' : kC o H sk ro (hd l sk) l = (X : Int) := x1
    obtain ⟨K3, e4, ad⟩ := add_eq (n := n) (x := kC o H sk ro (hd l sk) l) (v := 0) hS s2 (by rw [x1']; have := x2.1; omega) hn
    obtain ⟨a1, a2, a3, a4⟩ := (ad.2 (fun w => by obtain ⟨i, hi, -⟩ := w; omega)).2 (by omega)
    have hx3 : cxS K3 a c l o H ro sk G nC := hx2.cg ha (fun b hb => a1 b (by omega)) (fun j _ => by rw [a1 a (by omega)])
    have ka3 : ∀ j : Nat, K3 a j = K1 a j := fun j => by rw [a1 a (by omega), f2 a (by omega) (by omega)]
    have li : Lin (kC o H sk ro (hd l sk) l) (StL (kC o H sk ro (hd l sk)) l o H sk ro (hd l sk) G) (GoL (kC o H sk ro (hd l sk)) l o H sk ro (hd l sk) G) 0 (K3 (q + 1)) 0 1 := by
      refine ⟨fun x => ?_, fun i hi => absurd hi (by omega), by omega, by omega⟩
      rw [a3]
      constructor
      · intro w
        rcases (inL.put (z := 0)).mp w with ⟨i, hi, -⟩ | w
        · omega
        · exact w
      · intro w
        exact (inL.put (z := 0)).mpr (Or.inr w)
    -- the field fewest is set before it is read
    have fq3 : FQ K1 K3 a := fun b hb => by rw [a1 b (by omega), f2 b (by omega) (by omega)]
    rw [i_bi_t cc, bE_g0 hE, hq0, bS_inv hS, bnd e2]
    dsimp only
    rw [bE_g0 hE, hq0, bE_inv hE, bnd e3]
    dsimp only
    rw [bS_inv hS, bnd e4]
    dsimp only
    -- one step by hand: the first hour sets fewest
    have run : ∀ g : Int, lp (fhO n a) n (0, 1) (wi μ K3) = lp (fhO n a) n (0, 1) (wi μ (up2 K3 a 13 g)) := fun g => by
      cases n with
      | zero => exact absurd hn (by omega)
      | succ n =>
        generalize hB : lp (fhO (n + 1) a) n = slf
        show fhO (n + 1) a (lp (fhO (n + 1) a) n) (0, 1) (wi μ K3) = fhO (n + 1) a (lp (fhO (n + 1) a) n) (0, 1) (wi μ (up2 K3 a 13 g))
        rw [hB]
        have rq : up2 K3 a 13 g q = K3 q := up2_row (by omega)
        unfold fhO
        dsimp only
        rw [i_lt_f (by omega), i_lt_f (by omega), bE_g0 hE, bE_g0 hE, hq0, bS_gI hS, bS_gI hS, rq, bE_pI hE, bE_pI hE, up2_up]
    rw [run (-1)]
    have hx4 : cxS (up2 K3 a 13 (-1)) a c l o H ro sk G nC := hx3.cg ha (fun b hb => up2_row (by omega)) (fun j hj => up2_n (by omega))
    have sc : SC (up2 K3 a 13 (-1)) a q 1 := by
      unfold SC SSt
      rw [up2_row (by omega), up2_row (by omega), up2_row (by omega), up2_row (by omega), up2_s]
      refine ⟨a2, fun i hi => ?_, by decide, by decide⟩
      have : i = 0 := by omega
      rw [a4, this, upA_s]
      decide
    obtain ⟨K4, r, e5, f5, r3, an⟩ := fhO_l (n := n) (gB := hd l sk) hE hL ha hkl hH cc.2 op cc.1 hG hsk hn hq0 v0 3000 n 0 0 1 (up2 K3 a 13 (-1)) (by omega) (by omega) hx4 sc (by omega) (by rw [up2_row (by omega)]; exact li) (fun j hj => absurd hj (by omega))
    have fq4 : FQ K3 (up2 K3 a 13 (-1)) a := fun b hb => up2_row (by omega)
    exact ⟨K4, r, e5, ((fq1.tr fq3).tr fq4).tr (f5.fq hq), r3, Or.inr ⟨cc, an⟩⟩
  · rw [i_bi_f cc]
    exact ⟨K1, -4, rfl, fq1, by decide, Or.inl ⟨cc, rfl⟩⟩
end FH
