/-! together -/
theorem pcN_le (x : Nat) : pcN x ≤ 12 := by unfold pcN; omega
theorem mk_self {k : Nat} (hk : k < 1024) : isMk (k : Int) (fun j => k.testBit j = true) := ⟨k, rfl, hk, fun _ => Iff.rfl⟩
section TG
variable {μ : Mem} {I J : Nat → Nat → Int} {c m n t : Nat} {s l : Ld} {w : Int} {β : Type}
theorem bitCount_w {ν : Mem} {k : Nat} (hk : k < 4096) {f : Int × Mem → Option β} : (mJ6_bitCount_0f7a4 n (k : Int) ν).bind f = f ((pcN k : Int), ν) := bnd (bitCount_eq.trans (by rw [bc_dec k hk])) f
theorem bitsOf_w {ν : Mem} {x : Nat} (hx : x < 4096) (hn : 20000 ≤ n) {f : Int × Mem → Option β} : (mX11_bitsOf n (x : Int) ν).bind f = f ((pcN x : Int), ν) := by
  refine bnd ?_ f
  unfold mX11_bitsOf
  have hr := lp_run (B := fun nx4 (v4 : Int × Int) (μ4 : Mem) => if lt32 v4.2 16 then nx4 ((v4.1 + (oAnd (oShr (x : Int) v4.2) 1)), (v4.2 + 1)) μ4 else some (v4.1, μ4)) (fun k (z : Nat) => ((z : Int), (k : Int))) (fun _ _ => ν) (fun k z => z + x / 2 ^ k % 2) 16 (fun z => some ((z : Int), ν)) (fun _ _ => True) (fun k z nx hlt _ => ⟨trivial, ?_⟩) (fun z nx _ => ?_) 16 0 0 n (by omega) (by omega) trivial
  · rw [show ((0 : Int), (0 : Int)) = (((0 : Nat) : Int), ((0 : Nat) : Int)) from rfl, hr]
    congr 3
    simp only [itr, Nat.reducePow, Nat.reduceAdd, Nat.zero_add]
    unfold pcN
    omega
  · simp (disch := omega) only [↓i_lt_t, ↓i_lt_f, ↓i_eq_t, ↓i_eq_f, ↓i_bi_t, ↓i_bi_f, ↓i_some]
    rw [bit_iff (by omega) (by omega)]
    rfl
  · simp (disch := omega) only [↓i_lt_t, ↓i_lt_f, ↓i_eq_t, ↓i_eq_f, ↓i_bi_t, ↓i_bi_f, ↓i_some]
def indS (l : Ld) (k : Nat) : Prop := ∀ a b : Nat, adj l (-1) a b → ¬ (k.testBit a = true ∧ k.testBit b = true)
noncomputable def tgS (l : Ld) (k b : Nat) : Nat := @ite Nat (pcN b < pcN k ∧ indS l k) (Classical.propDecidable _) k b
theorem tgS_t {k b : Nat} (h : pcN b < pcN k ∧ indS l k) : tgS l k b = k := if_pos h
theorem tgS_f {k b : Nat} (h : ¬ (pcN b < pcN k ∧ indS l k)) : tgS l k b = b := if_neg h
theorem pw_N (hk : okL l) : oShl 1 (l 0 0) = ((2 ^ (l 0 0).toNat : Nat) : Int) ∧ 2 ^ (l 0 0).toNat ≤ 1024 ∧ 1 ≤ 2 ^ (l 0 0).toNat := by
  have hz := hk.1
  refine ⟨?_, Nat.pow_le_pow_right (show 0 < 2 by decide) (show (l 0 0).toNat ≤ 10 by omega), Nat.one_le_two_pow⟩
  have e := oShl1 (l 0 0).toNat (by omega)
  rw [← e, show (((l 0 0).toNat : Nat) : Int) = l 0 0 by omega]
theorem loose_eq (hT : isTi μ t) (hJ : tsP l (-1) J t) (hk : okL l) (hn : 20000 ≤ n) : mX9_greatestLoose n t (wi μ J) = some (((itr (tgS l) 1 (2 ^ (l 0 0).toNat - 1) 0 : Nat) : Int), wi μ J) := by
  obtain ⟨pw, p1, p2⟩ := pw_N hk
  unfold mX9_greatestLoose
  refine lp_ind (fun d (v : Int × Int) ν => ∃ b k : Nat, ν = wi μ J ∧ v = ((b : Int), (k : Int)) ∧ b < 1024 ∧ k + d = 2 ^ (l 0 0).toNat ∧ itr (tgS l) k d b = itr (tgS l) 1 (2 ^ (l 0 0).toNat - 1) 0) (fun X => X = some (((itr (tgS l) 1 (2 ^ (l 0 0).toNat - 1) 0 : Nat) : Int), wi μ J)) (fun d v ν nx hP hnx => ?_) n (2 ^ (l 0 0).toNat) _ _ (by omega) ⟨0, 0, rfl, rfl, by omega, by omega, ?_⟩
  · obtain ⟨b, k, rfl, rfl, hb, h1, h2⟩ := hP
    cases d with
    | zero =>
      simp (disch := omega) only [↓i_lt_t, ↓i_lt_f, ↓i_eq_t, ↓i_eq_f, ↓i_bi_t, ↓i_bi_f, ↓i_some, ↓bt_gI hT, hJ.1, pw]
      have h2' : b = itr (tgS l) 1 (2 ^ (l 0 0).toNat - 1) 0 := h2
      rw [h2']
    | succ d =>
      have q1 := pcN_le b
      have q2 := pcN_le k
      have h2' : itr (tgS l) (k + 1) d (tgS l k b) = itr (tgS l) 1 (2 ^ (l 0 0).toNat - 1) 0 := h2
      obtain ⟨u, hu, eu⟩ := nearAny_eq (n := n) hT hJ hk (mk_self (k := k) (by omega)) hn
      have hand := mk_and hu (mk_self (k := k) (by omega))
      have hal := hand.lt
      by_cases c1 : pcN b < pcN k
      · by_cases c2 : oAnd u (k : Int) = 0
        · have hi : indS l k := fun x y e z => (mk_z hand).mp c2 y ⟨⟨x, z.1, e⟩, z.2⟩
          rw [tgS_t ⟨c1, hi⟩] at h2'
          simp (disch := omega) only [↓i_lt_t, ↓i_lt_f, ↓i_eq_t, ↓i_eq_f, ↓i_bi_t, ↓i_bi_f, ↓i_some, ↓bt_gI hT, hJ.1, pw, ↓bitCount_w, ↓bt_inv hT, ↓bnd eu]
          exact hnx d _ _ (by omega) ⟨k, k + 1, rfl, rfl, by omega, by omega, h2'⟩
        · have hi : ¬ (pcN b < pcN k ∧ indS l k) := fun z => c2 ((mk_z hand).mpr (fun y ⟨⟨x, g1, g2⟩, g3⟩ => z.2 x y g2 ⟨g1, g3⟩))
          rw [tgS_f hi] at h2'
          simp (disch := omega) only [↓i_lt_t, ↓i_lt_f, ↓i_eq_t, ↓i_eq_f, ↓i_bi_t, ↓i_bi_f, ↓i_some, ↓bt_gI hT, hJ.1, pw, ↓bitCount_w, ↓bt_inv hT, ↓bnd eu]
          exact hnx d _ _ (by omega) ⟨b, k + 1, rfl, rfl, by omega, by omega, h2'⟩
      · rw [tgS_f (fun z => c1 z.1)] at h2'
        simp (disch := omega) only [↓i_lt_t, ↓i_lt_f, ↓i_eq_t, ↓i_eq_f, ↓i_bi_t, ↓i_bi_f, ↓i_some, ↓bt_gI hT, hJ.1, pw, ↓bitCount_w]
        exact hnx d _ _ (by omega) ⟨b, k + 1, rfl, rfl, by omega, by omega, h2'⟩
  · obtain ⟨d, hd⟩ : ∃ d : Nat, 2 ^ (l 0 0).toNat = d + 1 := ⟨2 ^ (l 0 0).toNat - 1, by omega⟩
    rw [hd, Nat.add_sub_cancel]
    show itr (tgS l) (0 + 1) d (tgS l 0 0) = _
    rw [tgS_f (fun z => by have := z.1; omega)]
theorem together_m (h : isM μ m) (hl : LR l (s 1)) (hk : okL l) (hn : 20000 ≤ n) : mX11_together n m (wi μ (wm I m s)) = some (((itr (tgS l) 1 (2 ^ (l 0 0).toNat - 1) 0 : Nat) : Int), wi μ (wm I m (up2 s 0 0 0))) := by
  have hz := hk.1
  obtain ⟨pw, p1, p2⟩ := pw_N hk
  have r1 : up2 s 0 0 0 1 = s 1 := up2_row (by decide)
  have lr : LR l (up2 s 0 0 0 1) := by rw [r1]; exact hl
  have a0 : up2 s 0 0 0 1 0 = l 0 0 := lr.1.1
  have a1 : up2 s 0 0 0 1 1 = l 0 1 := lr.1.2.1
  unfold mX11_together
  simp (disch := omega) only [↓i_lt_t, ↓i_lt_f, ↓i_eq_t, ↓i_eq_f, ↓i_bi_t, ↓i_bi_f, ↓i_some, ↓bM_gI h, ↓bM_pI h, ↓bM_inv h, ↓bM_g1 h, ↓bM_g2 h, ↓bM_g3 h, ↓bM_g4 h, ↓bM_g15 h, ↓bM_g16 h, ↓bM_g22 h, ↓bM_g23 h, ↓bM_g24 h, ↓bM_g25 h, ↓bM_g28 h, ↓bM_g29 h, ↓bM_g30 h, ↓bM_g32 h, ↓bM_g33 h, ↓bM_g34 h, ↓bM_g36 h, ↓bM_g37 h, ↓bM_g41 h, ↓bM_g42 h, ↓bM_g43 h, ↓bM_ld1 h, ↓bM_ld2 h, ↓bM_ld3 h, ↓bM_ld4 h, ↓bM_ld5 h, ↓bM_ld6 h, ↓bM_ld7 h, ↓bM_ld8 h, ↓bM_ld9 h, ↓bM_ld10 h, ↓bM_ld11 h, ↓bM_ld12 h, ↓bM_ld13 h, ↓bM_ld14 h, ↓bM_ld15 h, ↓bM_ld16 h, ↓bM_ld17 h, ↓bM_ld18 h, ↓bM_ld19 h, ↓bM_ld20 h, ↓bM_ld21 h, ↓bM_st1 h, ↓bM_st2 h, ↓bM_st3 h, ↓bM_st4 h, ↓bM_st5 h, ↓bM_st6 h, ↓bM_st7 h, ↓bM_st8 h, ↓bM_st9 h, ↓bM_st10 h, ↓bM_st11 h, ↓bM_st12 h, ↓bM_st13 h, ↓bM_st14 h, ↓bM_st15 h, ↓bM_st16 h, ↓bM_st17 h, ↓bM_st18 h, ↓bM_st19 h, ↓bM_st20 h, ↓bM_st21 h]
  generalize up2 s 0 0 0 = s0 at lr a0 a1
  refine lp_ind (fun d (v : Int × Int) ν => ∃ b k : Nat, ν = wi μ (wm I m s0) ∧ v = ((b : Int), (k : Int)) ∧ b < 1024 ∧ k + d = 2 ^ (l 0 0).toNat ∧ itr (tgS l) k d b = itr (tgS l) 1 (2 ^ (l 0 0).toNat - 1) 0) (fun X => X = some (((itr (tgS l) 1 (2 ^ (l 0 0).toNat - 1) 0 : Nat) : Int), wi μ (wm I m s0))) (fun d v ν nx hP hnx => ?_) n (2 ^ (l 0 0).toNat - 1) _ _ (by omega) ⟨0, 1, rfl, rfl, by omega, by omega, rfl⟩
  obtain ⟨b, k, rfl, rfl, hb, h1, h2⟩ := hP
  cases d with
  | zero =>
    simp (disch := omega) only [↓i_lt_t, ↓i_lt_f, ↓i_eq_t, ↓i_eq_f, ↓i_bi_t, ↓i_bi_f, ↓i_some, ↓bM_gI h, ↓bM_pI h, ↓bM_inv h, ↓bM_g1 h, ↓bM_g2 h, ↓bM_g3 h, ↓bM_g4 h, ↓bM_g15 h, ↓bM_g16 h, ↓bM_g22 h, ↓bM_g23 h, ↓bM_g24 h, ↓bM_g25 h, ↓bM_g28 h, ↓bM_g29 h, ↓bM_g30 h, ↓bM_g32 h, ↓bM_g33 h, ↓bM_g34 h, ↓bM_g36 h, ↓bM_g37 h, ↓bM_g41 h, ↓bM_g42 h, ↓bM_g43 h, ↓bM_ld1 h, ↓bM_ld2 h, ↓bM_ld3 h, ↓bM_ld4 h, ↓bM_ld5 h, ↓bM_ld6 h, ↓bM_ld7 h, ↓bM_ld8 h, ↓bM_ld9 h, ↓bM_ld10 h, ↓bM_ld11 h, ↓bM_ld12 h, ↓bM_ld13 h, ↓bM_ld14 h, ↓bM_ld15 h, ↓bM_ld16 h, ↓bM_ld17 h, ↓bM_ld18 h, ↓bM_ld19 h, ↓bM_ld20 h, ↓bM_ld21 h, ↓bM_st1 h, ↓bM_st2 h, ↓bM_st3 h, ↓bM_st4 h, ↓bM_st5 h, ↓bM_st6 h, ↓bM_st7 h, ↓bM_st8 h, ↓bM_st9 h, ↓bM_st10 h, ↓bM_st11 h, ↓bM_st12 h, ↓bM_st13 h, ↓bM_st14 h, ↓bM_st15 h, ↓bM_st16 h, ↓bM_st17 h, ↓bM_st18 h, ↓bM_st19 h, ↓bM_st20 h, ↓bM_st21 h, Int.toNat_add, Int.toNat_mul, Int.toNat_natCast, Int.reduceToNat, Nat.reduceAdd, Nat.reduceMul, a0, pw]
    have h2' : b = itr (tgS l) 1 (2 ^ (l 0 0).toNat - 1) 0 := h2
    rw [h2']
  | succ d =>
    have q1 := pcN_le b
    have q2 := pcN_le k
    have h2' : itr (tgS l) (k + 1) d (tgS l k b) = itr (tgS l) 1 (2 ^ (l 0 0).toNat - 1) 0 := h2
    have mk := mk_self (k := k) (by omega)
    -- the ropes of a set, one by one
    have inner : ∀ F : Prop, F = (pcN b < pcN k) → lp (fun nx41 (v41 : Int × Int) (μ41 : Mem) =>
        (gA μ41 12 m 1).bind fun x44 =>
        (ldI μ41 0 x44 1).bind fun x48 =>
        jn (fun (v113 : Int) (μ113 : Mem) =>
        if eq32 v113 0 then
          nx ((b : Int), ((k : Int) + 1)) μ113
        else
        nx ((k : Int), ((k : Int) + 1)) μ113) (fun j113 =>
        if lt32 v41.2 x48 then
          if eq32 v41.1 0 then
            j113 v41.1 μ41
          else
          (inv μ41 12 m (mX11_hangs n m v41.2 μ41)).bind fun p59 =>
          if eq32 p59.1 0 then
            nx41 (1, (v41.2 + 1)) p59.2
          else
          (gA p59.2 12 m 1).bind fun x68 =>
          (ldI p59.2 0 x68 (76 + v41.2)).bind fun x76 =>
          (inv p59.2 12 m (mX11_isIn n m (k : Int) x76 p59.2)).bind fun p77 =>
          if eq32 p77.1 0 then
            nx41 (1, (v41.2 + 1)) p77.2
          else
          (gA p77.2 12 m 1).bind fun x86 =>
          (ldI p77.2 0 x86 (92 + v41.2)).bind fun x94 =>
          (inv p77.2 12 m (mX11_isIn n m (k : Int) x94 p77.2)).bind fun p95 =>
          if eq32 p95.1 0 then
            nx41 (1, (v41.2 + 1)) p95.2
          else
          nx41 (0, (v41.2 + 1)) p95.2
        else
        j113 v41.1 μ41)) n (bc F, 0) (wi μ (wm I m s0)) = some (((itr (tgS l) 1 (2 ^ (l 0 0).toNat - 1) 0 : Nat) : Int), wi μ (wm I m s0)) := by
      intro F hF
      refine lp_ind (fun e (v : Int × Int) ν => ∃ r : Nat, ν = wi μ (wm I m s0) ∧ v = (bc (F ∧ ∀ a b : Nat, adjK l (-1) r a b → ¬ (k.testBit a = true ∧ k.testBit b = true)), (r : Int)) ∧ (r : Int) + e = l 0 1) (fun X => X = some (((itr (tgS l) 1 (2 ^ (l 0 0).toNat - 1) 0 : Nat) : Int), wi μ (wm I m s0))) (fun e v ν nx2 hP hnx2 => ?_) n (l 0 1).toNat _ _ (by omega) ⟨0, rfl, ?_, by omega⟩
      · obtain ⟨r, rfl, rfl, h3⟩ := hP
        by_cases cF : F ∧ ∀ a b : Nat, adjK l (-1) r a b → ¬ (k.testBit a = true ∧ k.testBit b = true)
        · cases e with
          | zero =>
            have ht : tgS l k b = k := tgS_t ⟨hF ▸ cF.1, fun x y ⟨r', g1, g2⟩ => cF.2 x y ⟨r', by omega, g2⟩⟩
            rw [ht] at h2'
            simp (disch := omega) only [jn, ↓i_lt_t, ↓i_lt_f, ↓i_eq_t, ↓i_eq_f, ↓i_bi_t, ↓i_bi_f, ↓i_some, ↓bM_gI h, ↓bM_pI h, ↓bM_inv h, ↓bM_g1 h, ↓bM_g2 h, ↓bM_g3 h, ↓bM_g4 h, ↓bM_g15 h, ↓bM_g16 h, ↓bM_g22 h, ↓bM_g23 h, ↓bM_g24 h, ↓bM_g25 h, ↓bM_g28 h, ↓bM_g29 h, ↓bM_g30 h, ↓bM_g32 h, ↓bM_g33 h, ↓bM_g34 h, ↓bM_g36 h, ↓bM_g37 h, ↓bM_g41 h, ↓bM_g42 h, ↓bM_g43 h, ↓bM_ld1 h, ↓bM_ld2 h, ↓bM_ld3 h, ↓bM_ld4 h, ↓bM_ld5 h, ↓bM_ld6 h, ↓bM_ld7 h, ↓bM_ld8 h, ↓bM_ld9 h, ↓bM_ld10 h, ↓bM_ld11 h, ↓bM_ld12 h, ↓bM_ld13 h, ↓bM_ld14 h, ↓bM_ld15 h, ↓bM_ld16 h, ↓bM_ld17 h, ↓bM_ld18 h, ↓bM_ld19 h, ↓bM_ld20 h, ↓bM_ld21 h, ↓bM_st1 h, ↓bM_st2 h, ↓bM_st3 h, ↓bM_st4 h, ↓bM_st5 h, ↓bM_st6 h, ↓bM_st7 h, ↓bM_st8 h, ↓bM_st9 h, ↓bM_st10 h, ↓bM_st11 h, ↓bM_st12 h, ↓bM_st13 h, ↓bM_st14 h, ↓bM_st15 h, ↓bM_st16 h, ↓bM_st17 h, ↓bM_st18 h, ↓bM_st19 h, ↓bM_st20 h, ↓bM_st21 h, Int.toNat_add, Int.toNat_mul, Int.toNat_natCast, Int.reduceToNat, Nat.reduceAdd, Nat.reduceMul, a1, ↓i_bc_t cF]
            exact hnx d _ _ (by omega) ⟨k, k + 1, rfl, rfl, by omega, by omega, h2'⟩
          | succ e =>
            have hr : (r : Int) < l 0 1 := by omega
            obtain ⟨k1, k2, -⟩ := lr.2.2 r hr
            have g1 := hk.2.2.2 (2 * r) (by omega)
            have g2 := hk.2.2.2 (2 * r + 1) (by omega)
            obtain ⟨x, hx⟩ : ∃ x : Nat, l 10 (2 * r) = (x : Int) := ⟨(l 10 (2 * r)).toNat, by omega⟩
            obtain ⟨y, hy⟩ : ∃ y : Nat, l 10 (2 * r + 1) = (y : Int) := ⟨(l 10 (2 * r + 1)).toNat, by omega⟩
            rw [hx] at k1 g1
            rw [hy] at k2 g2
            have nxt : ∀ z : Int, (z = 1 ∧ ¬ (l 9 r = 0 ∧ k.testBit x = true ∧ k.testBit y = true)) ∨ (z = 0 ∧ (l 9 r = 0 ∧ k.testBit x = true ∧ k.testBit y = true)) → z = bc (F ∧ ∀ a b : Nat, adjK l (-1) (r + 1) a b → ¬ (k.testBit a = true ∧ k.testBit b = true)) := fun z hz' => by
              rcases hz' with ⟨rfl, g⟩ | ⟨rfl, g⟩
              · refine (bc_t ⟨cF.1, fun a' b' hab => ?_⟩).symm
                rw [adjK_s, hx, hy] at hab
                rcases hab with z | ⟨z0, -, ⟨z1, z2⟩ | ⟨z1, z2⟩⟩
                · exact cF.2 a' b' z
                · obtain rfl : x = a' := by omega
                  obtain rfl : y = b' := by omega
                  exact fun q => g ⟨z0, q⟩
                · obtain rfl : x = b' := by omega
                  obtain rfl : y = a' := by omega
                  exact fun q => g ⟨z0, q.2, q.1⟩
              · refine (bc_f (fun q => ?_)).symm
                refine q.2 x y ?_ g.2
                rw [adjK_s]
                exact Or.inr ⟨g.1, by omega, Or.inl ⟨hx, hy⟩⟩
            by_cases c9 : l 9 r = 0
            · by_cases cx : k.testBit x = true
              · by_cases cy : k.testBit y = true
                · simp (disch := omega) only [jn, ↓i_lt_t, ↓i_lt_f, ↓i_eq_t, ↓i_eq_f, ↓i_bi_t, ↓i_bi_f, ↓i_some, ↓bM_gI h, ↓bM_pI h, ↓bM_inv h, ↓bM_g1 h, ↓bM_g2 h, ↓bM_g3 h, ↓bM_g4 h, ↓bM_g15 h, ↓bM_g16 h, ↓bM_g22 h, ↓bM_g23 h, ↓bM_g24 h, ↓bM_g25 h, ↓bM_g28 h, ↓bM_g29 h, ↓bM_g30 h, ↓bM_g32 h, ↓bM_g33 h, ↓bM_g34 h, ↓bM_g36 h, ↓bM_g37 h, ↓bM_g41 h, ↓bM_g42 h, ↓bM_g43 h, ↓bM_ld1 h, ↓bM_ld2 h, ↓bM_ld3 h, ↓bM_ld4 h, ↓bM_ld5 h, ↓bM_ld6 h, ↓bM_ld7 h, ↓bM_ld8 h, ↓bM_ld9 h, ↓bM_ld10 h, ↓bM_ld11 h, ↓bM_ld12 h, ↓bM_ld13 h, ↓bM_ld14 h, ↓bM_ld15 h, ↓bM_ld16 h, ↓bM_ld17 h, ↓bM_ld18 h, ↓bM_ld19 h, ↓bM_ld20 h, ↓bM_ld21 h, ↓bM_st1 h, ↓bM_st2 h, ↓bM_st3 h, ↓bM_st4 h, ↓bM_st5 h, ↓bM_st6 h, ↓bM_st7 h, ↓bM_st8 h, ↓bM_st9 h, ↓bM_st10 h, ↓bM_st11 h, ↓bM_st12 h, ↓bM_st13 h, ↓bM_st14 h, ↓bM_st15 h, ↓bM_st16 h, ↓bM_st17 h, ↓bM_st18 h, ↓bM_st19 h, ↓bM_st20 h, ↓bM_st21 h, Int.toNat_add, Int.toNat_mul, Int.toNat_natCast, Int.reduceToNat, Nat.reduceAdd, Nat.reduceMul, a1, ↓i_bc_t cF, ↓mhangs_w h lr hk, k1, k2, ↓isIn_w mk, ↓i_bc_t cx, ↓i_bc_t cy]
                  exact hnx2 e _ _ (by omega) ⟨r + 1, rfl, by rw [← nxt 0 (Or.inr ⟨rfl, c9, cx, cy⟩)]; rfl, by omega⟩
                · simp (disch := omega) only [jn, ↓i_lt_t, ↓i_lt_f, ↓i_eq_t, ↓i_eq_f, ↓i_bi_t, ↓i_bi_f, ↓i_some, ↓bM_gI h, ↓bM_pI h, ↓bM_inv h, ↓bM_g1 h, ↓bM_g2 h, ↓bM_g3 h, ↓bM_g4 h, ↓bM_g15 h, ↓bM_g16 h, ↓bM_g22 h, ↓bM_g23 h, ↓bM_g24 h, ↓bM_g25 h, ↓bM_g28 h, ↓bM_g29 h, ↓bM_g30 h, ↓bM_g32 h, ↓bM_g33 h, ↓bM_g34 h, ↓bM_g36 h, ↓bM_g37 h, ↓bM_g41 h, ↓bM_g42 h, ↓bM_g43 h, ↓bM_ld1 h, ↓bM_ld2 h, ↓bM_ld3 h, ↓bM_ld4 h, ↓bM_ld5 h, ↓bM_ld6 h, ↓bM_ld7 h, ↓bM_ld8 h, ↓bM_ld9 h, ↓bM_ld10 h, ↓bM_ld11 h, ↓bM_ld12 h, ↓bM_ld13 h, ↓bM_ld14 h, ↓bM_ld15 h, ↓bM_ld16 h, ↓bM_ld17 h, ↓bM_ld18 h, ↓bM_ld19 h, ↓bM_ld20 h, ↓bM_ld21 h, ↓bM_st1 h, ↓bM_st2 h, ↓bM_st3 h, ↓bM_st4 h, ↓bM_st5 h, ↓bM_st6 h, ↓bM_st7 h, ↓bM_st8 h, ↓bM_st9 h, ↓bM_st10 h, ↓bM_st11 h, ↓bM_st12 h, ↓bM_st13 h, ↓bM_st14 h, ↓bM_st15 h, ↓bM_st16 h, ↓bM_st17 h, ↓bM_st18 h, ↓bM_st19 h, ↓bM_st20 h, ↓bM_st21 h, Int.toNat_add, Int.toNat_mul, Int.toNat_natCast, Int.reduceToNat, Nat.reduceAdd, Nat.reduceMul, a1, ↓i_bc_t cF, ↓mhangs_w h lr hk, k1, k2, ↓isIn_w mk, ↓i_bc_t cx, ↓i_bc_f cy]
                  exact hnx2 e _ _ (by omega) ⟨r + 1, rfl, by rw [← nxt 1 (Or.inl ⟨rfl, fun z => cy z.2.2⟩)]; rfl, by omega⟩
              · simp (disch := omega) only [jn, ↓i_lt_t, ↓i_lt_f, ↓i_eq_t, ↓i_eq_f, ↓i_bi_t, ↓i_bi_f, ↓i_some, ↓bM_gI h, ↓bM_pI h, ↓bM_inv h, ↓bM_g1 h, ↓bM_g2 h, ↓bM_g3 h, ↓bM_g4 h, ↓bM_g15 h, ↓bM_g16 h, ↓bM_g22 h, ↓bM_g23 h, ↓bM_g24 h, ↓bM_g25 h, ↓bM_g28 h, ↓bM_g29 h, ↓bM_g30 h, ↓bM_g32 h, ↓bM_g33 h, ↓bM_g34 h, ↓bM_g36 h, ↓bM_g37 h, ↓bM_g41 h, ↓bM_g42 h, ↓bM_g43 h, ↓bM_ld1 h, ↓bM_ld2 h, ↓bM_ld3 h, ↓bM_ld4 h, ↓bM_ld5 h, ↓bM_ld6 h, ↓bM_ld7 h, ↓bM_ld8 h, ↓bM_ld9 h, ↓bM_ld10 h, ↓bM_ld11 h, ↓bM_ld12 h, ↓bM_ld13 h, ↓bM_ld14 h, ↓bM_ld15 h, ↓bM_ld16 h, ↓bM_ld17 h, ↓bM_ld18 h, ↓bM_ld19 h, ↓bM_ld20 h, ↓bM_ld21 h, ↓bM_st1 h, ↓bM_st2 h, ↓bM_st3 h, ↓bM_st4 h, ↓bM_st5 h, ↓bM_st6 h, ↓bM_st7 h, ↓bM_st8 h, ↓bM_st9 h, ↓bM_st10 h, ↓bM_st11 h, ↓bM_st12 h, ↓bM_st13 h, ↓bM_st14 h, ↓bM_st15 h, ↓bM_st16 h, ↓bM_st17 h, ↓bM_st18 h, ↓bM_st19 h, ↓bM_st20 h, ↓bM_st21 h, Int.toNat_add, Int.toNat_mul, Int.toNat_natCast, Int.reduceToNat, Nat.reduceAdd, Nat.reduceMul, a1, ↓i_bc_t cF, ↓mhangs_w h lr hk, k1, ↓isIn_w mk, ↓i_bc_f cx]
                exact hnx2 e _ _ (by omega) ⟨r + 1, rfl, by rw [← nxt 1 (Or.inl ⟨rfl, fun z => cx z.2.1⟩)]; rfl, by omega⟩
            · simp (disch := omega) only [jn, ↓i_lt_t, ↓i_lt_f, ↓i_eq_t, ↓i_eq_f, ↓i_bi_t, ↓i_bi_f, ↓i_some, ↓bM_gI h, ↓bM_pI h, ↓bM_inv h, ↓bM_g1 h, ↓bM_g2 h, ↓bM_g3 h, ↓bM_g4 h, ↓bM_g15 h, ↓bM_g16 h, ↓bM_g22 h, ↓bM_g23 h, ↓bM_g24 h, ↓bM_g25 h, ↓bM_g28 h, ↓bM_g29 h, ↓bM_g30 h, ↓bM_g32 h, ↓bM_g33 h, ↓bM_g34 h, ↓bM_g36 h, ↓bM_g37 h, ↓bM_g41 h, ↓bM_g42 h, ↓bM_g43 h, ↓bM_ld1 h, ↓bM_ld2 h, ↓bM_ld3 h, ↓bM_ld4 h, ↓bM_ld5 h, ↓bM_ld6 h, ↓bM_ld7 h, ↓bM_ld8 h, ↓bM_ld9 h, ↓bM_ld10 h, ↓bM_ld11 h, ↓bM_ld12 h, ↓bM_ld13 h, ↓bM_ld14 h, ↓bM_ld15 h, ↓bM_ld16 h, ↓bM_ld17 h, ↓bM_ld18 h, ↓bM_ld19 h, ↓bM_ld20 h, ↓bM_ld21 h, ↓bM_st1 h, ↓bM_st2 h, ↓bM_st3 h, ↓bM_st4 h, ↓bM_st5 h, ↓bM_st6 h, ↓bM_st7 h, ↓bM_st8 h, ↓bM_st9 h, ↓bM_st10 h, ↓bM_st11 h, ↓bM_st12 h, ↓bM_st13 h, ↓bM_st14 h, ↓bM_st15 h, ↓bM_st16 h, ↓bM_st17 h, ↓bM_st18 h, ↓bM_st19 h, ↓bM_st20 h, ↓bM_st21 h, Int.toNat_add, Int.toNat_mul, Int.toNat_natCast, Int.reduceToNat, Nat.reduceAdd, Nat.reduceMul, a1, ↓i_bc_t cF, ↓mhangs_w h lr hk]
              exact hnx2 e _ _ (by omega) ⟨r + 1, rfl, by rw [← nxt 1 (Or.inl ⟨rfl, fun z => c9 z.1⟩)]; rfl, by omega⟩
        · have ht : tgS l k b = b := tgS_f (fun z => cF ⟨hF ▸ z.1, fun x y ⟨r', g1, g2⟩ => z.2 x y ⟨r', by omega, g2⟩⟩)
          rw [ht] at h2'
          by_cases cr : (r : Int) < l 0 1
          · simp (disch := omega) only [jn, ↓i_lt_t, ↓i_lt_f, ↓i_eq_t, ↓i_eq_f, ↓i_bi_t, ↓i_bi_f, ↓i_some, ↓bM_gI h, ↓bM_pI h, ↓bM_inv h, ↓bM_g1 h, ↓bM_g2 h, ↓bM_g3 h, ↓bM_g4 h, ↓bM_g15 h, ↓bM_g16 h, ↓bM_g22 h, ↓bM_g23 h, ↓bM_g24 h, ↓bM_g25 h, ↓bM_g28 h, ↓bM_g29 h, ↓bM_g30 h, ↓bM_g32 h, ↓bM_g33 h, ↓bM_g34 h, ↓bM_g36 h, ↓bM_g37 h, ↓bM_g41 h, ↓bM_g42 h, ↓bM_g43 h, ↓bM_ld1 h, ↓bM_ld2 h, ↓bM_ld3 h, ↓bM_ld4 h, ↓bM_ld5 h, ↓bM_ld6 h, ↓bM_ld7 h, ↓bM_ld8 h, ↓bM_ld9 h, ↓bM_ld10 h, ↓bM_ld11 h, ↓bM_ld12 h, ↓bM_ld13 h, ↓bM_ld14 h, ↓bM_ld15 h, ↓bM_ld16 h, ↓bM_ld17 h, ↓bM_ld18 h, ↓bM_ld19 h, ↓bM_ld20 h, ↓bM_ld21 h, ↓bM_st1 h, ↓bM_st2 h, ↓bM_st3 h, ↓bM_st4 h, ↓bM_st5 h, ↓bM_st6 h, ↓bM_st7 h, ↓bM_st8 h, ↓bM_st9 h, ↓bM_st10 h, ↓bM_st11 h, ↓bM_st12 h, ↓bM_st13 h, ↓bM_st14 h, ↓bM_st15 h, ↓bM_st16 h, ↓bM_st17 h, ↓bM_st18 h, ↓bM_st19 h, ↓bM_st20 h, ↓bM_st21 h, Int.toNat_add, Int.toNat_mul, Int.toNat_natCast, Int.reduceToNat, Nat.reduceAdd, Nat.reduceMul, a1, ↓i_bc_f cF]
            exact hnx d _ _ (by omega) ⟨b, k + 1, rfl, rfl, by omega, by omega, h2'⟩
          · simp (disch := omega) only [jn, ↓i_lt_t, ↓i_lt_f, ↓i_eq_t, ↓i_eq_f, ↓i_bi_t, ↓i_bi_f, ↓i_some, ↓bM_gI h, ↓bM_pI h, ↓bM_inv h, ↓bM_g1 h, ↓bM_g2 h, ↓bM_g3 h, ↓bM_g4 h, ↓bM_g15 h, ↓bM_g16 h, ↓bM_g22 h, ↓bM_g23 h, ↓bM_g24 h, ↓bM_g25 h, ↓bM_g28 h, ↓bM_g29 h, ↓bM_g30 h, ↓bM_g32 h, ↓bM_g33 h, ↓bM_g34 h, ↓bM_g36 h, ↓bM_g37 h, ↓bM_g41 h, ↓bM_g42 h, ↓bM_g43 h, ↓bM_ld1 h, ↓bM_ld2 h, ↓bM_ld3 h, ↓bM_ld4 h, ↓bM_ld5 h, ↓bM_ld6 h, ↓bM_ld7 h, ↓bM_ld8 h, ↓bM_ld9 h, ↓bM_ld10 h, ↓bM_ld11 h, ↓bM_ld12 h, ↓bM_ld13 h, ↓bM_ld14 h, ↓bM_ld15 h, ↓bM_ld16 h, ↓bM_ld17 h, ↓bM_ld18 h, ↓bM_ld19 h, ↓bM_ld20 h, ↓bM_ld21 h, ↓bM_st1 h, ↓bM_st2 h, ↓bM_st3 h, ↓bM_st4 h, ↓bM_st5 h, ↓bM_st6 h, ↓bM_st7 h, ↓bM_st8 h, ↓bM_st9 h, ↓bM_st10 h, ↓bM_st11 h, ↓bM_st12 h, ↓bM_st13 h, ↓bM_st14 h, ↓bM_st15 h, ↓bM_st16 h, ↓bM_st17 h, ↓bM_st18 h, ↓bM_st19 h, ↓bM_st20 h, ↓bM_st21 h, Int.toNat_add, Int.toNat_mul, Int.toNat_natCast, Int.reduceToNat, Nat.reduceAdd, Nat.reduceMul, a1, ↓i_bc_f cF]
            exact hnx d _ _ (by omega) ⟨b, k + 1, rfl, rfl, by omega, by omega, h2'⟩
      · by_cases cF : F
        · rw [bc_t cF, bc_t ⟨cF, fun a b ⟨r, hr, _⟩ => by omega⟩]; rfl
        · rw [bc_f cF, bc_f (fun z => cF z.1)]; rfl
    by_cases c1 : pcN b < pcN k
    · have i1 := inner _ rfl
      rw [bc_t c1] at i1
      simp (disch := omega) only [↓i_lt_t, ↓i_lt_f, ↓i_eq_t, ↓i_eq_f, ↓i_bi_t, ↓i_bi_f, ↓i_some, ↓bM_gI h, ↓bM_pI h, ↓bM_inv h, ↓bM_g1 h, ↓bM_g2 h, ↓bM_g3 h, ↓bM_g4 h, ↓bM_g15 h, ↓bM_g16 h, ↓bM_g22 h, ↓bM_g23 h, ↓bM_g24 h, ↓bM_g25 h, ↓bM_g28 h, ↓bM_g29 h, ↓bM_g30 h, ↓bM_g32 h, ↓bM_g33 h, ↓bM_g34 h, ↓bM_g36 h, ↓bM_g37 h, ↓bM_g41 h, ↓bM_g42 h, ↓bM_g43 h, ↓bM_ld1 h, ↓bM_ld2 h, ↓bM_ld3 h, ↓bM_ld4 h, ↓bM_ld5 h, ↓bM_ld6 h, ↓bM_ld7 h, ↓bM_ld8 h, ↓bM_ld9 h, ↓bM_ld10 h, ↓bM_ld11 h, ↓bM_ld12 h, ↓bM_ld13 h, ↓bM_ld14 h, ↓bM_ld15 h, ↓bM_ld16 h, ↓bM_ld17 h, ↓bM_ld18 h, ↓bM_ld19 h, ↓bM_ld20 h, ↓bM_ld21 h, ↓bM_st1 h, ↓bM_st2 h, ↓bM_st3 h, ↓bM_st4 h, ↓bM_st5 h, ↓bM_st6 h, ↓bM_st7 h, ↓bM_st8 h, ↓bM_st9 h, ↓bM_st10 h, ↓bM_st11 h, ↓bM_st12 h, ↓bM_st13 h, ↓bM_st14 h, ↓bM_st15 h, ↓bM_st16 h, ↓bM_st17 h, ↓bM_st18 h, ↓bM_st19 h, ↓bM_st20 h, ↓bM_st21 h, Int.toNat_add, Int.toNat_mul, Int.toNat_natCast, Int.reduceToNat, Nat.reduceAdd, Nat.reduceMul, a0, pw, ↓bitsOf_w]
      exact i1
    · have i1 := inner _ rfl
      rw [bc_f c1] at i1
      simp (disch := omega) only [↓i_lt_t, ↓i_lt_f, ↓i_eq_t, ↓i_eq_f, ↓i_bi_t, ↓i_bi_f, ↓i_some, ↓bM_gI h, ↓bM_pI h, ↓bM_inv h, ↓bM_g1 h, ↓bM_g2 h, ↓bM_g3 h, ↓bM_g4 h, ↓bM_g15 h, ↓bM_g16 h, ↓bM_g22 h, ↓bM_g23 h, ↓bM_g24 h, ↓bM_g25 h, ↓bM_g28 h, ↓bM_g29 h, ↓bM_g30 h, ↓bM_g32 h, ↓bM_g33 h, ↓bM_g34 h, ↓bM_g36 h, ↓bM_g37 h, ↓bM_g41 h, ↓bM_g42 h, ↓bM_g43 h, ↓bM_ld1 h, ↓bM_ld2 h, ↓bM_ld3 h, ↓bM_ld4 h, ↓bM_ld5 h, ↓bM_ld6 h, ↓bM_ld7 h, ↓bM_ld8 h, ↓bM_ld9 h, ↓bM_ld10 h, ↓bM_ld11 h, ↓bM_ld12 h, ↓bM_ld13 h, ↓bM_ld14 h, ↓bM_ld15 h, ↓bM_ld16 h, ↓bM_ld17 h, ↓bM_ld18 h, ↓bM_ld19 h, ↓bM_ld20 h, ↓bM_ld21 h, ↓bM_st1 h, ↓bM_st2 h, ↓bM_st3 h, ↓bM_st4 h, ↓bM_st5 h, ↓bM_st6 h, ↓bM_st7 h, ↓bM_st8 h, ↓bM_st9 h, ↓bM_st10 h, ↓bM_st11 h, ↓bM_st12 h, ↓bM_st13 h, ↓bM_st14 h, ↓bM_st15 h, ↓bM_st16 h, ↓bM_st17 h, ↓bM_st18 h, ↓bM_st19 h, ↓bM_st20 h, ↓bM_st21 h, Int.toNat_add, Int.toNat_mul, Int.toNat_natCast, Int.reduceToNat, Nat.reduceAdd, Nat.reduceMul, a0, pw, ↓bitsOf_w]
      exact i1
theorem both_together (hC : isC μ c) (hM : isM μ (c + 193)) (hR : RelC c I) (hn : 20000 ≤ n) : Both μ c I (mX10_together n c) (mX11_together n (c + 193)) := by
  obtain ⟨hk, lr, lq, h0, h9⟩ := id hR.1
  have hH := hC.here
  have hT := hC.ti
  obtain ⟨J, e1, oJ, tJ⟩ := look_eq (n := n) (I := I) (a := c + 3) (t := c + 34) (w := -1) hH hT (by omega) hk (by omega) hn
  have e2 := loose_eq (n := n) hT tJ hk hn
  have cJ : CF c I J := fun b hb => oJ b (by unfold tmp at hb; omega) (by unfold tmp at hb; omega)
  have jr : ld J (c + 193) = ld I (c + 193) := funext fun k => oJ _ (by omega) (by omega)
  have e3 := together_m (n := n) (I := J) (s := ld J (c + 193)) (l := ld I (c + 3)) hM (by rw [jr]; exact lr) hk hn
  rw [ldwm] at e3
  refine Both.mk hR cJ.h ?_ e3 (Fr.f0 _ (Or.inl rfl)).w ?_
  · unfold mX10_together
    simp (disch := omega) only [↓i_lt_t, ↓i_lt_f, ↓i_eq_t, ↓i_eq_f, ↓i_bi_t, ↓i_bi_f, ↓i_some, ↓bC_g0 hC, ↓bC_g1 hC, ↓bC_g2 hC, ↓bC_g3 hC, ↓bC_g4 hC, ↓bC_g5 hC, ↓bC_g6 hC, ↓bC_g7 hC, ↓bC_g8 hC, ↓bC_g9 hC, ↓bC_g10 hC, ↓bC_inv hC, ↓bt_inv hT, ↓bnd e1, ↓bnd e2]
  · rw [up2_row (by decide), jr]
    exact hR.1.cg (fun k hk => cJ _ (by unfold tmp; omega))
end TG
