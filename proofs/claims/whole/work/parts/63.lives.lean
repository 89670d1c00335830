/-! what the reference's doing of hours leaves alone -/
def Fr (s s' : Ld) : Prop := (∀ c : Nat, c ≠ 0 → c ≠ 1 → c ≠ 5 → s' c = s c) ∧ (∀ j : Nat, 0 < j → j < 17 → s' 0 j = s 0 j) ∧ ∀ j : Nat, 220 ≤ j → s' 1 j = s 1 j
theorem Fr.rf (s : Ld) : Fr s s := ⟨fun _ _ _ _ => rfl, fun _ _ _ => rfl, fun _ _ => rfl⟩
theorem Fr.tr {s t u : Ld} (h1 : Fr s t) (h2 : Fr t u) : Fr s u := ⟨fun c a b d => (h2.1 c a b d).trans (h1.1 c a b d), fun j a b => (h2.2.1 j a b).trans (h1.2.1 j a b), fun j a => (h2.2.2 j a).trans (h1.2.2 j a)⟩
theorem Fr.f0 (s : Ld) {k : Nat} {x : Int} (h : k = 0 ∨ 17 ≤ k) : Fr s (up2 s 0 k x) := ⟨fun c h0 _ _ => up2_row h0, fun j hj hj2 => up2_n (by omega), fun j _ => congrFun (up2_row (show (1 : Nat) ≠ 0 by decide)) j⟩
theorem Fr.p5 (s : Ld) (p : Nat → Int) : Fr s (up1 s 5 p) := ⟨fun c _ _ h5 => up1_o h5, fun j _ _ => congrFun (up1_o (show (0 : Nat) ≠ 5 by decide)) j, fun j _ => congrFun (up1_o (show (1 : Nat) ≠ 5 by decide)) j⟩
theorem Fr.w1 (s : Ld) {A : Nat → Int} (h : ∀ j : Nat, 220 ≤ j → A j = s 1 j) : Fr s (up1 s 1 A) := ⟨fun c _ h1 _ => up1_o h1, fun j _ _ => congrFun (up1_o (show (0 : Nat) ≠ 1 by decide)) j, fun j hj => (congrFun up1_s j).trans (h j hj)⟩
section LV
variable {μ : Mem} {I : Nat → Nat → Int} {m n : Nat} {s l : Ld}
theorem cuA_ok {k : Nat} {u : Ld × Int × Int × Int} (h : okL u.1) : okL (cuA k u).1 := (goL_ok _ h).1
theorem lives_eq (h : isM μ m) (hl : LR l (s 1)) (hq : LRq l (s 1)) (hk : okL l) {b : Int} (hb : 0 ≤ b) (hb2 : b < 10000) (hh : l 0 2 + b ≤ 9999) (hn : 20000 ≤ n) {u : Ld × Int × Int × Int} (hu : itr cuA 0 b.toNat (l, 0, 0, 0) = u) : ∃ s' : Ld, mX11_lives n m b (wi μ (wm I m s)) = some (u.2.1, wi μ (wm I m s')) ∧ Fr s s' ∧ LR u.1 (s' 1) ∧ LRq u.1 (s' 1) ∧ okL u.1 ∧ s' 0 20 = u.2.2.1 ∧ s' 0 21 = u.2.2.2 := by
  subst hu
  unfold mX11_lives
  rw [M_pI h, Option.bind_some, wm_up0, M_pI h, Option.bind_some, wm_up0]
  refine lp_sim cuA b.toNat (fun k u a ν => a = (u.2.1, (k : Int)) ∧ ∃ s' : Ld, ν = wi μ (wm I m s') ∧ Fr s s' ∧ LR u.1 (s' 1) ∧ LRq u.1 (s' 1) ∧ okL u.1 ∧ s' 0 20 = u.2.2.1 ∧ s' 0 21 = u.2.2.2 ∧ u.1 0 2 = l 0 2 + k) (fun u x => ∃ s' : Ld, x = some (u.2.1, wi μ (wm I m s')) ∧ Fr s s' ∧ LR u.1 (s' 1) ∧ LRq u.1 (s' 1) ∧ okL u.1 ∧ s' 0 20 = u.2.2.1 ∧ s' 0 21 = u.2.2.2) (fun k u a ν nx hlt hP => ?_) (fun u a ν nx hP => ?_) b.toNat 0 (l, 0, 0, 0) (0, 0) _ n (by omega) (by omega) ⟨rfl, _, rfl, (Fr.f0 s (by omega)).tr (Fr.f0 _ (by omega)), ?_, ?_, hk, ?_, up2_s, by show l 0 2 = l 0 2 + ((0 : Nat) : Int); omega⟩
  · obtain ⟨rfl, s', rfl, fr, lr, lq, ok, v20, v21, hr⟩ := hP
    obtain ⟨p, hp1, hp2, e1⟩ := byCustom_eq (n := n) (I := I) h lr lq.1 ok (by omega)
    have t1 : (up2 (up2 (up1 s' 5 p) 0 20 (s' 0 20 + cmL u.1)) 0 21 (s' 0 21 + cbL u.1)) 1 = s' 1 := by
      rw [up2_row (show (1 : Nat) ≠ 0 by decide), up2_row (show (1 : Nat) ≠ 0 by decide), up1_o (show (1 : Nat) ≠ 5 by decide)]
    have t5 : (up2 (up2 (up1 s' 5 p) 0 20 (s' 0 20 + cmL u.1)) 0 21 (s' 0 21 + cbL u.1)) 5 = p := by
      rw [up2_row (show (5 : Nat) ≠ 0 by decide), up2_row (show (5 : Nat) ≠ 0 by decide), up1_s]
    have t20 : (up2 (up2 (up1 s' 5 p) 0 20 (s' 0 20 + cmL u.1)) 0 21 (s' 0 21 + cbL u.1)) 0 20 = u.2.2.1 + cmL u.1 := by
      rw [up2_n (by omega), up2_s, v20]
    have t21 : (up2 (up2 (up1 s' 5 p) 0 20 (s' 0 20 + cmL u.1)) 0 21 (s' 0 21 + cbL u.1)) 0 21 = u.2.2.2 + cbL u.1 := by
      rw [up2_s, v21]
    have fr2 : Fr s' (up2 (up2 (up1 s' 5 p) 0 20 (s' 0 20 + cmL u.1)) 0 21 (s' 0 21 + cbL u.1)) := (Fr.p5 s' p).tr ((Fr.f0 _ (by omega)).tr (Fr.f0 _ (by omega)))
    generalize up2 (up2 (up1 s' 5 p) 0 20 (s' 0 20 + cmL u.1)) 0 21 (s' 0 21 + cbL u.1) = t at e1 t1 t5 t20 t21 fr2
    obtain ⟨A, e2, l2, -, q2, k2⟩ := goes_eq (n := n) (I := I) (s := t) (l := u.1) h (by rw [t1]; exact lr) ok (by rw [t5]; exact hp2) (by omega)
    rw [t5, goL_cg' ok hp1] at e2 l2 q2
    refine ⟨((cuA k u).2.1, ((k + 1 : Nat) : Int)), wi μ (wm I m (up1 t 1 A)), ⟨rfl, _, rfl, fr.tr (fr2.tr (Fr.w1 t k2)), ?_, ?_, cuA_ok ok, ?_, ?_, ?_⟩, ?_⟩
    · rw [up1_s]; exact l2
    · rw [up1_s]; exact q2 (by rw [t1]; exact lq) (by omega)
    · rw [up1_o (by decide)]; exact t20
    · rw [up1_o (by decide)]; exact t21
    · show (goL (cuP u.1) u.1).1 0 2 = _
      rw [goL_hr, if_pos (by omega)]
      omega
    · try dsimp only
      rw [if_pos (show lt32 (k : Int) b from (lt32_iff (by omega) (by omega) (by omega) (by omega)).mpr (by omega)), M_inv h, e1, Option.bind_some, M_inv h, e2, Option.bind_some]
      rfl
  · obtain ⟨rfl, s', rfl, fr, lr, lq, ok, v20, v21, hr⟩ := hP
    refine ⟨s', ?_, fr, lr, lq, ok, v20, v21⟩
    try dsimp only
    rw [if_neg (show ¬ lt32 (b.toNat : Int) b from fun z => absurd ((lt32_iff (by omega) (by omega) (by omega) (by omega)).mp z) (by omega))]
  · rw [up2_row (show (1 : Nat) ≠ 0 by decide), up2_row (show (1 : Nat) ≠ 0 by decide)]; exact hl
  · rw [up2_row (show (1 : Nat) ≠ 0 by decide), up2_row (show (1 : Nat) ≠ 0 by decide)]; exact hq
  · rw [up2_n (by omega), up2_s]
theorem sumOf_eq (h : isM μ m) (hl : LR l (s 1)) (hk : okL l) {b : Nat} (hb : b ≤ 66) (hn : 100 ≤ n) : mX11_sumOf n m (b : Int) (wi μ (wm I m s)) = some (itr (fun h x => x + s 1 (b + h)) 0 (l 0 0).toNat 0, wi μ (wm I m s)) := by
  have hz := hk.1
  have a0 : ldI (wi μ (wm I m s)) 0 (m + 1) 0 = some (l 0 0) := by rw [M_ld1 h (by omega) (by omega), wm_at (by omega)]; exact congrArg some hl.1.1
  unfold mX11_sumOf
  refine lp_run (fun k (x : Int) => (x, (k : Int))) (fun _ _ => wi μ (wm I m s)) (fun h x => x + s 1 (b + h)) (l 0 0).toNat (fun x => some (x, wi μ (wm I m s))) (fun _ _ => True) (fun k x nx hlt _ => ⟨trivial, ?_⟩) (fun x nx _ => ?_) (l 0 0).toNat 0 0 n (by omega) (by omega) trivial
  · try dsimp only
    rw [M_g1 h, Option.bind_some, a0, Option.bind_some, if_pos (show lt32 (k : Int) (l 0 0) from (lt32_iff (by omega) (by omega) (by omega) (by omega)).mpr (by omega)), Option.bind_some, M_ld1 h (by omega) (by omega), Option.bind_some, wm_at (by omega), show ((b : Int) + (k : Int)).toNat = b + k by omega]
    rfl
  · try dsimp only
    rw [M_g1 h, Option.bind_some, a0, Option.bind_some, if_neg (show ¬ lt32 ((l 0 0).toNat : Int) (l 0 0) from fun z => absurd ((lt32_iff (by omega) (by omega) (by omega) (by omega)).mp z) (by omega))]
end LV
