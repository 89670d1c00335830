/-! count -/
section CT
variable {μ : Mem} {I : Nat → Nat → Int} {c m n : Nat} {s l : Ld}
def fmS (l : Ld) (r : Nat) (x : Int) : Int := x + (if l 9 r = 0 then l 12 (2 * r) + l 12 (2 * r + 1) else 0)
theorem fb_pair {l : Ld} : ∀ (d k : Nat) (x : Int), (∀ b : Nat, 2 * k ≤ b → b < 2 * (k + d) → l 12 b = 0 ∨ l 12 b = 1) → itr (fbS l) (2 * k) (2 * d) x = itr (fmS l) k d x
  | 0, k, x, _ => rfl
  | d + 1, k, x, h => by
    show itr (fbS l) (2 * k) (2 * d + 1 + 1) x = itr (fmS l) (k + 1) d (fmS l k x)
    show itr (fbS l) (2 * k + 1 + 1) (2 * d) (fbS l (2 * k + 1) (fbS l (2 * k) x)) = _
    have e : fbS l (2 * k + 1) (fbS l (2 * k) x) = fmS l k x := by
      have h1 := h (2 * k) (by omega) (by omega)
      have h2 := h (2 * k + 1) (by omega) (by omega)
      unfold fbS fmS
      rw [show (2 * k + 1) / 2 = k by omega, show 2 * k / 2 = k by omega]
      by_cases c9 : l 9 k = 0
      · rw [if_pos c9]
        rcases h1 with h1 | h1 <;> rcases h2 with h2 | h2 <;> rw [h1, h2] <;> simp [c9] <;> omega
      · rw [if_neg c9, if_neg (fun z => c9 z.2), if_neg (fun z => c9 z.2)]
        omega
    rw [e, show 2 * k + 1 + 1 = 2 * (k + 1) by omega]
    exact fb_pair d (k + 1) _ (fun b h1 h2 => h b (by omega) (by omega))
theorem fullMany_eq (h : isM μ m) (hl : LR l (s 1)) (hk : okL l) (hn : 100 ≤ n) : mX11_fullMany n m (wi μ (wm I m s)) = some (itr (fbS l) 0 (2 * (l 0 1).toNat) 0, wi μ (wm I m s)) := by
  have hz := hk.1
  have a1 : ldI (wi μ (wm I m s)) 0 (m + 1) 1 = some (l 0 1) := by rw [M_ld1 h (by omega) (by omega), wm_at (by omega)]; exact congrArg some hl.1.2.1
  have ep := fb_pair (l := l) (l 0 1).toNat 0 0 (fun b _ h2 => (hk.2.2.2 b (by omega)).2.2.2.2)
  rw [Nat.mul_zero] at ep
  rw [ep]
  unfold mX11_fullMany
  refine lp_run (fun k (x : Int) => (x, (k : Int))) (fun _ _ => wi μ (wm I m s)) (fmS l) (l 0 1).toNat (fun x => some (x, wi μ (wm I m s))) (fun _ _ => True) (fun k x nx hlt hi => ⟨trivial, ?_⟩) (fun x nx hi => ?_) (l 0 1).toNat 0 0 n (by omega) (by omega) trivial
  · have hr : (k : Int) < l 0 1 := by omega
    have mg := mhangs_eq (n := n) (I := I) (s := s) (l := l) h hl hk hr
    obtain ⟨-, -, -, -, -, -, k7, k8, -⟩ := hl.2.2 k hr
    have e172 : ldI (wi μ (wm I m s)) 0 (m + 1) (172 + (k : Int)) = some (l 12 (2 * k)) := by rw [M_ld1 h (by omega) (by omega), wm_at (by omega), show (172 + (k : Int)).toNat = 172 + k by omega, k7]
    have e188 : ldI (wi μ (wm I m s)) 0 (m + 1) (188 + (k : Int)) = some (l 12 (2 * k + 1)) := by rw [M_ld1 h (by omega) (by omega), wm_at (by omega), show (188 + (k : Int)).toNat = 188 + k by omega, k8]
    try dsimp only
    rw [M_g1 h, Option.bind_some, a1, Option.bind_some, if_pos (show lt32 (k : Int) (l 0 1) from (lt32_iff (by omega) (by omega) (by omega) (by omega)).mpr (by omega)), M_inv h, mg, Option.bind_some]
    try dsimp only
    unfold fmS
    by_cases c9 : l 9 k = 0
    · rw [if_neg (fun z => (eq32_bi _).mp z c9), if_pos c9, M_g1 h, Option.bind_some, e172, Option.bind_some, Option.bind_some, e188, Option.bind_some]
      rfl
    · rw [if_pos ((eq32_bi _).mpr c9), if_neg c9]
      rfl
  · try dsimp only
    rw [M_g1 h, Option.bind_some, a1, Option.bind_some, if_neg (show ¬ lt32 ((l 0 1).toNat : Int) (l 0 1) from fun z => absurd ((lt32_iff (by omega) (by omega) (by omega) (by omega)).mp z) (by omega))]
theorem both_count (hC : isC μ c) (hM : isM μ (c + 193)) (hR : RelC c I) {b : Int} (hn : 100 ≤ n) : Both μ c I (mX10_count n c b) (mX11_count n (c + 193) b) := by
  obtain ⟨hk, lr, lq, h0, h9⟩ := hR.1
  have hz := hk.1
  have ht := hR.2.2.2.1
  have s1 : up2 (ld I (c + 193)) 0 0 0 1 = I (c + 193 + 1) := up2_row (show (1 : Nat) ≠ 0 by decide)
  have s5 : up2 (ld I (c + 193)) 0 0 0 0 5 = I (c + 193) 5 := up2_n (by omega)
  have lr' : LR (ld I (c + 3)) (up2 (ld I (c + 193)) 0 0 0 1) := by rw [s1]; exact lr
  refine Both.q (v := if eq32 b 0 then ld I (c + 3) 0 0 else if eq32 b 1 then ld I (c + 3) 0 1 else if eq32 b 2 then ld I (c + 3) 0 2 else if eq32 b 3 then ld I (c + 3) 0 3 else if eq32 b 4 then ld I (c + 3) 0 4 else if eq32 b 5 then itr (smS (ld I (c + 3)) 3) 0 (ld I (c + 3) 0 0).toNat 0 else if eq32 b 6 then itr (fbS (ld I (c + 3))) 0 (2 * (ld I (c + 3) 0 1).toNat) 0 else if eq32 b 7 then I (c + 1) 0 else if eq32 b 8 then ld I (c + 3) 0 5 else -1) hR ?_ ?_
  · have w5 := allStock_eq (n := n) (I := I) (a := c + 3) (l := ld I (c + 3)) hC.here hk hn
    have w6 := fullBuckets_eq (n := n) (I := I) (a := c + 3) (l := ld I (c + 3)) hC.here hk hn
    rw [wiwl] at w5 w6
    have a0 : ∀ k : Nat, gI (wi μ I) 2 (c + 3) k = some (ld I (c + 3) 0 k) := fun k => L_gI hC.here
    unfold mX10_count
    simp only [C_g1 hC, C_g0 hC, T_gI hC, Option.bind_some, a0, L_inv hC.here, w5, w6]
    exact ite_sm (ite_sm (ite_sm (ite_sm (ite_sm (ite_sm (ite_sm (ite_sm (ite_sm rfl))))))))
  · have w6 := fullMany_eq (n := n) (I := I) (s := up2 (ld I (c + 193)) 0 0 0) (l := ld I (c + 3)) hM lr' hk hn
    have w5 := sumOf_eq (n := n) (I := I) (s := up2 (ld I (c + 193)) 0 0 0) (l := ld I (c + 3)) hM lr' hk (b := 26) (by omega) hn
    have e5 : itr (fun h x => x + up2 (ld I (c + 193)) 0 0 0 1 (26 + h)) 0 (ld I (c + 3) 0 0).toNat 0 = itr (smS (ld I (c + 3)) 3) 0 (ld I (c + 3) 0 0).toNat 0 :=
      itr_cg (P := fun _ _ => True) _ _ _ trivial (fun j x _ hj _ => ⟨by
        unfold smS
        rw [(lr'.2.1 j (by omega)).2.2.1], trivial⟩)
    rw [e5, show ((26 : Nat) : Int) = 26 from rfl] at w5
    have al : ∀ (z : Int) (j : Nat), z = (j : Int) → j < 220 → ldI (wi μ (wm I (c + 193) (up2 (ld I (c + 193)) 0 0 0))) 0 (c + 193 + 1) z = some (I (c + 193 + 1) j) := fun z j e hj => by rw [e, M_ld1 hM (by omega) (by omega), wm_at (by omega), s1, Int.toNat_natCast]
    have e0 := (al 0 0 rfl (by omega)).trans (congrArg some lr.1.1)
    have e1 := (al 1 1 rfl (by omega)).trans (congrArg some lr.1.2.1)
    have e2 := (al 2 2 rfl (by omega)).trans (congrArg some lq.1)
    have e3 := (al 3 3 rfl (by omega)).trans (congrArg some lr.1.2.2.1)
    have e4 := (al 4 4 rfl (by omega)).trans (congrArg some lr.1.2.2.2.1)
    have e55 := (al 5 5 rfl (by omega)).trans (congrArg some lr.1.2.2.2.2)
    unfold mX11_count
    rw [M_pI hM, Option.bind_some, wm_up0]
    simp only [M_g1 hM, M_gI hM, wm_0, s5, Option.bind_some, M_inv hM, w5, w6, e0, e1, e2, e3, e4, e55, ← ht]
    exact ite_sm (ite_sm (ite_sm (ite_sm (ite_sm (ite_sm (ite_sm (ite_sm (ite_sm rfl))))))))
end CT
