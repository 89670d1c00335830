/-! calls that are soon told: fault, pass, pull, cut -/
theorem Both.q {μ : Mem} {c : Nat} {I : Nat → Nat → Int} {f g : Mem → Option (Int × Mem)} {v : Int} (hR : RelC c I) (hf : f (wi μ I) = some (v, wi μ I)) (hg : g (wi μ (wm I (c + 193) (ld I (c + 193)))) = some (v, wi μ (wm I (c + 193) (up2 (ld I (c + 193)) 0 0 0)))) : Both μ c I f g := by
  rw [ldwm] at hg
  refine Both.mk hR (CF.rf c I).h hf hg (Fr.f0 _ (Or.inl rfl)).w ?_
  have e : up2 (ld I (c + 193)) 0 0 0 1 = I (c + 193 + 1) := up2_row (show (1 : Nat) ≠ 0 by decide)
  rw [e]
  exact hR.1
section EA
variable {μ : Mem} {I : Nat → Nat → Int} {c n : Nat}
theorem T_gI (h : isC μ c) {k : Nat} : gI (wi μ I) 9 (c + 1) k = some (I (c + 1) k) := e_gI (by rw [h.tape.1])
theorem both_fault (hC : isC μ c) (hM : isM μ (c + 193)) (hR : RelC c I) {b : Int} : Both μ c I (mX10_fault n c b) (mX11_fault n (c + 193) b) := by
  obtain ⟨-, -, -, r1, r2⟩ := hR.2.2.2
  have e13 : up2 (ld I (c + 193)) 0 0 0 0 13 = I (c + 193) 13 := up2_n (by omega)
  have e14 : up2 (ld I (c + 193)) 0 0 0 0 14 = I (c + 193) 14 := up2_n (by omega)
  refine Both.q (v := if eq32 b 0 then I (c + 1) 1 else if eq32 b 1 then I (c + 1) 2 else -1) hR ?_ ?_
  · unfold mX10_fault
    simp only [C_g0 hC, T_gI hC, Option.bind_some]
    split
    · rfl
    · split <;> rfl
  · unfold mX11_fault
    rw [M_pI hM, Option.bind_some, wm_up0]
    simp only [M_gI hM, wm_0, Option.bind_some, e13, e14, r1, r2]
    split
    · rfl
    · split <;> rfl
/-- an hour in which one house pulls, or none -/
theorem oneP_none (l : Ld) (x : Int) : oneP l (-1) x = fun _ => -1 := if_neg (by omega)
theorem xhour (hC : isC μ c) (hk : okL (ld I (c + 3))) (hh : 0 ≤ I (c + 3) 2 ∧ I (c + 3) 2 ≤ 9999) {b x : Int} (hb : -2147483648 ≤ b ∧ b < 2147483648) (hx : -2147483648 ≤ x ∧ x < 2147483648) (hn : 20000 ≤ n) : ∃ J : Nat → Nat → Int, CFh c I J ∧ mX7_doHour n (c + 32) (c + 3) b x (wi μ I) = some ((), wi μ J) ∧ J (c + 32) 3 = (goL (oneP (ld I (c + 3)) b x) (ld I (c + 3))).2 ∧ ∀ k : Nat, k ≤ 12 → ld J (c + 3) k = (goL (oneP (ld I (c + 3)) b x) (ld I (c + 3))).1 k := by
  obtain ⟨y', p', e, e3⟩ := tdoHour (n := n) (I := I) (t := c + 32) (a := c + 3) (y := I (c + 32)) (p := I (c + 32 + 1)) (l := ld I (c + 3)) hC.here hC.ty (by omega) hk (by show -2147483648 ≤ I (c + 3) 2 ∧ I (c + 3) 2 < 2147483648; omega) hb hx hn
  rw [wlwT_id] at e
  refine ⟨_, fun b hb1 hb2 => ?_, e, ?_, fun k hk => wl_row hk⟩
  · unfold tmp at hb1
    rw [wl_out (by omega), wT_o (by omega)]
  · rw [wl_out (by omega), wT_y]; exact e3
theorem goL_RLl {l : Ld} {A : Nat → Int} {p : Nat → Int} (hk : okL l) (h0 : 0 ≤ l 0 2) (h9 : l 0 2 < 9999) (hq : qnL l) (r1 : LR (goL p l).1 A) (r2 : LRq (goL p l).1 A) : RLl (goL p l).1 A := by
  refine ⟨(goL_ok p hk).1, r1, r2, ?_, ?_, hq.go hk h9⟩ <;> rw [goL_hr, if_pos h9] <;> omega
theorem both_pass (hC : isC μ c) (hM : isM μ (c + 193)) (hR : RelC c I) (hn : 20000 ≤ n) : Both μ c I (mX10_pass n c) (mX11_pass n (c + 193)) := by
  obtain ⟨hk, lr, lq, h0, h9⟩ := hR.1
  have h0' : 0 ≤ I (c + 3) 2 := h0
  have h9' : I (c + 3) 2 ≤ 9999 := h9.1
  have q2 : I (c + 193 + 1) 2 = I (c + 3) 2 := lq.1
  by_cases c9 : I (c + 3) 2 < 9999
  · obtain ⟨J, hJ, e, e3, el⟩ := xhour (n := n) hC hk ⟨h0', h9'⟩ (b := -1) (x := -1) (by omega) (by omega) hn
    rw [oneP_none] at e3 el
    have j1 : ld J (c + 193) 1 = I (c + 193 + 1) := hJ _ (by unfold tmp; omega) (by omega)
    have t1 : up2 (ld J (c + 193)) 0 0 0 1 = I (c + 193 + 1) := (up2_row (show (1 : Nat) ≠ 0 by decide)).trans j1
    obtain ⟨p0, hp0, e0⟩ := nobody_eq (n := n) (I := J) (s := up2 (ld J (c + 193)) 0 0 0) hM (by omega)
    have u1 : (up1 (up2 (ld J (c + 193)) 0 0 0) 5 p0) 1 = I (c + 193 + 1) := (up1_o (by decide)).trans t1
    have u5 : (up1 (up2 (ld J (c + 193)) 0 0 0) 5 p0) 5 = p0 := up1_s
    obtain ⟨A, eg, l2, -, q2', k2⟩ := goes_eq (n := n) (I := J) (s := up1 (up2 (ld J (c + 193)) 0 0 0) 5 p0) (l := ld I (c + 3)) hM (by rw [u1]; exact lr) hk (by rw [u5]; intro k hk; rw [hp0 k hk]; omega) (by omega)
    have hcg : goL p0 (ld I (c + 3)) = goL (fun _ => -1) (ld I (c + 3)) := goL_cg hk hp0
    rw [u5, hcg] at eg l2 q2'
    refine Both.mk (J := J) (s' := up1 (up1 (up2 (ld J (c + 193)) 0 0 0) 5 p0) 1 A) (v := (goL (fun _ => -1) (ld I (c + 3))).2) hR hJ ?_ ?_ ?_ ?_
    · unfold mX10_pass
      rw [C_g1 hC, Option.bind_some, L_gI hC.here, Option.bind_some, if_pos ((lt32_iff (by omega) (by omega) (by omega) (by omega)).mpr c9), C_g6 hC, Option.bind_some, Option.bind_some, tinv hC.ty, e, Option.bind_some]
      try dsimp only
      rw [C_g6 hC, Option.bind_some, e_gI hC.ty.k, Option.bind_some, e3]
    · rw [← ldwm J (c + 193)]
      unfold mX11_pass
      rw [M_pI hM, Option.bind_some, wm_up0, M_g1 hM, Option.bind_some, M_ld1 hM (by omega) (by omega), Option.bind_some, wm_at (by omega), t1, show I (c + 193 + 1) (2 : Int).toNat = I (c + 3) 2 from q2, if_neg (fun z => absurd ((eq32_iff (by omega) (by omega) (by omega) (by omega)).mp z) (by omega)), M_inv hM, e0, Option.bind_some, M_inv hM, eg, Option.bind_some]
    · exact ((Fr.f0 _ (Or.inl rfl)).tr ((Fr.p5 _ p0).tr (Fr.w1 _ k2))).w
    · rw [up1_s]
      exact (goL_RLl hk h0 c9 h9.2 l2 (q2' (by rw [u1]; exact lq) c9)).cg el
  · refine Both.q (v := -5) hR ?_ ?_
    · unfold mX10_pass
      rw [C_g1 hC, Option.bind_some, L_gI hC.here, Option.bind_some, if_neg (fun z => c9 ((lt32_iff (by omega) (by omega) (by omega) (by omega)).mp z))]
    · have t1 : up2 (ld I (c + 193)) 0 0 0 1 = I (c + 193 + 1) := up2_row (show (1 : Nat) ≠ 0 by decide)
      unfold mX11_pass
      rw [M_pI hM, Option.bind_some, wm_up0, M_g1 hM, Option.bind_some, M_ld1 hM (by omega) (by omega), Option.bind_some, wm_at (by omega), t1, show I (c + 193 + 1) (2 : Int).toNat = I (c + 3) 2 from q2, if_pos ((eq32_iff (by omega) (by omega) (by omega) (by omega)).mpr (by omega))]
end EA
