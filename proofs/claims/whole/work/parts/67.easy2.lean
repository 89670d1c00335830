/-! pull and cut -/
section EB
variable {μ : Mem} {I : Nat → Nat → Int} {c n : Nat}
theorem wiwl (I : Nat → Nat → Int) (a : Nat) : wi μ (wl I a (ld I a)) = wi μ I := by rw [wl_ld]
theorem both_pull (hC : isC μ c) (hM : isM μ (c + 193)) (hR : RelC c I) {b x : Int} (hb : -2147483648 ≤ b ∧ b < 2147483648) (hx : -2147483648 ≤ x ∧ x < 2147483648) (hn : 20000 ≤ n) : Both μ c I (mX10_pull n c b x) (mX11_pull n (c + 193) b x) := by
  obtain ⟨hk, lr, lq, h0, h9⟩ := hR.1
  have hz := hk.1
  have h0' : 0 ≤ I (c + 3) 2 := h0
  have h9' : I (c + 3) 2 ≤ 9999 := h9.1
  have q2 : I (c + 193 + 1) 2 = I (c + 3) 2 := lq.1
  have hh := hangs_eq (n := n) (I := I) (a := c + 3) (l := ld I (c + 3)) hC.here hk hx hb
  rw [wiwl] at hh
  have s1 : ∀ J : Nat → Nat → Int, J (c + 193 + 1) = I (c + 193 + 1) → up2 (ld J (c + 193)) 0 0 0 1 = I (c + 193 + 1) := fun J e => (up2_row (show (1 : Nat) ≠ 0 by decide)).trans e
  -- what the reference asks first
  have mh : ∀ J : Nat → Nat → Int, J (c + 193 + 1) = I (c + 193 + 1) → mX11_isHouse n (c + 193) b (wi μ (wm J (c + 193) (up2 (ld J (c + 193)) 0 0 0))) = some (bi (0 ≤ b ∧ b < ld I (c + 3) 0 0), wi μ (wm J (c + 193) (up2 (ld J (c + 193)) 0 0 0))) := fun J e => isHouse_eq hM (by rw [s1 J e]; exact lr) hk (by omega)
  have mr : ∀ J : Nat → Nat → Int, J (c + 193 + 1) = I (c + 193 + 1) → mX11_isRope n (c + 193) x (wi μ (wm J (c + 193) (up2 (ld J (c + 193)) 0 0 0))) = some (bi (0 ≤ x ∧ x < ld I (c + 3) 0 1), wi μ (wm J (c + 193) (up2 (ld J (c + 193)) 0 0 0))) := fun J e => isRope_eq hM (by rw [s1 J e]; exact lr) hk (by omega)
  by_cases cH : 0 ≤ b ∧ b < ld I (c + 3) 0 0
  · by_cases cR : 0 ≤ x ∧ x < ld I (c + 3) 0 1
    · have ex : ((x.toNat : Nat) : Int) = x := by omega
      have t2 : (2 * x).toNat = 2 * x.toNat := by omega
      have t3 : (2 * x + 1).toNat = 2 * x.toNat + 1 := by omega
      have g9 := hk.2.2.1 x.toNat (by omega)
      have me : ∀ J : Nat → Nat → Int, J (c + 193 + 1) = I (c + 193 + 1) → mX11_isEnd n (c + 193) b x (wi μ (wm J (c + 193) (up2 (ld J (c + 193)) 0 0 0))) = some (bi (ld I (c + 3) 10 (2 * x.toNat) = b ∨ ld I (c + 3) 10 (2 * x.toNat + 1) = b), wi μ (wm J (c + 193) (up2 (ld J (c + 193)) 0 0 0))) := fun J e => by
        have := isEnd_eq (n := n) (I := J) (s := up2 (ld J (c + 193)) 0 0 0) hM (by rw [s1 J e]; exact lr) hk hb (r := x.toNat) (by omega)
        rw [ex] at this
        exact this
      have mg : ∀ J : Nat → Nat → Int, J (c + 193 + 1) = I (c + 193 + 1) → mX11_hangs n (c + 193) x (wi μ (wm J (c + 193) (up2 (ld J (c + 193)) 0 0 0))) = some (bi (ld I (c + 3) 9 x.toNat = 0), wi μ (wm J (c + 193) (up2 (ld J (c + 193)) 0 0 0))) := fun J e => by
        have := mhangs_eq (n := n) (I := J) (s := up2 (ld J (c + 193)) 0 0 0) hM (by rw [s1 J e]; exact lr) hk (r := x.toNat) (by omega)
        rw [ex] at this
        exact this
      have l9 : ldI (wi μ I) 2 (c + 3 + 9) x = some (ld I (c + 3) 9 x.toNat) := L_ld9 hC.here (by omega) (by omega)
      by_cases cE : ld I (c + 3) 10 (2 * x.toNat) = b ∨ ld I (c + 3) 10 (2 * x.toNat + 1) = b
      · have cP : hgP (ld I (c + 3)) x b := ⟨cH, cR, by rw [t2, t3]; exact cE⟩
        by_cases c9 : ld I (c + 3) 9 x.toNat = 0
        · by_cases ch : I (c + 3) 2 < 9999
          · obtain ⟨J, hJ, e, e3, el⟩ := xhour (n := n) hC hk ⟨h0', h9'⟩ (b := b) (x := x) hb hx hn
            have eP : oneP (ld I (c + 3)) b x = upA (fun _ => -1) b.toNat x := if_pos cH
            rw [eP] at e3 el
            have j1 : J (c + 193 + 1) = I (c + 193 + 1) := hJ _ (by unfold tmp; omega) (by omega)
            have t1 := s1 J j1
            obtain ⟨p0, hp0, e0⟩ := nobody_eq (n := n) (I := J) (s := up2 (ld J (c + 193)) 0 0 0) hM (by omega)
            have u1 : (up1 (up2 (ld J (c + 193)) 0 0 0) 5 (upA p0 b.toNat x)) 1 = I (c + 193 + 1) := (up1_o (by decide)).trans t1
            have u5 : (up1 (up2 (ld J (c + 193)) 0 0 0) 5 (upA p0 b.toNat x)) 5 = upA p0 b.toNat x := up1_s
            obtain ⟨A, eg, l2, -, q2', k2⟩ := goes_eq (n := n) (I := J) (s := up1 (up2 (ld J (c + 193)) 0 0 0) 5 (upA p0 b.toNat x)) (l := ld I (c + 3)) hM (by rw [u1]; exact lr) hk (by
              rw [u5]
              intro k hk10
              unfold upA
              split
              · exact hx
              · rw [hp0 k hk10]; omega) (by omega)
            have hcg : goL (upA p0 b.toNat x) (ld I (c + 3)) = goL (upA (fun _ => -1) b.toNat x) (ld I (c + 3)) := goL_cg hk (fun k hk10 => by
              unfold upA
              split
              · rfl
              · exact hp0 k hk10)
            rw [u5, hcg] at eg l2 q2'
            refine Both.mk (J := J) (s' := up1 (up1 (up2 (ld J (c + 193)) 0 0 0) 5 (upA p0 b.toNat x)) 1 A) (v := (goL (upA (fun _ => -1) b.toNat x) (ld I (c + 3))).2) hR hJ ?_ ?_ ?_ ?_
            · unfold mX10_pull
              rw [C_g1 hC, Option.bind_some, L_inv hC.here, hh, Option.bind_some]
              try dsimp only
              rw [if_neg (fun z => (eq32_bi _).mp z cP), C_g1 hC, Option.bind_some, L_g14 hC.here, Option.bind_some, l9, Option.bind_some, if_pos ((eq32_iff (by omega) (by omega) (by omega) (by omega)).mpr c9), Option.bind_some, L_gI hC.here, Option.bind_some, if_pos ((lt32_iff (by omega) (by omega) (by omega) (by omega)).mpr ch), C_g6 hC, Option.bind_some, Option.bind_some, tinv hC.ty, e, Option.bind_some]
              try dsimp only
              rw [C_g6 hC, Option.bind_some, e_gI hC.ty.k, Option.bind_some, e3]
            · rw [← ldwm J (c + 193)]
              unfold mX11_pull
              rw [M_pI hM, Option.bind_some, wm_up0, M_inv hM, oI2l_of (by omega) (by omega), mh J j1, Option.bind_some]
              try dsimp only
              rw [if_neg (fun z => (eq32_bi _).mp z cH), M_inv hM, oI2l_of (by omega) (by omega), mr J j1, Option.bind_some]
              try dsimp only
              rw [if_neg (fun z => (eq32_bi _).mp z cR), M_inv hM, me J j1, Option.bind_some]
              try dsimp only
              rw [if_neg (fun z => (eq32_bi _).mp z cE), M_inv hM, mg J j1, Option.bind_some]
              try dsimp only
              rw [if_neg (fun z => (eq32_bi _).mp z c9), M_g1 hM, Option.bind_some, M_ld1 hM (by omega) (by omega), Option.bind_some, wm_at (by omega), t1, show I (c + 193 + 1) (2 : Int).toNat = I (c + 3) 2 from q2, if_neg (fun z => absurd ((eq32_iff (by omega) (by omega) (by omega) (by omega)).mp z) (by omega)), M_inv hM, e0, Option.bind_some]
              try dsimp only
              rw [M_g15 hM, Option.bind_some, M_st5 hM (by omega) (by omega), Option.bind_some, wm_up (by omega), up21, M_inv hM, eg, Option.bind_some]
            · exact ((Fr.f0 _ (Or.inl rfl)).tr ((Fr.p5 _ _).tr (Fr.w1 _ k2))).w
            · rw [up1_s]
              exact (goL_RLl hk h0 ch h9.2 l2 (q2' (by rw [u1]; exact lq) ch)).cg el
          · refine Both.q (v := -5) hR ?_ ?_
            · unfold mX10_pull
              rw [C_g1 hC, Option.bind_some, L_inv hC.here, hh, Option.bind_some]
              try dsimp only
              rw [if_neg (fun z => (eq32_bi _).mp z cP), C_g1 hC, Option.bind_some, L_g14 hC.here, Option.bind_some, l9, Option.bind_some, if_pos ((eq32_iff (by omega) (by omega) (by omega) (by omega)).mpr c9), Option.bind_some, L_gI hC.here, Option.bind_some, if_neg (fun z => ch ((lt32_iff (by omega) (by omega) (by omega) (by omega)).mp z))]
            · unfold mX11_pull
              rw [M_pI hM, Option.bind_some, wm_up0, M_inv hM, oI2l_of (by omega) (by omega), mh I rfl, Option.bind_some]
              try dsimp only
              rw [if_neg (fun z => (eq32_bi _).mp z cH), M_inv hM, oI2l_of (by omega) (by omega), mr I rfl, Option.bind_some]
              try dsimp only
              rw [if_neg (fun z => (eq32_bi _).mp z cR), M_inv hM, me I rfl, Option.bind_some]
              try dsimp only
              rw [if_neg (fun z => (eq32_bi _).mp z cE), M_inv hM, mg I rfl, Option.bind_some]
              try dsimp only
              rw [if_neg (fun z => (eq32_bi _).mp z c9), M_g1 hM, Option.bind_some, M_ld1 hM (by omega) (by omega), Option.bind_some, wm_at (by omega), s1 I rfl, show I (c + 193 + 1) (2 : Int).toNat = I (c + 3) 2 from q2, if_pos ((eq32_iff (by omega) (by omega) (by omega) (by omega)).mpr (by omega))]
        · refine Both.q (v := -5) hR ?_ ?_
          · unfold mX10_pull
            rw [C_g1 hC, Option.bind_some, L_inv hC.here, hh, Option.bind_some]
            try dsimp only
            rw [if_neg (fun z => (eq32_bi _).mp z cP), C_g1 hC, Option.bind_some, L_g14 hC.here, Option.bind_some, l9, Option.bind_some, if_neg (fun z => c9 ((eq32_iff (by omega) (by omega) (by omega) (by omega)).mp z))]
          · unfold mX11_pull
            rw [M_pI hM, Option.bind_some, wm_up0, M_inv hM, oI2l_of (by omega) (by omega), mh I rfl, Option.bind_some]
            try dsimp only
            rw [if_neg (fun z => (eq32_bi _).mp z cH), M_inv hM, oI2l_of (by omega) (by omega), mr I rfl, Option.bind_some]
            try dsimp only
            rw [if_neg (fun z => (eq32_bi _).mp z cR), M_inv hM, me I rfl, Option.bind_some]
            try dsimp only
            rw [if_neg (fun z => (eq32_bi _).mp z cE), M_inv hM, mg I rfl, Option.bind_some]
            try dsimp only
            rw [if_pos ((eq32_bi _).mpr c9)]
      · refine Both.q (v := -2) hR ?_ ?_
        · unfold mX10_pull
          rw [C_g1 hC, Option.bind_some, L_inv hC.here, hh, Option.bind_some]
          try dsimp only
          rw [if_pos ((eq32_bi _).mpr (fun z => cE (by have := z.2.2; rw [t2, t3] at this; exact this)))]
        · unfold mX11_pull
          rw [M_pI hM, Option.bind_some, wm_up0, M_inv hM, oI2l_of (by omega) (by omega), mh I rfl, Option.bind_some]
          try dsimp only
          rw [if_neg (fun z => (eq32_bi _).mp z cH), M_inv hM, oI2l_of (by omega) (by omega), mr I rfl, Option.bind_some]
          try dsimp only
          rw [if_neg (fun z => (eq32_bi _).mp z cR), M_inv hM, me I rfl, Option.bind_some]
          try dsimp only
          rw [if_pos ((eq32_bi _).mpr cE)]
    · refine Both.q (v := -2) hR ?_ ?_
      · unfold mX10_pull
        rw [C_g1 hC, Option.bind_some, L_inv hC.here, hh, Option.bind_some]
        try dsimp only
        rw [if_pos ((eq32_bi _).mpr (fun z => cR z.2.1))]
      · unfold mX11_pull
        rw [M_pI hM, Option.bind_some, wm_up0, M_inv hM, oI2l_of (by omega) (by omega), mh I rfl, Option.bind_some]
        try dsimp only
        rw [if_neg (fun z => (eq32_bi _).mp z cH), M_inv hM, oI2l_of (by omega) (by omega), mr I rfl, Option.bind_some]
        try dsimp only
        rw [if_pos ((eq32_bi _).mpr cR)]
  · refine Both.q (v := -2) hR ?_ ?_
    · unfold mX10_pull
      rw [C_g1 hC, Option.bind_some, L_inv hC.here, hh, Option.bind_some]
      try dsimp only
      rw [if_pos ((eq32_bi _).mpr (fun z => cH z.1))]
    · unfold mX11_pull
      rw [M_pI hM, Option.bind_some, wm_up0, M_inv hM, oI2l_of (by omega) (by omega), mh I rfl, Option.bind_some]
      try dsimp only
      rw [if_pos ((eq32_bi _).mpr cH)]
end EB
