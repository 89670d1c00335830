section HP
variable {μ : Mem} {I J G : Nat → Nat → Int} {c m n t a N R : Nat} {s l : Ld} {β : Type}
theorem cwK_cg {l l' : Ld} (e : ∀ k : Nat, k ≤ 12 → l' k = l k) {o p : Nat → Int} {h : Nat} (eo : ∀ j : Nat, j ≤ h → o j = p j) : cwK l' R o h = cwK l R p h := by
  unfold cwK
  refine sm_cg h (fun q hq => ?_)
  unfold cmN rb1 rbw pcT shN
  rw [e 9 (by decide), e 10 (by decide), e 4 (by decide), eo h (Nat.le_refl _), eo q (by omega)]
def hmS (K : Nat → Nat → Int) (t N : Nat) (B : Bs) : Prop := K t 0 = B.1 ∧ K t 1 = B.2.1 ∧ ∀ j : Nat, j < N → K (t + 1) j = B.2.2 j
def okB (B : Bs) : Prop := (0 ≤ B.1 ∧ B.1 ≤ 2147483647) ∧ 0 ≤ B.2.1 ∧ B.2.1 ≤ 7
def hmF (G K : Nat → Nat → Int) (t : Nat) : Prop := (∀ b : Nat, b ≠ t → b ≠ t + 1 → b ≠ t + 2 → K b = G b) ∧ ∀ j : Nat, 2 ≤ j → K t j = G t j
theorem place_eq (hL : isL μ a) (hT : isHo μ t) (sep : t + 10 < a ∨ a + 12 < t) (hk : okL (ld G a)) (hN : ld G a 0 0 = (N : Int)) (hN7 : N ≤ 7) (hR : R ≤ 16) (h5 : G t 5 = (N : Int)) (hC : cmP (ld G a) G t N R) (hn : 20000 ≤ n) : ∀ (d D h : Nat) (K : Nat → Nat → Int) (o : Nat → Int) (m x : Int) (B : Bs), d < D → h + d = N → hmF G K t → (∀ j : Nat, j < h → K (t + 2) j = o j ∧ 0 ≤ o j ∧ o j < N) → isMk x (tkn o h) → hmS K t N B → okB B → (0 ≤ m ∧ m ≤ h) → ∃ K' : Nat → Nat → Int, lp (bX0_place n) D (t, a, (h : Int), x, toK (ld G a) R o h, m) (wi μ K) = some ((), wi μ K') ∧ hmF G K' t ∧ (∀ j : Nat, j < h → K' (t + 2) j = o j) ∧ hmS K' t N (hF (ld G a) R N d h o m B) ∧ okB (hF (ld G a) R N d h o m B) := by
  intro d
  induction d with
  | zero =>
    intro D h K o m x B hD e hF' ho hx hB okb hm
    obtain ⟨D, rfl⟩ : ∃ D' : Nat, D = D' + 1 := ⟨D - 1, by omega⟩
    have eh : h = N := by omega
    subst eh
    show ∃ K' : Nat → Nat → Int, bX0_place n (lp (bX0_place n) D) (t, a, (h : Int), x, toK (ld G a) R o h, m) (wi μ K) = some ((), wi μ K') ∧ _
    have tr := toK_rg (l := ld G a) hR o h (by omega)
    have k5 : K t 5 = (h : Int) := by rw [hF'.2 5 (by decide)]; exact h5
    obtain ⟨⟨b1, b2⟩, b3, b4⟩ := okb
    have e0 : K t 0 = B.1 := hB.1
    have e1 : K t 1 = B.2.1 := hB.2.1
    unfold bX0_place
    dsimp only
    by_cases cb : btr (toK (ld G a) R o h) m B
    · have hf : hF (ld G a) R h 0 h o m B = (toK (ld G a) R o h, m, o) := if_pos cb
      rw [hf]
      have cp := e_cpI (μ := μ) (I := up2 (up2 K t 0 (toK (ld G a) R o h)) t 1 m) (t := 0) hT.2.2.2.2.2.1 hT.2.2.2.2.1 (i := 0) (j := 0) (n := 7) (by omega) (by omega) (by omega) (by omega) (by omega) (by omega) (by omega)
      have fin : ∃ K' : Nat → Nat → Int, ((gI (wi μ K) 1 t 5).bind fun x30 => if lt32 (h : Int) x30 then (none : Option (Unit × Mem)) else (pI (wi μ K) 1 t 0 (toK (ld G a) R o h)).bind fun μ39 => (pI μ39 1 t 1 m).bind fun μ45 => (gA μ45 1 t 3).bind fun x49 => (gA μ45 1 t 2).bind fun x54 => (cpI μ45 0 x49 0 x54 0 7).bind fun μ60 => some ((), μ60)) = some ((), wi μ K') ∧ hmF G K' t ∧ (∀ j : Nat, j < h → K' (t + 2) j = o j) ∧ hmS K' t h (toK (ld G a) R o h, m, o) := by
        simp (disch := omega) only [↓i_lt_t, ↓i_lt_f, ↓i_eq_t, ↓i_eq_f, ↓i_bi_t, ↓i_bi_f, ↓i_some, ↓bh_gI hT, k5, ↓bh_pI hT, ↓bh_g3 hT, ↓bh_g2 hT, ↓bnd cp]
        refine ⟨_, rfl, ⟨fun b n0 n1 n2 => ?_, fun j hj => ?_⟩, fun j hj => ?_, ?_, ?_, fun j hj => ?_⟩
        · unfold up1
          rw [if_neg n1, up2_row n0, up2_row n0, hF'.1 b n0 n1 n2]
        · unfold up1
          rw [if_neg (by omega), up2_n (by omega), up2_n (by omega), hF'.2 j hj]
        · unfold up1
          rw [if_neg (by omega), up2_row (by omega), up2_row (by omega)]
          exact (ho j hj).1
        · unfold up1
          rw [if_neg (by omega), up2_n (by omega), up2_s]
        · unfold up1
          rw [if_neg (by omega), up2_s]
        · unfold up1 va_cpy
          rw [if_pos rfl]
          show (if 0 ≤ j ∧ j < 0 + 7 then _ else _) = o j
          rw [if_pos (by omega), up2_row (by omega), up2_row (by omega)]
          show K (t + 2) (0 + (j - 0)) = o j
          rw [show 0 + (j - 0) = j by omega]
          exact (ho j hj).1
      obtain ⟨K', eK, f1, f2, f3⟩ := fin
      refine ⟨K', ?_, f1, f2, f3, ⟨⟨by dsimp only; omega, by dsimp only; omega⟩, by dsimp only; omega, by dsimp only; omega⟩⟩
      rw [← eK]
      unfold btr at cb
      by_cases c2 : toK (ld G a) R o h = B.1
      · simp (disch := omega) only [jn, ↓i_lt_t, ↓i_lt_f, ↓i_eq_t, ↓i_eq_f, ↓i_bi_t, ↓i_bi_f, ↓i_some, ↓bh_gI hT, e0, e1, k5]
      · simp (disch := omega) only [jn, ↓i_lt_t, ↓i_lt_f, ↓i_eq_t, ↓i_eq_f, ↓i_bi_t, ↓i_bi_f, ↓i_some, ↓bh_gI hT, e0, e1, k5]
    · have hf : hF (ld G a) R h 0 h o m B = B := if_neg cb
      rw [hf]
      refine ⟨K, ?_, hF', fun j hj => (ho j hj).1, hB, ⟨b1, b2⟩, b3, b4⟩
      unfold btr at cb
      by_cases c2 : B.1 < toK (ld G a) R o h
      · simp (disch := omega) only [↓i_lt_t, ↓i_lt_f, ↓i_eq_t, ↓i_eq_f, ↓i_bi_t, ↓i_bi_f, ↓i_some, ↓bh_gI hT, e0]
      · simp (disch := omega) only [jn, ↓i_lt_t, ↓i_lt_f, ↓i_eq_t, ↓i_eq_f, ↓i_bi_t, ↓i_bi_f, ↓i_some, ↓bh_gI hT, e0, e1]
  | succ d ih =>
    intro D h K o m x B hD e hF' ho hx hB okb hm
    obtain ⟨D, rfl⟩ : ∃ D' : Nat, D = D' + 1 := ⟨D - 1, by omega⟩
    show ∃ K' : Nat → Nat → Int, bX0_place n (lp (bX0_place n) D) (t, a, (h : Int), x, toK (ld G a) R o h, m) (wi μ K) = some ((), wi μ K') ∧ _
    have tr := toK_rg (l := ld G a) hR o h (by omega)
    have k5 : ∀ K : Nat → Nat → Int, hmF G K t → K t 5 = (N : Int) := fun K hK => by rw [hK.2 5 (by decide)]; exact h5
    have okb' := okb
    obtain ⟨⟨b1, b2⟩, b3, b4⟩ := okb
    have e0 : K t 0 = B.1 := hB.1
    have e1 : K t 1 = B.2.1 := hB.2.1
    have k5K := k5 K hF'
    unfold bX0_place
    dsimp only
    by_cases cb : btr (toK (ld G a) R o h) m B
    · have main : ∃ K' : Nat → Nat → Int, lp (fun nx67 (v67 : Int) (μ67 : Mem) =>
          (gI μ67 1 t 5).bind fun x70 =>
          if lt32 v67 x70 then
            if eq32 (oAnd (oShr x v67) 1) 0 then
              (gA μ67 1 t 3).bind fun x86 =>
              (stI μ67 0 x86 (h : Int) v67).bind fun μ92 =>
              (inv μ92 1 t (mX0_clashWithPlaced n t a (h : Int) μ92)).bind fun p98 =>
              jn (fun (v132 : Int) (μ132 : Mem) =>
              (inv μ132 1 t (lp (bX0_place n) D (t, a, ((h : Int) + 1), (oOr x (oShl 1 v67)), (toK (ld G a) R o h + p98.1), v132) μ132)).bind fun p132 =>
              nx67 (v67 + 1) p132.2) (fun j132 =>
              if eq32 v67 (h : Int) then
                j132 m p98.2
              else
              j132 (m + 1) p98.2)
            else
            nx67 (v67 + 1) μ67
          else
          some ((), μ67)) n 0 (wi μ K) = some ((), wi μ K') ∧ hmF G K' t ∧ (∀ j : Nat, j < h → K' (t + 2) j = o j) ∧ hmS K' t N (hF (ld G a) R N (d + 1) h o m B) ∧ okB (hF (ld G a) R N (d + 1) h o m B) := by
        refine lp_ind (fun e (v : Int) ν => ∃ (K' : Nat → Nat → Int) (w : Nat) (B' : Bs), ν = wi μ K' ∧ v = (w : Int) ∧ w + e = N ∧ hmF G K' t ∧ (∀ j : Nat, j < h → K' (t + 2) j = o j) ∧ hmS K' t N B' ∧ okB B' ∧ itr (fun w B => @ite Bs (tkn o h w) (Classical.propDecidable _) B (hF (ld G a) R N d (h + 1) (upA o h (w : Int)) (if w = h then m else m + 1) B)) w e B' = hF (ld G a) R N (d + 1) h o m B) (fun X => ∃ K' : Nat → Nat → Int, X = some ((), wi μ K') ∧ hmF G K' t ∧ (∀ j : Nat, j < h → K' (t + 2) j = o j) ∧ hmS K' t N (hF (ld G a) R N (d + 1) h o m B) ∧ okB (hF (ld G a) R N (d + 1) h o m B)) (fun e v ν nx hP hnx => ?_) n N _ _ (by omega) ⟨K, 0, B, rfl, rfl, by omega, hF', fun j hj => (ho j hj).1, hB, okb', rfl⟩
        obtain ⟨K1, w, B1, rfl, rfl, h1, f1, o1, s1, okb1, hV⟩ := hP
        have k51 := k5 K1 f1
        cases e with
        | zero =>
          have hV' : B1 = hF (ld G a) R N (d + 1) h o m B := hV
          simp (disch := omega) only [↓i_lt_t, ↓i_lt_f, ↓i_eq_t, ↓i_eq_f, ↓i_bi_t, ↓i_bi_f, ↓i_some, ↓bh_gI hT, k51]
          rw [← hV']
          exact ⟨K1, rfl, f1, o1, s1, okb1⟩
        | succ e =>
          have hV' : itr (fun w B => @ite Bs (tkn o h w) (Classical.propDecidable _) B (hF (ld G a) R N d (h + 1) (upA o h (w : Int)) (if w = h then m else m + 1) B)) (w + 1) e (@ite Bs (tkn o h w) (Classical.propDecidable _) B1 (hF (ld G a) R N d (h + 1) (upA o h (w : Int)) (if w = h then m else m + 1) B1)) = hF (ld G a) R N (d + 1) h o m B := hV
          by_cases ct : tkn o h w
          · rw [if_pos ct] at hV'
            simp (disch := omega) only [↓i_lt_t, ↓i_lt_f, ↓i_eq_t, ↓i_eq_f, ↓i_bi_t, ↓i_bi_f, ↓i_some, ↓bh_gI hT, k51, ↓i_m0_f hx (show w < 31 by omega) ct]
            exact hnx e _ _ (by omega) ⟨K1, w + 1, B1, rfl, rfl, by omega, f1, o1, s1, okb1, hV'⟩
          · rw [if_neg ct] at hV'
            generalize hK2 : up2 K1 (t + 2) h (w : Int) = K2
            have f2 : hmF G K2 t := ⟨fun b n0 n1 n2 => by rw [← hK2, up2_row n2, f1.1 b n0 n1 n2], fun j hj => by rw [← hK2, up2_row (by omega), f1.2 j hj]⟩
            have r2 : ∀ j : Nat, j ≤ h → K2 (t + 2) j = upA o h (w : Int) j := fun j hj => by
              rw [← hK2]
              by_cases ej : j = h
              · rw [ej, up2_s, upA_s]
              · rw [up2_n (by omega), upA_n ej, o1 j (by omega)]
            have s2 : hmS K2 t N B1 := ⟨by rw [← hK2, up2_row (by omega)]; exact s1.1, by rw [← hK2, up2_row (by omega)]; exact s1.2.1, fun j hj => by rw [← hK2, up2_row (by omega)]; exact s1.2.2 j hj⟩
            have eL : ∀ k : Nat, k ≤ 12 → ld K2 a k = ld G a k := fun k hk => f2.1 _ (by omega) (by omega) (by omega)
            have c2 : cmP (ld K2 a) K2 t N R := fun x y hx hy => by
              rw [f2.1 (t + 4 + x) (by omega) (by omega) (by omega), hC x y hx hy]
              unfold cmN rb1 rbw
              rw [eL 9 (by decide), eL 10 (by decide)]
            have cl := clashWith_eq (n := n) (J := K2) (h := h) (R := R) (N := N) hL hT (hk.cg eL) (by rw [eL 0 (by decide)]; exact hN) hN7 hR c2 (by omega) (fun j hj => by
              rw [r2 j hj]
              by_cases ej : j = h
              · rw [ej, upA_s]; omega
              · rw [upA_n ej]; have := (ho j (by omega)).2; omega) hn
            have ecw : cwK (ld K2 a) R (K2 (t + 2)) h = cwK (ld G a) R (upA o h (w : Int)) h := cwK_cg eL r2
            have eto : toK (ld G a) R o h + cwK (ld G a) R (upA o h (w : Int)) h = toK (ld G a) R (upA o h (w : Int)) (h + 1) := by
              show _ = toK (ld G a) R (upA o h (w : Int)) h + cwK (ld G a) R (upA o h (w : Int)) h
              rw [toK_pre (o := o) (p := upA o h (w : Int)) h (fun j hj => (upA_n (by omega)).symm)]
            rw [ecw] at cl
            have hx2 : isMk (oOr x (oShl 1 (w : Int))) (tkn (upA o h (w : Int)) (h + 1)) := (mk_or hx (mk_1 (k := w) (by omega))).cg (fun k => by
              refine ⟨fun z => ?_, fun ⟨j, g1, g2⟩ => ?_⟩
              · rcases z with ⟨j, g1, g2⟩ | z
                · exact ⟨j, by omega, by rw [upA_n (by omega)]; exact g2⟩
                · exact ⟨h, by omega, by rw [upA_s, z]⟩
              · by_cases ej : j = h
                · subst ej
                  rw [upA_s] at g2
                  exact Or.inr (by omega)
                · rw [upA_n ej] at g2
                  exact Or.inl ⟨j, by omega, g2⟩)
            obtain ⟨K3, e3, f3, o3, s3, okb3⟩ := ih D (h + 1) K2 (upA o h (w : Int)) (if w = h then m else m + 1) (oOr x (oShl 1 (w : Int))) B1 (by omega) (by omega) f2 (fun j hj => ⟨r2 j (by omega), by
              by_cases ej : j = h
              · rw [ej, upA_s]; omega
              · rw [upA_n ej]; have := (ho j (by omega)).2; omega⟩) hx2 s2 okb1 (by split <;> omega)
            rw [show (((h + 1 : Nat)) : Int) = (h : Int) + 1 from rfl, ← eto] at e3
            by_cases ew : w = h
            · rw [if_pos ew] at e3 s3 okb3 hV'
              simp (disch := omega) only [jn, ↓i_lt_t, ↓i_lt_f, ↓i_eq_t, ↓i_eq_f, ↓i_bi_t, ↓i_bi_f, ↓i_some, ↓bh_gI hT, k51, ↓i_m0_t hx (show w < 31 by omega) ct, ↓bh_g3 hT, ↓bh_st2 hT, Int.toNat_natCast, hK2, ↓bh_inv hT, ↓bnd cl, ↓bnd e3]
              exact hnx e _ _ (by omega) ⟨K3, w + 1, _, rfl, rfl, by omega, f3, fun j hj => by rw [o3 j (by omega), upA_n (by omega)], s3, okb3, hV'⟩
            · rw [if_neg ew] at e3 s3 okb3 hV'
              simp (disch := omega) only [jn, ↓i_lt_t, ↓i_lt_f, ↓i_eq_t, ↓i_eq_f, ↓i_bi_t, ↓i_bi_f, ↓i_some, ↓bh_gI hT, k51, ↓i_m0_t hx (show w < 31 by omega) ct, ↓bh_g3 hT, ↓bh_st2 hT, Int.toNat_natCast, hK2, ↓bh_inv hT, ↓bnd cl, ↓bnd e3]
              exact hnx e _ _ (by omega) ⟨K3, w + 1, _, rfl, rfl, by omega, f3, fun j hj => by rw [o3 j (by omega), upA_n (by omega)], s3, okb3, hV'⟩
      obtain ⟨K', eK, rest⟩ := main
      refine ⟨K', ?_, rest⟩
      rw [← eK]
      unfold btr at cb
      rw [bh_gI hT, e0, i_lt_f (by omega), bh_gI hT, e0]
      simp only [jn]
      by_cases c2 : toK (ld G a) R o h = B.1
      · rw [i_eq_t c2, bh_gI hT, e1, i_lt_t (by omega), bh_gI hT, k5K, i_lt_t (by omega)]
        rfl
      · rw [i_eq_f (by omega), bh_gI hT, k5K, i_lt_t (by omega)]
        rfl
    · rw [hF_prune hR (d + 1) h o m B e cb]
      refine ⟨K, ?_, hF', fun j hj => (ho j hj).1, hB, okb'⟩
      unfold btr at cb
      by_cases c2 : B.1 < toK (ld G a) R o h
      · simp (disch := omega) only [↓i_lt_t, ↓i_lt_f, ↓i_eq_t, ↓i_eq_f, ↓i_bi_t, ↓i_bi_f, ↓i_some, ↓bh_gI hT, e0]
      · simp (disch := omega) only [jn, ↓i_lt_t, ↓i_lt_f, ↓i_eq_t, ↓i_eq_f, ↓i_bi_t, ↓i_bi_f, ↓i_some, ↓bh_gI hT, e0, e1]
end HP
