/-! the class's search: all states behind an hour, the loop -/
section SPS
variable {μ : Mem} {J : Nat → Nat → Int} {a c n o H R sk X q nC : Nat} {ro : Nat → Nat} {l L : Ld} {gB G pc : Int} {C10 C11 S0 P0 : Nat → Int} {z0 : Nat} {f0 : Int}
def chC' (l : Ld) (o H : Nat) (ro : Nat → Nat) (C10 C11 : Nat → Int) (nC : Nat) : Prop := nC ≤ 36 ∧ (∀ j : Nat, j < nC → ∃ (p : Nat → Int) (w : Nat), vP l o H ro p ∧ whoB l o ro p w ∧ C10 j = (w : Int) ∧ C11 j = cn p 0 H) ∧ ∀ j k : Nat, j ≤ k → k < nC → C11 j ≤ C11 k
def trI (L : Ld) (o : Nat) (ro : Nat → Nat) (C10 : Nat → Int) (T j : Nat) : Prop := T < 9223372036854775808 ∧ ∀ u : Nat, T.testBit u = true → ∃ (i w : Nat), i < j ∧ C10 i = (w : Int) ∧ ∀ k : Nat, k < o → dbx L (ro k) (u / 4 ^ k % 4) = dbx L (ro k) (w / 4 ^ k % 4)
theorem sp_l (hE : isSe μ a c) (hL : isL μ (c + 3)) (ha : c + 15 < a) (hkl : okL l) (vl : vL l L) (hH : (H : Int) = l 0 0) (hH4 : H ≤ 4) (op : opn l o ro R) (ho : o ≤ 3) (hG : 1 ≤ G ∧ G ≤ 3) (hg : 0 ≤ hd L sk - gB ∧ hd L sk - gB < G) (hsk : sk < H) (hn : 20000 ≤ n) (hX : cdX X (fD o ro L) (fF o ro L) (fS H L) (hd L sk - gB)) (hS : isSS μ q) (hq : q = a + 1 ∨ q = a + 5) (hpc : 0 ≤ pc ∧ pc ≤ 90000) (hC : chC' l o H ro C10 C11 nC) : ∀ (d kk j T z : Nat) (J : Nat → Nat → Int), j + d = nC → d < kk → trI L o ro C10 T j → bhV J a c l L o ro sk G → J a 6 = (nC : Int) → J (a + 10) = C10 → J (a + 11) = C11 → SC J a q z → AdL (evE l L o H ro sk gB G pc C10 C11 j) (evF l L o H ro sk gB G pc C10 C11 j) S0 P0 z0 f0 (J (q + 1)) (J (q + 2)) z (J a 13) → ∃ (K : Nat → Nat → Int) (z1 : Nat), lp (spB n a (X : Int) pc q) kk ((T : Int), (j : Int)) (wi μ J) = some ((), wi μ K) ∧ FS J K a q ∧ SC K a q z1 ∧ AdL (evE l L o H ro sk gB G pc C10 C11 nC) (evF l L o H ro sk gB G pc C10 C11 nC) S0 P0 z0 f0 (K (q + 1)) (K (q + 2)) z1 (K a 13)
  | d, 0, j, T, z, J, h1, h2, hT, hV, h6, h10, h11, hz, hA => absurd h2 (by omega)
  | 0, kk + 1, j, T, z, J, h1, h2, hT, hV, h6, h10, h11, hz, hA => by
    have ej : j = nC := by omega
    subst ej
    refine ⟨J, z, ?_, FS.rf, hz, hA⟩
    have n36 := hC.1
    generalize hB : lp (spB n a (X : Int) pc q) kk = slf
    show spB n a (X : Int) pc q (lp (spB n a (X : Int) pc q) kk) ((T : Int), (j : Int)) (wi μ J) = _
    rw [hB]
    unfold spB
    dsimp only
    rw [bE_gI hE, h6, i_lt_f (by omega)]
  | d + 1, kk + 1, j, T, z, J, h1, h2, hT, hV, h6, h10, h11, hz, hA => by
    have n36 := hC.1
    obtain ⟨p, w, vp, hb, e10, e11⟩ := hC.2.1 j (by omega)
    have w62 := who_62 hkl hH hH4 op ho hb
    obtain ⟨w', el, w'w, hlk⟩ := likeChoice_eq (n := n) (J := J) hE ho hV.1.2.1 hV.2.2.2 hn (w := w) hb.1
    obtain ⟨K, Y, eb, kf, bo⟩ := behindHour_eq (n := n) hE hL ha vl hH hH4 op ho hG hg hsk hn (w := w) (w' := w') (by omega) hb hlk hX hV
    have same : ∀ (p2 : Nat → Int) (w2 : Nat), whoB l o ro p2 w2 → (∀ k : Nat, k < o → dbx L (ro k) (w' / 4 ^ k % 4) = dbx L (ro k) (w2 / 4 ^ k % 4)) → bhO l L p2 o H ro sk gB G Y := fun p2 w2 hb2 hl2 => by
      obtain ⟨K2, Y2, eb2, -, bo2⟩ := behindHour_eq (n := n) hE hL ha vl hH hH4 op ho hG hg hsk hn (w := w2) (w' := w') (by omega) hb2 hl2 hX hV
      rw [eb] at eb2
      have e3 : ((Y : Int), wi μ K) = ((Y2 : Int), wi μ K2) := Option.some.inj eb2
      have e4 : (Y : Int) = (Y2 : Int) := congrArg Prod.fst e3
      have e5 : Y = Y2 := by omega
      rw [e5]
      exact bo2
    have atj : ∀ (p2 : Nat → Int) (w2 : Nat), whoB l o ro p2 w2 → C10 j = (w2 : Int) → bhO l L p2 o H ro sk gB G Y := fun p2 w2 hb2 e => same p2 w2 hb2 (fun k hk => by
      have : w2 = w := by omega
      rw [this]
      exact hlk k hk)
    have cnr := cn_rg p H 0
    have c11 : 0 ≤ C11 j ∧ C11 j ≤ 4 := by rw [e11]; omega
    obtain ⟨t1, t2, t3⟩ := tb63 (T := T) (w := w') hT.1 (by omega)
    have ih := sp_l hE hL ha hkl vl hH hH4 op ho hG hg hsk hn hX hS hq hpc hC d kk (j + 1)
    generalize hB : lp (spB n a (X : Int) pc q) kk = slf at ih
    have pre : spB n a (X : Int) pc q slf ((T : Int), (j : Int)) (wi μ J) = if eq32 (oLcmp (((T / 2 ^ w' % 2 : Nat) : Int)) 0) 0 then spN n a (X : Int) pc q slf ((T : Int), (j : Int)) (w' : Int) (wi μ J) else slf ((T : Int), ((j + 1 : Nat) : Int)) (wi μ J) := by
      unfold spB
      dsimp only
      rw [bE_gI hE, h6, i_lt_t (by omega), bE_g4 hE, bE_ld10 hE (by omega) (by omega), Int.toNat_natCast, h10, e10, bE_inv hE, bnd el]
      dsimp only
      rw [t1]
      rfl
    show ∃ (K : Nat → Nat → Int) (z1 : Nat), spB n a (X : Int) pc q (lp (spB n a (X : Int) pc q) kk) ((T : Int), (j : Int)) (wi μ J) = _ ∧ _
    rw [hB, pre]
    by_cases ct : T / 2 ^ w' % 2 = 1
    · -- one like it was tried
      rw [ct, i_le_f (by decide)]
      obtain ⟨i, wi', i1, i2, i3⟩ := hT.2 w' ((tb_iff T w').mpr ct)
      obtain ⟨pi, wj, vpi, hbi, f10, f11⟩ := hC.2.1 i (by omega)
      have ew : wj = wi' := by omega
      subst ew
      have boi := same pi wj hbi i3
      have so := hC.2.2 i j (by omega) (by omega)
      refine ih T z J (by omega) (by omega) ⟨hT.1, fun u hu => ?_⟩ hV h6 h10 h11 hz (hA.wk ?_ ?_ ?_ ?_)
      · obtain ⟨i', w2, a1, a2⟩ := hT.2 u hu
        exact ⟨i', w2, by omega, a2⟩
      · intro x dd hx
        obtain ⟨i', a1, a2⟩ := hx
        exact ⟨i', by omega, a2⟩
      · intro x dd hx
        obtain ⟨i', a1, p2, w2, a2, a3, a4, a5, a6, a7, a8⟩ := hx
        by_cases ci : i' = j
        · subst ci
          have b2 := atj p2 w2 a3 a4
          have gi : hd (goL pi L).1 sk - gB < G := by
            have x1 := b2.2.1
            have x2 := boi.2.1
            omega
          refine ⟨pc + C11 i, by omega, i, i1, pi, wj, vpi, hbi, f10, f11, gi, ?_, rfl⟩
          rw [a7, ← b2.2.2 a6, boi.2.2 gi]
        · exact ⟨dd, Int.le_refl _, i', by omega, p2, w2, a2, a3, a4, a5, a6, a7, a8⟩
      · intro dd hx
        obtain ⟨i', a1, a2⟩ := hx
        exact ⟨i', by omega, a2⟩
      · intro dd hx
        obtain ⟨i', a1, p2, w2, a2, a3, a4, a5, a6, a8⟩ := hx
        by_cases ci : i' = j
        · subst ci
          have b2 := atj p2 w2 a3 a4
          have gi : ¬ hd (goL pi L).1 sk - gB < G := by
            have x1 := b2.2.1
            have x2 := boi.2.1
            omega
          exact ⟨pc + C11 i, by omega, i, i1, pi, wj, vpi, hbi, f10, f11, gi, rfl⟩
        · exact ⟨dd, Int.le_refl _, i', by omega, p2, w2, a2, a3, a4, a5, a6, a8⟩
    · -- it is new
      have ct0 : T / 2 ^ w' % 2 = 0 := by omega
      rw [ct0, i_le_t (by decide)]
      have hT' : trI L o ro C10 (T ||| 2 ^ w') (j + 1) := by
        refine ⟨t3, fun u hu => ?_⟩
        rcases tb_or.mp hu with hu | hu
        · obtain ⟨i', w2, a1, a2⟩ := hT.2 u hu
          exact ⟨i', w2, by omega, a2⟩
        · subst hu
          exact ⟨j, w, by omega, e10, hlk⟩
      have ka : K a = J a := kf a (by omega)
      have hVK : bhV K a c l L o ro sk G := hV.cg ha kf
      have hzK : SC K a q z := by
        unfold SC SSt
        rw [kf q (by omega), kf (q + 1) (by omega), kf (q + 2) (by omega), kf (q + 3) (by omega), ka]
        exact hz
      have e46 : lUshr (Y : Int) 46 = min (hd (goL p L).1 sk - gB) G := by
        have y1 := bo.1
        have d46 : Y / 2 ^ 46 ≤ Y := Nat.div_le_self _ _
        rw [show (46 : Int) = ((46 : Nat) : Int) from rfl, lUshr_n (by omega) (by decide)]
        exact bo.2.1
      have gn := goL_gn (h := sk) vl.1 p
      have nn0 : 0 ≤ hd (goL p L).1 sk - gB := by omega
      unfold spN
      dsimp only
      rw [bE_g5 hE, bE_ld11 hE (by omega) (by omega), Int.toNat_natCast, h11, bE_inv hE, bnd eb]
      dsimp only
      rw [bE_gI hE, hVK.2.2.1, e46, t2]
      by_cases cg : hd (goL p L).1 sk - gB < G
      · rw [i_lt_t (by omega)]
        obtain ⟨M, z1, em, fm, am, cm, adm⟩ := add_ad (n := n) (d := pc + C11 j) hS hq hzK bo.1 (by omega) hn
        rw [kf (q + 1) (by omega), kf (q + 2) (by omega), ka] at adm
        have fJM : FS J M a q := FS.tr ⟨fun b _ _ _ b4 _ => kf b b4, fun x _ => by rw [ka]⟩ fm
        have ad2 : AdL (evE l L o H ro sk gB G pc C10 C11 (j + 1)) (evF l L o H ro sk gB G pc C10 C11 (j + 1)) S0 P0 z0 f0 (M (q + 1)) (M (q + 2)) z1 (M a 13) := by
          refine (hA.tr adm).iff (fun x dd => ⟨fun hx => ?_, fun hx => ?_⟩) (fun dd => ⟨fun hx => ?_, fun hx => ?_⟩)
          · rcases hx with ⟨i', a1, a2⟩ | ⟨hx, hd'⟩
            · exact ⟨i', by omega, a2⟩
            · exact ⟨j, by omega, p, w, vp, hb, e10, e11, cg, hx.trans (bo.2.2 cg), hd'⟩
          · obtain ⟨i', a1, p2, w2, a2, a3, a4, a5, a6, a7, a8⟩ := hx
            by_cases ci : i' = j
            · subst ci
              have b2 := atj p2 w2 a3 a4
              exact Or.inr ⟨a7.trans (b2.2.2 a6).symm, a8⟩
            · exact Or.inl ⟨i', by omega, p2, w2, a2, a3, a4, a5, a6, a7, a8⟩
          · rcases hx with ⟨i', a1, a2⟩ | hx
            · exact ⟨i', by omega, a2⟩
            · exact hx.elim
          · obtain ⟨i', a1, p2, w2, a2, a3, a4, a5, a6, a8⟩ := hx
            by_cases ci : i' = j
            · subst ci
              have b2 := (atj p2 w2 a3 a4).2.1
              have b1 := bo.2.1
              exact absurd (by omega) a6
            · exact Or.inl ⟨i', by omega, p2, w2, a2, a3, a4, a5, a6, a8⟩
        have fM : ∀ b : Nat, b ≠ a → b ≠ a + 14 → ¬ (q ≤ b ∧ b ≤ q + 3) → M b = K b := fun b b1 b4 b5 => by
          by_cases b2 : b = a + 12
          · subst b2; exact (add_fr em hS hq hzK.1 bo.1 hn) _ (by omega)
          · by_cases b3 : b = a + 13
            · subst b3; exact (add_fr em hS hq hzK.1 bo.1 hn) _ (by omega)
            · exact fm.1 b b1 b2 b3 b4 b5
        obtain ⟨N, z2, en2, fn, cn2, adn⟩ := ih (T ||| 2 ^ w') z1 M (by omega) (by omega) hT' (hVK.fs ha hq fM (fun x _ => by rw [am])) (by rw [am, ka]; exact h6) (by rw [fM (a + 10) (by omega) (by omega) (by omega), kf (a + 10) (by omega)]; exact h10) (by rw [fM (a + 11) (by omega) (by omega) (by omega), kf (a + 11) (by omega)]; exact h11) cm ad2
        refine ⟨N, z2, ?_, fJM.tr fn, cn2, adn⟩
        rw [bS_inv hS, bnd em]
        exact en2
      · rw [i_lt_f (by omega)]
        have hf := hz.2.2
        have set : ∀ g : Int, (-1 ≤ g ∧ g ≤ 100000) → (((J a 13 = -1 ∨ pc + C11 j < J a 13) ∧ g = pc + C11 j) ∨ (J a 13 ≠ -1 ∧ J a 13 ≤ pc + C11 j ∧ g = J a 13)) → ∃ (N : Nat → Nat → Int) (z1 : Nat), slf (((T ||| 2 ^ w' : Nat) : Int), (j : Int) + 1) (wi μ (up2 K a 13 g)) = some ((), wi μ N) ∧ FS J N a q ∧ SC N a q z1 ∧ AdL (evE l L o H ro sk gB G pc C10 C11 nC) (evF l L o H ro sk gB G pc C10 C11 nC) S0 P0 z0 f0 (N (q + 1)) (N (q + 2)) z1 (N a 13) := fun g gr hgg => by
          have ad2 : AdL (evE l L o H ro sk gB G pc C10 C11 (j + 1)) (evF l L o H ro sk gB G pc C10 C11 (j + 1)) S0 P0 z0 f0 (up2 K a 13 g (q + 1)) (up2 K a 13 g (q + 2)) z (up2 K a 13 g a 13) := by
            rw [up2_row (by omega), up2_row (by omega), up2_s, kf (q + 1) (by omega), kf (q + 2) (by omega)]
            refine (hA.tr (AdL.goal (c := pc + C11 j) (by omega) hgg)).iff (fun x dd => ⟨fun hx => ?_, fun hx => ?_⟩) (fun dd => ⟨fun hx => ?_, fun hx => ?_⟩)
            · rcases hx with ⟨i', a1, a2⟩ | hx
              · exact ⟨i', by omega, a2⟩
              · exact hx.elim
            · obtain ⟨i', a1, p2, w2, a2, a3, a4, a5, a6, a7, a8⟩ := hx
              by_cases ci : i' = j
              · subst ci
                have b2 := (atj p2 w2 a3 a4).2.1
                have b1 := bo.2.1
                exact absurd (by omega) cg
              · exact Or.inl ⟨i', by omega, p2, w2, a2, a3, a4, a5, a6, a7, a8⟩
            · rcases hx with ⟨i', a1, a2⟩ | hx
              · exact ⟨i', by omega, a2⟩
              · exact ⟨j, by omega, p, w, vp, hb, e10, e11, cg, hx⟩
            · obtain ⟨i', a1, p2, w2, a2, a3, a4, a5, a6, a8⟩ := hx
              by_cases ci : i' = j
              · subst ci; exact Or.inr a8
              · exact Or.inl ⟨i', by omega, p2, w2, a2, a3, a4, a5, a6, a8⟩
          obtain ⟨N, z2, en2, fn, cn2, adn⟩ := ih (T ||| 2 ^ w') z (up2 K a 13 g) (by omega) (by omega) hT' (hVK.fs ha hq (fun b b1 _ _ => up2_row b1) (fun x hx => up2_n (by omega))) (by rw [up2_n (by omega), ka]; exact h6) (by rw [up2_row (by omega), kf (a + 10) (by omega)]; exact h10) (by rw [up2_row (by omega), kf (a + 11) (by omega)]; exact h11) (by
            unfold SC SSt
            rw [up2_row (by omega), up2_row (by omega), up2_row (by omega), up2_row (by omega), up2_s]
            exact ⟨hzK.1, hzK.2.1, gr⟩) ad2
          exact ⟨N, z2, en2, FS.tr ⟨fun b b1 _ _ b4 _ => by rw [up2_row b1, kf b b4], fun x hx => by rw [up2_n (by omega), ka]⟩ fn, cn2, adn⟩
        rw [bE_gI hE, ka]
        by_cases c1 : J a 13 = -1
        · rw [i_eq_t c1, bE_pI hE]
          exact set _ (by omega) (Or.inl ⟨Or.inl c1, rfl⟩)
        · rw [i_eq_f (by omega), bE_gI hE, ka]
          by_cases c2 : pc + C11 j < J a 13
          · rw [i_lt_t (by omega), bE_pI hE]
            exact set _ (by omega) (Or.inl ⟨Or.inr c2, rfl⟩)
          · rw [i_lt_f (by omega)]
            have st := set (J a 13) (by omega) (Or.inr ⟨c1, by omega, rfl⟩)
            rw [← ka, up2_self] at st
            exact st
end SPS
