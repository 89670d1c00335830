/-! the class's tape: a token -/
section AD
variable {μ : Mem} {I J : Nat → Nat → Int} {t n z : Nat} {P : Nat → Int} {β : Type}
theorem bP_gI (h : isTp μ t) {k : Nat} {f : Int → Option β} : (gI (wi μ J) 9 t k).bind f = f (J t k) := bnd (e_gI h.k) f
theorem bP_pI (h : isTp μ t) {k : Nat} {x : Int} {f : Mem → Option β} : (pI (wi μ J) 9 t k x).bind f = f (wi μ (up2 J t k x)) := bnd (e_pI h.k) f
theorem bP_ld (h : isTp μ t) {i : Int} (h0 : 0 ≤ i) (h1 : i < 900) {f : Int → Option β} : (ldI (wi μ J) 1 (t + 1) i).bind f = f (J (t + 1) i.toNat) := bnd (e_ldI (L := 900) h.2.2 h0 (by omega) (by omega)) f
/-- the bytes -/
def bts (P : Nat → Int) : Nat → Int := fun i => P i % 256
theorem bts_rg (P : Nat → Int) (i : Nat) : 0 ≤ bts P i ∧ bts P i < 256 := by unfold bts; omega
def sgn (P : Nat → Int) (z i : Nat) : Int := if i < z then bts P i else -1
/-- the tape as it is read: how many bytes, and which -/
def tpO (J : Nat → Nat → Int) (t z : Nat) (P : Nat → Int) : Prop := J t 4 = (z : Int) ∧ z ≤ 900 ∧ J (t + 1) = P ∧ ∀ i : Nat, i < 900 → -128 ≤ P i ∧ P i < 128
theorem byteAt_w (h : isTp μ t) (hO : tpO J t z P) {i : Nat} (hi : i < 2000) {f : Int × Mem → Option β} : (mX8_byteAt n t (i : Int) (wi μ J)).bind f = f (sgn P z i, wi μ J) := by
  obtain ⟨h4, hz, hP, hb⟩ := hO
  unfold mX8_byteAt sgn
  by_cases c : i < z
  · have g := hb i (by omega)
    rw [i_lt_f (by omega), bP_gI h, h4, i_lt_t (by omega), bT_g3 h, bP_ld h (by omega) (by omega), Int.toNat_natCast, hP, if_pos c, oAnd_255 (by omega) (by omega)]
    rfl
  · rw [i_lt_f (by omega), bP_gI h, h4, i_lt_f (by omega), if_neg c]
    rfl
theorem isBlank_w {ν : Mem} {x : Int} (hx : -1 ≤ x ∧ x < 256) {f : Int × Mem → Option β} : (mX8_isBlank n x ν).bind f = f (bi (blk x), ν) := by
  unfold mX8_isBlank
  by_cases c1 : x = 10
  · rw [i_eq_t c1, bi_t (Or.inl c1)]; rfl
  · by_cases c2 : x = 32
    · rw [i_eq_f (by omega), i_eq_t c2, bi_t (Or.inr c2)]; rfl
    · rw [i_eq_f (by omega), i_eq_f (by omega), bi_f (by omega)]; rfl
theorem isLetter_w {ν : Mem} {x : Int} (hx : -1 ≤ x ∧ x < 256) {f : Int × Mem → Option β} : (mX8_isLetter n x ν).bind f = f (bi (ltr x), ν) := by
  unfold mX8_isLetter
  by_cases c1 : x < 97
  · rw [i_lt_t (by omega), bi_f (by omega)]; rfl
  · by_cases c2 : 122 < x
    · rw [i_lt_f (by omega), i_lt_t (by omega), bi_f (by omega)]; rfl
    · rw [i_lt_f (by omega), i_lt_f (by omega), bi_t (by omega)]; rfl
theorem isDigit_w {ν : Mem} {x : Int} (hx : -1 ≤ x ∧ x < 256) {f : Int × Mem → Option β} : (mX8_isDigit n x ν).bind f = f (bi (dgt x), ν) := by
  unfold mX8_isDigit
  by_cases c1 : x < 48
  · rw [i_lt_t (by omega), bi_f (by omega)]; rfl
  · by_cases c2 : 57 < x
    · rw [i_lt_f (by omega), i_lt_t (by omega), bi_f (by omega)]; rfl
    · rw [i_lt_f (by omega), i_lt_f (by omega), bi_t (by omega)]; rfl
theorem sgn_rg (P : Nat → Int) (z i : Nat) : -1 ≤ sgn P z i ∧ sgn P z i < 256 := by
  have := bts_rg P i
  unfold sgn
  split <;> omega
theorem sgn_t {P : Nat → Int} {z i : Nat} (h : i < z) : sgn P z i = bts P i := if_pos h
theorem tpO.up {k : Nat} {x : Int} (hO : tpO J t z P) (hk : k ≠ 4) : tpO (up2 J t k x) t z P := ⟨by rw [up2_n (by omega)]; exact hO.1, hO.2.1, by rw [up2_row (by omega)]; exact hO.2.2.1, hO.2.2.2⟩
/-- only the tape's own fields of the token have changed -/
def tpF (J K : Nat → Nat → Int) (t : Nat) : Prop := (∀ b : Nat, b ≠ t → K b = J b) ∧ ∀ j : Nat, j ≠ 5 → j ≠ 6 → j ≠ 7 → j ≠ 8 → K t j = J t j
theorem tpF.rf (J : Nat → Nat → Int) (t : Nat) : tpF J J t := ⟨fun _ _ => rfl, fun _ _ _ _ _ => rfl⟩
theorem tpF.tr {J K L : Nat → Nat → Int} (h1 : tpF J K t) (h2 : tpF K L t) : tpF J L t := ⟨fun b hb => (h2.1 b hb).trans (h1.1 b hb), fun j a b c d => (h2.2 j a b c d).trans (h1.2 j a b c d)⟩
theorem tpF.up (J : Nat → Nat → Int) {k : Nat} {x : Int} (hk : k = 5 ∨ k = 6 ∨ k = 7 ∨ k = 8) : tpF J (up2 J t k x) t := ⟨fun b hb => up2_row hb, fun j a b c d => up2_n (by omega)⟩
theorem tpF.o {J K : Nat → Nat → Int} (h : tpF J K t) (hO : tpO J t z P) : tpO K t z P := ⟨(h.2 4 (by decide) (by decide) (by decide) (by decide)).trans hO.1, hO.2.1, (h.1 (t + 1) (by omega)).trans hO.2.2.1, hO.2.2.2⟩
theorem takeLetters_eq (h : isTp μ t) (hO : tpO J t z P) {q : Nat} (hq : J t 7 = (q : Int)) (hqz : q ≤ z) (hn : 20000 ≤ n) : ∃ K : Nat → Nat → Int, mX8_takeLetters n t (wi μ J) = some ((), wi μ K) ∧ tpF J K t ∧ K t 5 = 1 ∧ K t 6 = J t 6 ∧ K t 7 = ((scn ltr (bts P) z (z - q) q : Nat) : Int) := by
  have hz9 := hO.2.1
  unfold mX8_takeLetters
  rw [bP_pI h]
  refine lp_ind (fun d (_ : Unit) ν => ∃ (K : Nat → Nat → Int) (w : Nat), ν = wi μ K ∧ w + d = z ∧ tpF J K t ∧ K t 5 = 1 ∧ K t 6 = J t 6 ∧ K t 7 = (w : Int) ∧ scn ltr (bts P) z (z - w) w = scn ltr (bts P) z (z - q) q) (fun X => ∃ K : Nat → Nat → Int, X = some ((), wi μ K) ∧ tpF J K t ∧ K t 5 = 1 ∧ K t 6 = J t 6 ∧ K t 7 = ((scn ltr (bts P) z (z - q) q : Nat) : Int)) (fun d v ν nx hP hnx => ?_) n (z - q) _ _ (by omega) ⟨_, q, rfl, by omega, tpF.up J (Or.inl rfl), up2_s, up2_n (by omega), by rw [up2_n (by omega)]; exact hq, rfl⟩
  obtain ⟨K, w, rfl, h1, fK, k5, k6, k7, hV⟩ := hP
  have hOK := fK.o hO
  rw [bP_gI h, k7, bP_gI h, hOK.1]
  cases d with
  | zero =>
    rw [i_lt_f (by omega)]
    rw [scn_f (by omega)] at hV
    exact ⟨K, rfl, fK, k5, k6, by rw [k7, hV]⟩
  | succ d =>
    have sr := sgn_rg P z w
    have st := sgn_t (P := P) (show w < z by omega)
    rw [i_lt_t (by omega), bP_gI h, k7, bT_inv h, byteAt_w h hOK (by omega)]
    dsimp only
    rw [isLetter_w sr, st]
    dsimp only
    by_cases c : ltr (bts P w)
    · rw [i_bi_t c, bP_gI h, k7, bP_pI h]
      rw [scn_t (by omega) c] at hV
      exact hnx d _ _ (by omega) ⟨_, w + 1, rfl, by omega, fK.tr (tpF.up K (by omega)), by rw [up2_n (by omega)]; exact k5, by rw [up2_n (by omega)]; exact k6, by rw [up2_s]; rfl, hV⟩
    · rw [i_bi_f c]
      rw [scn_f (fun z => c z.2)] at hV
      exact ⟨K, rfl, fK, k5, k6, by rw [k7, hV]⟩
theorem takeDigits_eq (h : isTp μ t) (hO : tpO J t z P) {s : Nat} (h6 : J t 6 = (s : Int)) (h7 : J t 7 = (s : Int)) (hsz : s ≤ z) (hn : 20000 ≤ n) : ∃ K : Nat → Nat → Int, mX8_takeDigits n t (wi μ J) = some ((), wi μ K) ∧ tpF J K t ∧ K t 5 = (if 4 < scn dgt (bts P) z (z - s) s - s then 4 else 2) ∧ K t 6 = (s : Int) ∧ K t 7 = ((scn dgt (bts P) z (z - s) s : Nat) : Int) ∧ K t 8 = dgs (bts P) z s (z - s) s 0 := by
  have hz9 := hO.2.1
  have fin : ∀ (K : Nat → Nat → Int) (w : Nat), tpF J K t → K t 6 = (s : Int) → K t 7 = (w : Int) → s ≤ w → w ≤ z → w = scn dgt (bts P) z (z - s) s → K t 8 = dgs (bts P) z s (z - s) s 0 → ∃ K' : Nat → Nat → Int, ((gI (wi μ K) 9 t 7).bind fun x81 => (gI (wi μ K) 9 t 6).bind fun x85 => if lt32 4 (x81 - x85) then (pI (wi μ K) 9 t 5 4).bind fun μ98 => some ((), μ98) else (pI (wi μ K) 9 t 5 2).bind fun μ98 => some ((), μ98)) = some ((), wi μ K') ∧ tpF J K' t ∧ K' t 5 = (if 4 < scn dgt (bts P) z (z - s) s - s then 4 else 2) ∧ K' t 6 = (s : Int) ∧ K' t 7 = ((scn dgt (bts P) z (z - s) s : Nat) : Int) ∧ K' t 8 = dgs (bts P) z s (z - s) s 0 := by
    intro K w fK k6 k7 hsw hwz ew k8
    rw [bP_gI h, k7, bP_gI h, k6, ← ew]
    by_cases c : 4 < w - s
    · rw [i_lt_t (by omega), bP_pI h, if_pos c]
      exact ⟨_, rfl, fK.tr (tpF.up K (by omega)), up2_s, by rw [up2_n (by omega)]; exact k6, by rw [up2_n (by omega)]; exact k7, by rw [up2_n (by omega)]; exact k8⟩
    · rw [i_lt_f (by omega), bP_pI h, if_neg c]
      exact ⟨_, rfl, fK.tr (tpF.up K (by omega)), up2_s, by rw [up2_n (by omega)]; exact k6, by rw [up2_n (by omega)]; exact k7, by rw [up2_n (by omega)]; exact k8⟩
  unfold mX8_takeDigits
  rw [bP_pI h]
  refine lp_ind (fun d (_ : Unit) ν => ∃ (K : Nat → Nat → Int) (w : Nat) (v : Int), ν = wi μ K ∧ w + d = z ∧ s ≤ w ∧ tpF J K t ∧ K t 6 = (s : Int) ∧ K t 7 = (w : Int) ∧ K t 8 = v ∧ scn dgt (bts P) z (z - w) w = scn dgt (bts P) z (z - s) s ∧ dgs (bts P) z s (z - w) w v = dgs (bts P) z s (z - s) s 0) (fun X => ∃ K : Nat → Nat → Int, X = some ((), wi μ K) ∧ tpF J K t ∧ K t 5 = (if 4 < scn dgt (bts P) z (z - s) s - s then 4 else 2) ∧ K t 6 = (s : Int) ∧ K t 7 = ((scn dgt (bts P) z (z - s) s : Nat) : Int) ∧ K t 8 = dgs (bts P) z s (z - s) s 0) (fun d u ν nx hP hnx => ?_) n (z - s) _ _ (by omega) ⟨_, s, 0, rfl, by omega, Nat.le_refl _, tpF.up J (by omega), by rw [up2_n (by omega)]; exact h6, by rw [up2_n (by omega)]; exact h7, up2_s, rfl, rfl⟩
  obtain ⟨K, w, v, rfl, h1, hsw, fK, k6, k7, k8, hV, hD⟩ := hP
  have hOK := fK.o hO
  simp only [jn]
  rw [bP_gI h, k7, bP_gI h, hOK.1]
  cases d with
  | zero =>
    rw [scn_f (by omega)] at hV
    rw [dgs_f (by omega)] at hD
    rw [i_lt_f (by omega)]
    exact fin K w fK k6 k7 hsw (by omega) hV (by rw [k8, hD])
  | succ d =>
    have sr := sgn_rg P z w
    have st := sgn_t (P := P) (show w < z by omega)
    rw [i_lt_t (by omega), bP_gI h, k7, bT_inv h, byteAt_w h hOK (by omega)]
    dsimp only
    rw [isDigit_w sr, st]
    dsimp only
    by_cases c : dgt (bts P w)
    · rw [scn_t (by omega) c] at hV
      rw [dgs_t (by omega) c] at hD
      rw [i_bi_t c, bP_gI h, k7, bP_gI h, k6]
      by_cases c4 : w - s < 4
      · rw [if_pos c4] at hD
        rw [i_lt_t (by omega), bP_gI h, k8, bP_gI h, k7, bT_inv h, byteAt_w h hOK (by omega), st]
        dsimp only
        have u7 : up2 K t 8 (10 * v + bts P w - 48) t 7 = (w : Int) := by rw [up2_n (by omega)]; exact k7
        rw [bP_pI h, bP_gI h, u7, bP_pI h]
        exact hnx d _ _ (by omega) ⟨_, w + 1, 10 * v + bts P w - 48, rfl, by omega, by omega, fK.tr ((tpF.up K (by omega)).tr (tpF.up _ (by omega))), by rw [up2_n (by omega), up2_n (by omega)]; exact k6, by rw [up2_s]; rfl, by rw [up2_n (by omega), up2_s], hV, hD⟩
      · rw [if_neg c4] at hD
        rw [i_lt_f (by omega), bP_gI h, k7, bP_pI h]
        exact hnx d _ _ (by omega) ⟨_, w + 1, v, rfl, by omega, by omega, fK.tr (tpF.up K (by omega)), by rw [up2_n (by omega)]; exact k6, by rw [up2_s]; rfl, by rw [up2_n (by omega)]; exact k8, hV, hD⟩
    · rw [scn_f (fun z => c z.2)] at hV
      rw [dgs_f (fun z => c z.2)] at hD
      rw [i_bi_f c]
      exact fin K w fK k6 k7 hsw (by omega) hV (by rw [k8, hD])
/-- the class stands at a token -/
def tkC (J : Nat → Nat → Int) (t z : Nat) (P : Nat → Int) (p : Nat) : Prop := J t 5 = ck (tK (bts P) z p) ∧ J t 6 = ((tS (bts P) z p : Nat) : Int) ∧ J t 7 = ((tE (bts P) z p : Nat) : Int) ∧ (tK (bts P) z p = 11 → J t 8 = tV (bts P) z p)
theorem advance_eq (h : isTp μ t) (hO : tpO J t z P) {p : Nat} (h7 : J t 7 = (p : Int)) (hp : p ≤ z) (hn : 20000 ≤ n) : ∃ K : Nat → Nat → Int, mX8_advance n t (wi μ J) = some ((), wi μ K) ∧ tpF J K t ∧ tkC K t z P p := by
  have hz9 := hO.2.1
  unfold mX8_advance
  rw [bP_gI h, h7, bP_pI h]
  -- behind the blanks
  have fin : ∀ K : Nat → Nat → Int, tpF J K t → K t 6 = ((tS (bts P) z p : Nat) : Int) → ∃ K' : Nat → Nat → Int, ((gI (wi μ K) 9 t 6).bind fun x48 =>
      (pI (wi μ K) 9 t 7 x48).bind fun μ51 =>
      (gI μ51 9 t 6).bind fun x55 =>
      (gI μ51 9 t 4).bind fun x59 =>
      if lt32 x55 x59 then
        (gI μ51 9 t 6).bind fun x75 =>
        (inv μ51 9 t (mX8_byteAt n t x75 μ51)).bind fun p78 =>
        (mX8_isLetter n p78.1 p78.2).bind fun p81 =>
        if eq32 p81.1 0 then
          (gI p81.2 9 t 6).bind fun x96 =>
          (inv p81.2 9 t (mX8_byteAt n t x96 p81.2)).bind fun p99 =>
          (mX8_isDigit n p99.1 p99.2).bind fun p102 =>
          if eq32 p102.1 0 then
            (gI p102.2 9 t 6).bind fun x118 =>
            (inv p102.2 9 t (mX8_byteAt n t x118 p102.2)).bind fun p121 =>
            if eq32 p121.1 59 then
              (pI p121.2 9 t 5 3).bind fun μ134 =>
              (gI μ134 9 t 6).bind fun x139 =>
              (pI μ134 9 t 7 (x139 + 1)).bind fun μ144 =>
              some ((), μ144)
            else
              (pI p121.2 9 t 5 4).bind fun μ134 =>
              (gI μ134 9 t 6).bind fun x139 =>
              (pI μ134 9 t 7 (x139 + 1)).bind fun μ144 =>
              some ((), μ144)
          else
          (inv p102.2 9 t (mX8_takeDigits n t p102.2)).bind fun p109 =>
          some ((), p109.2)
        else
        (inv p81.2 9 t (mX8_takeLetters n t p81.2)).bind fun p88 =>
        some ((), p88.2)
      else
      (pI μ51 9 t 5 0).bind fun μ67 =>
      some ((), μ67)) = some ((), wi μ K') ∧ tpF J K' t ∧ tkC K' t z P p := by
    intro K fK k6
    have rs := tS_rg (B := bts P) hp
    generalize hs : tS (bts P) z p = s at k6 rs
    have f2 : tpF J (up2 K t 7 (s : Int)) t := fK.tr (tpF.up K (by omega))
    rw [bP_gI h, k6, bP_pI h]
    generalize hK2 : up2 K t 7 (s : Int) = K2 at f2
    have e6 : K2 t 6 = (s : Int) := by rw [← hK2, up2_n (by omega)]; exact k6
    have e7 : K2 t 7 = (s : Int) := by rw [← hK2, up2_s]
    have hO2 := f2.o hO
    rw [bP_gI h, e6, bP_gI h, hO2.1]
    by_cases c : s < z
    · have sr := sgn_rg P z s
      have st := sgn_t (P := P) c
      rw [i_lt_t (by omega), bP_gI h, e6, bT_inv h, byteAt_w h hO2 (by omega)]
      dsimp only
      rw [isLetter_w sr, st]
      dsimp only
      by_cases c2 : ltr (bts P s)
      · obtain ⟨K3, e3, f3, q5, q6, q7⟩ := takeLetters_eq (n := n) h hO2 e7 (by omega) hn
        have eE : tE (bts P) z p = scn ltr (bts P) z (z - s) s := by unfold tE; rw [hs, if_pos c, if_pos c2]
        have eK : tK (bts P) z p = kwF (bts P) s (tE (bts P) z p) 0 10 := by unfold tK; rw [hs, if_pos c, if_pos c2]
        have kl := kwF_le (B := bts P) (s := s) (e := tE (bts P) z p) 10 0
        rw [i_bi_t c2, bT_inv h, bnd e3]
        refine ⟨K3, rfl, f2.tr f3, ?_, ?_, ?_, fun z => ?_⟩
        · rw [q5]
          unfold ck
          rw [if_neg (by omega), if_pos (by omega)]
        · rw [q6, e6, hs]
        · rw [q7, eE]
        · omega
      · rw [i_bi_f c2, bP_gI h, e6, bT_inv h, byteAt_w h hO2 (by omega)]
        dsimp only
        rw [isDigit_w sr, st]
        dsimp only
        by_cases c3 : dgt (bts P s)
        · obtain ⟨K3, e3, f3, q5, q6, q7, q8⟩ := takeDigits_eq (n := n) h hO2 e6 e7 (by omega) hn
          have eE : tE (bts P) z p = scn dgt (bts P) z (z - s) s := by unfold tE; rw [hs, if_pos c, if_neg c2, if_pos c3]
          have eK : tK (bts P) z p = if 4 < tE (bts P) z p - s then 14 else 11 := by unfold tK; rw [hs, if_pos c, if_neg c2, if_pos c3]
          rw [i_bi_t c3, bT_inv h, bnd e3]
          refine ⟨K3, rfl, f2.tr f3, ?_, ?_, ?_, fun _ => ?_⟩
          · rw [q5, eK, eE]
            split <;> rfl
          · rw [q6, hs]
          · rw [q7, eE]
          · rw [q8]
            unfold tV
            rw [hs]
        · have eE : tE (bts P) z p = s + 1 := by unfold tE; rw [hs, if_pos c, if_neg c2, if_neg c3]
          have eK : tK (bts P) z p = if bts P s = 59 then 12 else 14 := by unfold tK; rw [hs, if_pos c, if_neg c2, if_neg c3]
          have br := bts_rg P s
          rw [i_bi_f c3, bP_gI h, e6, bT_inv h, byteAt_w h hO2 (by omega), st]
          dsimp only
          by_cases c4 : bts P s = 59
          · have u6 : up2 K2 t 5 3 t 6 = (s : Int) := by rw [up2_n (by omega)]; exact e6
            rw [i_eq_t c4, bP_pI h, bP_gI h, u6, bP_pI h]
            rw [if_pos c4] at eK
            refine ⟨_, rfl, f2.tr ((tpF.up K2 (by omega)).tr (tpF.up _ (by omega))), ?_, ?_, ?_, fun z => by omega⟩
            · rw [up2_n (by omega), up2_s, eK]; rfl
            · rw [up2_n (by omega), up2_n (by omega), e6, hs]
            · rw [up2_s, eE]; rfl
          · have u6 : up2 K2 t 5 4 t 6 = (s : Int) := by rw [up2_n (by omega)]; exact e6
            rw [i_eq_f (by omega), bP_pI h, bP_gI h, u6, bP_pI h]
            rw [if_neg c4] at eK
            refine ⟨_, rfl, f2.tr ((tpF.up K2 (by omega)).tr (tpF.up _ (by omega))), ?_, ?_, ?_, fun z => by omega⟩
            · rw [up2_n (by omega), up2_s, eK]; rfl
            · rw [up2_n (by omega), up2_n (by omega), e6, hs]
            · rw [up2_s, eE]; rfl
    · have eE : tE (bts P) z p = s := by unfold tE; rw [hs, if_neg c]
      have eK : tK (bts P) z p = 13 := by unfold tK; rw [hs, if_neg c]
      rw [i_lt_f (by omega), bP_pI h]
      refine ⟨_, rfl, f2.tr (tpF.up K2 (by omega)), ?_, ?_, ?_, fun z => by omega⟩
      · rw [up2_s, eK]; rfl
      · rw [up2_n (by omega), e6, hs]
      · rw [up2_n (by omega), e7, eE]
  refine lp_ind (fun d (_ : Unit) ν => ∃ (K : Nat → Nat → Int) (w : Nat), ν = wi μ K ∧ w + d = z ∧ tpF J K t ∧ K t 6 = (w : Int) ∧ scn blk (bts P) z (z - w) w = tS (bts P) z p) (fun X => ∃ K : Nat → Nat → Int, X = some ((), wi μ K) ∧ tpF J K t ∧ tkC K t z P p) (fun d u ν nx hP hnx => ?_) n (z - p) _ _ (by omega) ⟨_, p, rfl, by omega, tpF.up J (by omega), up2_s, rfl⟩
  obtain ⟨K, w, rfl, h1, fK, k6, hV⟩ := hP
  have hOK := fK.o hO
  simp only [jn]
  rw [bP_gI h, k6, bP_gI h, hOK.1]
  cases d with
  | zero =>
    rw [scn_f (by omega)] at hV
    rw [i_lt_f (by omega)]
    exact fin K fK (by rw [k6, hV])
  | succ d =>
    have sr := sgn_rg P z w
    have st := sgn_t (P := P) (show w < z by omega)
    rw [i_lt_t (by omega), bP_gI h, k6, bT_inv h, byteAt_w h hOK (by omega)]
    dsimp only
    rw [isBlank_w sr, st]
    dsimp only
    by_cases c : blk (bts P w)
    · rw [scn_t (by omega) c] at hV
      rw [i_bi_t c, bP_gI h, k6, bP_pI h]
      exact hnx d _ _ (by omega) ⟨_, w + 1, rfl, by omega, fK.tr (tpF.up K (by omega)), by rw [up2_s]; rfl, hV⟩
    · rw [scn_f (fun z => c z.2)] at hV
      rw [i_bi_f c]
      exact fin K fK (by rw [k6, hV])
end AD
