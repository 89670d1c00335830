/-! the reference: a state told as a code, and laid out of one -/
def sth (m : Nat) (b1 b2 : Int) : (Int × Int → Mem → Option (Int × Mem)) → Int × Int → Mem → Option (Int × Mem) := fun nx86 v86 μ86 => (gA μ86 12 m 1).bind fun x89 => (ldI μ86 0 x89 0).bind fun x93 => if lt32 v86.2 x93 then (gA μ86 12 m 1).bind fun x103 => (ldI μ86 0 x103 (26 + v86.2)).bind fun x111 => nx86 (((128 * v86.1) + (oI2l x111)), (v86.2 + 1)) μ86 else (gA μ86 12 m 1).bind fun x127 => (ldI μ86 0 x127 (46 + b1)).bind fun x134 => some ((((4 * v86.1) + (oI2l x134)) - (oI2l b2)), μ86)
def str (n m : Nat) (b1 b2 : Int) : (Int × Int → Mem → Option (Int × Mem)) → Int × Int → Mem → Option (Int × Mem) := fun nx5 v5 μ5 => (gI μ5 12 m 27).bind fun x8 => if lt32 v5.2 x8 then (gA μ5 12 m 1).bind fun x21 => (gA μ5 12 m 25).bind fun x27 => (ldI μ5 0 x27 v5.2).bind fun x32 => (ldI μ5 0 x21 (124 + x32)).bind fun x34 => (gA μ5 12 m 1).bind fun x40 => (gA μ5 12 m 25).bind fun x47 => (ldI μ5 0 x47 v5.2).bind fun x52 => (ldI μ5 0 x40 (172 + x52)).bind fun x54 => (gA μ5 12 m 1).bind fun x59 => (gA μ5 12 m 25).bind fun x66 => (ldI μ5 0 x66 v5.2).bind fun x71 => (ldI μ5 0 x59 (188 + x71)).bind fun x73 => nx5 (((((64 * v5.1) + (oI2l (4 * x34))) + (oI2l (2 * x54))) + (oI2l x73)), (v5.2 + 1)) μ5 else lp (sth m b1 b2) n (v5.1, 0) μ5
theorem state_s {n m : Nat} {b1 b2 : Int} (μ : Mem) : mX11_state n m b1 b2 μ = lp (str n m b1 b2) n (0, 0) μ := rfl
/-- the open ropes, as the reference has them listed -/
def hngM (s : Ld) (o : Nat) (ro : Nat → Nat) (L : Ld) : Prop := s 0 27 = (o : Int) ∧ o ≤ 3 ∧ (∀ k : Nat, k < o → s 10 k = ((ro k : Nat) : Int) ∧ ((ro k : Nat) : Int) < L 0 1) ∧ ∀ j k : Nat, j < k → k < o → ro j < ro k
section ST
variable {μ : Mem} {I : Nat → Nat → Int} {s L : Ld} {m n o h : Nat} {ro : Nat → Nat}
theorem rg_of (hk : okL L) {H : Nat} (hH : (H : Int) = L 0 0) (ho : ∀ k : Nat, k < o → ((ro k : Nat) : Int) < L 0 1) {g : Int} (hg : 0 ≤ g ∧ g ≤ 3) : rgF (fD o ro L) (fF o ro L) (fS H L) g := by
  obtain ⟨k0, k1, k2, k3⟩ := hk
  refine ⟨fun k => ?_, fun b => ?_, fun x => ?_, hg⟩
  · unfold fD
    by_cases c : k < o
    · rw [if_pos c]
      have := k2 (ro k) (ho k c)
      omega
    · rw [if_neg c]; omega
  · unfold fF
    by_cases c : b < 2 * o
    · rw [if_pos c]
      have r := ho (b / 2) (by omega)
      exact (k3 (2 * ro (b / 2) + b % 2) (by omega)).2.2.2.2
    · rw [if_neg c]; exact Or.inl rfl
  · unfold fS
    by_cases c : x < H
    · rw [if_pos c]
      have := k1 x (by omega)
      omega
    · rw [if_neg c]; omega
theorem sth_l (hM : isM μ m) (hl : LR L (s 1)) (hk : okL L) {H : Nat} (hH : (H : Int) = L 0 0) (hh : h < H) {g : Int} (hg : -2147483648 ≤ g ∧ g < 2147483648) (hs : -2147483648 ≤ L 5 h + L 6 h ∧ L 5 h + L 6 h < 2147483648) (v : Int) : ∀ (d k i : Nat), i + d = H → d < k → lp (sth m (h : Int) g) k (rhF v (fS H L) i, (i : Int)) (wi μ (wm I m s)) = some (4 * rhF v (fS H L) H + (L 5 h + L 6 h - g), wi μ (wm I m s))
  | d, 0, i, h1, h2 => absurd h2 (by omega)
  | 0, k + 1, i, h1, h2 => by
    have k0 := hk.1
    have q := (hl.2.1 h (by omega)).2.2.2.2
    show sth m (h : Int) g (lp (sth m (h : Int) g) k) (rhF v (fS H L) i, (i : Int)) (wi μ (wm I m s)) = _
    unfold sth
    dsimp only
    have ei : i = H := by omega
    subst ei
    rw [bM_g1 hM, bM_ld1 hM (by decide) (by decide), show s 1 (0 : Int).toNat = L 0 0 from hl.1.1, i_lt_f (by omega), bM_g1 hM, bM_ld1 hM (by omega) (by omega), show (46 + (h : Int)).toNat = 46 + h by omega, q, oI2l_of hs.1 hs.2, oI2l_of hg.1 hg.2]
    rw [show 4 * rhF v (fS i L) i + (L 5 h + L 6 h) - g = 4 * rhF v (fS i L) i + (L 5 h + L 6 h - g) by omega]
  | d + 1, k + 1, i, h1, h2 => by
    have k0 := hk.1
    have e := sth_l hM hl hk hH hh hg hs v d k (i + 1) (by omega) (by omega)
    have q := (hl.2.1 i (by omega)).2.2.1
    have qr := hk.2.1 i (by omega)
    have e' : lp (sth m (h : Int) g) k (128 * rhF v (fS H L) i + fS H L i, (i : Int) + 1) (wi μ (wm I m s)) = _ := e
    generalize hB : lp (sth m (h : Int) g) k = self at e'
    show sth m (h : Int) g (lp (sth m (h : Int) g) k) (rhF v (fS H L) i, (i : Int)) (wi μ (wm I m s)) = _
    rw [hB]
    unfold sth
    dsimp only
    rw [bM_g1 hM, bM_ld1 hM (by decide) (by decide), show s 1 (0 : Int).toNat = L 0 0 from hl.1.1, i_lt_t (by omega), bM_g1 hM, bM_ld1 hM (by omega) (by omega), show (26 + (i : Int)).toNat = 26 + i by omega, q, oI2l_of (by omega) (by omega)]
    have fe : fS H L i = L 3 i := if_pos (by omega)
    rw [fe] at e'
    exact e'
theorem str_l (hM : isM μ m) (hl : LR L (s 1)) (hk : okL L) (ho : hngM s o ro L) {H : Nat} (hH : (H : Int) = L 0 0) (hh : h < H) {g : Int} (hg : -2147483648 ≤ g ∧ g < 2147483648) (hs : -2147483648 ≤ L 5 h + L 6 h ∧ L 5 h + L 6 h < 2147483648) (hn : 20000 ≤ n) : ∀ (d k i : Nat), i + d = o → d < k → lp (str n m (h : Int) g) k (rpF' (fD o ro L) (fF o ro L) i, (i : Int)) (wi μ (wm I m s)) = some (cdM o H (fD o ro L) (fF o ro L) (fS H L) (L 5 h + L 6 h - g), wi μ (wm I m s))
  | d, 0, i, h1, h2 => absurd h2 (by omega)
  | 0, k + 1, i, h1, h2 => by
    have k0 := hk.1
    have ei : i = o := by omega
    have o3 := ho.2.1
    have r := sth_l (I := I) hM hl hk hH hh hg hs (rpF' (fD o ro L) (fF o ro L) o) H n 0 (by omega) (by omega)
    show str n m (h : Int) g (lp (str n m (h : Int) g) k) (rpF' (fD o ro L) (fF o ro L) i, (i : Int)) (wi μ (wm I m s)) = _
    unfold str
    dsimp only
    rw [bM_gI hM, ho.1, i_lt_f (by omega), ei]
    exact r
  | d + 1, k + 1, i, h1, h2 => by
    have k0 := hk.1
    have e := str_l hM hl hk ho hH hh hg hs hn d k (i + 1) (by omega) (by omega)
    have o3 := ho.2.1
    obtain ⟨r1, r2⟩ := ho.2.2.1 i (by omega)
    have q := hl.2.2 (ro i) r2
    have qr := hk.2.2.1 (ro i) r2
    have b0 := (hk.2.2.2 (2 * ro i) (by omega)).2.2.2.2
    have b1 := (hk.2.2.2 (2 * ro i + 1) (by omega)).2.2.2.2
    have e' : lp (str n m (h : Int) g) k (64 * rpF' (fD o ro L) (fF o ro L) i + 4 * fD o ro L i + 2 * fF o ro L (2 * i) + fF o ro L (2 * i + 1), (i : Int) + 1) (wi μ (wm I m s)) = _ := e
    have fd : fD o ro L i = L 8 (ro i) := if_pos (by omega)
    have ff0 : fF o ro L (2 * i) = L 12 (2 * ro i) := by
      unfold fF
      rw [if_pos (by omega), show 2 * i / 2 = i by omega, show 2 * i % 2 = 0 by omega]
      rfl
    have ff1 : fF o ro L (2 * i + 1) = L 12 (2 * ro i + 1) := by
      unfold fF
      rw [if_pos (by omega), show (2 * i + 1) / 2 = i by omega, show (2 * i + 1) % 2 = 1 by omega]
    rw [fd, ff0, ff1] at e'
    generalize hB : lp (str n m (h : Int) g) k = self at e'
    show str n m (h : Int) g (lp (str n m (h : Int) g) k) (rpF' (fD o ro L) (fF o ro L) i, (i : Int)) (wi μ (wm I m s)) = _
    rw [hB]
    unfold str
    dsimp only
    rw [bM_gI hM, ho.1, i_lt_t (by omega), bM_g1 hM, bM_g25 hM, bM_ld10 hM (by omega) (by omega), Int.toNat_natCast, r1, bM_ld1 hM (by omega) (by omega), show (124 + ((ro i : Nat) : Int)).toNat = 124 + ro i by omega, q.2.2.2.1]
    rw [bM_g1 hM, bM_g25 hM, bM_ld10 hM (by omega) (by omega), Int.toNat_natCast, r1, bM_ld1 hM (by omega) (by omega), show (172 + ((ro i : Nat) : Int)).toNat = 172 + ro i by omega, q.2.2.2.2.2.2.1]
    rw [bM_g1 hM, bM_g25 hM, bM_ld10 hM (by omega) (by omega), Int.toNat_natCast, r1, bM_ld1 hM (by omega) (by omega), show (188 + ((ro i : Nat) : Int)).toNat = 188 + ro i by omega, q.2.2.2.2.2.2.2.1]
    rw [oI2l_of (x := 4 * L 8 (ro i)) (by omega) (by omega), oI2l_of (x := 2 * L 12 (2 * ro i)) (by omega) (by omega), oI2l_of (x := L 12 (2 * ro i + 1)) (by omega) (by omega)]
    exact e'
theorem state_eq (hM : isM μ m) (hl : LR L (s 1)) (hk : okL L) (ho : hngM s o ro L) {H : Nat} (hH : (H : Int) = L 0 0) (hh : h < H) {g : Int} (hg : -2147483648 ≤ g ∧ g < 2147483648) (hs : -2147483648 ≤ L 5 h + L 6 h ∧ L 5 h + L 6 h < 2147483648) (hn : 20000 ≤ n) : mX11_state n m (h : Int) g (wi μ (wm I m s)) = some (cdM o H (fD o ro L) (fF o ro L) (fS H L) (L 5 h + L 6 h - g), wi μ (wm I m s)) := by
  have o3 := ho.2.1
  rw [state_s]
  exact str_l (I := I) hM hl hk ho hH hh hg hs hn o n 0 (by omega) (by omega)
end ST
