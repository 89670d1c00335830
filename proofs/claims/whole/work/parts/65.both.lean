/-! class and reference side by side -/
def RI (c : Nat) (I : Nat → Nat → Int) : Prop := ∀ i : Nat, i < 2 → I (c + 30) i = I (c + 193 + 2) i ∧ (I (c + 30) i = 0 ∨ I (c + 30) i = 1) ∧ (I (c + 30) i = 1 → RLl (ld I (c + 159 + 13 * i)) (fun k => I (c + 193 + 1) (220 * (i + 1) + k)))
def RN (c : Nat) (I : Nat → Nat → Int) : Prop := ∀ i : Nat, i < 4 → I (c + 185 + 2 * i) 1 = I (c + 193 + 19) i ∧ (-1 ≤ I (c + 185 + 2 * i) 1 ∧ I (c + 185 + 2 * i) 1 ≤ 3) ∧ I (c + 185 + 2 * i) 0 = I (c + 193 + 20) i ∧ (0 ≤ I (c + 185 + 2 * i) 0 ∧ I (c + 185 + 2 * i) 0 ≤ 60) ∧ ∀ k : Nat, k < 60 → (-9223372036854775808 ≤ I (c + 185 + 2 * i + 1) k ∧ I (c + 185 + 2 * i + 1) k < 9223372036854775808) ∧ ((k : Int) < I (c + 185 + 2 * i) 0 → I (c + 193 + 21) (60 * i + k) = I (c + 185 + 2 * i + 1) k)
def RT (c : Nat) (I : Nat → Nat → Int) : Prop := I (c + 1) 0 = I (c + 193) 5 ∧ (0 ≤ I (c + 1) 0 ∧ I (c + 1) 0 ≤ 900) ∧ (∀ k : Nat, k < 900 → (-128 ≤ I (c + 2) k ∧ I (c + 2) k < 128) ∧ ((k : Int) < I (c + 1) 0 → I (c + 193 + 3) k = I (c + 2) k % 256)) ∧ I (c + 1) 1 = I (c + 193) 13 ∧ I (c + 1) 2 = I (c + 193) 14
def RelC (c : Nat) (I : Nat → Nat → Int) : Prop := RLl (ld I (c + 3)) (I (c + 193 + 1)) ∧ RI c I ∧ RN c I ∧ RT c I
theorem RLl.cg {l l' : Ld} {A : Nat → Int} (h : ∀ k : Nat, k ≤ 12 → l' k = l k) (hr : RLl l A) : RLl l' A := by
  unfold RLl okL LR LRq qnL at *
  simp only [h 0 (by decide), h 1 (by decide), h 2 (by decide), h 3 (by decide), h 4 (by decide), h 5 (by decide), h 6 (by decide), h 7 (by decide), h 8 (by decide), h 9 (by decide), h 10 (by decide), h 11 (by decide), h 12 (by decide)]
  exact hr
theorem okL.cg {l l' : Ld} (h : ∀ k : Nat, k ≤ 12 → l' k = l k) (hr : okL l) : okL l' := by
  unfold okL at *
  simp only [h 0 (by decide), h 1 (by decide), h 2 (by decide), h 3 (by decide), h 4 (by decide), h 7 (by decide), h 8 (by decide), h 9 (by decide), h 10 (by decide), h 11 (by decide), h 12 (by decide)]
  exact hr
/-- what a call of the reference leaves alone, whatever it does with its helpers -/
def FrW (s s' : Ld) : Prop := (s' 2 = s 2 ∧ s' 3 = s 3 ∧ s' 19 = s 19 ∧ s' 20 = s 20 ∧ s' 21 = s 21) ∧ (∀ j : Nat, 0 < j → j < 17 → s' 0 j = s 0 j) ∧ ∀ j : Nat, 220 ≤ j → s' 1 j = s 1 j
theorem FrW.rf (s : Ld) : FrW s s := ⟨⟨rfl, rfl, rfl, rfl, rfl⟩, fun _ _ _ => rfl, fun _ _ => rfl⟩
theorem FrW.tr {s t u : Ld} (h1 : FrW s t) (h2 : FrW t u) : FrW s u := ⟨⟨h2.1.1.trans h1.1.1, h2.1.2.1.trans h1.1.2.1, h2.1.2.2.1.trans h1.1.2.2.1, h2.1.2.2.2.1.trans h1.1.2.2.2.1, h2.1.2.2.2.2.trans h1.1.2.2.2.2⟩, fun j a b => (h2.2.1 j a b).trans (h1.2.1 j a b), fun j a => (h2.2.2 j a).trans (h1.2.2 j a)⟩
theorem Fr.w {s s' : Ld} (h : Fr s s') : FrW s s' := ⟨⟨h.1 2 (by decide) (by decide) (by decide), h.1 3 (by decide) (by decide) (by decide), h.1 19 (by decide) (by decide) (by decide), h.1 20 (by decide) (by decide) (by decide), h.1 21 (by decide) (by decide) (by decide)⟩, h.2.1, h.2.2⟩
theorem RelC.go {c : Nat} {I J : Nat → Nat → Int} {s' : Ld} (hR : RelC c I) (hJ : CFh c I J) (hs : FrW (ld J (c + 193)) s') (hl : RLl (ld J (c + 3)) (s' 1)) : RelC c (wm J (c + 193) s') := by
  obtain ⟨-, ri, rn, rt⟩ := hR
  have o : ∀ b : Nat, ¬ tmp c b → ¬ (c + 3 ≤ b ∧ b ≤ c + 15) → (b < c + 193 ∨ c + 193 + 21 < b) → wm J (c + 193) s' b = I b := fun b h1 h2 h3 => (wm_out h3).trans (hJ b h1 h2)
  have r : ∀ k : Nat, k ≤ 21 → ld J (c + 193) k = I (c + 193 + k) := fun k hk => hJ (c + 193 + k) (by unfold tmp; omega) (by omega)
  have w : ∀ k : Nat, k ≤ 21 → wm J (c + 193) s' (c + 193 + k) = s' k := fun k hk => wm_row hk
  have w0 : wm J (c + 193) s' (c + 193) = s' 0 := w 0 (by decide)
  have o1 : wm J (c + 193) s' (c + 1) = I (c + 1) := o _ (by unfold tmp; omega) (by omega) (by omega)
  have o2 : wm J (c + 193) s' (c + 2) = I (c + 2) := o _ (by unfold tmp; omega) (by omega) (by omega)
  have o30 : wm J (c + 193) s' (c + 30) = I (c + 30) := o _ (by unfold tmp; omega) (by omega) (by omega)
  refine ⟨?_, fun i hi => ?_, fun i hi => ?_, ?_⟩
  · rw [w 1 (by decide)]
    exact hl.cg (fun k hk => wm_out (by omega))
  · obtain ⟨a1, a2, a3⟩ := ri i hi
    rw [w 2 (by decide), o30, hs.1.1, r 2 (by decide)]
    refine ⟨a1, a2, fun z => ?_⟩
    have e : (fun k => wm J (c + 193) s' (c + 193 + 1) (220 * (i + 1) + k)) = fun k => I (c + 193 + 1) (220 * (i + 1) + k) := funext fun k => by
      rw [w 1 (by decide), hs.2.2 _ (by omega), r 1 (by decide)]
    rw [e]
    exact (a3 z).cg (fun k hk => o _ (by unfold tmp; omega) (by omega) (by omega))
  · have e1 : wm J (c + 193) s' (c + 185 + 2 * i) = I (c + 185 + 2 * i) := o _ (by unfold tmp; omega) (by omega) (by omega)
    have e2 : wm J (c + 193) s' (c + 185 + 2 * i + 1) = I (c + 185 + 2 * i + 1) := o _ (by unfold tmp; omega) (by omega) (by omega)
    rw [w 19 (by decide), w 20 (by decide), w 21 (by decide), hs.1.2.2.1, hs.1.2.2.2.1, hs.1.2.2.2.2, r 19 (by decide), r 20 (by decide), r 21 (by decide), e1, e2]
    exact rn i hi
  · unfold RT
    rw [o1, o2, w0, w 3 (by decide), hs.1.2.1, r 3 (by decide), hs.2.1 5 (by decide) (by decide), hs.2.1 13 (by decide) (by decide), hs.2.1 14 (by decide) (by decide), r 0 (by decide)]
    exact rt
/-- what a call of both comes to -/
def Both (μ : Mem) (c : Nat) (I : Nat → Nat → Int) (f g : Mem → Option (Int × Mem)) : Prop := ∃ (v : Int) (J K : Nat → Nat → Int), f (wi μ I) = some (v, wi μ J) ∧ g (wi μ J) = some (v, wi μ K) ∧ RelC c K ∧ ∀ b : Nat, b < c → K b = I b ∧ J b = I b
theorem Both.mk {μ : Mem} {c : Nat} {I J : Nat → Nat → Int} {f g : Mem → Option (Int × Mem)} {v : Int} {s' : Ld} (hR : RelC c I) (hJ : CFh c I J) (hf : f (wi μ I) = some (v, wi μ J)) (hg : g (wi μ J) = some (v, wi μ (wm J (c + 193) s'))) (hs : FrW (ld J (c + 193)) s') (hl : RLl (ld J (c + 3)) (s' 1)) : Both μ c I f g :=
  ⟨v, J, _, hf, hg, hR.go hJ hs hl, fun b hb => ⟨by rw [wm_out (by omega)]; exact hJ b (by unfold tmp; omega) (by omega), hJ b (by unfold tmp; omega) (by omega)⟩⟩
section BB
variable {μ : Mem} {I : Nat → Nat → Int} {c m n : Nat} {s l : Ld}
theorem ldwm (J : Nat → Nat → Int) (a : Nat) : wi μ (wm J a (ld J a)) = wi μ J := by rw [wm_ld]
theorem cuA_hr {l : Ld} (b : Nat) (h0 : 0 ≤ l 0 2) (hb : l 0 2 + b ≤ 9999) : (itr cuA 0 b (l, 0, 0, 0)).1 0 2 = l 0 2 + b := by
  have := itr_inv (step := cuA) (P := fun k u => u.1 0 2 = l 0 2 + (k : Int)) b 0 (l, 0, 0, 0) (by show l 0 2 = l 0 2 + ((0 : Nat) : Int); omega) (fun j u _ hj hu => by
    show (goL (cuP u.1) u.1).1 0 2 = _
    rw [goL_hr, if_pos (by omega)]
    omega)
  rw [Nat.zero_add] at this
  exact this
theorem mlive_eq (h : isM μ m) (hl : RLl l (s 1)) {b : Int} (hb : -2147483648 ≤ b ∧ b < 2147483648) (hn : 20000 ≤ n) : ∃ s' : Ld, mX11_live n m b (wi μ (wm I m s)) = some (if crF (l 0 2) b = 0 then (itr cuA 0 b.toNat (l, 0, 0, 0)).2.1 else crF (l 0 2) b, wi μ (wm I m s')) ∧ FrW s s' ∧ RLl (if crF (l 0 2) b = 0 then (itr cuA 0 b.toNat (l, 0, 0, 0)).1 else l) (s' 1) := by
  obtain ⟨hk, lr, lq, h0, h9⟩ := hl
  have t1 : (up2 s 0 0 0) 1 = s 1 := up2_row (show (1 : Nat) ≠ 0 by decide)
  have a2 : ldI (wi μ (wm I m (up2 s 0 0 0))) 0 (m + 1) 2 = some (l 0 2) := by rw [M_ld1 h (by omega) (by omega), wm_at (by omega), t1]; exact congrArg some lq.1
  have f0 : FrW s (up2 s 0 0 0) := (Fr.f0 s (Or.inl rfl)).w
  unfold mX11_live
  rw [M_pI h, Option.bind_some, wm_up0, oI2l_of (by omega) (by omega), within_eq (by omega) (by omega) (by omega), Option.bind_some]
  try dsimp only
  unfold crF
  by_cases c1 : 1 ≤ b ∧ b ≤ 99
  · rw [if_neg (fun z => (eq32_bi _).mp z c1), M_g1 h, Option.bind_some, a2, Option.bind_some, if_neg (show ¬ (b < 1 ∨ 99 < b) by omega)]
    by_cases c2 : 9999 < l 0 2 + b
    · rw [if_pos ((lt32_iff (by omega) (by omega) (by omega) (by omega)).mpr c2), if_pos c2, if_neg (by omega), if_neg (by omega)]
      exact ⟨_, rfl, f0, hk, by rw [t1]; exact lr, by rw [t1]; exact lq, h0, h9⟩
    · rw [if_neg (fun z => c2 ((lt32_iff (by omega) (by omega) (by omega) (by omega)).mp z)), if_neg c2, if_pos rfl, if_pos rfl]
      obtain ⟨s', e, fr, r1, r2, r3, -⟩ := lives_eq (n := n) (I := I) (s := up2 s 0 0 0) (l := l) h (by rw [t1]; exact lr) (by rw [t1]; exact lq) hk (b := b) (by omega) (by omega) (by omega) hn rfl
      have hr := cuA_hr (l := l) b.toNat h0 (by omega)
      rw [M_inv h, e, Option.bind_some]
      exact ⟨s', rfl, f0.tr fr.w, r3, r1, r2, by omega, by omega, cuA_q b.toNat hk h9.2 (by omega)⟩
  · rw [if_pos ((eq32_bi _).mpr c1), if_pos (show b < 1 ∨ 99 < b by omega), if_neg (by omega), if_neg (by omega)]
    exact ⟨_, rfl, f0, hk, by rw [t1]; exact lr, by rw [t1]; exact lq, h0, h9⟩
theorem both_live (hC : isC μ c) (hM : isM μ (c + 193)) (hR : RelC c I) {b : Int} (hb : -2147483648 ≤ b ∧ b < 2147483648) (hn : 20000 ≤ n) : Both μ c I (mX10_live n c b) (mX11_live n (c + 193) b) := by
  have hl := hR.1
  obtain ⟨J, hJ, hf, hland⟩ := live_eq (n := n) hC hl.1 (I := I) ⟨hl.2.2.2.1, hl.2.2.2.2.1⟩ hb hn
  have e1 : ld J (c + 193) 1 = I (c + 193 + 1) := hJ _ (by unfold tmp; omega) (by omega)
  obtain ⟨s', hg, fw, hl'⟩ := mlive_eq (n := n) (I := J) (s := ld J (c + 193)) (l := ld I (c + 3)) hM (by rw [e1]; exact hl) hb hn
  rw [ldwm] at hg
  exact Both.mk hR hJ hf hg fw (hl'.cg (fun k hk => funext fun i => hland k i hk))
end BB
