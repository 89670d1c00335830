/-! the hour told bucket by bucket: what fills, what is drunk -/
abbrev fiP (m : Ld) (s : Nat → Int) (b : Nat) : Prop := m 9 (b / 2) = 0 ∧ m 12 b = 0 ∧ 0 < s (m 10 b).toNat ∧ m 2 (m 10 b).toNat ≤ dpL m b
/-- the stocks before bucket b is filled -/
def stk (m : Ld) : Nat → Nat → Int
  | 0 => m 3
  | b + 1 => if fiP m (stk m b) b then upA (stk m b) (m 10 b).toNat (stk m b (m 10 b).toNat - 1) else stk m b
abbrev drn (m : Ld) (b : Nat) : Prop := m 9 (b / 2) = 0 ∧ m 12 b ≠ 0 ∧ dpL m b = 0
/-- how many of the first b buckets house h drinks -/
def cnt (m : Ld) (h : Nat) : Nat → Int
  | 0 => 0
  | b + 1 => cnt m h b + (if drn m b ∧ (m 10 b).toNat = h then 1 else 0)
section HR
variable {L m : Ld} {p : Nat → Int} {R : Nat}
theorem dpL_cg {s m : Ld} (h7 : s 7 = m 7) (h8 : s 8 = m 8) (b : Nat) : dpL s b = dpL m b := by unfold dpL; rw [h7, h8]
theorem fl_c (m : Ld) (d : Nat) : (∀ k : Nat, k ≠ 3 → k ≠ 12 → itr flS 0 d m k = m k) ∧ itr flS 0 d m 3 = stk m d ∧ ∀ j : Nat, itr flS 0 d m 12 j = if j < d ∧ fiP m (stk m j) j then 1 else m 12 j := by
  have := itr_inv (step := flS) (P := fun b s => (∀ k : Nat, k ≠ 3 → k ≠ 12 → s k = m k) ∧ s 3 = stk m b ∧ ∀ j : Nat, s 12 j = if j < b ∧ fiP m (stk m j) j then 1 else m 12 j) d 0 m ⟨fun _ _ _ => rfl, rfl, fun j => by rw [if_neg (by omega)]⟩ (fun b s _ _ hi => by
    obtain ⟨a1, a2, a3⟩ := hi
    have e12 : s 12 b = m 12 b := by rw [a3 b, if_neg (by omega)]
    have ed : dpL s b = dpL m b := dpL_cg (a1 7 (by decide) (by decide)) (a1 8 (by decide) (by decide)) b
    have ec : (s 9 (b / 2) = 0 ∧ s 12 b = 0 ∧ 0 < s 3 (s 10 b).toNat ∧ s 2 (s 10 b).toNat ≤ dpL s b) ↔ fiP m (stk m b) b := by
      unfold fiP
      rw [e12, ed, a2, a1 9 (by decide) (by decide), a1 10 (by decide) (by decide), a1 2 (by decide) (by decide)]
    unfold flS
    by_cases c : fiP m (stk m b) b
    · rw [if_pos (ec.mpr c)]
      refine ⟨fun k k3 k12 => by rw [up2_row k3, up2_row k12]; exact a1 k k3 k12, ?_, fun j => ?_⟩
      · rw [up2_r, up2_row (by decide), a2, a1 10 (by decide) (by decide)]
        show _ = if fiP m (stk m b) b then upA (stk m b) (m 10 b).toNat (stk m b (m 10 b).toNat - 1) else stk m b
        rw [if_pos c]
      · rw [up2_row (by decide), up2_r]
        by_cases cj : j = b
        · rw [cj, upA_s, if_pos ⟨by omega, c⟩]
        · rw [upA_n cj, a3 j]
          by_cases cf : fiP m (stk m j) j
          · by_cases cl : j < b
            · rw [if_pos ⟨cl, cf⟩, if_pos ⟨by omega, cf⟩]
            · rw [if_neg (fun z => cl z.1), if_neg (fun z => by have := z.1; omega)]
          · rw [if_neg (fun z => cf z.2), if_neg (fun z => cf z.2)]
    · rw [if_neg (fun z => c (ec.mp z))]
      refine ⟨a1, ?_, fun j => ?_⟩
      · rw [a2]
        show _ = if fiP m (stk m b) b then upA (stk m b) (m 10 b).toNat (stk m b (m 10 b).toNat - 1) else stk m b
        rw [if_neg c]
      · rw [a3 j]
        by_cases cf : fiP m (stk m j) j
        · by_cases cl : j < b
          · rw [if_pos ⟨cl, cf⟩, if_pos ⟨by omega, cf⟩]
          · have : j ≠ b := fun e => c (e ▸ cf)
            rw [if_neg (fun z => cl z.1), if_neg (fun z => by have := z.1; omega)]
        · rw [if_neg (fun z => cf z.2), if_neg (fun z => cf z.2)])
  rw [Nat.zero_add] at this
  exact this
theorem dr_c (m : Ld) (d : Nat) : (∀ k : Nat, k ≠ 5 → k ≠ 6 → k ≠ 12 → (itr drS 0 d (m, 0)).1 k = m k) ∧ (∀ h : Nat, hd (itr drS 0 d (m, 0)).1 h = hd m h + cnt m h d) ∧ ∀ j : Nat, (itr drS 0 d (m, 0)).1 12 j = if j < d ∧ drn m j then 0 else m 12 j := by
  have := itr_inv (step := drS) (P := fun b s => (∀ k : Nat, k ≠ 5 → k ≠ 6 → k ≠ 12 → s.1 k = m k) ∧ (∀ h : Nat, hd s.1 h = hd m h + cnt m h b) ∧ ∀ j : Nat, s.1 12 j = if j < b ∧ drn m j then 0 else m 12 j) d 0 (m, 0) ⟨fun _ _ _ _ => rfl, fun h => by show hd m h = hd m h + 0; omega, fun j => by dsimp only; rw [if_neg (by omega)]⟩ (fun b s _ _ hi => by
    obtain ⟨a1, a2, a3⟩ := hi
    have e12 : s.1 12 b = m 12 b := by rw [a3 b, if_neg (by omega)]
    have ed : dpL s.1 b = dpL m b := dpL_cg (a1 7 (by decide) (by decide) (by decide)) (a1 8 (by decide) (by decide) (by decide)) b
    have e10 : s.1 10 = m 10 := a1 10 (by decide) (by decide) (by decide)
    have ec : (s.1 9 (b / 2) = 0 ∧ s.1 12 b ≠ 0 ∧ dpL s.1 b = 0) ↔ drn m b := by
      unfold drn
      rw [e12, ed, a1 9 (by decide) (by decide) (by decide)]
    have st : ∀ h : Nat, cnt m h (b + 1) = cnt m h b + (if drn m b ∧ (m 10 b).toNat = h then 1 else 0) := fun h => rfl
    have f12 : ∀ j : Nat, drn m b → upA (s.1 12) b 0 j = if j < b + 1 ∧ drn m j then 0 else m 12 j := fun j c => by
      by_cases cj : j = b
      · rw [cj, upA_s, if_pos ⟨by omega, c⟩]
      · rw [upA_n cj, a3 j]
        by_cases cf : drn m j
        · by_cases cl : j < b
          · rw [if_pos ⟨cl, cf⟩, if_pos ⟨by omega, cf⟩]
          · rw [if_neg (fun z => cl z.1), if_neg (fun z => by have := z.1; omega)]
        · rw [if_neg (fun z => cf z.2), if_neg (fun z => cf z.2)]
    unfold drS
    by_cases c : drn m b
    · rw [if_pos (ec.mpr c)]
      by_cases ct : thL s.1 (s.1 10 b).toNat
      · rw [if_pos ct]
        refine ⟨fun k k5 k6 k12 => by dsimp only; rw [up2_row k5, up2_row k12]; exact a1 k k5 k6 k12, fun h => ?_, fun j => ?_⟩
        · have q := a2 h
          unfold hd at q ⊢
          dsimp only
          rw [st h, up2_row (show (6 : Nat) ≠ 5 by decide), up2_row (show (6 : Nat) ≠ 12 by decide)]
          by_cases ch : h = (s.1 10 b).toNat
          · rw [← ch, up2_s, if_pos ⟨c, by rw [← e10]; exact ch.symm⟩]; omega
          · rw [up2_n (by omega), up2_row (show (5 : Nat) ≠ 12 by decide), if_neg (fun z => ch (by rw [e10]; exact z.2.symm))]; omega
        · dsimp only
          rw [up2_row (by decide), up2_r]
          exact f12 j c
      · rw [if_neg ct]
        refine ⟨fun k k5 k6 k12 => by dsimp only; rw [up2_row k6, up2_row k12]; exact a1 k k5 k6 k12, fun h => ?_, fun j => ?_⟩
        · have q := a2 h
          unfold hd at q ⊢
          dsimp only
          rw [st h, up2_row (show (5 : Nat) ≠ 6 by decide), up2_row (show (5 : Nat) ≠ 12 by decide)]
          by_cases ch : h = (s.1 10 b).toNat
          · rw [← ch, up2_s, if_pos ⟨c, by rw [← e10]; exact ch.symm⟩]; omega
          · rw [up2_n (by omega), up2_row (show (6 : Nat) ≠ 12 by decide), if_neg (fun z => ch (by rw [e10]; exact z.2.symm))]; omega
        · dsimp only
          rw [up2_row (by decide), up2_r]
          exact f12 j c
    · rw [if_neg (fun z => c (ec.mp z))]
      refine ⟨a1, fun h => ?_, fun j => ?_⟩
      · rw [st h, if_neg (fun z => c z.1), a2 h]; omega
      · rw [a3 j]
        by_cases cf : drn m j
        · by_cases cl : j < b
          · rw [if_pos ⟨cl, cf⟩, if_pos ⟨by omega, cf⟩]
          · have : j ≠ b := fun e => c (e ▸ cf)
            rw [if_neg (fun z => cl z.1), if_neg (fun z => by have := z.1; omega)]
        · rw [if_neg (fun z => cf z.2), if_neg (fun z => cf z.2)])
  rw [Nat.zero_add] at this
  exact this
theorem mv_c (p : Nat → Int) (L : Ld) (d : Nat) : (∀ k : Nat, k ≠ 8 → itr (mvS p) 0 d L k = L k) ∧ ∀ j : Nat, itr (mvS p) 0 d L 8 j = if j < d ∧ L 9 j = 0 then dbL L j (bi (p (L 10 (2 * j)).toNat = j)) (bi (p (L 10 (2 * j + 1)).toNat = j)) else L 8 j := by
  have := itr_inv (step := mvS p) (P := fun b s => (∀ k : Nat, k ≠ 8 → s k = L k) ∧ ∀ j : Nat, s 8 j = if j < b ∧ L 9 j = 0 then dbL L j (bi (p (L 10 (2 * j)).toNat = j)) (bi (p (L 10 (2 * j + 1)).toNat = j)) else L 8 j) d 0 L ⟨fun _ _ => rfl, fun j => by rw [if_neg (by omega)]⟩ (fun b s _ _ hi => by
    obtain ⟨a1, a3⟩ := hi
    have e8 : s 8 b = L 8 b := by rw [a3 b, if_neg (by omega)]
    have ed : ∀ x y : Int, dbL s b x y = dbL L b x y := fun x y => by
      unfold dbL dfL wtL plL
      rw [e8, a1 0 (by decide), a1 1 (by decide), a1 7 (by decide), a1 10 (by decide), a1 11 (by decide), a1 12 (by decide)]
    unfold mvS
    rw [a1 9 (by decide), a1 10 (by decide), ed]
    by_cases c : L 9 b = 0
    · rw [if_pos c]
      refine ⟨fun k k8 => by rw [up2_row k8]; exact a1 k k8, fun j => ?_⟩
      rw [up2_r]
      by_cases cj : j = b
      · subst cj; rw [upA_s, if_pos ⟨by omega, c⟩]
      · rw [upA_n cj, a3 j]
        by_cases cf : L 9 j = 0
        · by_cases cl : j < b
          · rw [if_pos ⟨cl, cf⟩, if_pos ⟨by omega, cf⟩]
          · rw [if_neg (fun z => cl z.1), if_neg (fun z => by have := z.1; omega)]
        · rw [if_neg (fun z => cf z.2), if_neg (fun z => cf z.2)]
    · rw [if_neg c]
      refine ⟨a1, fun j => ?_⟩
      rw [a3 j]
      by_cases cf : L 9 j = 0
      · by_cases cl : j < b
        · rw [if_pos ⟨cl, cf⟩, if_pos ⟨by omega, cf⟩]
        · have : j ≠ b := fun e => c (e ▸ cf)
          rw [if_neg (fun z => cl z.1), if_neg (fun z => by have := z.1; omega)]
      · rw [if_neg (fun z => cf z.2), if_neg (fun z => cf z.2)])
  rw [Nat.zero_add] at this
  exact this
/-- the hour whole -/
theorem go_c (hk : okL L) (hR : (R : Int) = L 0 1) : (∀ k : Nat, k ≠ 8 → mvL p L k = L k) ∧ (∀ r : Nat, r < R → L 9 r = 0 → mvL p L 8 r = dbL L r (bi (p (L 10 (2 * r)).toNat = r)) (bi (p (L 10 (2 * r + 1)).toNat = r))) ∧ (goL p L).1 8 = mvL p L 8 ∧ (goL p L).1 3 = stk (mvL p L) (2 * R) ∧ (∀ h : Nat, hd (goL p L).1 h = hd L h + cnt (mvL p L) h (2 * R)) ∧ ∀ b : Nat, b < 2 * R → (goL p L).1 12 b = if fiP (mvL p L) (stk (mvL p L) b) b then 1 else if drn (mvL p L) b then 0 else L 12 b := by
  have eR : (L 0 1).toNat = R := by omega
  have m1 := mv_c p L (L 0 1).toNat
  have m2 : (∀ k : Nat, k ≠ 8 → mvL p L k = L k) ∧ ∀ j : Nat, mvL p L 8 j = if j < (L 0 1).toNat ∧ L 9 j = 0 then dbL L j (bi (p (L 10 (2 * j)).toNat = j)) (bi (p (L 10 (2 * j + 1)).toNat = j)) else L 8 j := m1
  have mk := (mvL_ok p hk).1
  have em : (mvL p L 0 1).toNat = R := by rw [m2.1 0 (by decide)]; exact eR
  have g : (∀ k : Nat, k ≠ 0 → (goL p L).1 k = (drL (flL (mvL p L))).1 k) := fun k hk0 => by
    unfold goL
    dsimp only
    split
    · rw [up2_row hk0]
    · rfl
  generalize mvL p L = m at m2 mk em g ⊢
  have f1 := fl_c m (2 * (m 0 1).toNat)
  have f2 : (∀ k : Nat, k ≠ 3 → k ≠ 12 → flL m k = m k) ∧ flL m 3 = stk m (2 * (m 0 1).toNat) ∧ ∀ j : Nat, flL m 12 j = if j < 2 * (m 0 1).toNat ∧ fiP m (stk m j) j then 1 else m 12 j := f1
  have ef : (flL m 0 1).toNat = R := by rw [f2.1 0 (by decide) (by decide)]; exact em
  rw [em] at f2
  have d1 := dr_c (flL m) (2 * (flL m 0 1).toNat)
  have d2 : (∀ k : Nat, k ≠ 5 → k ≠ 6 → k ≠ 12 → (drL (flL m)).1 k = flL m k) ∧ (∀ h : Nat, hd (drL (flL m)).1 h = hd (flL m) h + cnt (flL m) h (2 * (flL m 0 1).toNat)) ∧ ∀ j : Nat, (drL (flL m)).1 12 j = if j < 2 * (flL m 0 1).toNat ∧ drn (flL m) j then 0 else flL m 12 j := d1
  rw [ef] at d2
  have dn : ∀ j : Nat, j < 2 * R → (drn (flL m) j ↔ drn m j) := fun j hj => by
    have e9 : flL m 9 = m 9 := f2.1 9 (by decide) (by decide)
    have ed : dpL (flL m) j = dpL m j := dpL_cg (f2.1 7 (by decide) (by decide)) (f2.1 8 (by decide) (by decide)) j
    unfold drn
    rw [e9, ed, f2.2.2 j]
    by_cases cf : fiP m (stk m j) j
    · rw [if_pos ⟨hj, cf⟩]
      have q := mk.2.2.2 j (by omega)
      have q2 := mk.2.1 (m 10 j).toNat (by omega)
      have q3 := cf.2.2.2
      constructor
      · intro z
        have := z.2.2
        omega
      · intro z
        have := z.2.2
        omega
    · rw [if_neg (fun z => cf z.2)]
  have dc : ∀ (h b : Nat), b ≤ 2 * R → cnt (flL m) h b = cnt m h b := fun h b => by
    induction b with
    | zero => intro _; rfl
    | succ b ih =>
      intro hb
      have i := ih (by omega)
      show cnt (flL m) h b + (if drn (flL m) b ∧ (flL m 10 b).toNat = h then 1 else 0) = cnt m h b + (if drn m b ∧ (m 10 b).toNat = h then 1 else 0)
      have e10 : flL m 10 = m 10 := f2.1 10 (by decide) (by decide)
      have db := dn b (by omega)
      rw [i, e10]
      by_cases c : drn m b ∧ (m 10 b).toNat = h
      · rw [if_pos c, if_pos ⟨db.mpr c.1, c.2⟩]
      · rw [if_neg c, if_neg (fun z => c ⟨db.mp z.1, z.2⟩)]
  refine ⟨m2.1, fun r hr c => by rw [m2.2 r, if_pos ⟨by omega, c⟩], ?_, ?_, fun h => ?_, fun b hb => ?_⟩
  · rw [g 8 (by decide), d2.1 8 (by decide) (by decide) (by decide), f2.1 8 (by decide) (by decide)]
  · rw [g 3 (by decide), d2.1 3 (by decide) (by decide) (by decide), f2.2.1]
  · have q := d2.2.1 h
    rw [dc h (2 * R) (Nat.le_refl _)] at q
    unfold hd at q ⊢
    rw [g 5 (by decide), g 6 (by decide), q, f2.1 5 (by decide) (by decide), f2.1 6 (by decide) (by decide), m2.1 5 (by decide), m2.1 6 (by decide)]
  · rw [g 12 (by decide), d2.2.2 b]
    have f12 := f2.2.2 b
    by_cases cf : fiP m (stk m b) b
    · rw [if_pos ⟨hb, cf⟩] at f12
      rw [if_pos cf]
      have nd : ¬ drn (flL m) b := fun z => ((dn b hb).mp z).2.1 cf.2.1
      rw [if_neg (fun z => nd z.2), f12]
    · rw [if_neg (fun z => cf z.2)] at f12
      rw [if_neg cf]
      by_cases c : drn m b
      · rw [if_pos c, if_pos ⟨hb, (dn b hb).mpr c⟩]
      · rw [if_neg c, if_neg (fun z => c ((dn b hb).mp z.2)), f12, m2.1 12 (by decide)]
end HR
