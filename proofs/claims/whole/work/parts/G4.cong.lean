/-! an hour, from lands of the same code -/
/-- the open ropes of a land in their order -/
def opn (l : Ld) (o : Nat) (ro : Nat → Nat) (R : Nat) : Prop := (R : Int) = l 0 1 ∧ (∀ k : Nat, k < o → ro k < R ∧ l 9 (ro k) = 0) ∧ (∀ j k : Nat, j < k → k < o → ro j < ro k) ∧ ∀ r : Nat, r < R → l 9 r = 0 → ∃ k : Nat, k < o ∧ ro k = r
/-- the same fields -/
def eqC (o H : Nat) (ro : Nat → Nat) (L L' : Ld) : Prop := (∀ j : Nat, j < o → L' 8 (ro j) = L 8 (ro j) ∧ L' 12 (2 * ro j) = L 12 (2 * ro j) ∧ L' 12 (2 * ro j + 1) = L 12 (2 * ro j + 1)) ∧ ∀ j : Nat, j < H → L' 3 j = L 3 j
section CG
variable {l L L' : Ld} {p : Nat → Int} {o H R h : Nat} {ro : Nat → Nat} {b : Int}
theorem kM_eqC (vl : vL l L) (vl' : vL l L') (hH : (H : Int) = l 0 0) (op : opn l o ro R) (hg : 0 ≤ hd L h - b ∧ hd L h - b ≤ 3) (hg' : 0 ≤ hd L' h - b ∧ hd L' h - b ≤ 3) (e : kM o H h ro b L' = kM o H h ro b L) : eqC o H ro L L' ∧ hd L' h = hd L h := by
  have rl : ∀ k : Nat, k < o → ((ro k : Nat) : Int) < l 0 1 := fun k hk => by have := (op.2.1 k hk).1; have := op.1; omega
  have r1 := rg_of (ro := ro) (o := o) vl.1 (by rw [vl.2.1 0 (by decide)]; exact hH) (fun k hk => by rw [vl.2.1 1 (by decide)]; exact rl k hk) hg
  have r2 := rg_of (ro := ro) (o := o) vl'.1 (by rw [vl'.2.1 0 (by decide)]; exact hH) (fun k hk => by rw [vl'.2.1 1 (by decide)]; exact rl k hk) hg'
  obtain ⟨e1, e2, e3, e4⟩ := (cdM_iff r2 r1).mp e
  refine ⟨⟨fun j hj => ⟨?_, ?_, ?_⟩, fun j hj => ?_⟩, by omega⟩
  · have := e1 j hj
    unfold fD at this
    rw [if_pos hj, if_pos hj] at this
    exact this
  · have := e2 (2 * j) (by omega)
    unfold fF at this
    rw [if_pos (by omega), if_pos (by omega), show 2 * j / 2 = j by omega, show 2 * j % 2 = 0 by omega] at this
    exact this
  · have := e2 (2 * j + 1) (by omega)
    unfold fF at this
    rw [if_pos (by omega), if_pos (by omega), show (2 * j + 1) / 2 = j by omega, show (2 * j + 1) % 2 = 1 by omega] at this
    exact this
  · have := e3 j hj
    unfold fS at this
    rw [if_pos hj, if_pos hj] at this
    exact this
theorem go_cg (vl : vL l L) (vl' : vL l L') (hH : (H : Int) = l 0 0) (op : opn l o ro R) (e : eqC o H ro L L') : eqC o H ro (goL p L).1 (goL p L').1 ∧ ∀ h : Nat, hd (goL p L').1 h - hd L' h = hd (goL p L).1 h - hd L h := by
  obtain ⟨oR, o1, o2, o3⟩ := op
  have fx : fxL L L' := by
    obtain ⟨a1, a2, a3, a4, a5, a6, a7, a8⟩ := vl.2
    obtain ⟨b1, b2, b3, b4, b5, b6, b7, b8⟩ := vl'.2
    exact ⟨fun j hj => (b1 j hj).trans (a1 j hj).symm, b2.trans a2.symm, b3.trans a3.symm, b4.trans a4.symm, b5.trans a5.symm, b6.trans a6.symm, b7.trans a7.symm, b8.trans a8.symm⟩
  have c1 := go_c (p := p) (R := R) vl.1 (by rw [vl.2.1 1 (by decide)]; exact oR)
  have c2 := go_c (p := p) (R := R) vl'.1 (by rw [vl'.2.1 1 (by decide)]; exact oR)
  have l9 : L 9 = l 9 := vl.2.2.2.2.2.2.1
  obtain ⟨x0, x1, x2, x4, x7, x9, x10, x11⟩ := fx
  have dep : ∀ k : Nat, k < o → mvL p L' 8 (ro k) = mvL p L 8 (ro k) := fun k hk => by
    have q := o1 k hk
    rw [c1.2.1 (ro k) q.1 (by rw [l9]; exact q.2), c2.2.1 (ro k) q.1 (by rw [x9, l9]; exact q.2)]
    unfold dbL dfL wtL plL
    rw [x0 3 (by decide), x0 4 (by decide), x1, x7, x10, x11, (e.1 k hk).1, (e.1 k hk).2.1, (e.1 k hk).2.2]
  have rop : ∀ b : Nat, b < 2 * R → l 9 (b / 2) = 0 → dpL (mvL p L') b = dpL (mvL p L) b ∧ L' 12 b = L 12 b := fun b hb c => by
    obtain ⟨k, hk, ek⟩ := o3 (b / 2) (by omega) c
    refine ⟨?_, ?_⟩
    · unfold dpL
      rw [← ek, dep k hk, c1.1 7 (by decide), c2.1 7 (by decide), x7]
    · rcases Nat.mod_two_eq_zero_or_one b with z | z
      · have : b = 2 * ro k := by omega
        rw [this]; exact (e.1 k hk).2.1
      · have : b = 2 * ro k + 1 := by omega
        rw [this]; exact (e.1 k hk).2.2
  have en : ∀ b : Nat, b < 2 * R → (L 10 b).toNat < H := fun b hb => by
    have q := vl.1.2.2.2 b (by rw [vl.2.1 1 (by decide)]; omega)
    have q2 := vl.2.1 0 (by decide)
    omega
  have fi : ∀ (b : Nat), b < 2 * R → (∀ j : Nat, j < H → stk (mvL p L') b j = stk (mvL p L) b j) → (fiP (mvL p L') (stk (mvL p L') b) b ↔ fiP (mvL p L) (stk (mvL p L) b) b) := fun b hb hs => by
    unfold fiP
    rw [c1.1 9 (by decide), c2.1 9 (by decide), c1.1 12 (by decide), c2.1 12 (by decide), c1.1 10 (by decide), c2.1 10 (by decide), c1.1 2 (by decide), c2.1 2 (by decide), x9, x10, x2, hs _ (en b hb)]
    by_cases c : l 9 (b / 2) = 0
    · rw [(rop b hb c).1, (rop b hb c).2]
    · rw [l9]
      exact ⟨fun z => absurd z.1 c, fun z => absurd z.1 c⟩
  have dr : ∀ (b : Nat), b < 2 * R → (drn (mvL p L') b ↔ drn (mvL p L) b) := fun b hb => by
    unfold drn
    rw [c1.1 9 (by decide), c2.1 9 (by decide), c1.1 12 (by decide), c2.1 12 (by decide), x9]
    by_cases c : l 9 (b / 2) = 0
    · rw [(rop b hb c).1, (rop b hb c).2]
    · rw [l9]
      exact ⟨fun z => absurd z.1 c, fun z => absurd z.1 c⟩
  have sk : ∀ b : Nat, b ≤ 2 * R → ∀ j : Nat, j < H → stk (mvL p L') b j = stk (mvL p L) b j := fun b => by
    induction b with
    | zero =>
      intro _ j hj
      show mvL p L' 3 j = mvL p L 3 j
      rw [c1.1 3 (by decide), c2.1 3 (by decide)]
      exact e.2 j hj
    | succ b ih =>
      intro hb j hj
      have i := ih (by omega)
      have f := fi b (by omega) i
      show (if fiP (mvL p L') (stk (mvL p L') b) b then upA (stk (mvL p L') b) (mvL p L' 10 b).toNat (stk (mvL p L') b (mvL p L' 10 b).toNat - 1) else stk (mvL p L') b) j = (if fiP (mvL p L) (stk (mvL p L) b) b then upA (stk (mvL p L) b) (mvL p L 10 b).toNat (stk (mvL p L) b (mvL p L 10 b).toNat - 1) else stk (mvL p L) b) j
      by_cases c : fiP (mvL p L) (stk (mvL p L) b) b
      · rw [if_pos c, if_pos (f.mpr c), c1.1 10 (by decide), c2.1 10 (by decide), x10, i _ (en b (by omega))]
        by_cases cj : j = (L 10 b).toNat
        · rw [cj, upA_s, upA_s]
        · rw [upA_n cj, upA_n cj]; exact i j hj
      · rw [if_neg c, if_neg (fun z => c (f.mp z))]; exact i j hj
  have ct : ∀ (h b : Nat), b ≤ 2 * R → cnt (mvL p L') h b = cnt (mvL p L) h b := fun h b => by
    induction b with
    | zero => intro _; rfl
    | succ b ih =>
      intro hb
      show cnt (mvL p L') h b + (if drn (mvL p L') b ∧ (mvL p L' 10 b).toNat = h then 1 else 0) = cnt (mvL p L) h b + (if drn (mvL p L) b ∧ (mvL p L 10 b).toNat = h then 1 else 0)
      rw [ih (by omega), c1.1 10 (by decide), c2.1 10 (by decide), x10]
      have d := dr b (by omega)
      by_cases c : drn (mvL p L) b ∧ (L 10 b).toNat = h
      · rw [if_pos c, if_pos ⟨d.mpr c.1, c.2⟩]
      · rw [if_neg c, if_neg (fun z => c ⟨d.mp z.1, z.2⟩)]
  have full : ∀ b : Nat, b < 2 * R → L' 12 b = L 12 b → (goL p L').1 12 b = (goL p L).1 12 b := fun b hb q => by
    have f := fi b hb (sk b (by omega))
    have d := dr b hb
    rw [c1.2.2.2.2.2 b hb, c2.2.2.2.2.2 b hb, q]
    by_cases c : fiP (mvL p L) (stk (mvL p L) b) b
    · rw [if_pos c, if_pos (f.mpr c)]
    · rw [if_neg c, if_neg (fun z => c (f.mp z))]
      by_cases c' : drn (mvL p L) b
      · rw [if_pos c', if_pos (d.mpr c')]
      · rw [if_neg c', if_neg (fun z => c' (d.mp z))]
  refine ⟨⟨fun j hj => ⟨?_, ?_, ?_⟩, fun j hj => ?_⟩, fun h => ?_⟩
  · rw [c1.2.2.1, c2.2.2.1]; exact dep j hj
  · exact full _ (by have := (o1 j hj).1; omega) (e.1 j hj).2.1
  · exact full _ (by have := (o1 j hj).1; omega) (e.1 j hj).2.2
  · rw [c1.2.2.2.1, c2.2.2.2.1]; exact sk _ (Nat.le_refl _) j hj
  · rw [c1.2.2.2.2.1, c2.2.2.2.2.1, ct h _ (Nat.le_refl _)]; omega
/-- lands of one code have, behind the same pulls, one code -/
theorem kM_go (vl : vL l L) (vl' : vL l L') (hH : (H : Int) = l 0 0) (op : opn l o ro R) (hg : 0 ≤ hd L h - b ∧ hd L h - b ≤ 3) (hg' : 0 ≤ hd L' h - b ∧ hd L' h - b ≤ 3) (e : kM o H h ro b L' = kM o H h ro b L) : kM o H h ro b (goL p L').1 = kM o H h ro b (goL p L).1 ∧ hd (goL p L').1 h = hd (goL p L).1 h := by
  obtain ⟨e1, e2⟩ := kM_eqC vl vl' hH op hg hg' e
  obtain ⟨g1, g2⟩ := go_cg (p := p) vl vl' hH op e1
  have g3 := g2 h
  have e3 : hd (goL p L').1 h = hd (goL p L).1 h := by omega
  refine ⟨kM_of (fun j hj => ?_) (fun j hj => ?_) e3, e3⟩
  · have q := g1.1 j hj
    refine ⟨q.1.trans (if_pos hj).symm, q.2.1.trans ?_, q.2.2.trans ?_⟩
    · unfold fF
      rw [if_pos (by omega), show 2 * j / 2 = j by omega, show 2 * j % 2 = 0 by omega]
      rfl
    · unfold fF
      rw [if_pos (by omega), show (2 * j + 1) / 2 = j by omega, show (2 * j + 1) % 2 = 1 by omega]
  · exact (g1.2 j hj).trans (if_pos hj).symm
end CG
