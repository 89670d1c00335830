/-! the reference's custom -/
def byT (l : Ld) (r w : Nat) (p : Nat → Int) : Nat → Int := if thL l (l 10 (2 * r + w)).toNat ∧ 0 < dpL l (2 * r + w) then upA p (l 10 (2 * r + w)).toNat (r : Int) else p
def byS (l : Ld) (r : Nat) (p : Nat → Int) : Nat → Int := if l 9 r = 0 then itr (byT l r) 0 2 p else p
def byL (l : Ld) (j : Nat) (p : Nat → Int) : Nat → Int := byS l ((l 0 1).toNat - 1 - j) p
theorem byT_out {l : Ld} {r w h : Nat} {p : Nat → Int} (hh : h ≠ (l 10 (2 * r + w)).toNat) : byT l r w p h = p h := by
  unfold byT
  split
  · exact upA_n hh
  · rfl
theorem byT_in {l : Ld} {r w : Nat} {p : Nat → Int} : byT l r w p (l 10 (2 * r + w)).toNat = if thL l (l 10 (2 * r + w)).toNat ∧ 0 < dpL l (2 * r + w) then (r : Int) else p (l 10 (2 * r + w)).toNat := by
  unfold byT
  split
  · exact upA_s
  · rfl
theorem ft_step {l : Ld} {h : Nat} {r d : Nat} : itx (ftS l h) (fun _ => -1) r (d + 1) 0 = if (hgP l r h ∧ l 9 r = 0) ∧ dpL l (bkL l h r) ≠ 0 then (r : Int) else itx (ftS l h) (fun _ => -1) (r + 1) d 0 := by
  rw [itx]
  cases e : ftS l h r 0 with
  | inl s' =>
    unfold ftS at e
    split at e
    · cases e
    · cases e
      rename_i c
      rw [if_neg c]
  | inr t =>
    unfold ftS at e
    split at e
    · cases e
      rename_i c
      rw [if_pos c]
    · cases e
theorem byS_spec {l : Ld} (hk : okL l) {r d : Nat} (hr : (r : Int) < l 0 1) {p : Nat → Int} {h : Nat} (hh : (h : Int) < l 0 0) (hp : p h = if thL l h then itx (ftS l h) (fun _ => -1) (r + 1) d 0 else -1) : byS l r p h = if thL l h then itx (ftS l h) (fun _ => -1) r (d + 1) 0 else -1 := by
  have hz := hk.1
  have g0 := hk.2.2.2 (2 * r) (by omega)
  have g1 := hk.2.2.2 (2 * r + 1) (by omega)
  have gd := hk.2.2.1 r hr
  have d0 := dp_range hk (b := 2 * r) (by omega)
  have d1 := dp_range hk (b := 2 * r + 1) (by omega)
  rw [ft_step]
  unfold byS
  by_cases c9 : l 9 r = 0
  · rw [if_pos c9]
    show byT l r 1 (byT l r 0 p) h = _
    by_cases e0 : h = (l 10 (2 * r + 0)).toNat
    · have e0' : (h : Int) = l 10 (2 * r) := by
        have : l 10 (2 * r + 0) = l 10 (2 * r) := rfl
        omega
      have hb : bkL l h r = 2 * r := if_pos e0'.symm
      rw [byT_out (w := 1) (by omega), e0, byT_in, ← e0, hb]
      by_cases ct : thL l h
      · rw [if_pos ct]
        rw [if_pos ct] at hp
        by_cases cd : dpL l (2 * r) = 0
        · rw [if_neg (fun z => absurd z.2 (by show ¬ 0 < dpL l (2 * r); omega)), if_neg (fun z => z.2 cd), hp]
        · rw [if_pos ⟨ct, by show 0 < dpL l (2 * r); omega⟩, if_pos ⟨⟨⟨⟨by omega, hh⟩, ⟨by omega, hr⟩, Or.inl (by rw [tn2]; omega)⟩, c9⟩, cd⟩]
      · rw [if_neg ct, if_neg (fun z => ct z.1)]
        rw [if_neg ct] at hp
        exact hp
    · by_cases e1 : h = (l 10 (2 * r + 1)).toNat
      · have e1' : (h : Int) = l 10 (2 * r + 1) := by omega
        have hb : bkL l h r = 2 * r + 1 := if_neg (by omega)
        rw [e1, byT_in, ← e1, byT_out (w := 0) e0, hb]
        by_cases ct : thL l h
        · rw [if_pos ct]
          rw [if_pos ct] at hp
          by_cases cd : dpL l (2 * r + 1) = 0
          · rw [if_neg (fun z => absurd z.2 (by omega)), if_neg (fun z => z.2 cd), hp]
          · rw [if_pos ⟨ct, by omega⟩, if_pos ⟨⟨⟨⟨by omega, hh⟩, ⟨by omega, hr⟩, Or.inr (by rw [tn3]; omega)⟩, c9⟩, cd⟩]
        · rw [if_neg ct, if_neg (fun z => ct z.1)]
          rw [if_neg ct] at hp
          exact hp
      · have hn : ¬ ((hgP l r h ∧ l 9 r = 0) ∧ dpL l (bkL l h r) ≠ 0) := fun z => by
          have z2 := z.1.1.2.2
          rw [tn2, tn3] at z2
          have : l 10 (2 * r + 0) = l 10 (2 * r) := rfl
          omega
        rw [byT_out (w := 1) e1, byT_out (w := 0) e0, hp, if_neg hn]
  · have hn : ¬ ((hgP l r h ∧ l 9 r = 0) ∧ dpL l (bkL l h r) ≠ 0) := fun z => c9 z.1.2
    rw [if_neg c9, hp, if_neg hn]
theorem byL_spec {l : Ld} (hk : okL l) {p : Nat → Int} (hp : ∀ h : Nat, h < 10 → p h = -1) {h : Nat} (hh : (h : Int) < l 0 0) : itr (byL l) 0 (l 0 1).toNat p h = cuP l h := by
  have hz := hk.1
  have := itr_inv (step := byL l) (P := fun j q => j ≤ (l 0 1).toNat ∧ q h = if thL l h then itx (ftS l h) (fun _ => -1) ((l 0 1).toNat - j) j 0 else -1) (l 0 1).toNat 0 p ⟨by omega, by
    rw [hp h (by omega)]
    split <;> rfl⟩ (fun j q _ hj hq => by
    refine ⟨by omega, ?_⟩
    have e : (l 0 1).toNat - j = (l 0 1).toNat - 1 - j + 1 := by omega
    have hq2 := hq.2
    rw [e] at hq2
    have := byS_spec hk (r := (l 0 1).toNat - 1 - j) (by omega) hh hq2
    rw [show (l 0 1).toNat - (j + 1) = (l 0 1).toNat - 1 - j by omega]
    exact this)
  rw [Nat.zero_add, Nat.sub_self] at this
  exact this.2
