/-! the reference: one hour from a code, by given pulls -/
/-- what a land of the search keeps of the land it began with -/
def vL (l L : Ld) : Prop := okL L ∧ fxL l L
section LF
variable {μ : Mem} {I : Nat → Nat → Int} {m n o H h : Nat} {ro : Nat → Nat} {l : Ld} {b : Int}
/-- the code of a land: the class's, the reference's -/
def kC (o H h : Nat) (ro : Nat → Nat) (b : Int) (L : Ld) : Int := cdF (fD o ro L) (fF o ro L) (fS H L) (hd L h - b)
def kM (o H h : Nat) (ro : Nat → Nat) (b : Int) (L : Ld) : Int := cdM o H (fD o ro L) (fF o ro L) (fS H L) (hd L h - b)
theorem kM_of {L L1 : Ld} (h8 : ∀ j : Nat, j < o → L1 8 (ro j) = fD o ro L j ∧ L1 12 (2 * ro j) = fF o ro L (2 * j) ∧ L1 12 (2 * ro j + 1) = fF o ro L (2 * j + 1)) (h3 : ∀ j : Nat, j < H → L1 3 j = fS H L j) (hg : hd L1 h = hd L h) : kM o H h ro b L1 = kM o H h ro b L := by
  have eD : fD o ro L1 = fD o ro L := funext fun k => by
    by_cases c : k < o
    · rw [← (h8 k c).1]; exact if_pos c
    · unfold fD; rw [if_neg c, if_neg c]
  have eF : fF o ro L1 = fF o ro L := funext fun k => by
    by_cases c : k < 2 * o
    · have q := h8 (k / 2) (by omega)
      have e1 : fF o ro L1 k = L1 12 (2 * ro (k / 2) + k % 2) := if_pos c
      rw [e1]
      rcases Nat.mod_two_eq_zero_or_one k with z | z
      · rw [z, show 2 * ro (k / 2) + 0 = 2 * ro (k / 2) from rfl, q.2.1, show 2 * (k / 2) = k by omega]
      · rw [z, q.2.2, show 2 * (k / 2) + 1 = k by omega]
    · unfold fF; rw [if_neg c, if_neg c]
  have eS : fS H L1 = fS H L := funext fun k => by
    by_cases c : k < H
    · rw [← h3 k c]; exact if_pos c
    · unfold fS; rw [if_neg c, if_neg c]
  unfold kM
  rw [eD, eF, eS, hg]
end LF
