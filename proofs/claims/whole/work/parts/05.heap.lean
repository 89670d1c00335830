/-! fields, arrays, new cells, calls, returns -/
theorem fT_ok : ∀ (ci : Nat) (q : vw_C), vwCl[ci]? = some q → ∀ j, j < q.2.2 → fT ci j = .int ∨ (defaultValue (fT ci j) = .null ∧ fT ci j ≠ .int) := by
  intro ci q h
  match ci, h with
  | 0, h => cases h; decide +kernel
  | 1, h => cases h; decide +kernel
  | 2, h => cases h; decide +kernel
  | 3, h => cases h; decide +kernel
  | 4, h => cases h; decide +kernel
  | 5, h => cases h; decide +kernel
  | 6, h => cases h; decide +kernel
  | 7, h => cases h; decide +kernel
  | 8, h => cases h; decide +kernel
  | 9, h => cases h; decide +kernel
  | 10, h => cases h; decide +kernel
  | 11, h => cases h; decide +kernel
  | ci + 12, h => simp [vwCl] at h
theorem good_tbl : lw_tbl.all goodWord = true := by decide +kernel
def FL (own : String) (idx ci j : Nat) : Prop := ∃ q : vw_C, vwCl[ci]? = some q ∧ j < q.2.2 ∧ Cond.fieldLink own idx q.1 (q.2.1 j).2.1 (q.2.1 j).2.2.1 ∈ lw_tbl
theorem vwCl_lt {ci : Nat} {q : vw_C} (h : vwCl[ci]? = some q) : ci < 12 := (List.getElem?_eq_some_iff.mp h).1
theorem up2_ne {α : Type} (f : Nat → Nat → α) (a k : Nat) (x : α) {b : Nat} (h : b ≠ a) : up2 f a k x b = f b := by
  funext j
  exact if_neg fun q => h q.1
theorem up1_ne {α : Type} (f : Nat → α) (a : Nat) (x : α) {b : Nat} (h : b ≠ a) : up1 f a x b = f b := if_neg h
section SH
variable {ρ : Type} {X : Ctx} {Γ : Gm} {cc : ByteArray} {own : String} {nL fr lo mc ms k ks pc : Nat} {ret : Option FieldType} {Q : ρ → Mem → State → Prop} {L : List (Option AV)} {S : List AV} {μ : Mem} {f f1 f2 : Option (ρ × Mem)}
theorem sn_get {a idx ci j : Nat} {v : Value} (hC : Cx X Γ cc own nL ret fr lo mc ms) (hd : decode cc pc = .ok (.getfield idx, 3)) (hF : FL own idx ci j) {H : Heap} {locs : List Loc} {ls : Array Slot} {Q' : State → Prop} {rest : List Value} (hH : HH Γ μ (xS X) H) (hs : (mS μ a).1 = 1 + ci) (hv : fv μ ci a j = v)
    (hk : WX X H locs k ks Q' (F0 (xM X) (pc + 3) ls (v :: rest))) : WX X H locs k ks Q' (F0 (xM X) pc ls (rv a :: rest)) := by
  obtain ⟨q, hq, hj, hw⟩ := hF
  cases a with
  | zero => rw [hH.1.2.2] at hs; omega
  | succ b =>
    obtain ⟨kin, kty, knm, kown⟩ := kc_all ci q hq
    obtain ⟨-, r, g1, cell, q1, q2, q3, q4⟩ := hH.2.1 b ci (vwCl_lt hq) hs
    cases hq.symm.trans g1
    obtain ⟨hS, hfc, kC, hkC, hkind⟩ := hC.2.2.2.2.2.1.1.1 ci _ hq
    obtain ⟨cf, kf, fi, fd, hi, hsl⟩ := hS j hj
    have hi2 := hi
    rw [kown j hj] at hi2
    refine W.getf (a := b) hC.1 hC.2.1 hC.2.2.2.1 (hC.2.2.2.2.1 _ hw) hi2 (u_facts hfc hkC (u_lays hC.2.2.2.2.1 kin hj) hi).1 q1 (by rw [q3]; exact fun h => by cases h) (v := v) ?_ rfl rfl hd hk
    rw [hsl, q4 j hj, hv]
theorem sn_getI {a idx ci j : Nat} {g : Int32 → Option (ρ × Mem)} (hC : Cx X Γ cc own nL ret fr lo mc ms) (hd : decode cc pc = .ok (.getfield idx, 3)) (hF : FL own idx ci j) (hty : fT ci j = .int) (hk : ∀ x, Sn X Γ nL k ks Q (pc + 3) L (aI x :: S) μ (g x)) : Sn X Γ nL k ks Q pc L (aA a :: S) μ ((gI μ (1 + ci) a j).bind g) := by
  intro r μ' hf H locs ls hH hl hv
  unfold gI at hf
  by_cases h : (mS μ a).1 = 1 + ci
  · rw [if_pos h] at hf
    exact sn_get hC hd hF hH h (v := .int (mI μ a j)) (by unfold fv; rw [hty]) (hk _ r μ' hf H locs ls hH hl hv)
  · rw [if_neg h] at hf
    cases hf
theorem sn_getA {a idx ci j : Nat} {g : Nat → Option (ρ × Mem)} (hC : Cx X Γ cc own nL ret fr lo mc ms) (hd : decode cc pc = .ok (.getfield idx, 3)) (hF : FL own idx ci j) (hty : fT ci j ≠ .int) (hk : ∀ x, Sn X Γ nL k ks Q (pc + 3) L (aA x :: S) μ (g x)) : Sn X Γ nL k ks Q pc L (aA a :: S) μ ((gA μ (1 + ci) a j).bind g) := by
  intro r μ' hf H locs ls hH hl hv
  unfold gA at hf
  by_cases h : (mS μ a).1 = 1 + ci
  · rw [if_pos h] at hf
    refine sn_get hC hd hF hH h (v := rv (mA μ a j)) ?_ (hk _ r μ' hf H locs ls hH hl hv)
    unfold fv
    split
    · rename_i e; exact absurd e hty
    · rfl
  · rw [if_neg h] at hf
    cases hf
/-- a store into a field; fin: it is a final one, in a constructor -/
theorem sn_put {a idx ci j : Nat} {v : Value} {μ1 : Mem} (hC : Cx X Γ cc own nL ret fr lo mc ms) (hd : decode cc pc = .ok (.putfield idx, 3)) (hF : FL own idx ci j) {H : Heap} {locs : List Loc} {ls : Array Slot} {Q' : State → Prop} {rest : List Value} (hH : HH Γ μ (xS X) H) (hl : ∀ q ∈ locs, gB Γ ≤ q.base) (hs : (mS μ a).1 = 1 + ci)
    (hfin : (∀ q : vw_C, vwCl[ci]? = some q → (q.2.1 j).2.2.2 = false) ∨ ((xH X).name = "<init>" ∧ ∀ q : vw_C, vwCl[ci]? = some q → (q.2.1 j).2.2.2 = true ∧ q.1 = own)) (hn : narrow (fT ci j) v = v) (hfit : fits (fT ci j) v = true)
    (hS1 : mS μ1 = mS μ) (hN1 : mN μ1 = mN μ) (hI1 : ∀ b : Nat, b ≠ a → mI μ1 b = mI μ b) (hJ1 : mJ μ1 = mJ μ) (hA1 : ∀ b : Nat, b ≠ a → mA μ1 b = mA μ b) (hv : ∀ i : Nat, fv μ1 ci a i = updV (fv μ ci a) j v i)
    (hk : ∀ (H' : Heap) (locs' : List Loc), HH Γ μ1 (xS X) H' → (∀ q ∈ locs', gB Γ ≤ q.base) → WX X H' locs' k ks Q' (F0 (xM X) (pc + 3) ls rest)) : WX X H locs k ks Q' (F0 (xM X) pc ls (v :: rv a :: rest)) := by
  obtain ⟨q, hq, hj, hw⟩ := hF
  cases a with
  | zero => rw [hH.1.2.2] at hs; omega
  | succ b =>
    obtain ⟨kin, kty, knm, kown⟩ := kc_all ci q hq
    obtain ⟨hB, r, g1, cell, q1, q2, q3, q4⟩ := hH.2.1 b ci (vwCl_lt hq) hs
    cases hq.symm.trans g1
    have hap := va_apart (own := own) hC.2.2.2.2.1 kin (fT ci) kty knm hC.2.2.2.2.2.1.1 hq
    obtain ⟨hS, hfc, kC, hkC, hkind⟩ := hC.2.2.2.2.2.1.1.1 ci _ hq
    obtain ⟨cf, kf, fi, fd, hi, hsl⟩ := hS j hj
    have hst := (u_facts hfc hkC (u_lays hC.2.2.2.2.1 kin hj) hi).1
    have hlay := hC.2.2.2.2.1 _ (kin _ (u_in_lay hj))
    have hi2 := hi
    rw [kown j hj] at hi2
    have fin : ∀ (H' : Heap) (sl : Nat), H'[b]? = some (cell.setSlot fd.slot v) → H'.size = H.size → (∀ z, z ≠ b → H'[z]? = H[z]?) → WX X H' (locs ++ [⟨b, sl⟩]) k ks Q' (F0 (xM X) (pc + 3) ls rest) := by
      intro H' sl e1 e2 e3
      refine hk H' _ ?_ ?_
      · refine hH.put hB hS1 hN1 (fun z hz => hI1 _ (by omega)) (fun z _ => by rw [hJ1]) (fun z hz => hA1 _ (by omega)) e2 e3 (fun ci' hc' hs' => ?_) (fun t ht hs' => ?_)
        · have e : ci' = ci := by omega
          subst e
          refine ⟨q, hq, t_OB.to (V := updV (fv μ ci' (b + 1)) j v) ⟨_, e1, q2, q3, ?_⟩ (fun i _ => (hv i).symm)⟩
          rw [hsl]
          exact t_set q4 hap hj v
        · have := vwCl_lt hq
          omega
      · intro z hz
        rcases List.mem_append.mp hz with h | h
        · exact hl z h
        · rw [List.mem_singleton.mp h]
          exact hB
    rcases hfin with hf0 | ⟨hnm, hf1⟩
    · unfold u_lay at hlay
      rw [if_neg (by rw [hf0 q hq]; decide)] at hlay
      have h6 := u_store hfc hkC hkind hlay hi (kty j hj) hn hfit
      exact W.putK hC.1 hC.2.1 (f := fd) ⟨hC.2.2.2.1, hC.2.2.2.2.1 _ hw, ⟨_, _, _, hi2⟩, hst⟩ (by rw [q2]; exact h6) q1 q3 (by rw [hsl]; exact k2_hasslot (q4 j hj)) rfl rfl hd fun H' e1 e2 e3 => fin H' _ e1 e2 e3
    · obtain ⟨hf1, hdecl⟩ := hf1 q hq
      unfold u_lay at hlay
      rw [if_pos hf1] at hlay
      have hcf : (xM X).cls = cf := by
        obtain ⟨_, _, c', _, _, _, -, -, hf', -, -, -, hown2, -⟩ := Cond.laysFinal_spec hlay
        have e1 : c' = cf := by have := hi.symm.trans hf'; simp at this; exact this.1.symm
        rw [kown j hj, hdecl] at hown2
        rw [← e1]; exact Option.some.inj (hC.2.2.2.1.symm.trans hown2)
      have h6 := u_fits hfc hkC hkind (Or.inr hlay) hi (kty j hj) hn hfit
      exact W.putFinK hC.1 hC.2.1 hC.2.2.2.1 (hC.2.2.2.2.1 _ hw) hi2 hst hcf hnm (by rw [q2]; exact h6) q1 q3 (by rw [hsl]; exact k2_hasslot (q4 j hj)) rfl rfl hd fun H' e1 e2 e3 => fin H' _ e1 e2 e3
theorem sn_putI {a idx ci j : Nat} {x : Int32} {g : Mem → Option (ρ × Mem)} (hC : Cx X Γ cc own nL ret fr lo mc ms) (hd : decode cc pc = .ok (.putfield idx, 3)) (hF : FL own idx ci j) (hty : fT ci j = .int) (hfin : ∀ q : vw_C, vwCl[ci]? = some q → (q.2.1 j).2.2.2 = false) (hk : ∀ μ1, Sn X Γ nL k ks Q (pc + 3) L S μ1 (g μ1)) : Sn X Γ nL k ks Q pc L (aI x :: aA a :: S) μ ((pI μ (1 + ci) a j x).bind g) := by
  intro r μ' hf H locs ls hH hl hv
  unfold pI at hf
  by_cases h : (mS μ a).1 = 1 + ci
  · rw [if_pos h] at hf
    refine sn_put (v := .int x) (μ1 := sI μ a j x) hC hd hF hH hl h (Or.inl hfin) (by rw [hty]; rfl) (by rw [hty]; rfl) rfl rfl (fun b hb => up2_ne _ _ _ _ hb) rfl (fun _ _ => rfl) (fun i => ?_) (fun H' locs' hH' hl' => hk _ r μ' hf H' locs' ls hH' hl' hv)
    unfold updV
    by_cases e : i = j
    · subst e
      rw [if_pos rfl]
      unfold fv
      rw [hty]
      show Value.int (up2 (mI μ) a i x a i) = _
      rw [up2, if_pos ⟨rfl, rfl⟩]
    · rw [if_neg e]
      unfold fv
      split
      · show Value.int (up2 (mI μ) a j x a i) = _
        rw [up2, if_neg fun z => e z.2]
      · rfl
  · rw [if_neg h] at hf
    cases hf
theorem rv_nar {t : FieldType} (h : (∃ n, t = .object n) ∨ ∃ u, t = .array u) (b : Nat) : narrow t (rv b) = rv b ∧ fits t (rv b) = true := by
  rcases h with ⟨n, rfl⟩ | ⟨u, rfl⟩ <;> cases b <;> exact ⟨rfl, rfl⟩
theorem fv_putA (μ : Mem) {ci j : Nat} (a b i : Nat) (hty : fT ci j ≠ .int) : fv (sA μ a j b) ci a i = updV (fv μ ci a) j (rv b) i := by
  unfold updV
  by_cases e : i = j
  · subst e
    rw [if_pos rfl]
    unfold fv
    split
    · rename_i z; exact absurd z hty
    · show rv (up2 (mA μ) a i b a i) = _
      rw [up2, if_pos ⟨rfl, rfl⟩]
  · rw [if_neg e]
    unfold fv
    split
    · rfl
    · show rv (up2 (mA μ) a j b a i) = _
      rw [up2, if_neg fun z => e z.2]
theorem sn_putA {a b idx ci j : Nat} {g : Mem → Option (ρ × Mem)} (hC : Cx X Γ cc own nL ret fr lo mc ms) (hd : decode cc pc = .ok (.putfield idx, 3)) (hF : FL own idx ci j) (hty : (∃ n, fT ci j = .object n) ∨ ∃ u, fT ci j = .array u) (hfin : (∀ q : vw_C, vwCl[ci]? = some q → (q.2.1 j).2.2.2 = false) ∨ ((xH X).name = "<init>" ∧ ∀ q : vw_C, vwCl[ci]? = some q → (q.2.1 j).2.2.2 = true ∧ q.1 = own)) (hk : ∀ μ1, Sn X Γ nL k ks Q (pc + 3) L S μ1 (g μ1)) : Sn X Γ nL k ks Q pc L (aA b :: aA a :: S) μ ((pA μ (1 + ci) a j b).bind g) := by
  intro r μ' hf H locs ls hH hl hv
  unfold pA at hf
  by_cases h : (mS μ a).1 = 1 + ci
  · rw [if_pos h] at hf
    obtain ⟨n1, n2⟩ := rv_nar hty b
    exact sn_put (v := rv b) (μ1 := sA μ a j b) hC hd hF hH hl h hfin n1 n2 rfl rfl (fun _ _ => rfl) rfl (fun b' hb => up2_ne _ _ _ _ hb) (fun i => fv_putA μ a b i (fun z => by rcases hty with ⟨n, e⟩ | ⟨u, e⟩ <;> rw [z] at e <;> cases e)) (fun H' locs' hH' hl' => hk _ r μ' hf H' locs' ls hH' hl' hv)
  · rw [if_neg h] at hf
    cases hf
end SH
