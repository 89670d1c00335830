/-! parted -/
def cls2 (l : Ld) (C D : Nat → Prop) : Prop := ∀ a b : Nat, adj l (-1) a b → (C a → D b) ∧ (D a → C b)
def evn (l : Ld) (h q : Nat) : Prop := ∀ C D : Nat → Prop, cls2 l C D → C h → C q
def odn (l : Ld) (h q : Nat) : Prop := ∀ C D : Nat → Prop, cls2 l C D → C h → D q
theorem evn.rf (l : Ld) (h : Nat) : evn l h h := fun _ _ _ c => c
theorem evn.st {l : Ld} {h a b : Nat} (g : evn l h a) (e : adj l (-1) a b) : odn l h b := fun C D k c => (k a b e).1 (g C D k c)
theorem odn.st {l : Ld} {h a b : Nat} (g : odn l h a) (e : adj l (-1) a b) : evn l h b := fun C D k c => (k a b e).2 (g C D k c)
/-- sides and what is across, step by step -/
def itP (l : Ld) (h : Nat) : Nat → (Nat → Prop) × (Nat → Prop)
  | 0 => (fun q => q = h, fun _ => False)
  | i + 1 => (fun q => (itP l h i).1 q ∨ nrS l (-1) (fun k => (itP l h i).2 k ∨ nrS l (-1) (itP l h i).1 k) q, fun k => (itP l h i).2 k ∨ nrS l (-1) (itP l h i).1 k)
theorem itP_snd {l : Ld} {h : Nat} : ∀ i : Nat, (∀ q : Nat, (itP l h i).1 q → evn l h q) ∧ (∀ q : Nat, (itP l h i).2 q → odn l h q) ∧ (itP l h i).1 h ∧ ∀ a b : Nat, adj l (-1) a b → (itP l h i).2 a → (itP l h i).1 b
  | 0 => ⟨fun q e => by have e : q = h := e; subst e; exact evn.rf l q, fun _ z => z.elim, rfl, fun _ _ _ z => z.elim⟩
  | i + 1 => by
    obtain ⟨h1, h2, h3, h4⟩ := itP_snd (l := l) (h := h) i
    have h2' : ∀ q : Nat, (itP l h (i + 1)).2 q → odn l h q := fun q z => by
      rcases z with z | ⟨x, z1, z2⟩
      · exact h2 q z
      · exact (h1 x z1).st z2
    refine ⟨fun q z => ?_, h2', Or.inl h3, fun a b e z => Or.inr ⟨a, z, e⟩⟩
    rcases z with z | ⟨x, z1, z2⟩
    · exact h1 q z
    · exact (h2' x z1).st z2
theorem itP_cl {l : Ld} (hk : okL l) {h : Nat} : ∀ i : Nat, (∀ a b : Nat, adj l (-1) a b → (itP l h i).1 a → (itP l h i).2 b) ∨ i ≤ cd (l 0 0).toNat (itP l h i).2
  | 0 => Or.inr (Nat.zero_le _)
  | i + 1 => by
    obtain ⟨h1, h2, h3, h4⟩ := itP_snd (l := l) (h := h) i
    by_cases c : ∀ a b : Nat, adj l (-1) a b → (itP l h i).1 a → (itP l h i).2 b
    · left
      have e2 : ∀ k : Nat, (itP l h (i + 1)).2 k → (itP l h i).2 k := fun k z => by
        rcases z with z | ⟨x, z1, z2⟩
        · exact z
        · exact c x k z2 z1
      have e1 : ∀ k : Nat, (itP l h (i + 1)).1 k → (itP l h i).1 k := fun k z => by
        rcases z with z | ⟨x, z1, z2⟩
        · exact z
        · exact h4 x k z2 (e2 x z1)
      exact fun a b e z => Or.inl (c a b e (e1 a z))
    · right
      rcases itP_cl hk (h := h) i with z | z
      · exact absurd z c
      · have : ∃ a b : Nat, adj l (-1) a b ∧ (itP l h i).1 a ∧ ¬ (itP l h i).2 b := Classical.byContradiction fun hn => c (fun a b e ha => Classical.byContradiction fun hb => hn ⟨a, b, e, ha, hb⟩)
        obtain ⟨a, b, e, ha, hb⟩ := this
        have := cd_lt (S := (itP l h i).2) (T := (itP l h (i + 1)).2) (l 0 0).toNat (fun k _ z => Or.inl z) ⟨b, by have := e.lt hk; omega, Or.inr ⟨a, ha, e⟩, hb⟩
        omega
theorem itP_N {l : Ld} (hk : okL l) {h : Nat} (q : Nat) : ((itP l h (l 0 0).toNat).1 q ↔ evn l h q) ∧ ((itP l h (l 0 0).toNat).2 q ↔ odn l h q) := by
  obtain ⟨h1, h2, h3, h4⟩ := itP_snd (l := l) (h := h) (l 0 0).toNat
  have c : cls2 l (itP l h (l 0 0).toNat).1 (itP l h (l 0 0).toNat).2 := fun a b e => by
    refine ⟨fun z => ?_, h4 a b e⟩
    rcases itP_cl hk (h := h) (l 0 0).toNat with g | g
    · exact g a b e z
    · exact cd_full _ g b (by have := e.lt hk; omega)
  exact ⟨⟨h1 q, fun z => z _ _ c h3⟩, ⟨h2 q, fun z => z _ _ c h3⟩⟩
/-- what parted comes to -/
def ptR (l : Ld) : Nat → Nat → (Nat → Prop) → (Nat → Prop) → Int → Prop
  | 0, _, C, _, v => isMk v C
  | d + 1, h, C, D, v => ((C h ∨ D h) ∧ ptR l d (h + 1) C D v) ∨ (¬ (C h ∨ D h) ∧ (∃ k : Nat, evn l h k ∧ odn l h k) ∧ v = -1) ∨ (¬ (C h ∨ D h) ∧ ¬ (∃ k : Nat, evn l h k ∧ odn l h k) ∧ ptR l d (h + 1) (fun k => C k ∨ evn l h k) (fun k => D k ∨ odn l h k) v)
theorem ptR_fn {l : Ld} : ∀ (d h : Nat) (C D : Nat → Prop) (v u : Int), ptR l d h C D v → ptR l d h C D u → v = u
  | 0, h, C, D, v, u, h1, h2 => mk_ext h1 h2 (fun _ => Iff.rfl)
  | d + 1, h, C, D, v, u, h1, h2 => by
    rcases h1 with ⟨a1, b1⟩ | ⟨a1, b1, c1⟩ | ⟨a1, b1, c1⟩ <;> rcases h2 with ⟨a2, b2⟩ | ⟨a2, b2, c2⟩ | ⟨a2, b2, c2⟩
    · exact ptR_fn d (h + 1) C D v u b1 b2
    · exact absurd a1 a2
    · exact absurd a1 a2
    · exact absurd a2 a1
    · rw [c1, c2]
    · exact absurd b1 b2
    · exact absurd a2 a1
    · exact absurd b2 b1
    · exact ptR_fn d (h + 1) _ _ v u c1 c2
theorem ptR_cg {l : Ld} : ∀ (d h : Nat) (C C' D D' : Nat → Prop) (v : Int), (∀ k : Nat, C k ↔ C' k) → (∀ k : Nat, D k ↔ D' k) → ptR l d h C D v → ptR l d h C' D' v := by
  intro d h C C' D D' v e1 e2 g
  have : C = C' := funext fun k => propext (e1 k)
  have : D = D' := funext fun k => propext (e2 k)
  subst_vars
  exact g
section PT
variable {μ : Mem} {I J : Nat → Nat → Int} {c m n t : Nat} {s l : Ld} {β : Type}
theorem i_e0_t {α : Type} {x : Int} {S : Nat → Prop} {a b : α} {i : Decidable (eq32 x 0)} (h : isMk x S) (hs : ∀ k : Nat, ¬ S k) : @ite α (eq32 x 0) i a b = a := if_pos (by rw [(mk_z h).mpr hs])
theorem i_e0_f {α : Type} {x : Int} {S : Nat → Prop} {a b : α} {i : Decidable (eq32 x 0)} (h : isMk x S) (hs : ¬ ∀ k : Nat, ¬ S k) : @ite α (eq32 x 0) i a b = b := if_neg (fun z => hs ((mk_z h).mp ((eq32_iff (by have := h.lt; omega) (by have := h.lt; omega) (by omega) (by omega)).mp z)))
theorem oneSide_eq (hT : isTi μ t) (hJ : tsP l (-1) J t) (hk : okL l) (hn : 20000 ≤ n) : ∃ v : Int, ptR l (l 0 0).toNat 0 (fun _ => False) (fun _ => False) v ∧ mX9_oneSide n t (wi μ J) = some (v, wi μ J) := by
  have hz := hk.1
  unfold mX9_oneSide
  refine lp_ind (fun d (v : Int × Int × Int) ν => ∃ (C D : Nat → Prop) (h : Nat), ν = wi μ J ∧ v.2.2 = (h : Int) ∧ (h : Int) + d = l 0 0 ∧ isMk v.1 C ∧ isMk v.2.1 (fun k => C k ∨ D k) ∧ ∀ u : Int, ptR l d h C D u → ptR l (l 0 0).toNat 0 (fun _ => False) (fun _ => False) u) (fun X => ∃ v : Int, ptR l (l 0 0).toNat 0 (fun _ => False) (fun _ => False) v ∧ X = some (v, wi μ J)) (fun d v ν nx hP hnx => ?_) n (l 0 0).toNat _ _ (by omega) ⟨_, _, 0, rfl, rfl, by omega, mk_0, mk_0.cg (fun k => ⟨fun z => z.elim, fun z => z.elim id id⟩), fun _ g => g⟩
  obtain ⟨C, D, h, rfl, e3, h1, hC, hM, hv⟩ := hP
  obtain ⟨x, y, kk⟩ := v
  dsimp only at e3 hC hM
  subst e3
  cases d with
  | zero =>
    simp (disch := omega) only [↓i_lt_t, ↓i_lt_f, ↓i_eq_t, ↓i_eq_f, ↓i_bi_t, ↓i_bi_f, ↓i_some, ↓bt_gI hT, hJ.1]
    exact ⟨x, hv x hC, rfl⟩
  | succ d =>
    by_cases cm : C h ∨ D h
    · simp (disch := omega) only [↓i_lt_t, ↓i_lt_f, ↓i_eq_t, ↓i_eq_f, ↓i_bi_t, ↓i_bi_f, ↓i_some, ↓bt_gI hT, hJ.1, ↓i_m0_f hM (show h < 31 by omega) cm]
      exact hnx d _ _ (by omega) ⟨C, D, h + 1, rfl, by show (h : Int) + 1 = _; omega, by omega, hC, hM, fun u g => hv u (Or.inl ⟨cm, g⟩)⟩
    · simp (disch := omega) only [↓i_lt_t, ↓i_lt_f, ↓i_eq_t, ↓i_eq_f, ↓i_bi_t, ↓i_bi_f, ↓i_some, ↓bt_gI hT, hJ.1, ↓i_m0_t hM (show h < 31 by omega) cm]
      refine lp_ind (fun e (v : Int × Int × Int) ν => ∃ (k : Nat), ν = wi μ J ∧ v.2.2 = (k : Int) ∧ (k : Int) + e = l 0 0 ∧ isMk v.1 (itP l h k).1 ∧ isMk v.2.1 (itP l h k).2) (fun X => ∃ v : Int, ptR l (l 0 0).toNat 0 (fun _ => False) (fun _ => False) v ∧ X = some (v, wi μ J)) (fun e v ν nx2 hP hnx2 => ?_) n (l 0 0).toNat _ _ (by omega) ⟨0, rfl, rfl, by omega, mk_1 (by omega), mk_0⟩
      obtain ⟨k, rfl, e3, h2, hS, hA⟩ := hP
      obtain ⟨p, q, kk⟩ := v
      dsimp only at e3 hS hA
      subst e3
      cases e with
      | zero =>
        have ek : k = (l 0 0).toNat := by omega
        subst ek
        have hS' : isMk p (evn l h) := hS.cg (fun k => (itP_N hk k).1)
        have hA' : isMk q (odn l h) := hA.cg (fun k => (itP_N hk k).2)
        have hand := mk_and hS' hA'
        by_cases ce : ∃ k : Nat, evn l h k ∧ odn l h k
        · simp (disch := omega) only [↓i_lt_t, ↓i_lt_f, ↓i_eq_t, ↓i_eq_f, ↓i_bi_t, ↓i_bi_f, ↓i_some, ↓bt_gI hT, hJ.1, ↓i_e0_f hand (fun z => ce.elim (fun k g => z k g))]
          exact ⟨-1, hv _ (Or.inr (Or.inl ⟨cm, ce, rfl⟩)), rfl⟩
        · simp (disch := omega) only [↓i_lt_t, ↓i_lt_f, ↓i_eq_t, ↓i_eq_f, ↓i_bi_t, ↓i_bi_f, ↓i_some, ↓bt_gI hT, hJ.1, ↓i_e0_t hand (fun k g => ce ⟨k, g⟩)]
          refine hnx d _ _ (by omega) ⟨_, fun k => D k ∨ odn l h k, h + 1, rfl, by show (h : Int) + 1 = _; omega, by omega, mk_or hC hS', (mk_or hM (mk_or hS' hA')).cg (fun k => ?_), fun u g => hv u (Or.inr (Or.inr ⟨cm, ce, g⟩))⟩
          refine ⟨fun z => ?_, fun z => ?_⟩
          · rcases z with (z | z) | z | z
            · exact Or.inl (Or.inl z)
            · exact Or.inr (Or.inl z)
            · exact Or.inl (Or.inr z)
            · exact Or.inr (Or.inr z)
          · rcases z with (z | z) | z | z
            · exact Or.inl (Or.inl z)
            · exact Or.inr (Or.inl z)
            · exact Or.inl (Or.inr z)
            · exact Or.inr (Or.inr z)
      | succ e =>
        obtain ⟨u1, hu1, eu1⟩ := nearAny_eq (n := n) hT hJ hk hS hn
        have hA2 := mk_or hA hu1
        obtain ⟨u2, hu2, eu2⟩ := nearAny_eq (n := n) hT hJ hk hA2 hn
        simp (disch := omega) only [↓i_lt_t, ↓i_lt_f, ↓i_eq_t, ↓i_eq_f, ↓i_bi_t, ↓i_bi_f, ↓i_some, ↓bt_gI hT, hJ.1, ↓bt_inv hT, ↓bnd eu1, ↓bnd eu2]
        exact hnx2 e _ _ (by omega) ⟨k + 1, rfl, by show (k : Int) + 1 = _; omega, by omega, mk_or hS hu2, hA2⟩
noncomputable def cv (p : Prop) (v : Int) : Int := @ite Int p (Classical.propDecidable p) v 0
theorem jn_bc {ρ : Type} {p : Prop} {v : Int} {ν : Mem} {K : Int → Mem → Option (ρ × Mem)} {i : Decidable (eq32 (bc p) 0)} : jn K (fun j => @ite _ (eq32 (bc p) 0) i (j 0 ν) (j v ν)) = K (cv p v) ν := by
  unfold jn cv
  dsimp only
  by_cases h : p
  · rw [i_bc_t h, if_pos h]
  · rw [i_bc_f h, if_neg h]
theorem mk_cv {p : Prop} {b : Nat} (hb : b < 10) : isMk (cv p (oShl 1 (b : Int))) (fun k => p ∧ k = b) := by
  unfold cv
  by_cases h : p
  · rw [if_pos h]; exact (mk_1 hb).cg (fun k => ⟨fun z => ⟨h, z⟩, fun z => z.2⟩)
  · rw [if_neg h]; exact mk_0.cg (fun k => ⟨fun z => z.elim, fun z => absurd z.1 h⟩)
theorem parted_m (h : isM μ m) (hl : LR l (s 1)) (hk : okL l) (hn : 20000 ≤ n) : ∃ v : Int, ptR l (l 0 0).toNat 0 (fun _ => False) (fun _ => False) v ∧ mX11_parted n m (wi μ (wm I m s)) = some (v, wi μ (wm I m (up2 s 0 0 0))) := by
  have hz := hk.1
  have r1 : up2 s 0 0 0 1 = s 1 := up2_row (by decide)
  have lr : LR l (up2 s 0 0 0 1) := by rw [r1]; exact hl
  have a0 : up2 s 0 0 0 1 0 = l 0 0 := lr.1.1
  have a1 : up2 s 0 0 0 1 1 = l 0 1 := lr.1.2.1
  unfold mX11_parted
  simp (disch := omega) only [↓i_lt_t, ↓i_lt_f, ↓i_eq_t, ↓i_eq_f, ↓i_bi_t, ↓i_bi_f, ↓i_some, ↓bM_gI h, ↓bM_pI h, ↓bM_inv h, ↓bM_g1 h, ↓bM_g2 h, ↓bM_g3 h, ↓bM_g4 h, ↓bM_g15 h, ↓bM_g16 h, ↓bM_g22 h, ↓bM_g23 h, ↓bM_g24 h, ↓bM_g25 h, ↓bM_g28 h, ↓bM_g29 h, ↓bM_g30 h, ↓bM_g32 h, ↓bM_g33 h, ↓bM_g34 h, ↓bM_g36 h, ↓bM_g37 h, ↓bM_g41 h, ↓bM_g42 h, ↓bM_g43 h, ↓bM_ld1 h, ↓bM_ld2 h, ↓bM_ld3 h, ↓bM_ld4 h, ↓bM_ld5 h, ↓bM_ld6 h, ↓bM_ld7 h, ↓bM_ld8 h, ↓bM_ld9 h, ↓bM_ld10 h, ↓bM_ld11 h, ↓bM_ld12 h, ↓bM_ld13 h, ↓bM_ld14 h, ↓bM_ld15 h, ↓bM_ld16 h, ↓bM_ld17 h, ↓bM_ld18 h, ↓bM_ld19 h, ↓bM_ld20 h, ↓bM_ld21 h, ↓bM_st1 h, ↓bM_st2 h, ↓bM_st3 h, ↓bM_st4 h, ↓bM_st5 h, ↓bM_st6 h, ↓bM_st7 h, ↓bM_st8 h, ↓bM_st9 h, ↓bM_st10 h, ↓bM_st11 h, ↓bM_st12 h, ↓bM_st13 h, ↓bM_st14 h, ↓bM_st15 h, ↓bM_st16 h, ↓bM_st17 h, ↓bM_st18 h, ↓bM_st19 h, ↓bM_st20 h, ↓bM_st21 h]
  generalize up2 s 0 0 0 = s0 at lr a0 a1
  refine lp_ind (fun d (v : Int × Int × Int) ν => ∃ (C D : Nat → Prop) (q : Nat), ν = wi μ (wm I m s0) ∧ v.2.2 = (q : Int) ∧ (q : Int) + d = l 0 0 ∧ isMk v.1 C ∧ isMk v.2.1 D ∧ cls2 l C D ∧ (∀ k : Nat, ¬ (C k ∧ D k)) ∧ ∀ u : Int, ptR l d q C D u → ptR l (l 0 0).toNat 0 (fun _ => False) (fun _ => False) u) (fun X => ∃ v : Int, ptR l (l 0 0).toNat 0 (fun _ => False) (fun _ => False) v ∧ X = some (v, wi μ (wm I m s0))) (fun d v ν nx hP hnx => ?_) n (l 0 0).toNat _ _ (by omega) ⟨_, _, 0, rfl, rfl, by omega, mk_0, mk_0, fun _ _ _ => ⟨fun z => z.elim, fun z => z.elim⟩, fun _ z => z.1.elim, fun _ g => g⟩
  obtain ⟨C, D, q, rfl, e3, h1, hC, hD, hcl, hdis, hv⟩ := hP
  obtain ⟨x, y, kk⟩ := v
  dsimp only at e3 hC hD
  subst e3
  cases d with
  | zero =>
    simp (disch := omega) only [↓i_lt_t, ↓i_lt_f, ↓i_eq_t, ↓i_eq_f, ↓i_bi_t, ↓i_bi_f, ↓i_some, ↓bM_gI h, ↓bM_pI h, ↓bM_inv h, ↓bM_g1 h, ↓bM_g2 h, ↓bM_g3 h, ↓bM_g4 h, ↓bM_g15 h, ↓bM_g16 h, ↓bM_g22 h, ↓bM_g23 h, ↓bM_g24 h, ↓bM_g25 h, ↓bM_g28 h, ↓bM_g29 h, ↓bM_g30 h, ↓bM_g32 h, ↓bM_g33 h, ↓bM_g34 h, ↓bM_g36 h, ↓bM_g37 h, ↓bM_g41 h, ↓bM_g42 h, ↓bM_g43 h, ↓bM_ld1 h, ↓bM_ld2 h, ↓bM_ld3 h, ↓bM_ld4 h, ↓bM_ld5 h, ↓bM_ld6 h, ↓bM_ld7 h, ↓bM_ld8 h, ↓bM_ld9 h, ↓bM_ld10 h, ↓bM_ld11 h, ↓bM_ld12 h, ↓bM_ld13 h, ↓bM_ld14 h, ↓bM_ld15 h, ↓bM_ld16 h, ↓bM_ld17 h, ↓bM_ld18 h, ↓bM_ld19 h, ↓bM_ld20 h, ↓bM_ld21 h, ↓bM_st1 h, ↓bM_st2 h, ↓bM_st3 h, ↓bM_st4 h, ↓bM_st5 h, ↓bM_st6 h, ↓bM_st7 h, ↓bM_st8 h, ↓bM_st9 h, ↓bM_st10 h, ↓bM_st11 h, ↓bM_st12 h, ↓bM_st13 h, ↓bM_st14 h, ↓bM_st15 h, ↓bM_st16 h, ↓bM_st17 h, ↓bM_st18 h, ↓bM_st19 h, ↓bM_st20 h, ↓bM_st21 h, Int.toNat_add, Int.toNat_mul, Int.toNat_natCast, Int.reduceToNat, Nat.reduceAdd, Nat.reduceMul, a0]
    exact ⟨x, hv x hC, rfl⟩
  | succ d =>
    have hCD := mk_or hC hD
    by_cases cm : C q ∨ D q
    · simp (disch := omega) only [↓i_lt_t, ↓i_lt_f, ↓i_eq_t, ↓i_eq_f, ↓i_bi_t, ↓i_bi_f, ↓i_some, ↓bM_gI h, ↓bM_pI h, ↓bM_inv h, ↓bM_g1 h, ↓bM_g2 h, ↓bM_g3 h, ↓bM_g4 h, ↓bM_g15 h, ↓bM_g16 h, ↓bM_g22 h, ↓bM_g23 h, ↓bM_g24 h, ↓bM_g25 h, ↓bM_g28 h, ↓bM_g29 h, ↓bM_g30 h, ↓bM_g32 h, ↓bM_g33 h, ↓bM_g34 h, ↓bM_g36 h, ↓bM_g37 h, ↓bM_g41 h, ↓bM_g42 h, ↓bM_g43 h, ↓bM_ld1 h, ↓bM_ld2 h, ↓bM_ld3 h, ↓bM_ld4 h, ↓bM_ld5 h, ↓bM_ld6 h, ↓bM_ld7 h, ↓bM_ld8 h, ↓bM_ld9 h, ↓bM_ld10 h, ↓bM_ld11 h, ↓bM_ld12 h, ↓bM_ld13 h, ↓bM_ld14 h, ↓bM_ld15 h, ↓bM_ld16 h, ↓bM_ld17 h, ↓bM_ld18 h, ↓bM_ld19 h, ↓bM_ld20 h, ↓bM_ld21 h, ↓bM_st1 h, ↓bM_st2 h, ↓bM_st3 h, ↓bM_st4 h, ↓bM_st5 h, ↓bM_st6 h, ↓bM_st7 h, ↓bM_st8 h, ↓bM_st9 h, ↓bM_st10 h, ↓bM_st11 h, ↓bM_st12 h, ↓bM_st13 h, ↓bM_st14 h, ↓bM_st15 h, ↓bM_st16 h, ↓bM_st17 h, ↓bM_st18 h, ↓bM_st19 h, ↓bM_st20 h, ↓bM_st21 h, Int.toNat_add, Int.toNat_mul, Int.toNat_natCast, Int.reduceToNat, Nat.reduceAdd, Nat.reduceMul, a0, ↓isIn_w hCD, ↓i_bc_t cm]
      exact hnx d _ _ (by omega) ⟨C, D, q + 1, rfl, by show (q : Int) + 1 = _; omega, by omega, hC, hD, hcl, hdis, fun u g => hv u (Or.inl ⟨cm, g⟩)⟩
    · simp (disch := omega) only [↓i_lt_t, ↓i_lt_f, ↓i_eq_t, ↓i_eq_f, ↓i_bi_t, ↓i_bi_f, ↓i_some, ↓bM_gI h, ↓bM_pI h, ↓bM_inv h, ↓bM_g1 h, ↓bM_g2 h, ↓bM_g3 h, ↓bM_g4 h, ↓bM_g15 h, ↓bM_g16 h, ↓bM_g22 h, ↓bM_g23 h, ↓bM_g24 h, ↓bM_g25 h, ↓bM_g28 h, ↓bM_g29 h, ↓bM_g30 h, ↓bM_g32 h, ↓bM_g33 h, ↓bM_g34 h, ↓bM_g36 h, ↓bM_g37 h, ↓bM_g41 h, ↓bM_g42 h, ↓bM_g43 h, ↓bM_ld1 h, ↓bM_ld2 h, ↓bM_ld3 h, ↓bM_ld4 h, ↓bM_ld5 h, ↓bM_ld6 h, ↓bM_ld7 h, ↓bM_ld8 h, ↓bM_ld9 h, ↓bM_ld10 h, ↓bM_ld11 h, ↓bM_ld12 h, ↓bM_ld13 h, ↓bM_ld14 h, ↓bM_ld15 h, ↓bM_ld16 h, ↓bM_ld17 h, ↓bM_ld18 h, ↓bM_ld19 h, ↓bM_ld20 h, ↓bM_ld21 h, ↓bM_st1 h, ↓bM_st2 h, ↓bM_st3 h, ↓bM_st4 h, ↓bM_st5 h, ↓bM_st6 h, ↓bM_st7 h, ↓bM_st8 h, ↓bM_st9 h, ↓bM_st10 h, ↓bM_st11 h, ↓bM_st12 h, ↓bM_st13 h, ↓bM_st14 h, ↓bM_st15 h, ↓bM_st16 h, ↓bM_st17 h, ↓bM_st18 h, ↓bM_st19 h, ↓bM_st20 h, ↓bM_st21 h, Int.toNat_add, Int.toNat_mul, Int.toNat_natCast, Int.reduceToNat, Nat.reduceAdd, Nat.reduceMul, a0, ↓isIn_w hCD, ↓i_bc_f cm]
      -- the part of q lies apart from what was met
      have apart : ∀ k : Nat, (evn l q k ∨ odn l q k) → ¬ C k ∧ ¬ D k := fun k z => by
        have cl : cls2 l (fun k => ¬ C k ∧ ¬ D k) (fun k => ¬ C k ∧ ¬ D k) := fun a b e => by
          have g := hcl b a e.sym
          exact ⟨fun w => ⟨fun u => w.2 (g.1 u), fun u => w.1 (g.2 u)⟩, fun w => ⟨fun u => w.2 (g.1 u), fun u => w.1 (g.2 u)⟩⟩
        have nq : ¬ C q ∧ ¬ D q := ⟨fun u => cm (Or.inl u), fun u => cm (Or.inr u)⟩
        rcases z with z | z
        · exact z _ _ cl nq
        · exact z _ _ cl nq
      refine lp_ind (fun e (v : Int × Int × Int) ν => ∃ (X Y : Nat → Prop), ν = wi μ (wm I m s0) ∧ isMk v.1 X ∧ isMk v.2.1 Y ∧ (-1 ≤ v.2.2 ∧ v.2.2 < 1024) ∧ (∀ k : Nat, C k → X k) ∧ X q ∧ (∀ k : Nat, D k → Y k) ∧ (∀ k : Nat, X k → C k ∨ evn l q k) ∧ (∀ k : Nat, Y k → D k ∨ odn l q k) ∧ (v.2.2 = oOr v.1 v.2.1 → cls2 l X Y ∨ ∃ k : Nat, X k ∧ Y k) ∧ 2 * (10 - cd 10 (fun k => X k ∨ Y k)) + (if v.2.2 = oOr v.1 v.2.1 then 0 else 1) ≤ e) (fun X => ∃ v : Int, ptR l (l 0 0).toNat 0 (fun _ => False) (fun _ => False) v ∧ X = some (v, wi μ (wm I m s0))) (fun e v ν nx2 hP hnx2 => ?_) n 21 _ _ (by omega) ⟨fun k => C k ∨ k = q, D, rfl, mk_or hC (mk_1 (by omega)), hD, by dsimp only; omega, fun k z => Or.inl z, Or.inr rfl, fun k z => z, fun k z => z.elim Or.inl (fun z => Or.inr (by subst z; exact evn.rf l _)), fun k z => Or.inl z, fun z => ?_, by dsimp only; split <;> omega⟩
      · obtain ⟨X, Y, rfl, hX, hY, hu, cX, Xq, dY, Xs, Ys, hst, hms⟩ := hP
        obtain ⟨x1, y1, u⟩ := v
        dsimp only at hX hY hu hst hms
        have hXY := mk_or hX hY
        have hxy := hXY.lt
        have hand := mk_and hX hY
        by_cases cu : u = oOr x1 y1
        · by_cases ce : ∃ k : Nat, X k ∧ Y k
          · simp (disch := omega) only [↓i_lt_t, ↓i_lt_f, ↓i_eq_t, ↓i_eq_f, ↓i_bi_t, ↓i_bi_f, ↓i_some, ↓i_e0_f hand (fun z => ce.elim (fun k g => z k g))]
            refine ⟨-1, hv _ (Or.inr (Or.inl ⟨cm, ?_, rfl⟩)), rfl⟩
            obtain ⟨k, g1, g2⟩ := ce
            rcases Xs k g1 with z1 | z1
            · rcases Ys k g2 with z2 | z2
              · exact absurd ⟨z1, z2⟩ (hdis k)
              · exact absurd z1 (apart k (Or.inr z2)).1
            · rcases Ys k g2 with z2 | z2
              · exact absurd z2 (apart k (Or.inl z1)).2
              · exact ⟨k, z1, z2⟩
          · have hcl2 : cls2 l X Y := (hst cu).resolve_right ce
            have eX : ∀ k : Nat, X k ↔ C k ∨ evn l q k := fun k => ⟨Xs k, fun z => z.elim (cX k) (fun z => z X Y hcl2 Xq)⟩
            have eY : ∀ k : Nat, Y k ↔ D k ∨ odn l q k := fun k => ⟨Ys k, fun z => z.elim (dY k) (fun z => z X Y hcl2 Xq)⟩
            simp (disch := omega) only [↓i_lt_t, ↓i_lt_f, ↓i_eq_t, ↓i_eq_f, ↓i_bi_t, ↓i_bi_f, ↓i_some, ↓i_e0_t hand (fun k g => ce ⟨k, g⟩)]
            refine hnx d _ _ (by omega) ⟨X, Y, q + 1, rfl, by show (q : Int) + 1 = _; omega, by omega, hX, hY, hcl2, fun k g => ce ⟨k, g⟩, fun w g => hv w (Or.inr (Or.inr ⟨cm, fun ⟨k, g1, g2⟩ => ce ⟨k, (eX k).mpr (Or.inr g1), (eY k).mpr (Or.inr g2)⟩, ptR_cg _ _ _ _ _ _ _ eX eY g⟩))⟩
        · rw [if_neg cu] at hms
          simp (disch := omega) only [↓i_lt_t, ↓i_lt_f, ↓i_eq_t, ↓i_eq_f, ↓i_bi_t, ↓i_bi_f, ↓i_some]
          refine lp_ind (fun f (v : Int × Int × Int) ν => ∃ (X' Y' : Nat → Prop) (r : Nat), ν = wi μ (wm I m s0) ∧ v.2.2 = (r : Int) ∧ (r : Int) + f = l 0 1 ∧ isMk v.1 X' ∧ isMk v.2.1 Y' ∧ (∀ k : Nat, X k → X' k) ∧ (∀ k : Nat, Y k → Y' k) ∧ (∀ k : Nat, X' k → C k ∨ evn l q k) ∧ (∀ k : Nat, Y' k → D k ∨ odn l q k) ∧ ((∀ k : Nat, X' k → X k) → (∀ k : Nat, Y' k → Y k) → ∀ a b : Nat, adjK l (-1) r a b → (X a → Y b) ∧ (Y a → X b))) (fun X => ∃ v : Int, ptR l (l 0 0).toNat 0 (fun _ => False) (fun _ => False) v ∧ X = some (v, wi μ (wm I m s0))) (fun f v ν nx3 hP hnx3 => ?_) n (l 0 1).toNat _ _ (by omega) ⟨X, Y, 0, rfl, rfl, by omega, hX, hY, fun k z => z, fun k z => z, Xs, Ys, fun _ _ a b ⟨r, hr, _⟩ => by omega⟩
          obtain ⟨X', Y', r, rfl, e3, h2, hX', hY', iX, iY, Xs', Ys', hst'⟩ := hP
          obtain ⟨x2, y2, rr⟩ := v
          dsimp only at e3 hX' hY'
          subst e3
          cases f with
          | zero =>
            have hXY' := mk_or hX' hY'
            simp (disch := omega) only [↓i_lt_t, ↓i_lt_f, ↓i_eq_t, ↓i_eq_f, ↓i_bi_t, ↓i_bi_f, ↓i_some, ↓bM_gI h, ↓bM_pI h, ↓bM_inv h, ↓bM_g1 h, ↓bM_g2 h, ↓bM_g3 h, ↓bM_g4 h, ↓bM_g15 h, ↓bM_g16 h, ↓bM_g22 h, ↓bM_g23 h, ↓bM_g24 h, ↓bM_g25 h, ↓bM_g28 h, ↓bM_g29 h, ↓bM_g30 h, ↓bM_g32 h, ↓bM_g33 h, ↓bM_g34 h, ↓bM_g36 h, ↓bM_g37 h, ↓bM_g41 h, ↓bM_g42 h, ↓bM_g43 h, ↓bM_ld1 h, ↓bM_ld2 h, ↓bM_ld3 h, ↓bM_ld4 h, ↓bM_ld5 h, ↓bM_ld6 h, ↓bM_ld7 h, ↓bM_ld8 h, ↓bM_ld9 h, ↓bM_ld10 h, ↓bM_ld11 h, ↓bM_ld12 h, ↓bM_ld13 h, ↓bM_ld14 h, ↓bM_ld15 h, ↓bM_ld16 h, ↓bM_ld17 h, ↓bM_ld18 h, ↓bM_ld19 h, ↓bM_ld20 h, ↓bM_ld21 h, ↓bM_st1 h, ↓bM_st2 h, ↓bM_st3 h, ↓bM_st4 h, ↓bM_st5 h, ↓bM_st6 h, ↓bM_st7 h, ↓bM_st8 h, ↓bM_st9 h, ↓bM_st10 h, ↓bM_st11 h, ↓bM_st12 h, ↓bM_st13 h, ↓bM_st14 h, ↓bM_st15 h, ↓bM_st16 h, ↓bM_st17 h, ↓bM_st18 h, ↓bM_st19 h, ↓bM_st20 h, ↓bM_st21 h, Int.toNat_add, Int.toNat_mul, Int.toNat_natCast, Int.reduceToNat, Nat.reduceAdd, Nat.reduceMul, a1]
            have same : oOr x1 y1 = oOr x2 y2 → ∀ k : Nat, (X k ∨ Y k) ↔ (X' k ∨ Y' k) := fun z k => by
              rw [z] at hXY
              exact mk_inj hXY hXY' k
            refine hnx2 (2 * (10 - cd 10 (fun k => X' k ∨ Y' k)) + (if oOr x1 y1 = oOr x2 y2 then 0 else 1)) _ _ ?_ ⟨X', Y', rfl, hX', hY', by dsimp only; omega, fun k z => iX k (cX k z), iX q Xq, fun k z => iY k (dY k z), Xs', Ys', fun z => ?_, Nat.le_refl _⟩
            · by_cases ez : oOr x1 y1 = oOr x2 y2
              · rw [if_pos ez]
                have : cd 10 (fun k => X k ∨ Y k) ≤ cd 10 (fun k => X' k ∨ Y' k) := cd_mono 10 (fun k _ z => z.elim (fun z => Or.inl (iX k z)) (fun z => Or.inr (iY k z)))
                omega
              · rw [if_neg ez]
                have lt : cd 10 (fun k => X k ∨ Y k) < cd 10 (fun k => X' k ∨ Y' k) := cd_lt 10 (fun k _ z => z.elim (fun z => Or.inl (iX k z)) (fun z => Or.inr (iY k z))) (Classical.byContradiction fun hn => ez (mk_ext hXY hXY' (fun k => ⟨fun z => z.elim (fun z => Or.inl (iX k z)) (fun z => Or.inr (iY k z)), fun z => Classical.byContradiction fun zz => hn ⟨k, hXY'.k10 z, z, zz⟩⟩)))
                have := cd_le (fun k => X' k ∨ Y' k) 10
                omega
            · by_cases ce : ∃ k : Nat, X' k ∧ Y' k
              · exact Or.inr ce
              · left
                have sm := same z
                have bX : ∀ k : Nat, X' k → X k := fun k g => ((sm k).mpr (Or.inl g)).resolve_right (fun w => ce ⟨k, g, iY k w⟩)
                have bY : ∀ k : Nat, Y' k → Y k := fun k g => ((sm k).mpr (Or.inr g)).resolve_left (fun w => ce ⟨k, iX k w, g⟩)
                intro a b ⟨r', g1, g2⟩
                have g := hst' bX bY a b ⟨r', by omega, g2⟩
                exact ⟨fun w => iY b (g.1 (bX a w)), fun w => iX b (g.2 (bY a w))⟩
          | succ f =>
            have hr : (r : Int) < l 0 1 := by omega
            obtain ⟨k1, k2, -⟩ := lr.2.2 r hr
            have g1 := hk.2.2.2 (2 * r) (by omega)
            have g2 := hk.2.2.2 (2 * r + 1) (by omega)
            obtain ⟨a, ha⟩ : ∃ a : Nat, l 10 (2 * r) = (a : Int) := ⟨(l 10 (2 * r)).toNat, by omega⟩
            obtain ⟨b, hb⟩ : ∃ b : Nat, l 10 (2 * r + 1) = (b : Int) := ⟨(l 10 (2 * r + 1)).toNat, by omega⟩
            rw [ha] at k1 g1
            rw [hb] at k2 g2
            by_cases c9 : l 9 r = 0
            · have hab : adj l (-1) a b := ⟨r, hr, c9, by omega, Or.inl ⟨ha, hb⟩⟩
              have mo := mk_or (mk_or hY' (mk_cv (p := X' a) (b := b) (by omega))) (mk_cv (p := X' b) (b := a) (by omega))
              have mi := mk_or (mk_or hX' (mk_cv (p := (Y' a ∨ X' a ∧ a = b) ∨ X' b ∧ True) (b := b) (by omega))) (mk_cv (p := (Y' b ∨ X' a ∧ True) ∨ X' b ∧ b = a) (b := a) (by omega))
              simp (disch := omega) only [↓i_lt_t, ↓i_lt_f, ↓i_eq_t, ↓i_eq_f, ↓i_bi_t, ↓i_bi_f, ↓i_some, ↓bM_gI h, ↓bM_pI h, ↓bM_inv h, ↓bM_g1 h, ↓bM_g2 h, ↓bM_g3 h, ↓bM_g4 h, ↓bM_g15 h, ↓bM_g16 h, ↓bM_g22 h, ↓bM_g23 h, ↓bM_g24 h, ↓bM_g25 h, ↓bM_g28 h, ↓bM_g29 h, ↓bM_g30 h, ↓bM_g32 h, ↓bM_g33 h, ↓bM_g34 h, ↓bM_g36 h, ↓bM_g37 h, ↓bM_g41 h, ↓bM_g42 h, ↓bM_g43 h, ↓bM_ld1 h, ↓bM_ld2 h, ↓bM_ld3 h, ↓bM_ld4 h, ↓bM_ld5 h, ↓bM_ld6 h, ↓bM_ld7 h, ↓bM_ld8 h, ↓bM_ld9 h, ↓bM_ld10 h, ↓bM_ld11 h, ↓bM_ld12 h, ↓bM_ld13 h, ↓bM_ld14 h, ↓bM_ld15 h, ↓bM_ld16 h, ↓bM_ld17 h, ↓bM_ld18 h, ↓bM_ld19 h, ↓bM_ld20 h, ↓bM_ld21 h, ↓bM_st1 h, ↓bM_st2 h, ↓bM_st3 h, ↓bM_st4 h, ↓bM_st5 h, ↓bM_st6 h, ↓bM_st7 h, ↓bM_st8 h, ↓bM_st9 h, ↓bM_st10 h, ↓bM_st11 h, ↓bM_st12 h, ↓bM_st13 h, ↓bM_st14 h, ↓bM_st15 h, ↓bM_st16 h, ↓bM_st17 h, ↓bM_st18 h, ↓bM_st19 h, ↓bM_st20 h, ↓bM_st21 h, Int.toNat_add, Int.toNat_mul, Int.toNat_natCast, Int.reduceToNat, Nat.reduceAdd, Nat.reduceMul, a1, ↓mhangs_w h lr hk, k1, k2, ↓isIn_w hX', ↓jn_bc, ↓isIn_w mo]
              have soX : ∀ a b : Nat, adj l (-1) a b → X' a → D b ∨ odn l q b := fun a b e z => by
                rcases Xs' a z with z | z
                · exact Or.inl ((hcl a b e).1 z)
                · exact Or.inr (z.st e)
              have soY : ∀ a b : Nat, adj l (-1) a b → (D a ∨ odn l q a) → C b ∨ evn l q b := fun a b e z => by
                rcases z with z | z
                · exact Or.inl ((hcl a b e).2 z)
                · exact Or.inr (z.st e)
              have so2 : ∀ k : Nat, ((Y' k ∨ X' a ∧ k = b) ∨ X' b ∧ k = a) → D k ∨ odn l q k := fun k z => by
                rcases z with (z | ⟨z, rfl⟩) | ⟨z, rfl⟩
                · exact Ys' k z
                · exact soX a k hab z
                · exact soX b k hab.sym z
              refine hnx3 f _ _ (by omega) ⟨_, _, r + 1, rfl, by show (r : Int) + 1 = _; omega, by omega, mi, mo, fun k z => Or.inl (Or.inl (iX k z)), fun k z => Or.inl (Or.inl (iY k z)), fun k z => ?_, so2, fun b1 b2 a' b' hab' => ?_⟩
              · rcases z with (z | ⟨z, rfl⟩) | ⟨z, rfl⟩
                · exact Xs' k z
                · exact soY a k hab (so2 a (z.elim Or.inl (fun z => Or.inr ⟨z.1, rfl⟩)))
                · exact soY b k hab.sym (so2 b (z.elim (fun z => Or.inl (z.elim Or.inl (fun z => Or.inr ⟨z.1, rfl⟩))) Or.inr))
              · have c1 : ∀ k : Nat, X' k → X k := fun k z => b1 k (Or.inl (Or.inl z))
                have c2 : ∀ k : Nat, Y' k → Y k := fun k z => b2 k (Or.inl (Or.inl z))
                rw [adjK_s, ha, hb] at hab'
                rcases hab' with z | ⟨-, -, z⟩
                · exact hst' c1 c2 a' b' z
                · have q1 : X a → Y b := fun z => b2 b (Or.inl (Or.inr ⟨iX a z, rfl⟩))
                  have q2 : X b → Y a := fun z => b2 a (Or.inr ⟨iX b z, rfl⟩)
                  have q3 : Y a → X b := fun z => b1 b (Or.inl (Or.inr ⟨Or.inl (Or.inl (iY a z)), rfl⟩))
                  have q4 : Y b → X a := fun z => b1 a (Or.inr ⟨Or.inl (Or.inl (iY b z)), rfl⟩)
                  rcases z with ⟨z1, z2⟩ | ⟨z1, z2⟩
                  · obtain rfl : a = a' := by omega
                    obtain rfl : b = b' := by omega
                    exact ⟨q1, q3⟩
                  · obtain rfl : a = b' := by omega
                    obtain rfl : b = a' := by omega
                    exact ⟨q2, q4⟩
            · simp (disch := omega) only [↓i_lt_t, ↓i_lt_f, ↓i_eq_t, ↓i_eq_f, ↓i_bi_t, ↓i_bi_f, ↓i_some, ↓bM_gI h, ↓bM_pI h, ↓bM_inv h, ↓bM_g1 h, ↓bM_g2 h, ↓bM_g3 h, ↓bM_g4 h, ↓bM_g15 h, ↓bM_g16 h, ↓bM_g22 h, ↓bM_g23 h, ↓bM_g24 h, ↓bM_g25 h, ↓bM_g28 h, ↓bM_g29 h, ↓bM_g30 h, ↓bM_g32 h, ↓bM_g33 h, ↓bM_g34 h, ↓bM_g36 h, ↓bM_g37 h, ↓bM_g41 h, ↓bM_g42 h, ↓bM_g43 h, ↓bM_ld1 h, ↓bM_ld2 h, ↓bM_ld3 h, ↓bM_ld4 h, ↓bM_ld5 h, ↓bM_ld6 h, ↓bM_ld7 h, ↓bM_ld8 h, ↓bM_ld9 h, ↓bM_ld10 h, ↓bM_ld11 h, ↓bM_ld12 h, ↓bM_ld13 h, ↓bM_ld14 h, ↓bM_ld15 h, ↓bM_ld16 h, ↓bM_ld17 h, ↓bM_ld18 h, ↓bM_ld19 h, ↓bM_ld20 h, ↓bM_ld21 h, ↓bM_st1 h, ↓bM_st2 h, ↓bM_st3 h, ↓bM_st4 h, ↓bM_st5 h, ↓bM_st6 h, ↓bM_st7 h, ↓bM_st8 h, ↓bM_st9 h, ↓bM_st10 h, ↓bM_st11 h, ↓bM_st12 h, ↓bM_st13 h, ↓bM_st14 h, ↓bM_st15 h, ↓bM_st16 h, ↓bM_st17 h, ↓bM_st18 h, ↓bM_st19 h, ↓bM_st20 h, ↓bM_st21 h, Int.toNat_add, Int.toNat_mul, Int.toNat_natCast, Int.reduceToNat, Nat.reduceAdd, Nat.reduceMul, a1, ↓mhangs_w h lr hk]
              refine hnx3 f _ _ (by omega) ⟨X', Y', r + 1, rfl, by show (r : Int) + 1 = _; omega, by omega, hX', hY', iX, iY, Xs', Ys', fun b1 b2 a' b' hab' => ?_⟩
              rw [adjK_s] at hab'
              rcases hab' with z | z
              · exact hst' b1 b2 a' b' z
              · exact absurd z.1 c9
      · have := (mk_or (mk_or hC (mk_1 (k := q) (by omega))) hD).lt
        dsimp only at z
        omega
theorem both_parted (hC : isC μ c) (hM : isM μ (c + 193)) (hR : RelC c I) (hn : 20000 ≤ n) : Both μ c I (mX10_parted n c) (mX11_parted n (c + 193)) := by
  obtain ⟨hk, lr, lq, h0, h9⟩ := id hR.1
  have hH := hC.here
  have hT := hC.ti
  obtain ⟨J, e1, oJ, tJ⟩ := look_eq (n := n) (I := I) (a := c + 3) (t := c + 34) (w := -1) hH hT (by omega) hk (by omega) hn
  obtain ⟨v, hv, e2⟩ := oneSide_eq (n := n) hT tJ hk hn
  have cJ : CF c I J := fun b hb => oJ b (by unfold tmp at hb; omega) (by unfold tmp at hb; omega)
  have jr : ld J (c + 193) = ld I (c + 193) := funext fun k => oJ _ (by omega) (by omega)
  obtain ⟨v', hv', e3⟩ := parted_m (n := n) (I := J) (s := ld J (c + 193)) (l := ld I (c + 3)) hM (by rw [jr]; exact lr) hk hn
  obtain rfl := ptR_fn _ _ _ _ _ _ hv hv'
  rw [ldwm] at e3
  refine Both.mk hR cJ.h ?_ e3 (Fr.f0 _ (Or.inl rfl)).w ?_
  · unfold mX10_parted
    simp (disch := omega) only [↓i_lt_t, ↓i_lt_f, ↓i_eq_t, ↓i_eq_f, ↓i_bi_t, ↓i_bi_f, ↓i_some, ↓bC_g0 hC, ↓bC_g1 hC, ↓bC_g2 hC, ↓bC_g3 hC, ↓bC_g4 hC, ↓bC_g5 hC, ↓bC_g6 hC, ↓bC_g7 hC, ↓bC_g8 hC, ↓bC_g9 hC, ↓bC_g10 hC, ↓bC_inv hC, ↓bt_inv hT, ↓bnd e1, ↓bnd e2]
  · rw [up2_row (by decide), jr]
    exact hR.1.cg (fun k hk => cJ _ (by unfold tmp; omega))
end PT
