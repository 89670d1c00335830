/-! straight code, read from its first step on -/
theorem bnd {α β : Type} {X : Option α} {v : α} (h : X = some v) (f : α → Option β) : X.bind f = f v := by rw [h]; rfl
theorem i_some {α β : Type} {v : α} {f : α → Option β} : (some v).bind f = f v := rfl
theorem i_lt_t {α : Type} {x y : Int} {a b : α} {i : Decidable (lt32 x y)} (h1 : -2147483648 ≤ x ∧ x < 2147483648 ∧ -2147483648 ≤ y ∧ y < 2147483648 ∧ x < y) : @ite α (lt32 x y) i a b = a := if_pos ((lt32_iff h1.1 h1.2.1 h1.2.2.1 h1.2.2.2.1).mpr h1.2.2.2.2)
theorem i_lt_f {α : Type} {x y : Int} {a b : α} {i : Decidable (lt32 x y)} (h1 : -2147483648 ≤ x ∧ x < 2147483648 ∧ -2147483648 ≤ y ∧ y < 2147483648 ∧ ¬ x < y) : @ite α (lt32 x y) i a b = b := if_neg (fun z => h1.2.2.2.2 ((lt32_iff h1.1 h1.2.1 h1.2.2.1 h1.2.2.2.1).mp z))
theorem i_eq_t {α : Type} {x y : Int} {a b : α} {i : Decidable (eq32 x y)} (h1 : x = y) : @ite α (eq32 x y) i a b = a := if_pos (by rw [h1])
theorem i_eq_f {α : Type} {x y : Int} {a b : α} {i : Decidable (eq32 x y)} (h1 : -2147483648 ≤ x ∧ x < 2147483648 ∧ -2147483648 ≤ y ∧ y < 2147483648 ∧ ¬ x = y) : @ite α (eq32 x y) i a b = b := if_neg (fun z => h1.2.2.2.2 ((eq32_iff h1.1 h1.2.1 h1.2.2.1 h1.2.2.2.1).mp z))
theorem i_bi_t {α : Type} {p : Prop} {j : Decidable p} {a b : α} {i : Decidable (eq32 (@bi p j) 0)} (h : p) : @ite α (eq32 (@bi p j) 0) i a b = b := if_neg (fun z => (eq32_bi p).mp z h)
theorem i_bi_f {α : Type} {p : Prop} {j : Decidable p} {a b : α} {i : Decidable (eq32 (@bi p j) 0)} (h : ¬ p) : @ite α (eq32 (@bi p j) 0) i a b = a := if_pos ((eq32_bi p).mpr h)
/-- a loop by what is left to do -/
theorem lp_ind {α ρ : Type} {B : (α → Mem → Option (ρ × Mem)) → α → Mem → Option (ρ × Mem)} (P : Nat → α → Mem → Prop) (Q : Option (ρ × Mem) → Prop)
    (hs : ∀ (d : Nat) (a : α) (μ : Mem) (nx : α → Mem → Option (ρ × Mem)), P d a μ → (∀ (d' : Nat) (a' : α) (μ' : Mem), d' < d → P d' a' μ' → Q (nx a' μ')) → Q (B nx a μ)) : ∀ (n d : Nat) (a : α) (μ : Mem), d < n → P d a μ → Q (lp B n a μ)
  | 0, d, a, μ, h, _ => absurd h (by omega)
  | n + 1, d, a, μ, h, hp => hs d a μ (lp B n) hp (fun d' a' μ' hd hp' => lp_ind P Q hs n d' a' μ' (by omega) hp')
theorem bL_g6 {β : Type} {μ : Mem} {I : Nat → Nat → Int} {a : Nat} (h : isL μ a) {f : Nat → Option β} : (gA (wi μ I) 2 a 6).bind f = f (a + 1) := bnd (L_g6 h) f
theorem bL_ld1 {β : Type} {μ : Mem} {I : Nat → Nat → Int} {a : Nat} {i : Int} (h : isL μ a) (h0 : 0 ≤ i) (h1 : i < 10) {f : Int → Option β} : (ldI (wi μ I) 0 (a + 1) i).bind f = f (ld I a 1 i.toNat) := bnd (L_ld1 h h0 h1) f
theorem bL_st1 {β : Type} {μ : Mem} {I : Nat → Nat → Int} {a : Nat} {i x : Int} (h : isL μ a) (h0 : 0 ≤ i) (h1 : i < 10) {f : Mem → Option β} : (stI (wi μ I) 0 (a + 1) i x).bind f = f (wi μ (up2 I (a + 1) i.toNat x)) := bnd (L_st1 h h0 h1) f
theorem bL_g7 {β : Type} {μ : Mem} {I : Nat → Nat → Int} {a : Nat} (h : isL μ a) {f : Nat → Option β} : (gA (wi μ I) 2 a 7).bind f = f (a + 2) := bnd (L_g7 h) f
theorem bL_ld2 {β : Type} {μ : Mem} {I : Nat → Nat → Int} {a : Nat} {i : Int} (h : isL μ a) (h0 : 0 ≤ i) (h1 : i < 10) {f : Int → Option β} : (ldI (wi μ I) 0 (a + 2) i).bind f = f (ld I a 2 i.toNat) := bnd (L_ld2 h h0 h1) f
theorem bL_st2 {β : Type} {μ : Mem} {I : Nat → Nat → Int} {a : Nat} {i x : Int} (h : isL μ a) (h0 : 0 ≤ i) (h1 : i < 10) {f : Mem → Option β} : (stI (wi μ I) 0 (a + 2) i x).bind f = f (wi μ (up2 I (a + 2) i.toNat x)) := bnd (L_st2 h h0 h1) f
theorem bL_g8 {β : Type} {μ : Mem} {I : Nat → Nat → Int} {a : Nat} (h : isL μ a) {f : Nat → Option β} : (gA (wi μ I) 2 a 8).bind f = f (a + 3) := bnd (L_g8 h) f
theorem bL_ld3 {β : Type} {μ : Mem} {I : Nat → Nat → Int} {a : Nat} {i : Int} (h : isL μ a) (h0 : 0 ≤ i) (h1 : i < 10) {f : Int → Option β} : (ldI (wi μ I) 0 (a + 3) i).bind f = f (ld I a 3 i.toNat) := bnd (L_ld3 h h0 h1) f
theorem bL_st3 {β : Type} {μ : Mem} {I : Nat → Nat → Int} {a : Nat} {i x : Int} (h : isL μ a) (h0 : 0 ≤ i) (h1 : i < 10) {f : Mem → Option β} : (stI (wi μ I) 0 (a + 3) i x).bind f = f (wi μ (up2 I (a + 3) i.toNat x)) := bnd (L_st3 h h0 h1) f
theorem bL_g9 {β : Type} {μ : Mem} {I : Nat → Nat → Int} {a : Nat} (h : isL μ a) {f : Nat → Option β} : (gA (wi μ I) 2 a 9).bind f = f (a + 4) := bnd (L_g9 h) f
theorem bL_ld4 {β : Type} {μ : Mem} {I : Nat → Nat → Int} {a : Nat} {i : Int} (h : isL μ a) (h0 : 0 ≤ i) (h1 : i < 10) {f : Int → Option β} : (ldI (wi μ I) 0 (a + 4) i).bind f = f (ld I a 4 i.toNat) := bnd (L_ld4 h h0 h1) f
theorem bL_st4 {β : Type} {μ : Mem} {I : Nat → Nat → Int} {a : Nat} {i x : Int} (h : isL μ a) (h0 : 0 ≤ i) (h1 : i < 10) {f : Mem → Option β} : (stI (wi μ I) 0 (a + 4) i x).bind f = f (wi μ (up2 I (a + 4) i.toNat x)) := bnd (L_st4 h h0 h1) f
theorem bL_g10 {β : Type} {μ : Mem} {I : Nat → Nat → Int} {a : Nat} (h : isL μ a) {f : Nat → Option β} : (gA (wi μ I) 2 a 10).bind f = f (a + 5) := bnd (L_g10 h) f
theorem bL_ld5 {β : Type} {μ : Mem} {I : Nat → Nat → Int} {a : Nat} {i : Int} (h : isL μ a) (h0 : 0 ≤ i) (h1 : i < 10) {f : Int → Option β} : (ldI (wi μ I) 0 (a + 5) i).bind f = f (ld I a 5 i.toNat) := bnd (L_ld5 h h0 h1) f
theorem bL_st5 {β : Type} {μ : Mem} {I : Nat → Nat → Int} {a : Nat} {i x : Int} (h : isL μ a) (h0 : 0 ≤ i) (h1 : i < 10) {f : Mem → Option β} : (stI (wi μ I) 0 (a + 5) i x).bind f = f (wi μ (up2 I (a + 5) i.toNat x)) := bnd (L_st5 h h0 h1) f
theorem bL_g11 {β : Type} {μ : Mem} {I : Nat → Nat → Int} {a : Nat} (h : isL μ a) {f : Nat → Option β} : (gA (wi μ I) 2 a 11).bind f = f (a + 6) := bnd (L_g11 h) f
theorem bL_ld6 {β : Type} {μ : Mem} {I : Nat → Nat → Int} {a : Nat} {i : Int} (h : isL μ a) (h0 : 0 ≤ i) (h1 : i < 10) {f : Int → Option β} : (ldI (wi μ I) 0 (a + 6) i).bind f = f (ld I a 6 i.toNat) := bnd (L_ld6 h h0 h1) f
theorem bL_st6 {β : Type} {μ : Mem} {I : Nat → Nat → Int} {a : Nat} {i x : Int} (h : isL μ a) (h0 : 0 ≤ i) (h1 : i < 10) {f : Mem → Option β} : (stI (wi μ I) 0 (a + 6) i x).bind f = f (wi μ (up2 I (a + 6) i.toNat x)) := bnd (L_st6 h h0 h1) f
theorem bL_g12 {β : Type} {μ : Mem} {I : Nat → Nat → Int} {a : Nat} (h : isL μ a) {f : Nat → Option β} : (gA (wi μ I) 2 a 12).bind f = f (a + 7) := bnd (L_g12 h) f
theorem bL_ld7 {β : Type} {μ : Mem} {I : Nat → Nat → Int} {a : Nat} {i : Int} (h : isL μ a) (h0 : 0 ≤ i) (h1 : i < 16) {f : Int → Option β} : (ldI (wi μ I) 0 (a + 7) i).bind f = f (ld I a 7 i.toNat) := bnd (L_ld7 h h0 h1) f
theorem bL_st7 {β : Type} {μ : Mem} {I : Nat → Nat → Int} {a : Nat} {i x : Int} (h : isL μ a) (h0 : 0 ≤ i) (h1 : i < 16) {f : Mem → Option β} : (stI (wi μ I) 0 (a + 7) i x).bind f = f (wi μ (up2 I (a + 7) i.toNat x)) := bnd (L_st7 h h0 h1) f
theorem bL_g13 {β : Type} {μ : Mem} {I : Nat → Nat → Int} {a : Nat} (h : isL μ a) {f : Nat → Option β} : (gA (wi μ I) 2 a 13).bind f = f (a + 8) := bnd (L_g13 h) f
theorem bL_ld8 {β : Type} {μ : Mem} {I : Nat → Nat → Int} {a : Nat} {i : Int} (h : isL μ a) (h0 : 0 ≤ i) (h1 : i < 16) {f : Int → Option β} : (ldI (wi μ I) 0 (a + 8) i).bind f = f (ld I a 8 i.toNat) := bnd (L_ld8 h h0 h1) f
theorem bL_st8 {β : Type} {μ : Mem} {I : Nat → Nat → Int} {a : Nat} {i x : Int} (h : isL μ a) (h0 : 0 ≤ i) (h1 : i < 16) {f : Mem → Option β} : (stI (wi μ I) 0 (a + 8) i x).bind f = f (wi μ (up2 I (a + 8) i.toNat x)) := bnd (L_st8 h h0 h1) f
theorem bL_g14 {β : Type} {μ : Mem} {I : Nat → Nat → Int} {a : Nat} (h : isL μ a) {f : Nat → Option β} : (gA (wi μ I) 2 a 14).bind f = f (a + 9) := bnd (L_g14 h) f
theorem bL_ld9 {β : Type} {μ : Mem} {I : Nat → Nat → Int} {a : Nat} {i : Int} (h : isL μ a) (h0 : 0 ≤ i) (h1 : i < 16) {f : Int → Option β} : (ldI (wi μ I) 2 (a + 9) i).bind f = f (ld I a 9 i.toNat) := bnd (L_ld9 h h0 h1) f
theorem bL_st9 {β : Type} {μ : Mem} {I : Nat → Nat → Int} {a : Nat} {i x : Int} (h : isL μ a) (h0 : 0 ≤ i) (h1 : i < 16) (hx : x = 0 ∨ x = 1) {f : Mem → Option β} : (stZ (wi μ I) (a + 9) i x).bind f = f (wi μ (up2 I (a + 9) i.toNat x)) := bnd (L_st9 h h0 h1 hx) f
theorem bL_g15 {β : Type} {μ : Mem} {I : Nat → Nat → Int} {a : Nat} (h : isL μ a) {f : Nat → Option β} : (gA (wi μ I) 2 a 15).bind f = f (a + 10) := bnd (L_g15 h) f
theorem bL_ld10 {β : Type} {μ : Mem} {I : Nat → Nat → Int} {a : Nat} {i : Int} (h : isL μ a) (h0 : 0 ≤ i) (h1 : i < 32) {f : Int → Option β} : (ldI (wi μ I) 0 (a + 10) i).bind f = f (ld I a 10 i.toNat) := bnd (L_ld10 h h0 h1) f
theorem bL_st10 {β : Type} {μ : Mem} {I : Nat → Nat → Int} {a : Nat} {i x : Int} (h : isL μ a) (h0 : 0 ≤ i) (h1 : i < 32) {f : Mem → Option β} : (stI (wi μ I) 0 (a + 10) i x).bind f = f (wi μ (up2 I (a + 10) i.toNat x)) := bnd (L_st10 h h0 h1) f
theorem bL_g16 {β : Type} {μ : Mem} {I : Nat → Nat → Int} {a : Nat} (h : isL μ a) {f : Nat → Option β} : (gA (wi μ I) 2 a 16).bind f = f (a + 11) := bnd (L_g16 h) f
theorem bL_ld11 {β : Type} {μ : Mem} {I : Nat → Nat → Int} {a : Nat} {i : Int} (h : isL μ a) (h0 : 0 ≤ i) (h1 : i < 32) {f : Int → Option β} : (ldI (wi μ I) 0 (a + 11) i).bind f = f (ld I a 11 i.toNat) := bnd (L_ld11 h h0 h1) f
theorem bL_st11 {β : Type} {μ : Mem} {I : Nat → Nat → Int} {a : Nat} {i x : Int} (h : isL μ a) (h0 : 0 ≤ i) (h1 : i < 32) {f : Mem → Option β} : (stI (wi μ I) 0 (a + 11) i x).bind f = f (wi μ (up2 I (a + 11) i.toNat x)) := bnd (L_st11 h h0 h1) f
theorem bL_g17 {β : Type} {μ : Mem} {I : Nat → Nat → Int} {a : Nat} (h : isL μ a) {f : Nat → Option β} : (gA (wi μ I) 2 a 17).bind f = f (a + 12) := bnd (L_g17 h) f
theorem bL_ld12 {β : Type} {μ : Mem} {I : Nat → Nat → Int} {a : Nat} {i : Int} (h : isL μ a) (h0 : 0 ≤ i) (h1 : i < 32) {f : Int → Option β} : (ldI (wi μ I) 2 (a + 12) i).bind f = f (ld I a 12 i.toNat) := bnd (L_ld12 h h0 h1) f
theorem bL_st12 {β : Type} {μ : Mem} {I : Nat → Nat → Int} {a : Nat} {i x : Int} (h : isL μ a) (h0 : 0 ≤ i) (h1 : i < 32) (hx : x = 0 ∨ x = 1) {f : Mem → Option β} : (stZ (wi μ I) (a + 12) i x).bind f = f (wi μ (up2 I (a + 12) i.toNat x)) := bnd (L_st12 h h0 h1 hx) f
theorem bL_gI {β : Type} {μ : Mem} {I : Nat → Nat → Int} {a k : Nat} (h : isL μ a) {f : Int → Option β} : (gI (wi μ I) 2 a k).bind f = f (ld I a 0 k) := bnd (L_gI h) f
theorem bL_pI {β : Type} {μ : Mem} {I : Nat → Nat → Int} {a k : Nat} {x : Int} (h : isL μ a) {f : Mem → Option β} : (pI (wi μ I) 2 a k x).bind f = f (wi μ (up2 I a k x)) := bnd (L_pI h) f
theorem bL_inv {ρ β : Type} {μ : Mem} {I : Nat → Nat → Int} {a : Nat} {X : Option ρ} (h : isL μ a) {f : ρ → Option β} : (inv (wi μ I) 2 a X).bind f = X.bind f := by rw [L_inv h]
theorem bM_g1 {β : Type} {μ : Mem} {I : Nat → Nat → Int} {m : Nat} (h : isM μ m) {f : Nat → Option β} : (gA (wi μ I) 12 m 1).bind f = f (m + 1) := bnd (M_g1 h) f
theorem bM_ld1 {β : Type} {μ : Mem} {I : Nat → Nat → Int} {s : Ld} {m : Nat} {i : Int} (h : isM μ m) (h0 : 0 ≤ i) (h1 : i < 660) {f : Int → Option β} : (ldI (wi μ (wm I m s)) 0 (m + 1) i).bind f = f (s 1 i.toNat) := (bnd (M_ld1 h h0 h1) f).trans (by rw [wm_at (by omega)])
theorem bM_st1 {β : Type} {μ : Mem} {I : Nat → Nat → Int} {s : Ld} {m : Nat} {i x : Int} (h : isM μ m) (h0 : 0 ≤ i) (h1 : i < 660) {f : Mem → Option β} : (stI (wi μ (wm I m s)) 0 (m + 1) i x).bind f = f (wi μ (wm I m (up2 s 1 i.toNat x))) := (bnd (M_st1 h h0 h1) f).trans (by rw [wm_up (by omega)])
theorem bM_g2 {β : Type} {μ : Mem} {I : Nat → Nat → Int} {m : Nat} (h : isM μ m) {f : Nat → Option β} : (gA (wi μ I) 12 m 2).bind f = f (m + 2) := bnd (M_g2 h) f
theorem bM_ld2 {β : Type} {μ : Mem} {I : Nat → Nat → Int} {s : Ld} {m : Nat} {i : Int} (h : isM μ m) (h0 : 0 ≤ i) (h1 : i < 2) {f : Int → Option β} : (ldI (wi μ (wm I m s)) 2 (m + 2) i).bind f = f (s 2 i.toNat) := (bnd (M_ld2 h h0 h1) f).trans (by rw [wm_at (by omega)])
theorem bM_st2 {β : Type} {μ : Mem} {I : Nat → Nat → Int} {s : Ld} {m : Nat} {i x : Int} (h : isM μ m) (h0 : 0 ≤ i) (h1 : i < 2) (hx : x = 0 ∨ x = 1) {f : Mem → Option β} : (stZ (wi μ (wm I m s)) (m + 2) i x).bind f = f (wi μ (wm I m (up2 s 2 i.toNat x))) := (bnd (M_st2 h h0 h1 hx) f).trans (by rw [wm_up (by omega)])
theorem bM_g3 {β : Type} {μ : Mem} {I : Nat → Nat → Int} {m : Nat} (h : isM μ m) {f : Nat → Option β} : (gA (wi μ I) 12 m 3).bind f = f (m + 3) := bnd (M_g3 h) f
theorem bM_ld3 {β : Type} {μ : Mem} {I : Nat → Nat → Int} {s : Ld} {m : Nat} {i : Int} (h : isM μ m) (h0 : 0 ≤ i) (h1 : i < 900) {f : Int → Option β} : (ldI (wi μ (wm I m s)) 0 (m + 3) i).bind f = f (s 3 i.toNat) := (bnd (M_ld3 h h0 h1) f).trans (by rw [wm_at (by omega)])
theorem bM_st3 {β : Type} {μ : Mem} {I : Nat → Nat → Int} {s : Ld} {m : Nat} {i x : Int} (h : isM μ m) (h0 : 0 ≤ i) (h1 : i < 900) {f : Mem → Option β} : (stI (wi μ (wm I m s)) 0 (m + 3) i x).bind f = f (wi μ (wm I m (up2 s 3 i.toNat x))) := (bnd (M_st3 h h0 h1) f).trans (by rw [wm_up (by omega)])
theorem bM_g4 {β : Type} {μ : Mem} {I : Nat → Nat → Int} {m : Nat} (h : isM μ m) {f : Nat → Option β} : (gA (wi μ I) 12 m 4).bind f = f (m + 4) := bnd (M_g4 h) f
theorem bM_ld4 {β : Type} {μ : Mem} {I : Nat → Nat → Int} {s : Ld} {m : Nat} {i : Int} (h : isM μ m) (h0 : 0 ≤ i) (h1 : i < 220) {f : Int → Option β} : (ldI (wi μ (wm I m s)) 0 (m + 4) i).bind f = f (s 4 i.toNat) := (bnd (M_ld4 h h0 h1) f).trans (by rw [wm_at (by omega)])
theorem bM_st4 {β : Type} {μ : Mem} {I : Nat → Nat → Int} {s : Ld} {m : Nat} {i x : Int} (h : isM μ m) (h0 : 0 ≤ i) (h1 : i < 220) {f : Mem → Option β} : (stI (wi μ (wm I m s)) 0 (m + 4) i x).bind f = f (wi μ (wm I m (up2 s 4 i.toNat x))) := (bnd (M_st4 h h0 h1) f).trans (by rw [wm_up (by omega)])
theorem bM_g15 {β : Type} {μ : Mem} {I : Nat → Nat → Int} {m : Nat} (h : isM μ m) {f : Nat → Option β} : (gA (wi μ I) 12 m 15).bind f = f (m + 5) := bnd (M_g15 h) f
theorem bM_ld5 {β : Type} {μ : Mem} {I : Nat → Nat → Int} {s : Ld} {m : Nat} {i : Int} (h : isM μ m) (h0 : 0 ≤ i) (h1 : i < 10) {f : Int → Option β} : (ldI (wi μ (wm I m s)) 0 (m + 5) i).bind f = f (s 5 i.toNat) := (bnd (M_ld5 h h0 h1) f).trans (by rw [wm_at (by omega)])
theorem bM_st5 {β : Type} {μ : Mem} {I : Nat → Nat → Int} {s : Ld} {m : Nat} {i x : Int} (h : isM μ m) (h0 : 0 ≤ i) (h1 : i < 10) {f : Mem → Option β} : (stI (wi μ (wm I m s)) 0 (m + 5) i x).bind f = f (wi μ (wm I m (up2 s 5 i.toNat x))) := (bnd (M_st5 h h0 h1) f).trans (by rw [wm_up (by omega)])
theorem bM_g16 {β : Type} {μ : Mem} {I : Nat → Nat → Int} {m : Nat} (h : isM μ m) {f : Nat → Option β} : (gA (wi μ I) 12 m 16).bind f = f (m + 6) := bnd (M_g16 h) f
theorem bM_ld6 {β : Type} {μ : Mem} {I : Nat → Nat → Int} {s : Ld} {m : Nat} {i : Int} (h : isM μ m) (h0 : 0 ≤ i) (h1 : i < 220) {f : Int → Option β} : (ldI (wi μ (wm I m s)) 0 (m + 6) i).bind f = f (s 6 i.toNat) := (bnd (M_ld6 h h0 h1) f).trans (by rw [wm_at (by omega)])
theorem bM_st6 {β : Type} {μ : Mem} {I : Nat → Nat → Int} {s : Ld} {m : Nat} {i x : Int} (h : isM μ m) (h0 : 0 ≤ i) (h1 : i < 220) {f : Mem → Option β} : (stI (wi μ (wm I m s)) 0 (m + 6) i x).bind f = f (wi μ (wm I m (up2 s 6 i.toNat x))) := (bnd (M_st6 h h0 h1) f).trans (by rw [wm_up (by omega)])
theorem bM_g22 {β : Type} {μ : Mem} {I : Nat → Nat → Int} {m : Nat} (h : isM μ m) {f : Nat → Option β} : (gA (wi μ I) 12 m 22).bind f = f (m + 7) := bnd (M_g22 h) f
theorem bM_ld7 {β : Type} {μ : Mem} {I : Nat → Nat → Int} {s : Ld} {m : Nat} {i : Int} (h : isM μ m) (h0 : 0 ≤ i) (h1 : i < 10) {f : Int → Option β} : (ldI (wi μ (wm I m s)) 0 (m + 7) i).bind f = f (s 7 i.toNat) := (bnd (M_ld7 h h0 h1) f).trans (by rw [wm_at (by omega)])
theorem bM_st7 {β : Type} {μ : Mem} {I : Nat → Nat → Int} {s : Ld} {m : Nat} {i x : Int} (h : isM μ m) (h0 : 0 ≤ i) (h1 : i < 10) {f : Mem → Option β} : (stI (wi μ (wm I m s)) 0 (m + 7) i x).bind f = f (wi μ (wm I m (up2 s 7 i.toNat x))) := (bnd (M_st7 h h0 h1) f).trans (by rw [wm_up (by omega)])
theorem bM_g23 {β : Type} {μ : Mem} {I : Nat → Nat → Int} {m : Nat} (h : isM μ m) {f : Nat → Option β} : (gA (wi μ I) 12 m 23).bind f = f (m + 8) := bnd (M_g23 h) f
theorem bM_ld8 {β : Type} {μ : Mem} {I : Nat → Nat → Int} {s : Ld} {m : Nat} {i : Int} (h : isM μ m) (h0 : 0 ≤ i) (h1 : i < 3001) {f : Int → Option β} : (ldI (wi μ (wm I m s)) 3 (m + 8) i).bind f = f (s 8 i.toNat) := (bnd (M_ld8 h h0 h1) f).trans (by rw [wm_at (by omega)])
theorem bM_st8 {β : Type} {μ : Mem} {I : Nat → Nat → Int} {s : Ld} {m : Nat} {i x : Int} (h : isM μ m) (h0 : 0 ≤ i) (h1 : i < 3001) {f : Mem → Option β} : (stI (wi μ (wm I m s)) 3 (m + 8) i x).bind f = f (wi μ (wm I m (up2 s 8 i.toNat x))) := (bnd (M_st8 h h0 h1) f).trans (by rw [wm_up (by omega)])
theorem bM_g24 {β : Type} {μ : Mem} {I : Nat → Nat → Int} {m : Nat} (h : isM μ m) {f : Nat → Option β} : (gA (wi μ I) 12 m 24).bind f = f (m + 9) := bnd (M_g24 h) f
theorem bM_ld9 {β : Type} {μ : Mem} {I : Nat → Nat → Int} {s : Ld} {m : Nat} {i : Int} (h : isM μ m) (h0 : 0 ≤ i) (h1 : i < 8192) {f : Int → Option β} : (ldI (wi μ (wm I m s)) 0 (m + 9) i).bind f = f (s 9 i.toNat) := (bnd (M_ld9 h h0 h1) f).trans (by rw [wm_at (by omega)])
theorem bM_st9 {β : Type} {μ : Mem} {I : Nat → Nat → Int} {s : Ld} {m : Nat} {i x : Int} (h : isM μ m) (h0 : 0 ≤ i) (h1 : i < 8192) {f : Mem → Option β} : (stI (wi μ (wm I m s)) 0 (m + 9) i x).bind f = f (wi μ (wm I m (up2 s 9 i.toNat x))) := (bnd (M_st9 h h0 h1) f).trans (by rw [wm_up (by omega)])
theorem bM_g25 {β : Type} {μ : Mem} {I : Nat → Nat → Int} {m : Nat} (h : isM μ m) {f : Nat → Option β} : (gA (wi μ I) 12 m 25).bind f = f (m + 10) := bnd (M_g25 h) f
theorem bM_ld10 {β : Type} {μ : Mem} {I : Nat → Nat → Int} {s : Ld} {m : Nat} {i : Int} (h : isM μ m) (h0 : 0 ≤ i) (h1 : i < 3) {f : Int → Option β} : (ldI (wi μ (wm I m s)) 0 (m + 10) i).bind f = f (s 10 i.toNat) := (bnd (M_ld10 h h0 h1) f).trans (by rw [wm_at (by omega)])
theorem bM_st10 {β : Type} {μ : Mem} {I : Nat → Nat → Int} {s : Ld} {m : Nat} {i x : Int} (h : isM μ m) (h0 : 0 ≤ i) (h1 : i < 3) {f : Mem → Option β} : (stI (wi μ (wm I m s)) 0 (m + 10) i x).bind f = f (wi μ (wm I m (up2 s 10 i.toNat x))) := (bnd (M_st10 h h0 h1) f).trans (by rw [wm_up (by omega)])
theorem bM_g28 {β : Type} {μ : Mem} {I : Nat → Nat → Int} {m : Nat} (h : isM μ m) {f : Nat → Option β} : (gA (wi μ I) 12 m 28).bind f = f (m + 11) := bnd (M_g28 h) f
theorem bM_ld11 {β : Type} {μ : Mem} {I : Nat → Nat → Int} {s : Ld} {m : Nat} {i : Int} (h : isM μ m) (h0 : 0 ≤ i) (h1 : i < 3001) {f : Int → Option β} : (ldI (wi μ (wm I m s)) 3 (m + 11) i).bind f = f (s 11 i.toNat) := (bnd (M_ld11 h h0 h1) f).trans (by rw [wm_at (by omega)])
theorem bM_st11 {β : Type} {μ : Mem} {I : Nat → Nat → Int} {s : Ld} {m : Nat} {i x : Int} (h : isM μ m) (h0 : 0 ≤ i) (h1 : i < 3001) {f : Mem → Option β} : (stI (wi μ (wm I m s)) 3 (m + 11) i x).bind f = f (wi μ (wm I m (up2 s 11 i.toNat x))) := (bnd (M_st11 h h0 h1) f).trans (by rw [wm_up (by omega)])
theorem bM_g29 {β : Type} {μ : Mem} {I : Nat → Nat → Int} {m : Nat} (h : isM μ m) {f : Nat → Option β} : (gA (wi μ I) 12 m 29).bind f = f (m + 12) := bnd (M_g29 h) f
theorem bM_ld12 {β : Type} {μ : Mem} {I : Nat → Nat → Int} {s : Ld} {m : Nat} {i : Int} (h : isM μ m) (h0 : 0 ≤ i) (h1 : i < 3001) {f : Int → Option β} : (ldI (wi μ (wm I m s)) 0 (m + 12) i).bind f = f (s 12 i.toNat) := (bnd (M_ld12 h h0 h1) f).trans (by rw [wm_at (by omega)])
theorem bM_st12 {β : Type} {μ : Mem} {I : Nat → Nat → Int} {s : Ld} {m : Nat} {i x : Int} (h : isM μ m) (h0 : 0 ≤ i) (h1 : i < 3001) {f : Mem → Option β} : (stI (wi μ (wm I m s)) 0 (m + 12) i x).bind f = f (wi μ (wm I m (up2 s 12 i.toNat x))) := (bnd (M_st12 h h0 h1) f).trans (by rw [wm_up (by omega)])
theorem bM_g30 {β : Type} {μ : Mem} {I : Nat → Nat → Int} {m : Nat} (h : isM μ m) {f : Nat → Option β} : (gA (wi μ I) 12 m 30).bind f = f (m + 13) := bnd (M_g30 h) f
theorem bM_ld13 {β : Type} {μ : Mem} {I : Nat → Nat → Int} {s : Ld} {m : Nat} {i : Int} (h : isM μ m) (h0 : 0 ≤ i) (h1 : i < 3001) {f : Int → Option β} : (ldI (wi μ (wm I m s)) 0 (m + 13) i).bind f = f (s 13 i.toNat) := (bnd (M_ld13 h h0 h1) f).trans (by rw [wm_at (by omega)])
theorem bM_st13 {β : Type} {μ : Mem} {I : Nat → Nat → Int} {s : Ld} {m : Nat} {i x : Int} (h : isM μ m) (h0 : 0 ≤ i) (h1 : i < 3001) {f : Mem → Option β} : (stI (wi μ (wm I m s)) 0 (m + 13) i x).bind f = f (wi μ (wm I m (up2 s 13 i.toNat x))) := (bnd (M_st13 h h0 h1) f).trans (by rw [wm_up (by omega)])
theorem bM_g32 {β : Type} {μ : Mem} {I : Nat → Nat → Int} {m : Nat} (h : isM μ m) {f : Nat → Option β} : (gA (wi μ I) 12 m 32).bind f = f (m + 14) := bnd (M_g32 h) f
theorem bM_ld14 {β : Type} {μ : Mem} {I : Nat → Nat → Int} {s : Ld} {m : Nat} {i : Int} (h : isM μ m) (h0 : 0 ≤ i) (h1 : i < 7) {f : Int → Option β} : (ldI (wi μ (wm I m s)) 0 (m + 14) i).bind f = f (s 14 i.toNat) := (bnd (M_ld14 h h0 h1) f).trans (by rw [wm_at (by omega)])
theorem bM_st14 {β : Type} {μ : Mem} {I : Nat → Nat → Int} {s : Ld} {m : Nat} {i x : Int} (h : isM μ m) (h0 : 0 ≤ i) (h1 : i < 7) {f : Mem → Option β} : (stI (wi μ (wm I m s)) 0 (m + 14) i x).bind f = f (wi μ (wm I m (up2 s 14 i.toNat x))) := (bnd (M_st14 h h0 h1) f).trans (by rw [wm_up (by omega)])
theorem bM_g33 {β : Type} {μ : Mem} {I : Nat → Nat → Int} {m : Nat} (h : isM μ m) {f : Nat → Option β} : (gA (wi μ I) 12 m 33).bind f = f (m + 15) := bnd (M_g33 h) f
theorem bM_ld15 {β : Type} {μ : Mem} {I : Nat → Nat → Int} {s : Ld} {m : Nat} {i : Int} (h : isM μ m) (h0 : 0 ≤ i) (h1 : i < 7) {f : Int → Option β} : (ldI (wi μ (wm I m s)) 0 (m + 15) i).bind f = f (s 15 i.toNat) := (bnd (M_ld15 h h0 h1) f).trans (by rw [wm_at (by omega)])
theorem bM_st15 {β : Type} {μ : Mem} {I : Nat → Nat → Int} {s : Ld} {m : Nat} {i x : Int} (h : isM μ m) (h0 : 0 ≤ i) (h1 : i < 7) {f : Mem → Option β} : (stI (wi μ (wm I m s)) 0 (m + 15) i x).bind f = f (wi μ (wm I m (up2 s 15 i.toNat x))) := (bnd (M_st15 h h0 h1) f).trans (by rw [wm_up (by omega)])
theorem bM_g34 {β : Type} {μ : Mem} {I : Nat → Nat → Int} {m : Nat} (h : isM μ m) {f : Nat → Option β} : (gA (wi μ I) 12 m 34).bind f = f (m + 16) := bnd (M_g34 h) f
theorem bM_ld16 {β : Type} {μ : Mem} {I : Nat → Nat → Int} {s : Ld} {m : Nat} {i : Int} (h : isM μ m) (h0 : 0 ≤ i) (h1 : i < 1760) {f : Int → Option β} : (ldI (wi μ (wm I m s)) 0 (m + 16) i).bind f = f (s 16 i.toNat) := (bnd (M_ld16 h h0 h1) f).trans (by rw [wm_at (by omega)])
theorem bM_st16 {β : Type} {μ : Mem} {I : Nat → Nat → Int} {s : Ld} {m : Nat} {i x : Int} (h : isM μ m) (h0 : 0 ≤ i) (h1 : i < 1760) {f : Mem → Option β} : (stI (wi μ (wm I m s)) 0 (m + 16) i x).bind f = f (wi μ (wm I m (up2 s 16 i.toNat x))) := (bnd (M_st16 h h0 h1) f).trans (by rw [wm_up (by omega)])
theorem bM_g36 {β : Type} {μ : Mem} {I : Nat → Nat → Int} {m : Nat} (h : isM μ m) {f : Nat → Option β} : (gA (wi μ I) 12 m 36).bind f = f (m + 17) := bnd (M_g36 h) f
theorem bM_ld17 {β : Type} {μ : Mem} {I : Nat → Nat → Int} {s : Ld} {m : Nat} {i : Int} (h : isM μ m) (h0 : 0 ≤ i) (h1 : i < 7) {f : Int → Option β} : (ldI (wi μ (wm I m s)) 0 (m + 17) i).bind f = f (s 17 i.toNat) := (bnd (M_ld17 h h0 h1) f).trans (by rw [wm_at (by omega)])
theorem bM_st17 {β : Type} {μ : Mem} {I : Nat → Nat → Int} {s : Ld} {m : Nat} {i x : Int} (h : isM μ m) (h0 : 0 ≤ i) (h1 : i < 7) {f : Mem → Option β} : (stI (wi μ (wm I m s)) 0 (m + 17) i x).bind f = f (wi μ (wm I m (up2 s 17 i.toNat x))) := (bnd (M_st17 h h0 h1) f).trans (by rw [wm_up (by omega)])
theorem bM_g37 {β : Type} {μ : Mem} {I : Nat → Nat → Int} {m : Nat} (h : isM μ m) {f : Nat → Option β} : (gA (wi μ I) 12 m 37).bind f = f (m + 18) := bnd (M_g37 h) f
theorem bM_ld18 {β : Type} {μ : Mem} {I : Nat → Nat → Int} {s : Ld} {m : Nat} {i : Int} (h : isM μ m) (h0 : 0 ≤ i) (h1 : i < 7) {f : Int → Option β} : (ldI (wi μ (wm I m s)) 0 (m + 18) i).bind f = f (s 18 i.toNat) := (bnd (M_ld18 h h0 h1) f).trans (by rw [wm_at (by omega)])
theorem bM_st18 {β : Type} {μ : Mem} {I : Nat → Nat → Int} {s : Ld} {m : Nat} {i x : Int} (h : isM μ m) (h0 : 0 ≤ i) (h1 : i < 7) {f : Mem → Option β} : (stI (wi μ (wm I m s)) 0 (m + 18) i x).bind f = f (wi μ (wm I m (up2 s 18 i.toNat x))) := (bnd (M_st18 h h0 h1) f).trans (by rw [wm_up (by omega)])
theorem bM_g41 {β : Type} {μ : Mem} {I : Nat → Nat → Int} {m : Nat} (h : isM μ m) {f : Nat → Option β} : (gA (wi μ I) 12 m 41).bind f = f (m + 19) := bnd (M_g41 h) f
theorem bM_ld19 {β : Type} {μ : Mem} {I : Nat → Nat → Int} {s : Ld} {m : Nat} {i : Int} (h : isM μ m) (h0 : 0 ≤ i) (h1 : i < 4) {f : Int → Option β} : (ldI (wi μ (wm I m s)) 0 (m + 19) i).bind f = f (s 19 i.toNat) := (bnd (M_ld19 h h0 h1) f).trans (by rw [wm_at (by omega)])
theorem bM_st19 {β : Type} {μ : Mem} {I : Nat → Nat → Int} {s : Ld} {m : Nat} {i x : Int} (h : isM μ m) (h0 : 0 ≤ i) (h1 : i < 4) {f : Mem → Option β} : (stI (wi μ (wm I m s)) 0 (m + 19) i x).bind f = f (wi μ (wm I m (up2 s 19 i.toNat x))) := (bnd (M_st19 h h0 h1) f).trans (by rw [wm_up (by omega)])
theorem bM_g42 {β : Type} {μ : Mem} {I : Nat → Nat → Int} {m : Nat} (h : isM μ m) {f : Nat → Option β} : (gA (wi μ I) 12 m 42).bind f = f (m + 20) := bnd (M_g42 h) f
theorem bM_ld20 {β : Type} {μ : Mem} {I : Nat → Nat → Int} {s : Ld} {m : Nat} {i : Int} (h : isM μ m) (h0 : 0 ≤ i) (h1 : i < 4) {f : Int → Option β} : (ldI (wi μ (wm I m s)) 0 (m + 20) i).bind f = f (s 20 i.toNat) := (bnd (M_ld20 h h0 h1) f).trans (by rw [wm_at (by omega)])
theorem bM_st20 {β : Type} {μ : Mem} {I : Nat → Nat → Int} {s : Ld} {m : Nat} {i x : Int} (h : isM μ m) (h0 : 0 ≤ i) (h1 : i < 4) {f : Mem → Option β} : (stI (wi μ (wm I m s)) 0 (m + 20) i x).bind f = f (wi μ (wm I m (up2 s 20 i.toNat x))) := (bnd (M_st20 h h0 h1) f).trans (by rw [wm_up (by omega)])
theorem bM_g43 {β : Type} {μ : Mem} {I : Nat → Nat → Int} {m : Nat} (h : isM μ m) {f : Nat → Option β} : (gA (wi μ I) 12 m 43).bind f = f (m + 21) := bnd (M_g43 h) f
theorem bM_ld21 {β : Type} {μ : Mem} {I : Nat → Nat → Int} {s : Ld} {m : Nat} {i : Int} (h : isM μ m) (h0 : 0 ≤ i) (h1 : i < 240) {f : Int → Option β} : (ldI (wi μ (wm I m s)) 3 (m + 21) i).bind f = f (s 21 i.toNat) := (bnd (M_ld21 h h0 h1) f).trans (by rw [wm_at (by omega)])
theorem bM_st21 {β : Type} {μ : Mem} {I : Nat → Nat → Int} {s : Ld} {m : Nat} {i x : Int} (h : isM μ m) (h0 : 0 ≤ i) (h1 : i < 240) {f : Mem → Option β} : (stI (wi μ (wm I m s)) 3 (m + 21) i x).bind f = f (wi μ (wm I m (up2 s 21 i.toNat x))) := (bnd (M_st21 h h0 h1) f).trans (by rw [wm_up (by omega)])
theorem bM_gI {β : Type} {μ : Mem} {I : Nat → Nat → Int} {s : Ld} {m k : Nat} (h : isM μ m) {f : Int → Option β} : (gI (wi μ (wm I m s)) 12 m k).bind f = f (s 0 k) := (bnd (M_gI h) f).trans (by rw [wm_0])
theorem bM_pI {β : Type} {μ : Mem} {I : Nat → Nat → Int} {s : Ld} {m k : Nat} {x : Int} (h : isM μ m) {f : Mem → Option β} : (pI (wi μ (wm I m s)) 12 m k x).bind f = f (wi μ (wm I m (up2 s 0 k x))) := (bnd (M_pI h) f).trans (by rw [wm_up0])
theorem bM_inv {ρ β : Type} {μ : Mem} {I : Nat → Nat → Int} {m : Nat} {X : Option ρ} (h : isM μ m) {f : ρ → Option β} : (inv (wi μ I) 12 m X).bind f = X.bind f := by rw [M_inv h]
theorem bC_inv {ρ β : Type} {μ : Mem} {I : Nat → Nat → Int} {c : Nat} {X : Option ρ} (h : isC μ c) {f : ρ → Option β} : (inv (wi μ I) 11 c X).bind f = X.bind f := by rw [C_inv h]
theorem bC_g0 {β : Type} {μ : Mem} {I : Nat → Nat → Int} {c : Nat} (h : isC μ c) {f : Nat → Option β} : (gA (wi μ I) 11 c 0).bind f = f (c + 1) := bnd (C_g0 h) f
theorem bC_g1 {β : Type} {μ : Mem} {I : Nat → Nat → Int} {c : Nat} (h : isC μ c) {f : Nat → Option β} : (gA (wi μ I) 11 c 1).bind f = f (c + 3) := bnd (C_g1 h) f
theorem bC_g2 {β : Type} {μ : Mem} {I : Nat → Nat → Int} {c : Nat} (h : isC μ c) {f : Nat → Option β} : (gA (wi μ I) 11 c 2).bind f = f (c + 16) := bnd (C_g2 h) f
theorem bC_g3 {β : Type} {μ : Mem} {I : Nat → Nat → Int} {c : Nat} (h : isC μ c) {f : Nat → Option β} : (gA (wi μ I) 11 c 3).bind f = f (c + 29) := bnd (C_g3 h) f
theorem bC_g4 {β : Type} {μ : Mem} {I : Nat → Nat → Int} {c : Nat} (h : isC μ c) {f : Nat → Option β} : (gA (wi μ I) 11 c 4).bind f = f (c + 30) := bnd (C_g4 h) f
theorem bC_g5 {β : Type} {μ : Mem} {I : Nat → Nat → Int} {c : Nat} (h : isC μ c) {f : Nat → Option β} : (gA (wi μ I) 11 c 5).bind f = f (c + 31) := bnd (C_g5 h) f
theorem bC_g6 {β : Type} {μ : Mem} {I : Nat → Nat → Int} {c : Nat} (h : isC μ c) {f : Nat → Option β} : (gA (wi μ I) 11 c 6).bind f = f (c + 32) := bnd (C_g6 h) f
theorem bC_g7 {β : Type} {μ : Mem} {I : Nat → Nat → Int} {c : Nat} (h : isC μ c) {f : Nat → Option β} : (gA (wi μ I) 11 c 7).bind f = f (c + 34) := bnd ((e_gA h.k).trans (congrArg some h.2.1.2.2.2.2.2.2.2.1)) f
theorem bC_g8 {β : Type} {μ : Mem} {I : Nat → Nat → Int} {c : Nat} (h : isC μ c) {f : Nat → Option β} : (gA (wi μ I) 11 c 8).bind f = f (c + 36) := bnd ((e_gA h.k).trans (congrArg some h.2.1.2.2.2.2.2.2.2.2.1)) f
theorem bC_g9 {β : Type} {μ : Mem} {I : Nat → Nat → Int} {c : Nat} (h : isC μ c) {f : Nat → Option β} : (gA (wi μ I) 11 c 9).bind f = f (c + 145) := bnd ((e_gA h.k).trans (congrArg some h.2.1.2.2.2.2.2.2.2.2.2.1)) f
theorem bC_g10 {β : Type} {μ : Mem} {I : Nat → Nat → Int} {c : Nat} (h : isC μ c) {f : Nat → Option β} : (gA (wi μ I) 11 c 10).bind f = f (c + 156) := bnd ((e_gA h.k).trans (congrArg some h.2.1.2.2.2.2.2.2.2.2.2.2)) f
/-! the land's questions of a whole memory -/
section LW
variable {μ : Mem} {I : Nat → Nat → Int} {a n : Nat}
theorem hasHouse_w (h : isL μ a) (hk : okL (ld I a)) {b : Int} (hb : -2147483648 ≤ b ∧ b < 2147483648) {β : Type} {f : Int × Mem → Option β} : (mX1_hasHouse n a b (wi μ I)).bind f = f (bi (0 ≤ b ∧ b < ld I a 0 0), wi μ I) := by
  have e := hasHouse_eq (n := n) (I := I) h hk hb
  rw [wiwl] at e
  exact bnd e f
theorem hasRope_w (h : isL μ a) (hk : okL (ld I a)) {b : Int} (hb : -2147483648 ≤ b ∧ b < 2147483648) {β : Type} {f : Int × Mem → Option β} : (mX1_hasRope n a b (wi μ I)).bind f = f (bi (0 ≤ b ∧ b < ld I a 0 1), wi μ I) := by
  have e := hasRope_eq (n := n) (I := I) h hk hb
  rw [wiwl] at e
  exact bnd e f
theorem hangs_w (h : isL μ a) (hk : okL (ld I a)) {r b : Int} (hr : -2147483648 ≤ r ∧ r < 2147483648) (hb : -2147483648 ≤ b ∧ b < 2147483648) {β : Type} {f : Int × Mem → Option β} : (mX1_hangs n a r b (wi μ I)).bind f = f (bi (hgP (ld I a) r b), wi μ I) := by
  have e := hangs_eq (n := n) (I := I) h hk hr hb
  rw [wiwl] at e
  exact bnd e f
theorem hangsOpen_w (h : isL μ a) (hk : okL (ld I a)) {r b : Int} (hr : -2147483648 ≤ r ∧ r < 2147483648) (hb : -2147483648 ≤ b ∧ b < 2147483648) {β : Type} {f : Int × Mem → Option β} : (mX1_hangsOpen n a r b (wi μ I)).bind f = f (bi (hgP (ld I a) r b ∧ ld I a 9 r.toNat = 0), wi μ I) := by
  have e := hangsOpen_eq (n := n) (I := I) h hk hr hb
  rw [wiwl] at e
  exact bnd e f
theorem depthBehind_w (h : isL μ a) (hk : okL (ld I a)) {r : Nat} (h1 : (r : Int) < ld I a 0 1) {x y : Int} (hx : x = 0 ∨ x = 1) (hy : y = 0 ∨ y = 1) {β : Type} {f : Int × Mem → Option β} : (mX1_depthBehind n a (r : Int) x y (wi μ I)).bind f = f (dbL (ld I a) r x y, wi μ I) := by
  have e := depthBehind_eq (n := n) (I := I) h hk h1 hx hy
  rw [wiwl] at e
  exact bnd e f
theorem takeAll_w (h : isL μ a) {b : Nat} (hb : isL μ b) (hab : a + 12 < b ∨ b + 12 < a) : ∃ m : Ld, mX1_takeAll n a b (wi μ I) = some ((), wi μ (wl I a m)) ∧ EqL (ld I b) m := by
  obtain ⟨m, e, hm⟩ := takeAll_eq (n := n) (I := I) (l := ld I a) h hb hab rfl
  rw [wiwl] at e
  exact ⟨m, e, hm⟩
end LW
/-! the reference's questions -/
section MW
variable {μ : Mem} {I : Nat → Nat → Int} {m n : Nat} {s l : Ld} {β : Type}
theorem isHouse_w (h : isM μ m) (hl : LR l (s 1)) (hk : okL l) {b : Int} (hb : -2147483648 ≤ b ∧ b < 2147483648) {f : Int × Mem → Option β} : (mX11_isHouse n m (oI2l b) (wi μ (wm I m s))).bind f = f (bi (0 ≤ b ∧ b < l 0 0), wi μ (wm I m s)) := by rw [oI2l_of hb.1 hb.2]; exact bnd (isHouse_eq h hl hk (by omega)) f
theorem isRope_w (h : isM μ m) (hl : LR l (s 1)) (hk : okL l) {b : Int} (hb : -2147483648 ≤ b ∧ b < 2147483648) {f : Int × Mem → Option β} : (mX11_isRope n m (oI2l b) (wi μ (wm I m s))).bind f = f (bi (0 ≤ b ∧ b < l 0 1), wi μ (wm I m s)) := by rw [oI2l_of hb.1 hb.2]; exact bnd (isRope_eq h hl hk (by omega)) f
theorem isEnd_w (h : isM μ m) (hl : LR l (s 1)) (hk : okL l) {b : Int} {r : Nat} (hb : -2147483648 ≤ b ∧ b < 2147483648) (hr : (r : Int) < l 0 1) {f : Int × Mem → Option β} : (mX11_isEnd n m b (r : Int) (wi μ (wm I m s))).bind f = f (bi (l 10 (2 * r) = b ∨ l 10 (2 * r + 1) = b), wi μ (wm I m s)) := bnd (isEnd_eq h hl hk hb hr) f
theorem mhangs_w (h : isM μ m) (hl : LR l (s 1)) (hk : okL l) {r : Nat} (hr : (r : Int) < l 0 1) {f : Int × Mem → Option β} : (mX11_hangs n m (r : Int) (wi μ (wm I m s))).bind f = f (bi (l 9 r = 0), wi μ (wm I m s)) := bnd (mhangs_eq h hl hk hr) f
theorem within_w {ν : Mem} {x y z : Int} (h1 : -2147483648 ≤ x ∧ x < 2147483648) (h2 : -9223372036854775808 ≤ y ∧ y < 9223372036854775808) (h3 : -9223372036854775808 ≤ z ∧ z < 9223372036854775808) {f : Int × Mem → Option β} : (mX11_within n (oI2l x) y z ν).bind f = f (bi (y ≤ x ∧ x ≤ z), ν) := by rw [oI2l_of h1.1 h1.2]; exact bnd (within_eq (by omega) h2 h3) f
end MW
