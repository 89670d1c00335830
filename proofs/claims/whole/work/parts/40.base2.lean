/-! LAYER 2. A memory whose static part is fixed: only the whole numbers change. -/
def wi (μ : Mem) (I : Nat → Nat → Int) : Mem := (mS μ, I, mA μ, mN μ, mW μ)
theorem wi_self (μ : Mem) : wi μ (mI μ) = μ := rfl
theorem wi_S (μ : Mem) (I : Nat → Nat → Int) : mS (wi μ I) = mS μ := rfl
theorem wi_I (μ : Mem) (I : Nat → Nat → Int) : mI (wi μ I) = I := rfl
theorem wi_A (μ : Mem) (I : Nat → Nat → Int) : mA (wi μ I) = mA μ := rfl
theorem e_gI {μ : Mem} {I : Nat → Nat → Int} {C a k : Nat} (h : (mS μ a).1 = C) : gI (wi μ I) C a k = some (I a k) := if_pos h
theorem e_gA {μ : Mem} {I : Nat → Nat → Int} {C a k : Nat} (h : (mS μ a).1 = C) : gA (wi μ I) C a k = some (mA μ a k) := if_pos h
theorem e_pI {μ : Mem} {I : Nat → Nat → Int} {C a k : Nat} {x : Int} (h : (mS μ a).1 = C) : pI (wi μ I) C a k x = some (wi μ (up2 I a k x)) := if_pos h
theorem e_inv {ρ : Type} {μ : Mem} {I : Nat → Nat → Int} {C a : Nat} {f : Option ρ} (h : (mS μ a).1 = C) : inv (wi μ I) C a f = f := if_pos h
theorem e_ldI {μ : Mem} {I : Nat → Nat → Int} {t a L : Nat} {i : Int} (h : mS μ a = (20 + t, L)) (h0 : 0 ≤ i) (h1 : i < (L : Int)) (h2 : i < 2147483648) : ldI (wi μ I) t a i = some (I a i.toNat) := if_pos ⟨by rw [wi_S, h], h0, by rw [wi_S, h]; exact h1, h2⟩
theorem e_ldA {μ : Mem} {I : Nat → Nat → Int} {t a L : Nat} {i : Int} (h : mS μ a = (20 + t, L)) (h0 : 0 ≤ i) (h1 : i < (L : Int)) (h2 : i < 2147483648) : ldA (wi μ I) t a i = some (mA μ a i.toNat) := if_pos ⟨by rw [wi_S, h], h0, by rw [wi_S, h]; exact h1, h2⟩
theorem e_stI {μ : Mem} {I : Nat → Nat → Int} {t a L : Nat} {i x : Int} (h : mS μ a = (20 + t, L)) (h0 : 0 ≤ i) (h1 : i < (L : Int)) (h2 : i < 2147483648) : stI (wi μ I) t a i x = some (wi μ (up2 I a i.toNat x)) := if_pos ⟨by rw [wi_S, h], h0, by rw [wi_S, h]; exact h1, h2⟩
theorem e_stZ {μ : Mem} {I : Nat → Nat → Int} {a L : Nat} {i x : Int} (h : mS μ a = (22, L)) (h0 : 0 ≤ i) (h1 : i < (L : Int)) (h2 : i < 2147483648) (hx : x = 0 ∨ x = 1) : stZ (wi μ I) a i x = some (wi μ (up2 I a i.toNat x)) := if_pos ⟨by rw [wi_S, h], ⟨h0, by rw [wi_S, h]; exact h1, h2⟩, hx⟩
theorem e_alen {μ : Mem} {I : Nat → Nat → Int} {t a L : Nat} (h : mS μ a = (20 + t, L)) : alen (wi μ I) t a = some (L : Int) := by
  unfold alen
  rw [if_pos (by rw [wi_S, h]), wi_S, h]
theorem e_cpI {μ : Mem} {I : Nat → Nat → Int} {t a b La Lb : Nat} {i j n : Int} (ha : mS μ a = (20 + t, La)) (hb : mS μ b = (20 + t, Lb)) (h0 : 0 ≤ i) (h1 : 0 ≤ j) (h2 : 0 ≤ n) (h3 : i + n ≤ (La : Int)) (h4 : j + n ≤ (Lb : Int)) (h5 : i + n < 2147483648) (h6 : j + n < 2147483648) : cpI (wi μ I) t a i b j n = some (wi μ (up1 I b (va_cpy (I a) (I b) i.toNat j.toNat n.toNat))) := if_pos ⟨by rw [wi_S, ha], by rw [wi_S, hb], h0, h1, h2, by rw [wi_S, ha]; exact h3, by rw [wi_S, hb]; exact h4, h5, h6⟩
theorem lt32_iff {x y : Int} (h1 : -2147483648 ≤ x) (h2 : x < 2147483648) (h3 : -2147483648 ≤ y) (h4 : y < 2147483648) : Int32.ofInt x < Int32.ofInt y ↔ x < y := by
  rw [Int32.lt_iff_toInt_lt, Int32.toInt_ofInt_of_le (by omega) (by omega), Int32.toInt_ofInt_of_le (by omega) (by omega)]
theorem le32_iff {x y : Int} (h1 : -2147483648 ≤ x) (h2 : x < 2147483648) (h3 : -2147483648 ≤ y) (h4 : y < 2147483648) : Int32.ofInt x ≤ Int32.ofInt y ↔ x ≤ y := by
  rw [Int32.le_iff_toInt_le, Int32.toInt_ofInt_of_le (by omega) (by omega), Int32.toInt_ofInt_of_le (by omega) (by omega)]
theorem eq32_iff {x y : Int} (h1 : -2147483648 ≤ x) (h2 : x < 2147483648) (h3 : -2147483648 ≤ y) (h4 : y < 2147483648) : Int32.ofInt x = Int32.ofInt y ↔ x = y := by
  rw [← Int32.toInt_inj, Int32.toInt_ofInt_of_le (by omega) (by omega), Int32.toInt_ofInt_of_le (by omega) (by omega)]
def bi (p : Prop) [Decidable p] : Int := if p then 1 else 0
theorem eq32_bi (p : Prop) [Decidable p] : Int32.ofInt (bi p) = Int32.ofInt 0 ↔ ¬ p := by
  unfold bi
  by_cases h : p
  · rw [if_pos h]
    exact ⟨fun e => absurd e (by decide), fun e => absurd h e⟩
  · rw [if_neg h]
    exact ⟨fun _ => h, fun _ => rfl⟩
theorem retZ_0 (μ : Mem) : retZ 0 μ = some (0, μ) := rfl
theorem retZ_1 (μ : Mem) : retZ 1 μ = some (1, μ) := rfl
theorem bi_t {p : Prop} [Decidable p] (h : p) : bi p = 1 := if_pos h
theorem bi_f {p : Prop} [Decidable p] (h : ¬ p) : bi p = 0 := if_neg h
theorem retZ_bi (p : Prop) [Decidable p] (μ : Mem) : retZ (bi p) μ = some (bi p, μ) := by
  unfold bi
  split <;> rfl
theorem oDiv_of {x y : Int} (h1 : 0 ≤ x) (h2 : x < 2147483648) (h3 : 0 < y) (h4 : y < 2147483648) : oDiv x y = x / y := by
  unfold oDiv
  rw [Int32.toInt_div_of_ne_right _ _ (fun e => by
    have := congrArg Int32.toInt e
    rw [Int32.toInt_ofInt_of_le (by omega) (by omega)] at this
    have e1 : (-1 : Int32).toInt = -1 := rfl
    omega), Int32.toInt_ofInt_of_le (by omega) (by omega), Int32.toInt_ofInt_of_le (by omega) (by omega), Int.tdiv_eq_ediv_of_nonneg h1]
theorem oRem_of {x y : Int} (h1 : 0 ≤ x) (h2 : x < 2147483648) (h3 : 0 < y) (h4 : y < 2147483648) : oRem x y = x % y := by
  have hd := oDiv_of h1 h2 h3 h4
  unfold oDiv at hd
  unfold oRem
  have e : Int32.ofInt x / Int32.ofInt y = Int32.ofInt (x / y) := by rw [← hd, Int32.ofInt_toInt]
  rw [e, ← Int32.ofInt_mul, ← Int32.ofInt_sub]
  have h5 : x - x / y * y = x % y := by rw [Int.emod_def, Int.mul_comm]
  rw [h5]
  have := Int.emod_nonneg x (show y ≠ 0 by omega)
  have := Int.emod_lt_of_pos x h3
  exact Int32.toInt_ofInt_of_le (by omega) (by omega)
/-! loops that count -/
def itr {σ : Type} (step : Nat → σ → σ) : Nat → Nat → σ → σ
  | _, 0, s => s
  | k, d + 1, s => itr step (k + 1) d (step k s)
theorem lp_run {α ρ σ : Type} {B : (α → Mem → Option (ρ × Mem)) → α → Mem → Option (ρ × Mem)} (e1 : Nat → σ → α) (e2 : Nat → σ → Mem) (step : Nat → σ → σ) (R : Nat) (ex : σ → Option (ρ × Mem)) (Inv : Nat → σ → Prop)
    (hs : ∀ (k : Nat) (s : σ) (nx : α → Mem → Option (ρ × Mem)), k < R → Inv k s → Inv (k + 1) (step k s) ∧ B nx (e1 k s) (e2 k s) = nx (e1 (k + 1) (step k s)) (e2 (k + 1) (step k s)))
    (hx : ∀ (s : σ) (nx : α → Mem → Option (ρ × Mem)), Inv R s → B nx (e1 R s) (e2 R s) = ex s) : ∀ (d k : Nat) (s : σ) (n : Nat), k + d = R → d < n → Inv k s → lp B n (e1 k s) (e2 k s) = ex (itr step k d s)
  | d, k, s, 0, _, h, _ => absurd h (by omega)
  | 0, k, s, n + 1, e, _, hi => by
    have e : k = R := by omega
    subst e
    exact hx s (lp B n) hi
  | d + 1, k, s, n + 1, e, h, hi => by
    obtain ⟨h1, h2⟩ := hs k s (lp B n) (by omega) hi
    show B (lp B n) (e1 k s) (e2 k s) = _
    rw [h2]
    exact lp_run e1 e2 step R ex Inv hs hx d (k + 1) (step k s) n (by omega) (by omega) h1
theorem itr_inv {σ : Type} {step : Nat → σ → σ} {P : Nat → σ → Prop} : ∀ (d k : Nat) (s : σ), P k s → (∀ j s, k ≤ j → j < k + d → P j s → P (j + 1) (step j s)) → P (k + d) (itr step k d s)
  | 0, k, s, h, _ => h
  | d + 1, k, s, h, hs => by
    have := itr_inv (P := P) d (k + 1) (step k s) (hs k s (Nat.le_refl _) (by omega) h) (fun j s h1 h2 => hs j s (by omega) (by omega))
    rw [show k + (d + 1) = k + 1 + d by omega]
    exact this
/-- two loops side by side -/
theorem itr_rel {σ τ : Type} {step : Nat → σ → σ} {step' : Nat → τ → τ} {P : Nat → σ → τ → Prop} : ∀ (d k : Nat) (s : σ) (t : τ), P k s t → (∀ j s t, k ≤ j → j < k + d → P j s t → P (j + 1) (step j s) (step' j t)) → P (k + d) (itr step k d s) (itr step' k d t)
  | 0, k, s, t, h, _ => h
  | d + 1, k, s, t, h, hs => by
    have := itr_rel (P := P) d (k + 1) (step k s) (step' k t) (hs k s t (Nat.le_refl _) (by omega) h) (fun j s t h1 h2 => hs j s t (by omega) (by omega))
    rw [show k + (d + 1) = k + 1 + d by omega]
    exact this
theorem itr_succ {σ : Type} {step : Nat → σ → σ} : ∀ (d k : Nat) (s : σ), itr step k (d + 1) s = step (k + d) (itr step k d s)
  | 0, k, s => rfl
  | d + 1, k, s => by
    show itr step (k + 1) (d + 1) (step k s) = _
    rw [itr_succ d (k + 1), show k + 1 + d = k + (d + 1) by omega]
    rfl
