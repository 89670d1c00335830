/-! dwellings: sums, and the orders told apart from both programs -/
def sm (f : Nat → Int) : Nat → Int
  | 0 => 0
  | n + 1 => sm f n + f n
theorem sm_cg {f g : Nat → Int} : ∀ n : Nat, (∀ i : Nat, i < n → f i = g i) → sm f n = sm g n
  | 0, _ => rfl
  | n + 1, h => by
    show sm f n + f n = sm g n + g n
    rw [sm_cg n (fun i hi => h i (by omega)), h n (by omega)]
theorem sm_add (f g : Nat → Int) : ∀ n : Nat, sm (fun i => f i + g i) n = sm f n + sm g n
  | 0 => rfl
  | n + 1 => by
    show sm (fun i => f i + g i) n + (f n + g n) = (sm f n + f n) + (sm g n + g n)
    rw [sm_add f g n]
    omega
theorem sm_0 {f : Nat → Int} : ∀ n : Nat, (∀ i : Nat, i < n → f i = 0) → sm f n = 0
  | 0, _ => rfl
  | n + 1, h => by
    show sm f n + f n = 0
    rw [sm_0 n (fun i hi => h i (by omega)), h n (by omega)]
    rfl
theorem sm_1 {f : Nat → Int} {k : Nat} : ∀ n : Nat, k < n → (∀ i : Nat, i < n → i ≠ k → f i = 0) → sm f n = f k
  | 0, h, _ => by omega
  | n + 1, h, g => by
    show sm f n + f n = f k
    by_cases e : k = n
    · subst e
      rw [sm_0 k (fun i hi => g i (by omega) (by omega))]
      omega
    · rw [sm_1 n (by omega) (fun i hi ne => g i (by omega) ne), g n (by omega) (fun z => e z.symm)]
      omega
theorem sm_nn {f : Nat → Int} : ∀ n : Nat, (∀ i : Nat, i < n → 0 ≤ f i) → 0 ≤ sm f n
  | 0, _ => Int.le_refl _
  | n + 1, h => by
    have h1 := sm_nn n (fun i hi => h i (by omega))
    have h2 := h n (by omega)
    show 0 ≤ sm f n + f n
    omega
theorem sm_le {f : Nat → Int} {b : Int} : ∀ n : Nat, (∀ i : Nat, i < n → f i ≤ b) → sm f n ≤ b * n
  | 0, _ => by show (0 : Int) ≤ b * ((0 : Nat) : Int); omega
  | n + 1, h => by
    have h1 := sm_le n (fun i hi => h i (by omega))
    have h2 := h n (by omega)
    show sm f n + f n ≤ b * ((n + 1 : Nat) : Int)
    rw [show ((n + 1 : Nat) : Int) = (n : Int) + 1 from rfl, Int.mul_add, Int.mul_one]
    omega
theorem itr_sm {f : Nat → Int} : ∀ (n k : Nat) (x : Int), itr (fun k s => s + f k) k n x = x + sm (fun i => f (k + i)) n
  | 0, k, x => by show x = x + 0; omega
  | n + 1, k, x => by
    rw [itr_succ]
    show itr (fun k s => s + f k) k n x + f (k + n) = x + (sm (fun i => f (k + i)) n + f (k + n))
    rw [itr_sm n k x]
    omega
/-- a rope between two houses -/
def rbw (l : Ld) (r x y : Nat) : Prop := l 9 r = 0 ∧ ((l 10 (2 * r) = x ∧ l 10 (2 * r + 1) = y) ∨ (l 10 (2 * r) = y ∧ l 10 (2 * r + 1) = x))
noncomputable def rb1 (l : Ld) (x y r : Nat) : Int := bc (rbw l r x y)
noncomputable def cmN (l : Ld) (k x y : Nat) : Int := sm (rb1 l x y) k
def pcT (l : Ld) (x y : Int) : Int := ((pcN (shN l x.toNat y.toNat) : Nat) : Int)
theorem pcT_sy (l : Ld) (x y : Int) : pcT l x y = pcT l y x := by
  unfold pcT shN
  rw [Nat.and_comm]
theorem pcT_rg (l : Ld) (x y : Int) : 0 ≤ pcT l x y ∧ pcT l x y ≤ 12 := by
  have := pcN_le (shN l x.toNat y.toNat)
  unfold pcT
  omega
theorem cmN_rg (l : Ld) (k x y : Nat) : 0 ≤ cmN l k x y ∧ cmN l k x y ≤ k := by
  have h : ∀ r : Nat, 0 ≤ rb1 l x y r ∧ rb1 l x y r ≤ 1 := fun r => by
    unfold rb1
    by_cases c : rbw l r x y
    · rw [bc_t c]; omega
    · rw [bc_f c]; omega
  have h1 := sm_nn k (fun i _ => (h i).1)
  have h2 := sm_le k (fun i _ => (h i).2)
  unfold cmN
  omega
/-- how a house clashes with those before it, with the ropes below k -/
noncomputable def cwK (l : Ld) (k : Nat) (o : Nat → Int) (h : Nat) : Int := sm (fun q => cmN l k h q * pcT l (o h) (o q)) h
noncomputable def toK (l : Ld) (k : Nat) (o : Nat → Int) (N : Nat) : Int := sm (cwK l k o) N
theorem cwK_rg (l : Ld) (k : Nat) (hk : k ≤ 16) (o : Nat → Int) (h : Nat) : 0 ≤ cwK l k o h ∧ cwK l k o h ≤ 192 * h := by
  have g : ∀ q : Nat, 0 ≤ cmN l k h q * pcT l (o h) (o q) ∧ cmN l k h q * pcT l (o h) (o q) ≤ 192 := fun q => by
    have a := cmN_rg l k h q
    have b := pcT_rg l (o h) (o q)
    refine ⟨Int.mul_nonneg a.1 b.1, ?_⟩
    have h1 := Int.mul_le_mul (show cmN l k h q ≤ 16 by omega) b.2 b.1 (by decide)
    omega
  exact ⟨sm_nn h (fun i _ => (g i).1), sm_le h (fun i _ => (g i).2)⟩
theorem toK_s {l : Ld} (hk : okL l) {N : Nat} (hN : l 0 0 = (N : Int)) (o : Nat → Int) {k : Nat} (hr : (k : Int) < l 0 1) : toK l (k + 1) o N = toK l k o N + (if l 9 k = 0 then pcT l (o (l 10 (2 * k)).toNat) (o (l 10 (2 * k + 1)).toNat) else 0) := by
  have g1 := hk.2.2.2 (2 * k) (by omega)
  have g2 := hk.2.2.2 (2 * k + 1) (by omega)
  have g3 := (hk.2.2.1 k hr).2.2.2.2.2
  obtain ⟨x, hx⟩ : ∃ x : Nat, l 10 (2 * k) = (x : Int) := ⟨(l 10 (2 * k)).toNat, by omega⟩
  obtain ⟨y, hy⟩ : ∃ y : Nat, l 10 (2 * k + 1) = (y : Int) := ⟨(l 10 (2 * k + 1)).toNat, by omega⟩
  rw [hx] at g1 g3
  rw [hy] at g2 g3
  have step : ∀ h : Nat, cwK l (k + 1) o h = cwK l k o h + sm (fun q => rb1 l h q k * pcT l (o h) (o q)) h := fun h => by
    unfold cwK
    rw [← sm_add]
    refine sm_cg h (fun q _ => ?_)
    show (cmN l k h q + rb1 l h q k) * _ = _
    rw [Int.add_mul]
  unfold toK
  rw [sm_cg N (fun h _ => step h), sm_add]
  congr 1
  rw [hx, hy, Int.toNat_natCast, Int.toNat_natCast]
  by_cases c9 : l 9 k = 0
  · rw [if_pos c9]
    have nxy : x ≠ y := fun e => g3 (by rw [e])
    have key : ∀ a b : Nat, b < a → a < N → rbw l k a b → (∀ p q : Nat, q < p → rbw l k p q → p = a ∧ q = b) → sm (fun h => sm (fun q => rb1 l h q k * pcT l (o h) (o q)) h) N = pcT l (o a) (o b) := fun a b hab ha hr' hu => by
      rw [sm_1 N ha (fun h _ ne => sm_0 h (fun q hq => by
        unfold rb1
        rw [bc_f (fun z => ne (hu h q hq z).1), Int.zero_mul]))]
      rw [sm_1 a hab (fun q hq ne => by
        unfold rb1
        rw [bc_f (fun z => ne (hu a q hq z).2), Int.zero_mul])]
      unfold rb1
      rw [bc_t hr', Int.one_mul]
    by_cases lt : y < x
    · refine key x y lt (by omega) ⟨c9, Or.inl ⟨hx, hy⟩⟩ (fun p q hq z => ?_)
      have := z.2
      omega
    · rw [pcT_sy]
      refine key y x (by omega) (by omega) ⟨c9, Or.inr ⟨hx, hy⟩⟩ (fun p q hq z => ?_)
      have := z.2
      omega
  · rw [if_neg c9]
    refine sm_0 N (fun h _ => sm_0 h (fun q _ => ?_))
    unfold rb1
    rw [bc_f (fun z => c9 z.1), Int.zero_mul]
def clO (l : Ld) (o : Nat → Int) (r : Nat) (x : Int) : Int := if l 9 r = 0 then x + pcT l (o (l 10 (2 * r)).toNat) (o (l 10 (2 * r + 1)).toNat) else x
/-- the clash of all ropes by an order, as the reference sums it -/
theorem toK_all {l : Ld} (hk : okL l) {N : Nat} (hN : l 0 0 = (N : Int)) (o : Nat → Int) : ∀ k : Nat, (k : Int) ≤ l 0 1 → itr (clO l o) 0 k 0 = toK l k o N
  | 0, _ => by
    show (0 : Int) = sm (cwK l 0 o) N
    refine (sm_0 N (fun h _ => sm_0 h (fun q _ => ?_))).symm
    show (0 : Int) * _ = 0
    rw [Int.zero_mul]
  | k + 1, h => by
    rw [itr_succ, Nat.zero_add, toK_all hk hN o k (by omega), toK_s hk hN o (by omega)]
    unfold clO
    split <;> omega
/-- orders, the best so far: its clash, how many moved, and itself -/
abbrev Bs : Type := Int × Int × (Nat → Int)
def btr (c m : Int) (B : Bs) : Prop := c < B.1 ∨ (c = B.1 ∧ m < B.2.1)
def tkn (o : Nat → Int) (h : Nat) (w : Nat) : Prop := ∃ j : Nat, j < h ∧ o j = (w : Int)
noncomputable def hF (l : Ld) (R N : Nat) : Nat → Nat → (Nat → Int) → Int → Bs → Bs
  | 0, _, o, m, B => @ite Bs (btr (toK l R o N) m B) (Classical.propDecidable _) (toK l R o N, m, o) B
  | d + 1, h, o, m, B => itr (fun w B => @ite Bs (tkn o h w) (Classical.propDecidable _) B (hF l R N d (h + 1) (upA o h (w : Int)) (if w = h then m else m + 1) B)) 0 N B
theorem toK_pre {l : Ld} {R : Nat} {o p : Nat → Int} : ∀ h : Nat, (∀ j : Nat, j < h → o j = p j) → toK l R o h = toK l R p h
  | 0, _ => rfl
  | h + 1, e => by
    show toK l R o h + cwK l R o h = toK l R p h + cwK l R p h
    rw [toK_pre h (fun j hj => e j (by omega))]
    unfold cwK
    rw [sm_cg h (fun q hq => by rw [e h (by omega), e q (by omega)])]
theorem toK_mono {l : Ld} {R : Nat} (hR : R ≤ 16) {o : Nat → Int} {h : Nat} : ∀ d : Nat, toK l R o h ≤ toK l R o (h + d)
  | 0 => Int.le_refl _
  | d + 1 => by
    have h1 := toK_mono (l := l) hR (o := o) (h := h) d
    have h2 := (cwK_rg l R hR o (h + d)).1
    show toK l R o h ≤ toK l R o (h + d) + cwK l R o (h + d)
    omega
theorem toK_rg {l : Ld} {R : Nat} (hR : R ≤ 16) (o : Nat → Int) : ∀ h : Nat, h ≤ 7 → 0 ≤ toK l R o h ∧ toK l R o h ≤ 1344 * h
  | 0, _ => ⟨Int.le_refl _, Int.le_refl _⟩
  | h + 1, hh => by
    have h1 := toK_rg (l := l) hR o h (by omega)
    have h2 := cwK_rg l R hR o h
    have e : toK l R o (h + 1) = toK l R o h + cwK l R o h := rfl
    omega
theorem btr_mono {c c' m m' : Int} {B : Bs} (h : ¬ btr c m B) (h1 : c ≤ c') (h2 : m ≤ m') : ¬ btr c' m' B := by
  unfold btr at *
  omega
/-- what can't be better any more is not -/
theorem hF_prune {l : Ld} {R N : Nat} (hR : R ≤ 16) : ∀ (d h : Nat) (o : Nat → Int) (m : Int) (B : Bs), h + d = N → ¬ btr (toK l R o h) m B → hF l R N d h o m B = B
  | 0, h, o, m, B, e, hb => by
    have e : h = N := by omega
    subst e
    exact if_neg hb
  | d + 1, h, o, m, B, e, hb => by
    have key : ∀ (k c : Nat), itr (fun w B => @ite Bs (tkn o h w) (Classical.propDecidable _) B (hF l R N d (h + 1) (upA o h (w : Int)) (if w = h then m else m + 1) B)) k c B = B := by
      intro k c
      induction c generalizing k with
      | zero => rfl
      | succ c ih =>
        show itr _ (k + 1) c _ = B
        have : @ite Bs (tkn o h k) (Classical.propDecidable _) B (hF l R N d (h + 1) (upA o h (k : Int)) (if k = h then m else m + 1) B) = B := by
          by_cases t : tkn o h k
          · exact if_pos t
          · rw [if_neg t]
            refine hF_prune hR d (h + 1) _ _ B (by omega) (btr_mono hb ?_ (by split <;> omega))
            rw [toK_pre h (p := upA o h (k : Int)) (fun j hj => (upA_n (by omega)).symm)]
            exact toK_mono hR 1
        dsimp only
        rw [this]
        exact ih (k + 1)
    exact key 0 N
/-- an order counts only as far as there are houses -/
def BsE (N : Nat) (B C : Bs) : Prop := B.1 = C.1 ∧ B.2.1 = C.2.1 ∧ ∀ j : Nat, j < N → B.2.2 j = C.2.2 j
theorem BsE.rf (N : Nat) (B : Bs) : BsE N B B := ⟨rfl, rfl, fun _ _ => rfl⟩
theorem tkn_cg {o p : Nat → Int} {h w : Nat} (e : ∀ j : Nat, j < h → o j = p j) : tkn o h w ↔ tkn p h w := ⟨fun ⟨j, a, b⟩ => ⟨j, a, by rw [← e j a]; exact b⟩, fun ⟨j, a, b⟩ => ⟨j, a, by rw [e j a]; exact b⟩⟩
