/-! the class's search: choices behind which all hangs alike -/
theorem lk_shl : ∀ v : Nat, v < 4 → ∀ k : Nat, k < 3 → oShl (v : Int) (2 * (k : Int)) = ((v * 4 ^ k : Nat) : Int) := by decide +kernel
theorem lk_and : ∀ w : Nat, w < 64 → ∀ k : Nat, k < 3 → oAnd (oShr (w : Int) (2 * (k : Int))) 3 = ((w / 4 ^ k % 4 : Nat) : Int) := by decide +kernel
theorem lk_or1 : ∀ k : Nat, k < 3 → ∀ x : Nat, x < 16 → ∀ v : Nat, v < 4 → x < 4 ^ k → (x ||| v * 4 ^ k) = x + v * 4 ^ k := by decide +kernel
theorem lk_or2 : ∀ k : Nat, k < 3 → ∀ x : Nat, x < 16 → ∀ v : Nat, v < 4 → x < 4 ^ k → x + v * 4 ^ k < 4 ^ (k + 1) := by decide +kernel
theorem lk_or3 : ∀ k : Nat, k < 3 → ∀ x : Nat, x < 16 → ∀ v : Nat, v < 4 → x < 4 ^ k → (x + v * 4 ^ k) / 4 ^ k % 4 = v := by decide +kernel
theorem lk_or4 : ∀ k : Nat, k < 3 → ∀ x : Nat, x < 16 → ∀ v : Nat, v < 4 → x < 4 ^ k → ∀ j : Nat, j < k → (x + v * 4 ^ k) / 4 ^ j % 4 = x / 4 ^ j % 4 := by decide +kernel
theorem lk_or (k : Nat) (hk : k < 3) (x : Nat) (hx : x < 16) (v : Nat) (hv : v < 4) (h : x < 4 ^ k) : (x ||| v * 4 ^ k) = x + v * 4 ^ k ∧ x + v * 4 ^ k < 4 ^ (k + 1) ∧ (x + v * 4 ^ k) / 4 ^ k % 4 = v ∧ ∀ j : Nat, j < k → (x + v * 4 ^ k) / 4 ^ j % 4 = x / 4 ^ j % 4 := ⟨lk_or1 k hk x hx v hv h, lk_or2 k hk x hx v hv h, lk_or3 k hk x hx v hv h, lk_or4 k hk x hx v hv h⟩
def lkB (a : Nat) (b1 : Int) : (Int × Int → Mem → Option (Int × Mem)) → Int × Int → Mem → Option (Int × Mem) := fun nx4 v4 μ4 => (gI μ4 5 a 3).bind fun x6 => if lt32 v4.2 x6 then (gA μ4 5 a 8).bind fun x14 => (ldI μ4 0 x14 ((4 * v4.2) + (oAnd (oShr b1 (2 * v4.2)) 3))).bind fun x28 => nx4 ((oOr v4.1 (oShl x28 (2 * v4.2))), (v4.2 + 1)) μ4 else some (v4.1, μ4)
theorem likeChoice_s {n a : Nat} {b1 : Int} (μ : Mem) : mX4_likeChoice n a b1 μ = lp (lkB a b1) n (0, 0) μ := rfl
section LB
variable {μ : Mem} {J : Nat → Nat → Int} {a c n o H R h X : Nat} {ro : Nat → Nat} {l L : Ld} {g : Int} {p : Nat → Int}
theorem lk_l (hE : isSe μ a c) (ho : o ≤ 3) (h3 : J a 3 = (o : Int)) (hI : laI L ro J a o 0) {w : Nat} (hw : w < 64) : ∀ (d kk k x : Nat), k + d = o → d < kk → x < 4 ^ k → x ≤ w % 4 ^ k → (∀ j : Nat, j < k → dbx L (ro j) (x / 4 ^ j % 4) = dbx L (ro j) (w / 4 ^ j % 4)) → ∃ w' : Nat, lp (lkB a (w : Int)) kk ((x : Int), (k : Int)) (wi μ J) = some ((w' : Int), wi μ J) ∧ w' ≤ w ∧ ∀ j : Nat, j < o → dbx L (ro j) (w' / 4 ^ j % 4) = dbx L (ro j) (w / 4 ^ j % 4)
  | d, 0, k, x, h1, h2, hx, hxw, hj => absurd h2 (by omega)
  | 0, kk + 1, k, x, h1, h2, hx, hxw, hj => by
    have ek : k = o := by omega
    subst ek
    refine ⟨x, ?_, Nat.le_trans hxw (Nat.mod_le _ _), hj⟩
    generalize hB : lp (lkB a (w : Int)) kk = slf
    show lkB a (w : Int) (lp (lkB a (w : Int)) kk) ((x : Int), (k : Int)) (wi μ J) = _
    rw [hB]
    unfold lkB
    dsimp only
    rw [bE_gI hE, h3, i_lt_f (by omega)]
  | d + 1, kk + 1, k, x, h1, h2, hx, hxw, hj => by
    have p4 : (4 : Nat) ^ k ≤ 4 ^ 2 := Nat.pow_le_pow_right (by decide) (by omega)
    obtain ⟨-, v, ev, lv, ldb, -⟩ := hI k (w / 4 ^ k % 4) (by omega) (Or.inl (by omega))
    have v4 : v < 4 := by omega
    obtain ⟨o1, o2, o3, o4⟩ := lk_or k (by omega) x (by omega) v v4 hx
    obtain ⟨w', e, q1, q2⟩ := lk_l hE ho h3 hI hw d kk (k + 1) (x + v * 4 ^ k) (by omega) (by omega) o2 (by
      rw [Nat.mod_pow_succ, Nat.mul_comm (4 ^ k)]
      exact Nat.add_le_add hxw (Nat.mul_le_mul_right _ lv)) (fun j hjk => by
      by_cases c : j = k
      · subst c; rw [o3]; exact ldb
      · rw [o4 j (by omega)]; exact hj j (by omega))
    refine ⟨w', ?_, q1, q2⟩
    have vk : v * 4 ^ k ≤ 3 * 4 ^ 2 := Nat.mul_le_mul (by omega) p4
    generalize hB : lp (lkB a (w : Int)) kk = slf at e
    show lkB a (w : Int) (lp (lkB a (w : Int)) kk) ((x : Int), (k : Int)) (wi μ J) = _
    rw [hB]
    unfold lkB
    dsimp only
    rw [bE_gI hE, h3, i_lt_t (by omega), bE_g8 hE, lk_and w hw k (by omega), bE_ld13 hE (by omega) (by omega), show (4 * (k : Int) + ((w / 4 ^ k % 4 : Nat) : Int)).toNat = 4 * k + w / 4 ^ k % 4 by omega, ev, lk_shl v v4 k (by omega), oOr_n (by omega) (by omega), o1]
    exact e
theorem likeChoice_eq (hE : isSe μ a c) (ho : o ≤ 3) (h3 : J a 3 = (o : Int)) (hI : laI L ro J a o 0) (hn : 20000 ≤ n) {w : Nat} (hw : w < 64) : ∃ w' : Nat, mX4_likeChoice n a (w : Int) (wi μ J) = some ((w' : Int), wi μ J) ∧ w' ≤ w ∧ ∀ j : Nat, j < o → dbx L (ro j) (w' / 4 ^ j % 4) = dbx L (ro j) (w / 4 ^ j % 4) := by
  rw [likeChoice_s]
  exact lk_l hE ho h3 hI hw o n 0 0 (by omega) (by omega) (by decide) (Nat.zero_le _) (fun j hj => absurd hj (by omega))
theorem q4 : ∀ w : Nat, w < 64 → ∀ k : Nat, k < 3 → w / 4 ^ k % 4 % 2 = w / 2 ^ (2 * k) % 2 ∧ w / 4 ^ k % 4 / 2 = w / 2 ^ (2 * k + 1) % 2 := by decide +kernel
/-- the depth behind the hour, by who pulls -/
theorem dbx_mv (vl : vL l L) (hH : (H : Int) = l 0 0) (op : opn l o ro R) (ho : o ≤ 3) {w k : Nat} (hb : whoB l o ro p w) (hk : k < o) : dbx L (ro k) (w / 4 ^ k % 4) = mvL p L 8 (ro k) := by
  obtain ⟨q1, q2⟩ := q4 w hb.1 k (by omega)
  have rr := op.2.1 k hk
  have r1 := op.1
  have l9 : L 9 = l 9 := vl.2.2.2.2.2.2.1
  have l10 : L 10 = l 10 := vl.2.2.2.2.2.2.2.1
  have gc := (go_c (p := p) (R := R) vl.1 (by rw [vl.2.1 1 (by decide)]; exact r1)).2.1 (ro k) rr.1 (by rw [l9]; exact rr.2)
  rw [gc]
  have bit : ∀ t : Nat, t < 2 * o → t / 2 = k → ((w / 2 ^ t % 2 : Nat) : Int) = bi (p (l 10 (2 * ro k + t % 2)).toNat = ((ro k : Nat) : Int)) := fun t ht e => by
    have b := hb.2 t (by omega)
    rw [tb_iff] at b
    unfold en at b
    rw [e] at b
    by_cases c : p (l 10 (2 * ro k + t % 2)).toNat = ((ro k : Nat) : Int)
    · rw [bi_t c, b.mpr ⟨ht, c⟩]; rfl
    · rw [bi_f c]
      have : ¬ w / 2 ^ t % 2 = 1 := fun z => c (b.mp z).2
      omega
  have b0 := bit (2 * k) (by omega) (by omega)
  have b1 := bit (2 * k + 1) (by omega) (by omega)
  rw [show 2 * k % 2 = 0 by omega, Nat.add_zero] at b0
  rw [show (2 * k + 1) % 2 = 1 by omega] at b1
  unfold dbx
  rw [q1, q2, b0, b1, l10]
theorem stk_skip (m : Ld) : ∀ (d b : Nat), (∀ j : Nat, b ≤ j → j < b + d → m 9 (j / 2) ≠ 0) → stk m (b + d) = stk m b ∧ ∀ h : Nat, cnt m h (b + d) = cnt m h b
  | 0, b, _ => ⟨rfl, fun _ => rfl⟩
  | d + 1, b, hj => by
    obtain ⟨i1, i2⟩ := stk_skip m d b (fun j a c => hj j a (by omega))
    have n9 := hj (b + d) (by omega) (by omega)
    refine ⟨?_, fun h => ?_⟩
    · show (if fiP m (stk m (b + d)) (b + d) then upA (stk m (b + d)) (m 10 (b + d)).toNat (stk m (b + d) (m 10 (b + d)).toNat - 1) else stk m (b + d)) = _
      rw [if_neg (fun z => n9 z.1)]
      exact i1
    · show cnt m h (b + d) + (if drn m (b + d) ∧ (m 10 (b + d)).toNat = h then 1 else 0) = _
      rw [if_neg (fun z => n9 z.1.1), i2 h]
      omega
/-- where the stocks stand before rope k of the open ones -/
def bd (ro : Nat → Nat) : Nat → Nat
  | 0 => 0
  | k + 1 => 2 * ro k + 2
theorem bd_k (op : opn l o ro R) {m : Ld} (h9 : m 9 = l 9) {k : Nat} (hk : k < o) : stk m (2 * ro k) = stk m (bd ro k) ∧ ∀ h : Nat, cnt m h (2 * ro k) = cnt m h (bd ro k) := by
  obtain ⟨r1, o1, o2, o3⟩ := op
  have sk : ∀ b : Nat, b ≤ 2 * ro k → (∀ j : Nat, b ≤ j → j < 2 * ro k → l 9 (j / 2) ≠ 0) → stk m (2 * ro k) = stk m b ∧ ∀ h : Nat, cnt m h (2 * ro k) = cnt m h b := fun b hb hj => by
    have := stk_skip m (2 * ro k - b) b (fun j a c => by rw [h9]; exact hj j a (by omega))
    rw [show b + (2 * ro k - b) = 2 * ro k by omega] at this
    exact this
  have rk := (o1 k hk).1
  cases k with
  | zero =>
    refine sk 0 (by omega) (fun j _ hj z => ?_)
    obtain ⟨i, i1, i2⟩ := o3 (j / 2) (by omega) z
    by_cases c : i = 0
    · subst c; omega
    · have := o2 0 i (by omega) i1
      omega
  | succ k =>
    have lt := o2 k (k + 1) (by omega) hk
    refine sk (2 * ro k + 2) (by omega) (fun j hj1 hj z => ?_)
    obtain ⟨i, i1, i2⟩ := o3 (j / 2) (by omega) z
    by_cases c : i ≤ k
    · by_cases c' : i = k
      · subst c'; omega
      · have := o2 i k (by omega) (by omega)
        omega
    · by_cases c' : i = k + 1
      · subst c'; omega
      · have := o2 (k + 1) i (by omega) i1
        omega
theorem bd_o (op : opn l o ro R) {m : Ld} (h9 : m 9 = l 9) : stk m (2 * R) = stk m (bd ro o) ∧ ∀ h : Nat, cnt m h (2 * R) = cnt m h (bd ro o) := by
  obtain ⟨r1, o1, o2, o3⟩ := op
  have sk : ∀ b : Nat, b ≤ 2 * R → (∀ j : Nat, b ≤ j → j < 2 * R → l 9 (j / 2) ≠ 0) → stk m (2 * R) = stk m b ∧ ∀ h : Nat, cnt m h (2 * R) = cnt m h b := fun b hb hj => by
    have := stk_skip m (2 * R - b) b (fun j a c => by rw [h9]; exact hj j a (by omega))
    rw [show b + (2 * R - b) = 2 * R by omega] at this
    exact this
  cases o with
  | zero =>
    refine sk 0 (by omega) (fun j _ hj z => ?_)
    obtain ⟨i, i1, i2⟩ := o3 (j / 2) (by omega) z
    omega
  | succ k =>
    have lt := (o1 k (by omega)).1
    refine sk (2 * ro k + 2) (by omega) (fun j hj1 hj z => ?_)
    obtain ⟨i, i1, i2⟩ := o3 (j / 2) (by omega) z
    by_cases c : i = k
    · subst c; omega
    · have := o2 i k (by omega) (by omega)
      omega
end LB
