/-! new cells behind a memory, told by lists -/
def look {α : Type} (d : α) : List (Nat × Nat × α) → Nat → Nat → α
  | [], _, _ => d
  | e :: r, o, j => if o = e.1 ∧ j = e.2.1 then e.2.2 else look d r o j
def rl (N : Nat) : Nat → Nat
  | 0 => 0
  | o + 1 => N + 1 + o
def szL : List (Nat × Nat) → Nat
  | [] => 0
  | e :: r => e.2 + szL r
def cS (μ : Mem) (N : Nat) (sh : List (Nat × Nat)) (a : Nat) : Nat × Nat := if a ≤ N then mS μ a else (sh[a - N - 1]?).getD (mS μ a)
def cI (J : Nat → Nat → Int) (N : Nat) (sh : List (Nat × Nat)) (iv : List (Nat × Nat × Int)) (a : Nat) : Nat → Int := if a ≤ N then J a else if a - N - 1 < sh.length then look 0 iv (a - N - 1) else J a
def cA (μ : Mem) (N : Nat) (sh : List (Nat × Nat)) (rf : List (Nat × Nat × Nat)) (a : Nat) : Nat → Nat := if a ≤ N then mA μ a else if a - N - 1 < sh.length then (fun j => rl N (look 0 rf (a - N - 1) j)) else mA μ a
def cM (μ : Mem) (J : Nat → Nat → Int) (N : Nat) (sh : List (Nat × Nat)) (rf : List (Nat × Nat × Nat)) (iv : List (Nat × Nat × Int)) : Mem := (cS μ N sh, cI J N sh iv, cA μ N sh rf, N + sh.length, mW μ + szL sh)
def wfL (sh : List (Nat × Nat)) (rf : List (Nat × Nat × Nat)) (iv : List (Nat × Nat × Int)) : Prop := (∀ e ∈ rf, e.1 < sh.length) ∧ ∀ e ∈ iv, e.1 < sh.length
section CE
variable {μ : Mem} {J : Nat → Nat → Int} {N o o2 k n L C m : Nat} {sh t : List (Nat × Nat)} {rf : List (Nat × Nat × Nat)} {iv : List (Nat × Nat × Int)} {β : Type}
theorem look_no {α : Type} {d : α} : ∀ {l : List (Nat × Nat × α)} {o j : Nat}, (∀ e ∈ l, e.1 < o) → look d l o j = d
  | [], _, _, _ => rfl
  | e :: r, o, j, h => by
    have h1 := h e List.mem_cons_self
    show (if o = e.1 ∧ j = e.2.1 then e.2.2 else look d r o j) = d
    rw [if_neg (by omega)]
    exact look_no (fun x hx => h x (List.mem_cons_of_mem _ hx))
theorem szL_app : ∀ {a b : List (Nat × Nat)}, szL (a ++ b) = szL a + szL b
  | [], b => (Nat.zero_add _).symm
  | e :: r, b => by
    show e.2 + szL (r ++ b) = e.2 + szL r + szL b
    rw [szL_app, Nat.add_assoc]
theorem wfL.app (h : wfL sh rf iv) : wfL (sh ++ t) rf iv := ⟨fun e he => by rw [List.length_append]; exact Nat.lt_of_lt_of_le (h.1 e he) (Nat.le_add_right _ _), fun e he => by rw [List.length_append]; exact Nat.lt_of_lt_of_le (h.2 e he) (Nat.le_add_right _ _)⟩
theorem wfL.ra {x : Nat × Nat × Nat} (h : wfL sh rf iv) (ho : x.1 < sh.length) : wfL sh (x :: rf) iv := ⟨List.forall_mem_cons.mpr ⟨ho, h.1⟩, h.2⟩
theorem wfL.ri {x : Nat × Nat × Int} (h : wfL sh rf iv) (ho : x.1 < sh.length) : wfL sh rf (x :: iv) := ⟨h.1, List.forall_mem_cons.mpr ⟨ho, h.2⟩⟩
theorem get_lt {x : Nat × Nat} (h : sh[o]? = some x) : o < sh.length := (List.getElem?_eq_some_iff.mp h).1
theorem get_app {x : Nat × Nat} (h : sh[o]? = some x) : (sh ++ t)[o]? = some x := by rw [List.getElem?_append_left (get_lt h)]; exact h
theorem get_new {x : Nat × Nat} : (sh ++ x :: t)[sh.length]? = some x := by rw [List.getElem?_append_right (Nat.le_refl _), Nat.sub_self]; rfl
theorem c_S {x : Nat × Nat} (h : sh[o]? = some x) : mS (cM μ J N sh rf iv) (N + 1 + o) = x := by
  show cS μ N sh (N + 1 + o) = x
  unfold cS
  rw [if_neg (by omega), show N + 1 + o - N - 1 = o by omega, h]
  rfl
theorem c_A (h : o < sh.length) : mA (cM μ J N sh rf iv) (N + 1 + o) k = rl N (look 0 rf o k) := by
  show cA μ N sh rf (N + 1 + o) k = _
  unfold cA
  rw [if_neg (by omega), show N + 1 + o - N - 1 = o by omega, if_pos h]
theorem c_I (h : o < sh.length) : mI (cM μ J N sh rf iv) (N + 1 + o) = look 0 iv o := by
  show cI J N sh iv (N + 1 + o) = _
  unfold cI
  rw [if_neg (by omega), show N + 1 + o - N - 1 = o by omega, if_pos h]
theorem c_nil (hN : mN μ = N) : cM μ J N [] [] [] = wi μ J := by
  have e1 : cS μ N [] = mS μ := funext fun a => by
    unfold cS
    split
    · rfl
    · rfl
  have e2 : cI J N [] [] = J := funext fun a => by
    unfold cI
    split
    · rfl
    · exact if_neg (Nat.not_lt_zero _)
  have e3 : cA μ N [] [] = mA μ := funext fun a => by
    unfold cA
    split
    · rfl
    · exact if_neg (Nat.not_lt_zero _)
  unfold cM wi
  rw [e1, e2, e3, hN]
  rfl
theorem c_new (h : wfL sh rf iv) : nw (cM μ J N sh rf iv) k n = cM μ J N (sh ++ [(k, n)]) rf iv := by
  have l1 : (sh ++ [(k, n)]).length = sh.length + 1 := by rw [List.length_append]; rfl
  have e1 : up1 (cS μ N sh) (N + sh.length + 1) (k, n) = cS μ N (sh ++ [(k, n)]) := funext fun a => by
    unfold up1 cS
    by_cases c : a = N + sh.length + 1
    · rw [if_pos c, if_neg (by omega), c, show N + sh.length + 1 - N - 1 = sh.length by omega, get_new]
      rfl
    · rw [if_neg c]
      by_cases c1 : a ≤ N
      · rw [if_pos c1, if_pos c1]
      · rw [if_neg c1, if_neg c1]
        by_cases c2 : a - N - 1 < sh.length
        · rw [List.getElem?_append_left c2]
        · rw [List.getElem?_eq_none (by omega), List.getElem?_eq_none (by omega)]
  have e2 : up1 (cI J N sh iv) (N + sh.length + 1) (fun _ => 0) = cI J N (sh ++ [(k, n)]) iv := funext fun a => by
    unfold up1 cI
    by_cases c : a = N + sh.length + 1
    · rw [if_pos c, if_neg (by omega), c, show N + sh.length + 1 - N - 1 = sh.length by omega, if_pos (by omega)]
      funext j
      exact (look_no h.2).symm
    · rw [if_neg c]
      by_cases c1 : a ≤ N
      · rw [if_pos c1, if_pos c1]
      · rw [if_neg c1, if_neg c1]
        by_cases c2 : a - N - 1 < sh.length
        · rw [if_pos c2, if_pos (by omega)]
        · rw [if_neg c2, if_neg (by omega)]
  have e3 : up1 (cA μ N sh rf) (N + sh.length + 1) (fun _ => 0) = cA μ N (sh ++ [(k, n)]) rf := funext fun a => by
    unfold up1 cA
    by_cases c : a = N + sh.length + 1
    · rw [if_pos c, if_neg (by omega), c, show N + sh.length + 1 - N - 1 = sh.length by omega, if_pos (by omega)]
      funext j
      rw [look_no h.1]
      rfl
    · rw [if_neg c]
      by_cases c1 : a ≤ N
      · rw [if_pos c1, if_pos c1]
      · rw [if_neg c1, if_neg c1]
        by_cases c2 : a - N - 1 < sh.length
        · rw [if_pos c2, if_pos (by omega)]
        · rw [if_neg c2, if_neg (by omega)]
  show (up1 (cS μ N sh) (N + sh.length + 1) (k, n), up1 (cI J N sh iv) (N + sh.length + 1) (fun _ => 0), up1 (cA μ N sh rf) (N + sh.length + 1) (fun _ => 0), N + sh.length + 1, mW μ + szL sh + n) = cM μ J N (sh ++ [(k, n)]) rf iv
  unfold cM
  rw [e1, e2, e3, l1, szL_app, show szL [(k, n)] = n from Nat.add_zero n, ← Nat.add_assoc, ← Nat.add_assoc]
theorem c_sA (h : o < sh.length) : sA (cM μ J N sh rf iv) (N + 1 + o) k (N + 1 + o2) = cM μ J N sh ((o, k, o2 + 1) :: rf) iv := by
  have e : up2 (cA μ N sh rf) (N + 1 + o) k (N + 1 + o2) = cA μ N sh ((o, k, o2 + 1) :: rf) := funext fun a => funext fun j => by
    unfold up2 cA
    by_cases c : a = N + 1 + o ∧ j = k
    · rw [if_pos c, if_neg (by omega), c.1, show N + 1 + o - N - 1 = o by omega, if_pos h]
      show _ = rl N (if o = o ∧ j = k then o2 + 1 else look 0 rf o j)
      rw [if_pos ⟨rfl, c.2⟩]
      rfl
    · rw [if_neg c]
      by_cases c1 : a ≤ N
      · rw [if_pos c1, if_pos c1]
      · rw [if_neg c1, if_neg c1]
        by_cases c2 : a - N - 1 < sh.length
        · rw [if_pos c2, if_pos c2]
          show _ = rl N (if a - N - 1 = o ∧ j = k then o2 + 1 else look 0 rf (a - N - 1) j)
          rw [if_neg (by omega)]
        · rw [if_neg c2, if_neg c2]
  show (cS μ N sh, cI J N sh iv, up2 (cA μ N sh rf) (N + 1 + o) k (N + 1 + o2), N + sh.length, mW μ + szL sh) = _
  rw [e]
  rfl
theorem c_sI {x : Int} (h : o < sh.length) : sI (cM μ J N sh rf iv) (N + 1 + o) k x = cM μ J N sh rf ((o, k, x) :: iv) := by
  have e : up2 (cI J N sh iv) (N + 1 + o) k x = cI J N sh ((o, k, x) :: iv) := funext fun a => funext fun j => by
    unfold up2 cI
    by_cases c : a = N + 1 + o ∧ j = k
    · rw [if_pos c, if_neg (by omega), c.1, show N + 1 + o - N - 1 = o by omega, if_pos h]
      show _ = (if o = o ∧ j = k then x else look 0 iv o j)
      rw [if_pos ⟨rfl, c.2⟩]
    · rw [if_neg c]
      by_cases c1 : a ≤ N
      · rw [if_pos c1, if_pos c1]
      · rw [if_neg c1, if_neg c1]
        by_cases c2 : a - N - 1 < sh.length
        · rw [if_pos c2, if_pos c2]
          show _ = (if a - N - 1 = o ∧ j = k then x else look 0 iv (a - N - 1) j)
          rw [if_neg (by omega)]
        · rw [if_neg c2, if_neg c2]
  show (cS μ N sh, up2 (cI J N sh iv) (N + 1 + o) k x, cA μ N sh rf, N + sh.length, mW μ + szL sh) = _
  rw [e]
  rfl
theorem r_nwO (h : wfL sh rf iv) {f : Nat × Mem → Option β} : (nwO (cM μ J N sh rf iv) k n).bind f = f (N + 1 + sh.length, cM μ J N (sh ++ [(k, n)]) rf iv) := by
  have e : nwO (cM μ J N sh rf iv) k n = some (N + 1 + sh.length, cM μ J N (sh ++ [(k, n)]) rf iv) := by
    show some (N + sh.length + 1, nw (cM μ J N sh rf iv) k n) = _
    rw [c_new h, show N + sh.length + 1 = N + 1 + sh.length by omega]
  exact bnd e f
theorem r_nwA (h : wfL sh rf iv) {t : Nat} {x : Int} (hx : 0 ≤ x ∧ x < 100000) {f : Nat × Mem → Option β} : (nwA (cM μ J N sh rf iv) t x).bind f = f (N + 1 + sh.length, cM μ J N (sh ++ [(20 + t, x.toNat)]) rf iv) := by
  have e : nwA (cM μ J N sh rf iv) t x = some (N + 1 + sh.length, cM μ J N (sh ++ [(20 + t, x.toNat)]) rf iv) := by
    have : nwA (cM μ J N sh rf iv) t x = some (N + sh.length + 1, nw (cM μ J N sh rf iv) (20 + t) x.toNat) := if_pos hx
    rw [this, c_new h, show N + sh.length + 1 = N + 1 + sh.length by omega]
  exact bnd e f
theorem r_pA (h : sh[o]? = some (C, m)) {f : Mem → Option β} : (pA (cM μ J N sh rf iv) C (N + 1 + o) k (N + 1 + o2)).bind f = f (cM μ J N sh ((o, k, o2 + 1) :: rf) iv) := by
  have e : pA (cM μ J N sh rf iv) C (N + 1 + o) k (N + 1 + o2) = some (cM μ J N sh ((o, k, o2 + 1) :: rf) iv) := by
    have : pA (cM μ J N sh rf iv) C (N + 1 + o) k (N + 1 + o2) = some (sA (cM μ J N sh rf iv) (N + 1 + o) k (N + 1 + o2)) := if_pos (by rw [c_S h])
    rw [this, c_sA (get_lt h)]
  exact bnd e f
theorem r_pI (h : sh[o]? = some (C, m)) {x : Int} {f : Mem → Option β} : (pI (cM μ J N sh rf iv) C (N + 1 + o) k x).bind f = f (cM μ J N sh rf ((o, k, x) :: iv)) := by
  have e : pI (cM μ J N sh rf iv) C (N + 1 + o) k x = some (cM μ J N sh rf ((o, k, x) :: iv)) := by
    have : pI (cM μ J N sh rf iv) C (N + 1 + o) k x = some (sI (cM μ J N sh rf iv) (N + 1 + o) k x) := if_pos (by rw [c_S h])
    rw [this, c_sI (get_lt h)]
  exact bnd e f
theorem r_gA (h : sh[o]? = some (C, m)) {f : Nat → Option β} : (gA (cM μ J N sh rf iv) C (N + 1 + o) k).bind f = f (rl N (look 0 rf o k)) := by
  have e : gA (cM μ J N sh rf iv) C (N + 1 + o) k = some (rl N (look 0 rf o k)) := by
    have : gA (cM μ J N sh rf iv) C (N + 1 + o) k = some (mA (cM μ J N sh rf iv) (N + 1 + o) k) := if_pos (by rw [c_S h])
    rw [this, c_A (get_lt h)]
  exact bnd e f
theorem r_inv (h : sh[o]? = some (C, m)) {X : Option β} : inv (cM μ J N sh rf iv) C (N + 1 + o) X = X := if_pos (by rw [c_S h])
theorem r_stA {t m' : Nat} {i : Int} (h : sh[o]? = some (20 + t, m)) (hi : 0 ≤ i ∧ i < (m : Int) ∧ i < 2147483648) (h2 : sh[o2]? = some (C, m')) {f : Mem → Option β} : (stA (cM μ J N sh rf iv) C t (N + 1 + o) i (N + 1 + o2)).bind f = f (cM μ J N sh ((o, i.toNat, o2 + 1) :: rf) iv) := by
  have e : stA (cM μ J N sh rf iv) C t (N + 1 + o) i (N + 1 + o2) = some (cM μ J N sh ((o, i.toNat, o2 + 1) :: rf) iv) := by
    have : stA (cM μ J N sh rf iv) C t (N + 1 + o) i (N + 1 + o2) = some (sA (cM μ J N sh rf iv) (N + 1 + o) i.toNat (N + 1 + o2)) := if_pos ⟨by rw [c_S h], by rw [c_S h]; exact hi, by rw [c_S h2]⟩
    rw [this, c_sA (get_lt h)]
  exact bnd e f
theorem r_stI {t : Nat} {i x : Int} (h : sh[o]? = some (20 + t, m)) (hi : 0 ≤ i ∧ i < (m : Int) ∧ i < 2147483648) {f : Mem → Option β} : (stI (cM μ J N sh rf iv) t (N + 1 + o) i x).bind f = f (cM μ J N sh rf ((o, i.toNat, x) :: iv)) := by
  have e : stI (cM μ J N sh rf iv) t (N + 1 + o) i x = some (cM μ J N sh rf ((o, i.toNat, x) :: iv)) := by
    have : stI (cM μ J N sh rf iv) t (N + 1 + o) i x = some (sI (cM μ J N sh rf iv) (N + 1 + o) i.toNat x) := if_pos ⟨by rw [c_S h], by rw [c_S h]; exact hi⟩
    rw [this, c_sI (get_lt h)]
  exact bnd e f
/-- an array, laid into a field -/
theorem r_fld (h : wfL sh rf iv) (ho : sh[o]? = some (C, m)) {t : Nat} {x : Int} (hx : 0 ≤ x ∧ x < 100000) {f : Mem → Option β} : ((nwA (cM μ J N sh rf iv) t x).bind fun p => (pA p.2 C (N + 1 + o) k p.1).bind f) = f (cM μ J N (sh ++ [(20 + t, x.toNat)]) ((o, k, sh.length + 1) :: rf) iv) := by
  rw [r_nwA h hx]
  dsimp only
  rw [r_pA (get_app ho)]
theorem wfL.fld (h : wfL sh rf iv) {x y : Nat × Nat} (ho : sh[o]? = some y) : wfL (sh ++ [x]) ((o, k, sh.length + 1) :: rf) iv := h.app.ra (by show o < (sh ++ [x]).length; rw [List.length_append]; have := get_lt ho; omega)
end CE
