/-! what a search answers, told apart from both programs -/
def Rc (x0 : Int) (St : Int → Int → Prop) : Nat → Int → Prop
  | 0 => fun x => x = x0
  | k + 1 => fun x => Rc x0 St k x ∨ ∃ w : Int, Rc x0 St k w ∧ St w x
/-- more than 3000 -/
def mny (P : Int → Prop) : Prop := ∃ S : Nat → Int, (∀ i : Nat, i < 3001 → P (S i)) ∧ ∀ i j : Nat, i < 3001 → j < 3001 → S i = S j → i = j
def An (x0 : Int) (St : Int → Int → Prop) (Go : Int → Prop) (a : Int) : Prop := ∃ k : Nat, (∀ j : Nat, j < k → (∀ w : Int, Rc x0 St j w → ¬ Go w) ∧ ¬ mny (Rc x0 St (j + 1)) ∧ ∃ w : Int, Rc x0 St (j + 1) w ∧ ¬ Rc x0 St j w) ∧ ((a = (k : Int) + 1 ∧ ∃ w : Int, Rc x0 St k w ∧ Go w) ∨ ((∀ w : Int, Rc x0 St k w → ¬ Go w) ∧ ((a = -4 ∧ mny (Rc x0 St (k + 1))) ∨ (a = -1 ∧ ¬ mny (Rc x0 St (k + 1)) ∧ ∀ w : Int, Rc x0 St (k + 1) w → Rc x0 St k w))))
section SP
variable {x0 : Int} {St : Int → Int → Prop} {Go : Int → Prop} {S T P Q : Nat → Int} {k z z1 fr to : Nat}
theorem An.lt {k k' : Nat} {a : Int} (h : k < k') (h1 : ∀ j : Nat, j < k' → (∀ w : Int, Rc x0 St j w → ¬ Go w) ∧ ¬ mny (Rc x0 St (j + 1)) ∧ ∃ w : Int, Rc x0 St (j + 1) w ∧ ¬ Rc x0 St j w) (h2 : (a = (k : Int) + 1 ∧ ∃ w : Int, Rc x0 St k w ∧ Go w) ∨ ((∀ w : Int, Rc x0 St k w → ¬ Go w) ∧ ((a = -4 ∧ mny (Rc x0 St (k + 1))) ∨ (a = -1 ∧ ¬ mny (Rc x0 St (k + 1)) ∧ ∀ w : Int, Rc x0 St (k + 1) w → Rc x0 St k w)))) : False := by
  obtain ⟨a1, a2, w, a3, a4⟩ := h1 k h
  rcases h2 with ⟨-, v, q1, q2⟩ | ⟨-, ⟨-, q⟩ | ⟨-, -, q⟩⟩
  · exact a1 v q1 q2
  · exact a2 q
  · exact a4 (q w a3)
theorem An.un {a a' : Int} (h : An x0 St Go a) (h' : An x0 St Go a') : a = a' := by
  obtain ⟨k, h1, h2⟩ := h
  obtain ⟨k', h1', h2'⟩ := h'
  have e : k = k' := by
    by_cases c : k < k'
    · exact (An.lt c h1' h2).elim
    · by_cases c' : k' < k
      · exact (An.lt c' h1 h2').elim
      · omega
  subst e
  rcases h2 with ⟨e, v, q1, q2⟩ | ⟨q0, ⟨e, q⟩ | ⟨e, q, -⟩⟩
  · rcases h2' with ⟨e', -⟩ | ⟨q', -⟩
    · omega
    · exact absurd q2 (q' v q1)
  · rcases h2' with ⟨e', v, q1, q2⟩ | ⟨-, ⟨e', -⟩ | ⟨-, q', -⟩⟩
    · exact absurd q2 (q0 v q1)
    · omega
    · exact absurd q q'
  · rcases h2' with ⟨e', v, q1, q2⟩ | ⟨-, ⟨-, q'⟩ | ⟨e', -⟩⟩
    · exact absurd q2 (q0 v q1)
    · exact absurd q' q
    · omega
/-- a list that holds at most 3000 holds not more -/
theorem few_of {X : Int → Prop} (hc : ∀ x : Int, X x → inL T z x) (hz : z ≤ 3000) : ¬ mny X := fun h => by
  obtain ⟨U, u1, u2⟩ := h
  have ch : ∀ i : Nat, ∃ j : Nat, i < 3001 → j < z ∧ T j = U i := fun i => by
    by_cases c : i < 3001
    · obtain ⟨j, q1, q2⟩ := hc _ (u1 i c)
      exact ⟨j, fun _ => ⟨q1, q2⟩⟩
    · exact ⟨0, fun w => absurd w c⟩
  have := inj_le 3001 z (fun i => Classical.choose (ch i)) (fun i hi => (Classical.choose_spec (ch i) hi).1) (fun i j hi hj e => by
    have e' : Classical.choose (ch i) = Classical.choose (ch j) := e
    have a1 := (Classical.choose_spec (ch i) hi).2
    have a2 := (Classical.choose_spec (ch j) hj).2
    rw [e'] at a1
    exact u2 i j hi hj (a1.symm.trans a2))
  omega
def LV (St : Int → Int → Prop) (Go : Int → Prop) (S : Nat → Int) (fr to z0 : Nat) (T : Nat → Int) (z : Nat) (fnd : Prop) : Prop := (z0 ≤ z ∧ ∀ i : Nat, i < z0 → T i = S i) ∧ (∀ x : Int, inL T z x → inL S z0 x ∨ ∃ i : Nat, fr ≤ i ∧ i < to ∧ St (S i) x) ∧ (fnd → ∃ i : Nat, fr ≤ i ∧ i < to ∧ Go (S i)) ∧ (¬ fnd → ∀ i : Nat, fr ≤ i → i < to → ¬ Go (S i) ∧ ∀ x : Int, St (S i) x → z ≤ 3000 → inL T z x)
def Lin (x0 : Int) (St : Int → Int → Prop) (Go : Int → Prop) (k : Nat) (S : Nat → Int) (fr to : Nat) : Prop := (∀ x : Int, inL S to x ↔ Rc x0 St k x) ∧ (∀ i : Nat, i < fr → ¬ Go (S i) ∧ ∀ x : Int, St (S i) x → inL S to x) ∧ to ≤ 3000 ∧ k + 1 ≤ to
theorem Lin.st (h : Lin x0 St Go k S fr to) {fnd : Prop} (hL : LV St Go S fr to to T z fnd) (hd : ∀ i j : Nat, i < z → j < z → T i = T j → i = j) (hz : z ≤ 3001) : (fnd → ∃ w : Int, Rc x0 St k w ∧ Go w) ∧ (¬ fnd → (∀ w : Int, Rc x0 St k w → ¬ Go w) ∧ (3000 < z → mny (Rc x0 St (k + 1))) ∧ (z ≤ 3000 → ¬ mny (Rc x0 St (k + 1)) ∧ (z = to → ∀ w : Int, Rc x0 St (k + 1) w → Rc x0 St k w) ∧ (to < z → Lin x0 St Go (k + 1) T to z ∧ ∃ w : Int, Rc x0 St (k + 1) w ∧ ¬ Rc x0 St k w))) := by
  obtain ⟨h1, h2, h3, h4⟩ := h
  obtain ⟨⟨a1, a2⟩, a3, a4, a5⟩ := hL
  have sound : ∀ x : Int, inL T z x → Rc x0 St (k + 1) x := fun x hx => by
    rcases a3 x hx with q | ⟨i, -, q2, q3⟩
    · exact Or.inl ((h1 x).mp q)
    · exact Or.inr ⟨S i, (h1 _).mp ⟨i, q2, rfl⟩, q3⟩
  refine ⟨fun hf => ?_, fun hf => ?_⟩
  · obtain ⟨i, -, q1, q2⟩ := a4 hf
    exact ⟨S i, (h1 _).mp ⟨i, q1, rfl⟩, q2⟩
  · have ng : ∀ i : Nat, i < to → ¬ Go (S i) ∧ ∀ x : Int, St (S i) x → z ≤ 3000 → inL T z x := fun i hi => by
      by_cases c : fr ≤ i
      · exact a5 hf i c hi
      · have q := h2 i (by omega)
        exact ⟨q.1, fun x hx _ => (q.2 x hx).mono a1 a2⟩
    have cmp : z ≤ 3000 → ∀ x : Int, Rc x0 St (k + 1) x → inL T z x := fun hz3 x hx => by
      rcases hx with hx | ⟨w, q1, q2⟩
      · exact ((h1 x).mpr hx).mono a1 a2
      · obtain ⟨i, q3, q4⟩ := (h1 w).mpr q1
        exact (ng i q3).2 x (by rw [q4]; exact q2) hz3
    refine ⟨fun w hw => ?_, fun hz3 => ?_, fun hz3 => ⟨few_of (cmp hz3) hz3, fun e w hw => ?_, fun hlt => ⟨⟨fun x => ⟨sound x, cmp hz3 x⟩, fun i hi => ?_, hz3, by omega⟩, T to, sound _ ⟨to, hlt, rfl⟩, fun hw => ?_⟩⟩⟩
    · obtain ⟨i, q3, q4⟩ := (h1 w).mpr hw
      rw [← q4]
      exact (ng i q3).1
    · have e : z = 3001 := by omega
      exact ⟨T, fun i hi => sound _ ⟨i, by omega, rfl⟩, fun i j hi hj q => hd i j (by omega) (by omega) q⟩
    · obtain ⟨i, q3, q4⟩ := cmp hz3 w hw
      exact (h1 w).mp ⟨i, by omega, by rw [← a2 i (by omega)]; exact q4⟩
    · rw [a2 i hi]
      exact ⟨(ng i hi).1, fun x hx => (ng i hi).2 x hx hz3⟩
    · obtain ⟨i, q3, q4⟩ := (h1 _).mpr hw
      have := hd i to (by omega) hlt ((a2 i q3).trans q4)
      omega
/-! the same with prices -/
def Ck (x0 : Int) (Sp : Int → Int → Int → Prop) : Nat → Int → Int → Prop
  | 0 => fun x c => x = x0 ∧ c = 0
  | k + 1 => fun x c => ∃ w d e : Int, Ck x0 Sp k w d ∧ Sp w x e ∧ c = d + e
def Gk (x0 : Int) (Sp : Int → Int → Int → Prop) (Gp : Int → Int → Prop) (k : Nat) (c : Int) : Prop := ∃ w d e : Int, Ck x0 Sp k w d ∧ Gp w e ∧ c = d + e
def mnC (x0 : Int) (Sp : Int → Int → Int → Prop) (k : Nat) : Prop := mny (fun x => ∃ c : Int, Ck x0 Sp k x c)
def Fm (x0 : Int) (Sp : Int → Int → Int → Prop) (Gp : Int → Int → Prop) (k : Nat) (f : Int) : Prop := (f = -1 ∧ ∀ j : Nat, j < k → ∀ c : Int, ¬ Gk x0 Sp Gp j c) ∨ (f ≠ -1 ∧ (∃ j : Nat, j < k ∧ Gk x0 Sp Gp j f) ∧ ∀ j : Nat, j < k → ∀ c : Int, Gk x0 Sp Gp j c → f ≤ c)
def Ac (x0 : Int) (Sp : Int → Int → Int → Prop) (Gp : Int → Int → Prop) (m : Nat) (a : Int) : Prop := (a = -4 ∧ ∃ k : Nat, 1 ≤ k ∧ k < m ∧ mnC x0 Sp k) ∨ ((∀ k : Nat, 1 ≤ k → k < m → ¬ mnC x0 Sp k) ∧ Fm x0 Sp Gp m a)
def PL (x0 : Int) (Sp : Int → Int → Int → Prop) (k : Nat) (T Q : Nat → Int) (z : Nat) : Prop := (∀ i : Nat, i < z → Ck x0 Sp k (T i) (Q i)) ∧ ∀ x c : Int, Ck x0 Sp k x c → ∃ i : Nat, i < z ∧ T i = x ∧ Q i ≤ c
variable {Sp : Int → Int → Int → Prop} {Gp : Int → Int → Prop} {f g : Int}
theorem Fm.un {a a' : Int} (h : Fm x0 Sp Gp k a) (h' : Fm x0 Sp Gp k a') : a = a' := by
  rcases h with ⟨e, n⟩ | ⟨-, ⟨j, q1, q2⟩, q3⟩
  · rcases h' with ⟨e', -⟩ | ⟨-, ⟨j, q1, q2⟩, -⟩
    · omega
    · exact absurd q2 (n j q1 _)
  · rcases h' with ⟨-, n⟩ | ⟨-, ⟨j', q1', q2'⟩, q3'⟩
    · exact absurd q2 (n j q1 _)
    · have := q3 j' q1' _ q2'
      have := q3' j q1 _ q2
      omega
theorem Ac.un {m : Nat} {a a' : Int} (h : Ac x0 Sp Gp m a) (h' : Ac x0 Sp Gp m a') : a = a' := by
  rcases h with ⟨e, j, q1, q2, q3⟩ | ⟨n, q⟩
  · rcases h' with ⟨e', -⟩ | ⟨n, -⟩
    · omega
    · exact absurd q3 (n j q1 q2)
  · rcases h' with ⟨-, j, q1, q2, q3⟩ | ⟨-, q'⟩
    · exact absurd q3 (n j q1 q2)
    · exact q.un q'
theorem PL.st (h : PL x0 Sp k S P z) (hf : Fm x0 Sp Gp k f) {T0 Q0 : Nat → Int} (hA : AdL (fun x c => ∃ i : Nat, i < z ∧ ∃ e : Int, Sp (S i) x e ∧ c = P i + e) (fun c => ∃ i : Nat, i < z ∧ ∃ e : Int, Gp (S i) e ∧ c = P i + e) T0 Q0 0 f T Q z1 g) (hd : ∀ i j : Nat, i < z1 → j < z1 → T i = T j → i = j) (hz : z1 ≤ 3001) : Fm x0 Sp Gp (k + 1) g ∧ (3000 < z1 → mnC x0 Sp (k + 1)) ∧ (z1 ≤ 3000 → ¬ mnC x0 Sp (k + 1) ∧ PL x0 Sp (k + 1) T Q z1) := by
  obtain ⟨h1, h2⟩ := h
  obtain ⟨-, a3, a4, a5, a6, a7⟩ := hA
  have sound : ∀ i : Nat, i < z1 → Ck x0 Sp (k + 1) (T i) (Q i) := fun i hi => by
    rcases a3 i hi with ⟨q, -⟩ | ⟨j, q1, e, q2, q3⟩
    · omega
    · exact ⟨S j, P j, e, h1 j q1, q2, q3⟩
  have cmp : z1 ≤ 3000 → ∀ x c : Int, Ck x0 Sp (k + 1) x c → ∃ i : Nat, i < z1 ∧ T i = x ∧ Q i ≤ c := fun hz3 x c hx => by
    obtain ⟨w, d, e, q1, q2, q3⟩ := hx
    obtain ⟨i, r1, r2, r3⟩ := h2 w d q1
    obtain ⟨j, t1, t2, t3⟩ := a4 x (P i + e) ⟨i, r1, e, by rw [r2]; exact q2, rfl⟩ hz3
    exact ⟨j, t1, t2, by omega⟩
  refine ⟨?_, fun hz3 => ?_, fun hz3 => ⟨few_of (T := T) (z := z1) (fun x hx => ?_) hz3, sound, cmp hz3⟩⟩
  · have gF : ∀ c : Int, (∃ i : Nat, i < z ∧ ∃ e : Int, Gp (S i) e ∧ c = P i + e) → Gk x0 Sp Gp k c := fun c hc => by
      obtain ⟨i, r1, e, r2, r3⟩ := hc
      exact ⟨S i, P i, e, h1 i r1, r2, r3⟩
    have Fg : ∀ c : Int, Gk x0 Sp Gp k c → g ≠ -1 ∧ g ≤ c := fun c hc => by
      obtain ⟨w, d, e, q1, q2, q3⟩ := hc
      obtain ⟨i, r1, r2, r3⟩ := h2 w d q1
      have := a7 (P i + e) ⟨i, r1, e, by rw [r2]; exact q2, rfl⟩
      exact ⟨this.1, by omega⟩
    by_cases cg : g = -1
    · refine Or.inl ⟨cg, fun j hj c hc => ?_⟩
      by_cases cj : j = k
      · subst cj; exact (Fg c hc).1 cg
      · rcases hf with ⟨e, n⟩ | ⟨e, -⟩
        · exact n j (by omega) c hc
        · exact (a6 e).1 cg
    · refine Or.inr ⟨cg, ?_, fun j hj c hc => ?_⟩
      · rcases a5 with e | e
        · rcases hf with ⟨e', -⟩ | ⟨-, ⟨j, q1, q2⟩, -⟩
          · omega
          · exact ⟨j, by omega, by rw [e]; exact q2⟩
        · exact ⟨k, by omega, gF g e⟩
      · by_cases cj : j = k
        · subst cj; exact (Fg c hc).2
        · rcases hf with ⟨e, n⟩ | ⟨e, -, q⟩
          · exact absurd hc (n j (by omega) c)
          · have := q j (by omega) c hc
            have := (a6 e).2
            omega
  · exact ⟨T, fun i hi => ⟨_, sound i (by omega)⟩, fun i j hi hj q => hd i j (by omega) (by omega) q⟩
  · obtain ⟨c, hc⟩ := hx
    obtain ⟨i, q1, q2, -⟩ := cmp hz3 x c hc
    exact ⟨i, q1, q2⟩
end SP
