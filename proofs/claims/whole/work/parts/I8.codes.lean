/-! one answer by either code -/
section TR
variable {l L : Ld} {o H h R : Nat} {ro : Nat → Nat} {b G : Int} {cd cd' : Ld → Int}
def cdE (cd cd' : Ld → Int) (l : Ld) (h : Nat) (b G : Int) : Prop := ∀ L L' : Ld, VG l h b G L → VG l h b G L' → (cd L = cd L' ↔ cd' L = cd' L')
theorem cdE.sy (e : cdE cd cd' l h b G) : cdE cd' cd l h b G := fun L L' v v' => (e L L' v v').symm
theorem Rc_tr (e : cdE cd cd' l h b G) (v0 : VG l h b G l) : ∀ (k : Nat) (L : Ld), VG l h b G L → Rc (cd l) (StL cd l o H h ro b G) k (cd L) → Rc (cd' l) (StL cd' l o H h ro b G) k (cd' L)
  | 0, L, v, hx => (e L l v v0).mp hx
  | k + 1, L, v, hx => by
    rcases hx with hx | ⟨w, q1, L0, p, q2, q3, q4, q5, q6⟩
    · exact Or.inl (Rc_tr e v0 k L v hx)
    · rw [q4] at q1
      exact Or.inr ⟨cd' L0, Rc_tr e v0 k L0 q2 q1, L0, p, q2, q3, rfl, q5, (e L _ v (q2.go p q5)).mp q6⟩
theorem Go_tr (e : cdE cd cd' l h b G) (v : VG l h b G L) (hg : GoL cd l o H h ro b G (cd L)) : GoL cd' l o H h ro b G (cd' L) := by
  obtain ⟨L', p, q1, q2, q3, q4⟩ := hg
  exact ⟨L', p, q1, q2, (e L L' v q1).mp q3, q4⟩
theorem mny_tr {P P' : Int → Prop} (e : cdE cd cd' l h b G) (h1 : ∀ x : Int, P x → ∃ L : Ld, VG l h b G L ∧ x = cd L) (h2 : ∀ L : Ld, VG l h b G L → P (cd L) → P' (cd' L)) (hm : mny P) : mny P' := by
  obtain ⟨S, s1, s2⟩ := hm
  have ch : ∀ i : Nat, ∃ L : Ld, i < 3001 → VG l h b G L ∧ S i = cd L := fun i => by
    by_cases c : i < 3001
    · obtain ⟨L, q1, q2⟩ := h1 _ (s1 i c)
      exact ⟨L, fun _ => ⟨q1, q2⟩⟩
    · exact ⟨l, fun w => absurd w c⟩
  refine ⟨fun i => cd' (Classical.choose (ch i)), fun i hi => ?_, fun i j hi hj q => ?_⟩
  · obtain ⟨q1, q2⟩ := Classical.choose_spec (ch i) hi
    exact h2 _ q1 (by rw [← q2]; exact s1 i hi)
  · obtain ⟨q1, q2⟩ := Classical.choose_spec (ch i) hi
    obtain ⟨r1, r2⟩ := Classical.choose_spec (ch j) hj
    exact s2 i j hi hj (by rw [q2, r2]; exact (e _ _ q1 r1).mpr q)
theorem An_tr (e : cdE cd cd' l h b G) (v0 : VG l h b G l) {r : Int} (ha : An (cd l) (StL cd l o H h ro b G) (GoL cd l o H h ro b G) r) : An (cd' l) (StL cd' l o H h ro b G) (GoL cd' l o H h ro b G) r := by
  have ng : ∀ k : Nat, (∀ w : Int, Rc (cd l) (StL cd l o H h ro b G) k w → ¬ GoL cd l o H h ro b G w) → ∀ w : Int, Rc (cd' l) (StL cd' l o H h ro b G) k w → ¬ GoL cd' l o H h ro b G w := fun k hk w hw hg => by
    obtain ⟨L, q1, q2⟩ := Rc.vg v0 k w hw
    rw [q2] at hw hg
    exact hk _ (Rc_tr e.sy v0 k L q1 hw) (Go_tr e.sy q1 hg)
  have mn : ∀ k : Nat, mny (Rc (cd l) (StL cd l o H h ro b G) k) ↔ mny (Rc (cd' l) (StL cd' l o H h ro b G) k) := fun k => ⟨fun w => mny_tr e (Rc.vg v0 k) (fun L v x => Rc_tr e v0 k L v x) w, fun w => mny_tr e.sy (Rc.vg v0 k) (fun L v x => Rc_tr e.sy v0 k L v x) w⟩
  obtain ⟨k, h1, h2⟩ := ha
  refine ⟨k, fun j hj => ?_, ?_⟩
  · obtain ⟨a1, a2, w, a3, a4⟩ := h1 j hj
    obtain ⟨L, q1, q2⟩ := Rc.vg v0 (j + 1) w a3
    rw [q2] at a3 a4
    exact ⟨ng j a1, fun w => a2 ((mn (j + 1)).mpr w), cd' L, Rc_tr e v0 (j + 1) L q1 a3, fun w => a4 (Rc_tr e.sy v0 j L q1 w)⟩
  · rcases h2 with ⟨e1, w, q1, q2⟩ | ⟨a1, ⟨e1, q⟩ | ⟨e1, q1, q2⟩⟩
    · obtain ⟨L, r1, r2⟩ := Rc.vg v0 k w q1
      rw [r2] at q1 q2
      exact Or.inl ⟨e1, cd' L, Rc_tr e v0 k L r1 q1, Go_tr e r1 q2⟩
    · exact Or.inr ⟨ng k a1, Or.inl ⟨e1, (mn (k + 1)).mp q⟩⟩
    · refine Or.inr ⟨ng k a1, Or.inr ⟨e1, fun w => q1 ((mn (k + 1)).mpr w), fun w hw => ?_⟩⟩
      obtain ⟨L, r1, r2⟩ := Rc.vg v0 (k + 1) w hw
      rw [r2] at hw ⊢
      exact Rc_tr e v0 k L r1 (q2 _ (Rc_tr e.sy v0 (k + 1) L r1 hw))
theorem Ck_tr (e : cdE cd cd' l h b 1) (v0 : VG l h b 1 l) : ∀ (k : Nat) (L : Ld) (c : Int), VG l h b 1 L → Ck (cd l) (SpL cd l o H h ro b) k (cd L) c → Ck (cd' l) (SpL cd' l o H h ro b) k (cd' L) c
  | 0, L, c, v, hx => ⟨(e L l v v0).mp hx.1, hx.2⟩
  | k + 1, L, c, v, hx => by
    obtain ⟨w, d, f, q1, ⟨L0, p, q2, q3, q4, q5, q6, q7⟩, q8⟩ := hx
    rw [q4] at q1
    exact ⟨cd' L0, d, f, Ck_tr e v0 k L0 d q2 q1, ⟨L0, p, q2, q3, rfl, q5, (e L _ v (q2.go p q5)).mp q6, q7⟩, q8⟩
theorem Gk_tr (e : cdE cd cd' l h b 1) (v0 : VG l h b 1 l) {k : Nat} {c : Int} (hx : Gk (cd l) (SpL cd l o H h ro b) (GpL cd l o H h ro b) k c) : Gk (cd' l) (SpL cd' l o H h ro b) (GpL cd' l o H h ro b) k c := by
  obtain ⟨w, d, f, q1, ⟨L0, p, q2, q3, q4, q5, q6⟩, q7⟩ := hx
  rw [q4] at q1
  exact ⟨cd' L0, d, f, Ck_tr e v0 k L0 d q2 q1, ⟨L0, p, q2, q3, rfl, q5, q6⟩, q7⟩
theorem mnC_tr (e : cdE cd cd' l h b 1) (v0 : VG l h b 1 l) (hH4 : H ≤ 4) {k : Nat} (hm : mnC (cd l) (SpL cd l o H h ro b) k) : mnC (cd' l) (SpL cd' l o H h ro b) k :=
  mny_tr e (fun x hx => by obtain ⟨c, hc⟩ := hx; exact (Ck.vg v0 hH4 k x c hc).1) (fun L v hx => by obtain ⟨c, hc⟩ := hx; exact ⟨c, Ck_tr e v0 k L c v hc⟩) hm
theorem Ac_tr (e : cdE cd cd' l h b 1) (v0 : VG l h b 1 l) (hH4 : H ≤ 4) {N : Nat} {r : Int} (ha : Ac (cd l) (SpL cd l o H h ro b) (GpL cd l o H h ro b) N r) : Ac (cd' l) (SpL cd' l o H h ro b) (GpL cd' l o H h ro b) N r := by
  rcases ha with ⟨e1, k, q1, q2, q3⟩ | ⟨n, f⟩
  · exact Or.inl ⟨e1, k, q1, q2, mnC_tr e v0 hH4 q3⟩
  · refine Or.inr ⟨fun k a b w => n k a b (mnC_tr e.sy v0 hH4 w), ?_⟩
    rcases f with ⟨e1, q⟩ | ⟨e1, ⟨j, q1, q2⟩, q3⟩
    · exact Or.inl ⟨e1, fun j hj c w => q j hj c (Gk_tr e.sy v0 w)⟩
    · exact Or.inr ⟨e1, ⟨j, q1, Gk_tr e v0 q2⟩, fun j hj c w => q3 j hj c (Gk_tr e.sy v0 w)⟩
theorem cdE_of (hG : G ≤ 3) (hH : (H : Int) = l 0 0) (hH4 : H ≤ 4) (op : opn l o ro R) (ho : o ≤ 3) : cdE (kC o H h ro b) (kM o H h ro b) l h b G := fun L L' v v' => by
  have a2 := v.2.1
  have a3 := v.2.2
  have b2 := v'.2.1
  have b3 := v'.2.2
  have rl : ∀ k : Nat, k < o → ((ro k : Nat) : Int) < l 0 1 := fun k hk => by have := (op.2.1 k hk).1; have := op.1; omega
  exact cd_iff (rg_of v.1.1 (by rw [v.1.2.1 0 (by decide)]; exact hH) (fun k hk => by rw [v.1.2.1 1 (by decide)]; exact rl k hk) (by omega)) (rg_of v'.1.1 (by rw [v'.1.2.1 0 (by decide)]; exact hH) (fun k hk => by rw [v'.1.2.1 1 (by decide)]; exact rl k hk) (by omega)) ho hH4
end TR
