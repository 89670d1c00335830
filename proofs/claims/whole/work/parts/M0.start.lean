/-! class and reference, as the law begins -/
def zsL : List (Nat × Nat) := [(11, 12), (9, 9), (21, 900), (2, 18), (20, 10), (20, 10), (20, 10), (20, 10), (20, 10), (20, 10), (20, 16), (20, 16), (22, 16), (20, 32), (20, 32), (22, 32), (2, 18), (20, 10), (20, 10), (20, 10), (20, 10), (20, 10), (20, 10), (20, 16), (20, 16), (22, 16), (20, 32), (20, 32), (22, 32), (24, 2), (22, 2), (25, 4), (8, 8), (20, 10), (10, 2), (20, 10), (3, 7), (20, 7), (20, 7), (24, 8), (20, 10), (2, 18), (20, 10), (20, 10), (20, 10), (20, 10), (20, 10), (20, 10), (20, 16), (20, 16), (22, 16), (20, 32), (20, 32), (22, 32), (2, 18), (20, 10), (20, 10), (20, 10), (20, 10), (20, 10), (20, 10), (20, 16), (20, 16), (22, 16), (20, 32), (20, 32), (22, 32), (2, 18), (20, 10), (20, 10), (20, 10), (20, 10), (20, 10), (20, 10), (20, 16), (20, 16), (22, 16), (20, 32), (20, 32), (22, 32), (2, 18), (20, 10), (20, 10), (20, 10), (20, 10), (20, 10), (20, 10), (20, 16), (20, 16), (22, 16), (20, 32), (20, 32), (22, 32), (2, 18), (20, 10), (20, 10), (20, 10), (20, 10), (20, 10), (20, 10), (20, 16), (20, 16), (22, 16), (20, 32), (20, 32), (22, 32), (2, 18), (20, 10), (20, 10), (20, 10), (20, 10), (20, 10), (20, 10), (20, 16), (20, 16), (22, 16), (20, 32), (20, 32), (22, 32), (2, 18), (20, 10), (20, 10), (20, 10), (20, 10), (20, 10), (20, 10), (20, 16), (20, 16), (22, 16), (20, 32), (20, 32), (22, 32), (2, 18), (20, 10), (20, 10), (20, 10), (20, 10), (20, 10), (20, 10), (20, 16), (20, 16), (22, 16), (20, 32), (20, 32), (22, 32), (1, 6), (20, 7), (20, 7), (26, 7), (20, 7), (20, 7), (20, 7), (20, 7), (20, 7), (20, 7), (20, 7), (6, 4), (22, 64), (20, 10), (2, 18), (20, 10), (20, 10), (20, 10), (20, 10), (20, 10), (20, 10), (20, 16), (20, 16), (22, 16), (20, 32), (20, 32), (22, 32), (2, 18), (20, 10), (20, 10), (20, 10), (20, 10), (20, 10), (20, 10), (20, 16), (20, 16), (22, 16), (20, 32), (20, 32), (22, 32), (4, 3), (23, 60), (4, 3), (23, 60), (4, 3), (23, 60), (4, 3), (23, 60), (12, 44), (20, 660), (22, 2), (20, 900), (20, 220), (20, 10), (20, 220), (20, 10), (23, 3001), (20, 8192), (20, 3), (23, 3001), (20, 3001), (20, 3001), (20, 7), (20, 7), (20, 1760), (20, 7), (20, 7), (20, 4), (20, 4), (23, 240)]
def zrL : List (Nat × Nat × Nat) := [(193, 43, 215), (193, 42, 214), (193, 41, 213), (193, 37, 212), (193, 36, 211), (193, 34, 210), (193, 33, 209), (193, 32, 208), (193, 30, 207), (193, 29, 206), (193, 28, 205), (193, 25, 204), (193, 24, 203), (193, 23, 202), (193, 22, 201), (193, 16, 200), (193, 15, 199), (193, 4, 198), (193, 3, 197), (193, 2, 196), (193, 1, 195), (31, 3, 192), (191, 2, 193), (31, 2, 190), (189, 2, 191), (31, 1, 188), (187, 2, 189), (31, 0, 186), (185, 2, 187), (29, 1, 173), (172, 17, 185), (172, 16, 184), (172, 15, 183), (172, 14, 182), (172, 13, 181), (172, 12, 180), (172, 11, 179), (172, 10, 178), (172, 9, 177), (172, 8, 176), (172, 7, 175), (172, 6, 174), (29, 0, 160), (159, 17, 172), (159, 16, 171), (159, 15, 170), (159, 14, 169), (159, 13, 168), (159, 12, 167), (159, 11, 166), (159, 10, 165), (159, 9, 164), (159, 8, 163), (159, 7, 162), (159, 6, 161), (0, 10, 157), (156, 3, 159), (156, 2, 158), (0, 9, 146), (145, 4, 149), (148, 0, 150), (148, 1, 151), (148, 2, 152), (148, 3, 153), (148, 4, 154), (148, 5, 155), (148, 6, 156), (145, 3, 148), (145, 2, 147), (0, 8, 37), (39, 7, 133), (132, 17, 145), (132, 16, 144), (132, 15, 143), (132, 14, 142), (132, 13, 141), (132, 12, 140), (132, 11, 139), (132, 10, 138), (132, 9, 137), (132, 8, 136), (132, 7, 135), (132, 6, 134), (39, 6, 120), (119, 17, 132), (119, 16, 131), (119, 15, 130), (119, 14, 129), (119, 13, 128), (119, 12, 127), (119, 11, 126), (119, 10, 125), (119, 9, 124), (119, 8, 123), (119, 7, 122), (119, 6, 121), (39, 5, 107), (106, 17, 119), (106, 16, 118), (106, 15, 117), (106, 14, 116), (106, 13, 115), (106, 12, 114), (106, 11, 113), (106, 10, 112), (106, 9, 111), (106, 8, 110), (106, 7, 109), (106, 6, 108), (39, 4, 94), (93, 17, 106), (93, 16, 105), (93, 15, 104), (93, 14, 103), (93, 13, 102), (93, 12, 101), (93, 11, 100), (93, 10, 99), (93, 9, 98), (93, 8, 97), (93, 7, 96), (93, 6, 95), (39, 3, 81), (80, 17, 93), (80, 16, 92), (80, 15, 91), (80, 14, 90), (80, 13, 89), (80, 12, 88), (80, 11, 87), (80, 10, 86), (80, 9, 85), (80, 8, 84), (80, 7, 83), (80, 6, 82), (39, 2, 68), (67, 17, 80), (67, 16, 79), (67, 15, 78), (67, 14, 77), (67, 13, 76), (67, 12, 75), (67, 11, 74), (67, 10, 73), (67, 9, 72), (67, 8, 71), (67, 7, 70), (67, 6, 69), (39, 1, 55), (54, 17, 67), (54, 16, 66), (54, 15, 65), (54, 14, 64), (54, 13, 63), (54, 12, 62), (54, 11, 61), (54, 10, 60), (54, 9, 59), (54, 8, 58), (54, 7, 57), (54, 6, 56), (39, 0, 42), (41, 17, 54), (41, 16, 53), (41, 15, 52), (41, 14, 51), (41, 13, 50), (41, 12, 49), (41, 11, 48), (41, 10, 47), (41, 9, 46), (41, 8, 45), (41, 7, 44), (41, 6, 43), (36, 4, 41), (36, 3, 40), (36, 2, 39), (36, 1, 38), (0, 7, 35), (34, 0, 36), (0, 6, 33), (32, 6, 34), (0, 5, 32), (0, 4, 31), (0, 3, 30), (0, 2, 17), (16, 17, 29), (16, 16, 28), (16, 15, 27), (16, 14, 26), (16, 13, 25), (16, 12, 24), (16, 11, 23), (16, 10, 22), (16, 9, 21), (16, 8, 20), (16, 7, 19), (16, 6, 18), (0, 1, 4), (3, 17, 16), (3, 16, 15), (3, 15, 14), (3, 14, 13), (3, 13, 12), (3, 12, 11), (3, 11, 10), (3, 10, 9), (3, 9, 8), (3, 8, 7), (3, 7, 6), (3, 6, 5), (0, 0, 2), (1, 3, 3)]
theorem m3_s : m3T.1 = zsL := by decide +kernel
theorem m3_r : m3T.2.1 = zrL := by decide +kernel
def sMm (μ : Mem) (J : Nat → Nat → Int) (N : Nat) : Mem := fixM (cMt μ J N m3T)
abbrev zkA (o j v : Nat) : Prop := look 0 zrL o j = v + 1 ∧ o < 215 ∧ ¬ (j = 5 ∧ (zsL[o]?.getD (0, 0)).1 = 2)
abbrev zcL (o : Nat) : Prop := zsL[o]? = some (2, 18) ∧ ∀ k : Nat, k < 13 → 0 < k → (zsL[o + k]? = some (lSh k) ∧ look 0 zrL o (k + 5) = o + k + 1)
section CY
variable {μ : Mem} {J : Nat → Nat → Int} {N : Nat}
theorem y_S {b : Nat} (o : Nat) {x : Nat × Nat} (h : zsL[o]? = some x) (he : b = N + 1 + o) : mS (sMm μ J N) b = x := by
  subst he
  have e := c_S (μ := μ) (J := J) (N := N) (sh := m3T.1) (rf := m3T.2.1) (iv := m3T.2.2) (o := o) (x := x) (by rw [m3_s]; exact h)
  exact e
theorem y_A {b : Nat} (o v : Nat) {j d : Nat} (h : zkA o j v) (he : b = N + 1 + o) (hd : d = N + 1 + v) : mA (sMm μ J N) b j = d := by
  subst he
  have hl : o < m3T.1.length := by rw [m3_s]; exact h.2.1
  have e1 : mA (cMt μ J N m3T) (N + 1 + o) j = d := by
    refine (c_A hl).trans ?_
    rw [m3_r, h.1, hd]
    rfl
  refine (fix_A ?_).trans e1
  intro w
  refine h.2.2 ⟨w.1, ?_⟩
  have e2 : mS (cMt μ J N m3T) (N + 1 + o) = m3T.1[o] := c_S (List.getElem?_eq_getElem hl)
  have e3 : zsL[o]? = some (m3T.1[o]) := by rw [← m3_s]; exact List.getElem?_eq_getElem hl
  rw [e3, ← e2]
  exact w.2
theorem y_L {b : Nat} (o : Nat) (h : zcL o) (he : b = N + 1 + o) : isL (sMm μ J N) b := by
  have h1 : mS (sMm μ J N) b = (2, 18) := y_S o h.1 he
  refine ⟨h1, fun k hk => ?_, fun k hk h0 => y_S (o + k) (h.2 k hk h0).1 (by omega)⟩
  by_cases c : k = 0
  · subst c
    exact fix_5 (congrArg Prod.fst h1)
  · have hl := (h.2 k hk (by omega)).2
    have lo : o < 215 := (List.getElem?_eq_some_iff.mp h.1).1
    exact y_A o (o + k) ⟨hl, lo, by omega⟩ he (by omega)
theorem y_I {b : Nat} (o : Nat) (h : o < 215) (he : b = N + 1 + o) : mI (sMm μ J N) b = look 0 m3T.2.2 o := by
  subst he
  have e := c_I (μ := μ) (J := J) (N := N) (sh := m3T.1) (rf := m3T.2.1) (iv := m3T.2.2) (o := o) (by rw [m3_s]; exact h)
  exact e
theorem y_N : mN (sMm μ J N) = N + 1 + 214 := by
  show N + m3T.1.length = _
  have e : zsL.length = 215 := by decide +kernel
  rw [m3_s, e]
theorem m3_z : szL m3T.1 = 28369 := by decide +kernel
theorem y_W : mW (sMm μ J N) = mW μ + 28369 := by
  show mW μ + szL m3T.1 = _
  rw [m3_z]
theorem y_C : isC (sMm μ J N) (N + 1) := by
  exact ⟨congrArg Prod.fst (y_S (x := (11, 12)) 0 (by decide +kernel) (by omega)),
    ⟨y_A 0 1 (by decide +kernel) (by omega) (by omega), y_A 0 3 (by decide +kernel) (by omega) (by omega), y_A 0 16 (by decide +kernel) (by omega) (by omega), y_A 0 29 (by decide +kernel) (by omega) (by omega), y_A 0 30 (by decide +kernel) (by omega) (by omega), y_A 0 31 (by decide +kernel) (by omega) (by omega), y_A 0 32 (by decide +kernel) (by omega) (by omega), y_A 0 34 (by decide +kernel) (by omega) (by omega), y_A 0 36 (by decide +kernel) (by omega) (by omega), y_A 0 145 (by decide +kernel) (by omega) (by omega), y_A 0 156 (by decide +kernel) (by omega) (by omega)⟩,
    ⟨y_L 3 (by decide +kernel) (by omega), y_L 16 (by decide +kernel) (by omega)⟩,
    ⟨y_S 29 (by decide +kernel) (by omega), y_S 30 (by decide +kernel) (by omega), y_S 31 (by decide +kernel) (by omega)⟩,
    (fun i hi => by
      have : i = 0 ∨ i = 1 := by omega
      rcases this with rfl | rfl
      · exact ⟨y_L 159 (by decide +kernel) (by omega), y_A 29 159 (by decide +kernel) (by omega) (by omega)⟩
      · exact ⟨y_L 172 (by decide +kernel) (by omega), y_A 29 172 (by decide +kernel) (by omega) (by omega)⟩),
    (fun i hi => by
      have : i = 0 ∨ i = 1 ∨ i = 2 ∨ i = 3 := by omega
      rcases this with rfl | rfl | rfl | rfl
      · exact ⟨⟨y_S 185 (by decide +kernel) (by omega), y_A 185 186 (by decide +kernel) (by omega) (by omega), y_S 186 (by decide +kernel) (by omega)⟩, y_A 31 185 (by decide +kernel) (by omega) (by omega)⟩
      · exact ⟨⟨y_S 187 (by decide +kernel) (by omega), y_A 187 188 (by decide +kernel) (by omega) (by omega), y_S 188 (by decide +kernel) (by omega)⟩, y_A 31 187 (by decide +kernel) (by omega) (by omega)⟩
      · exact ⟨⟨y_S 189 (by decide +kernel) (by omega), y_A 189 190 (by decide +kernel) (by omega) (by omega), y_S 190 (by decide +kernel) (by omega)⟩, y_A 31 189 (by decide +kernel) (by omega) (by omega)⟩
      · exact ⟨⟨y_S 191 (by decide +kernel) (by omega), y_A 191 192 (by decide +kernel) (by omega) (by omega), y_S 192 (by decide +kernel) (by omega)⟩, y_A 31 191 (by decide +kernel) (by omega) (by omega)⟩),
    ⟨y_S 32 (by decide +kernel) (by omega), y_A 32 33 (by decide +kernel) (by omega) (by omega), y_S 33 (by decide +kernel) (by omega)⟩,
    ⟨y_S 1 (by decide +kernel) (by omega), y_A 1 2 (by decide +kernel) (by omega) (by omega), y_S 2 (by decide +kernel) (by omega)⟩,
    ⟨y_S 34 (by decide +kernel) (by omega), y_A 34 35 (by decide +kernel) (by omega) (by omega), y_S 35 (by decide +kernel) (by omega)⟩,
    ⟨y_S 36 (by decide +kernel) (by omega), y_A 36 37 (by decide +kernel) (by omega) (by omega), y_A 36 38 (by decide +kernel) (by omega) (by omega), y_A 36 39 (by decide +kernel) (by omega) (by omega), y_A 36 40 (by decide +kernel) (by omega) (by omega), y_S 37 (by decide +kernel) (by omega), y_S 38 (by decide +kernel) (by omega), y_S 39 (by decide +kernel) (by omega), y_S 40 (by decide +kernel) (by omega), (fun i hi => by
      have : i = 0 ∨ i = 1 ∨ i = 2 ∨ i = 3 ∨ i = 4 ∨ i = 5 ∨ i = 6 ∨ i = 7 := by omega
      rcases this with rfl | rfl | rfl | rfl | rfl | rfl | rfl | rfl
      · exact ⟨y_L 41 (by decide +kernel) (by omega), y_A 39 41 (by decide +kernel) (by omega) (by omega)⟩
      · exact ⟨y_L 54 (by decide +kernel) (by omega), y_A 39 54 (by decide +kernel) (by omega) (by omega)⟩
      · exact ⟨y_L 67 (by decide +kernel) (by omega), y_A 39 67 (by decide +kernel) (by omega) (by omega)⟩
      · exact ⟨y_L 80 (by decide +kernel) (by omega), y_A 39 80 (by decide +kernel) (by omega) (by omega)⟩
      · exact ⟨y_L 93 (by decide +kernel) (by omega), y_A 39 93 (by decide +kernel) (by omega) (by omega)⟩
      · exact ⟨y_L 106 (by decide +kernel) (by omega), y_A 39 106 (by decide +kernel) (by omega) (by omega)⟩
      · exact ⟨y_L 119 (by decide +kernel) (by omega), y_A 39 119 (by decide +kernel) (by omega) (by omega)⟩
      · exact ⟨y_L 132 (by decide +kernel) (by omega), y_A 39 132 (by decide +kernel) (by omega) (by omega)⟩)⟩,
    ⟨y_S 145 (by decide +kernel) (by omega), y_A 145 146 (by decide +kernel) (by omega) (by omega), y_A 145 147 (by decide +kernel) (by omega) (by omega), y_A 145 148 (by decide +kernel) (by omega) (by omega), y_S 146 (by decide +kernel) (by omega), y_S 147 (by decide +kernel) (by omega), y_S 148 (by decide +kernel) (by omega), (fun i hi => by
      have : i = 0 ∨ i = 1 ∨ i = 2 ∨ i = 3 ∨ i = 4 ∨ i = 5 ∨ i = 6 := by omega
      rcases this with rfl | rfl | rfl | rfl | rfl | rfl | rfl
      · exact ⟨y_A 148 149 (by decide +kernel) (by omega) (by omega), y_S 149 (by decide +kernel) (by omega)⟩
      · exact ⟨y_A 148 150 (by decide +kernel) (by omega) (by omega), y_S 150 (by decide +kernel) (by omega)⟩
      · exact ⟨y_A 148 151 (by decide +kernel) (by omega) (by omega), y_S 151 (by decide +kernel) (by omega)⟩
      · exact ⟨y_A 148 152 (by decide +kernel) (by omega) (by omega), y_S 152 (by decide +kernel) (by omega)⟩
      · exact ⟨y_A 148 153 (by decide +kernel) (by omega) (by omega), y_S 153 (by decide +kernel) (by omega)⟩
      · exact ⟨y_A 148 154 (by decide +kernel) (by omega) (by omega), y_S 154 (by decide +kernel) (by omega)⟩
      · exact ⟨y_A 148 155 (by decide +kernel) (by omega) (by omega), y_S 155 (by decide +kernel) (by omega)⟩)⟩,
    ⟨y_S 156 (by decide +kernel) (by omega), y_A 156 157 (by decide +kernel) (by omega) (by omega), y_A 156 158 (by decide +kernel) (by omega) (by omega), y_S 157 (by decide +kernel) (by omega), y_S 158 (by decide +kernel) (by omega)⟩⟩
theorem y_M : isM (sMm μ J N) (N + 1 + 193) := by
  refine ⟨y_S 193 (by decide +kernel) (by omega), fun k q hk hq => ?_⟩
  have lt : k < 22 := by
    refine Classical.byContradiction fun w => ?_
    have : mSh[k]? = none := List.getElem?_eq_none (by show 22 ≤ k; omega)
    rw [this] at hq
    exact absurd hq (by simp)
  have ok : ∀ k : Nat, k < 22 → 0 < k → ∀ q : Nat × Nat × Nat, mSh[k]? = some q → zkA 193 q.1 (193 + k) ∧ zsL[193 + k]? = some q.2 := by
    intro k hk h0 q hq
    have t : ∀ k : Nat, k < 22 → 0 < k → zkA 193 (mSh[k]?.getD (0, 0, 0)).1 (193 + k) ∧ zsL[193 + k]? = some (mSh[k]?.getD (0, 0, 0)).2 := by decide +kernel
    have := t k hk h0
    rw [hq] at this
    exact this
  obtain ⟨x, y⟩ := ok k lt hk q hq
  exact ⟨y_A 193 (193 + k) x (by omega) (by omega), y_S (193 + k) y (by omega)⟩
theorem y_11 : mA (sMm μ J N) (N + 1) 11 = 0 := by
  have hl : 0 < m3T.1.length := by rw [m3_s]; decide +kernel
  have e1 : mA (cMt μ J N m3T) (N + 1 + 0) 11 = 0 := by
    refine (c_A hl).trans ?_
    have e : look 0 zrL 0 11 = 0 := by decide +kernel
    rw [m3_r, e]
    rfl
  exact (fix_A (by omega)).trans e1
theorem y_H : hasS (sMm μ J N) (N + 1) := Or.inl ⟨y_11, y_N⟩
theorem look_z {l : List (Nat × Nat × Int)} {o j : Nat} (h : ∀ e ∈ l, e.1 = o → e.2.2 = 0) : look 0 l o j = 0 := by
  induction l with
  | nil => rfl
  | cons e r ih =>
    show (if o = e.1 ∧ j = e.2.1 then e.2.2 else look 0 r o j) = 0
    split
    · rename_i w
      exact h e List.mem_cons_self w.1.symm
    · exact ih fun x hx => h x (List.mem_cons_of_mem _ hx)
theorem y_z {b : Nat} (o : Nat) {j : Nat} (h : o < 215 ∧ ∀ e ∈ m3T.2.2, e.1 = o → e.2.2 = 0) (he : b = N + 1 + o) : mI (sMm μ J N) b j = 0 := (congrFun (y_I o h.1 he) j).trans (look_z h.2)
theorem y_i {b : Nat} (o : Nat) {j : Nat} {x : Int} (h : o < 215 ∧ look 0 m3T.2.2 o j = x) (he : b = N + 1 + o) : mI (sMm μ J N) b j = x := (congrFun (y_I o h.1 he) j).trans h.2

theorem y_R : RelC (N + 1) (mI (sMm μ J N)) := by
  have l00 : mI (sMm μ J N) (N + 1 + 3) 0 = 0 := y_i 3 (by decide +kernel) (by omega)
  have l01 : mI (sMm μ J N) (N + 1 + 3) 1 = 0 := y_i 3 (by decide +kernel) (by omega)
  have l02 : mI (sMm μ J N) (N + 1 + 3) 2 = 0 := y_i 3 (by decide +kernel) (by omega)
  have l03 : mI (sMm μ J N) (N + 1 + 3) 3 = 5 := y_i 3 (by decide +kernel) (by omega)
  have l04 : mI (sMm μ J N) (N + 1 + 3) 4 = 8 := y_i 3 (by decide +kernel) (by omega)
  have l05 : mI (sMm μ J N) (N + 1 + 3) 5 = 0 := y_i 3 (by decide +kernel) (by omega)
  have a0 : mI (sMm μ J N) (N + 1 + 193 + 1) 0 = 0 := y_i 194 (by decide +kernel) (by omega)
  have a1 : mI (sMm μ J N) (N + 1 + 193 + 1) 1 = 0 := y_i 194 (by decide +kernel) (by omega)
  have a2 : mI (sMm μ J N) (N + 1 + 193 + 1) 2 = 0 := y_i 194 (by decide +kernel) (by omega)
  have a3 : mI (sMm μ J N) (N + 1 + 193 + 1) 3 = 5 := y_i 194 (by decide +kernel) (by omega)
  have a4 : mI (sMm μ J N) (N + 1 + 193 + 1) 4 = 8 := y_i 194 (by decide +kernel) (by omega)
  have a5 : mI (sMm μ J N) (N + 1 + 193 + 1) 5 = 0 := y_i 194 (by decide +kernel) (by omega)
  have d : ∀ j : Nat, ld (mI (sMm μ J N)) (N + 1 + 3) 0 j = mI (sMm μ J N) (N + 1 + 3) j := fun j => rfl
  refine ⟨⟨⟨?_, fun h hh => ?_, fun r hr => ?_, fun b hb => ?_⟩, ⟨?_, fun h hh => ?_, fun r hr => ?_⟩, ⟨?_, fun h hh => ?_⟩, ?_, ?_, fun h hh => ?_⟩, fun i hi => ?_, fun i hi => ?_, ?_, ?_, fun k hk => ?_, ?_, ?_⟩
  · rw [d, d, d, d, l00, l01, l03, l04]; decide
  · rw [d, l00] at hh; omega
  · rw [d, l01] at hr; omega
  · rw [d, l01] at hb; omega
  · rw [d, d, d, d, d, l00, l01, l03, l04, l05]; exact ⟨a0, a1, a3, a4, a5⟩
  · rw [d, l00] at hh; omega
  · rw [d, l01] at hr; omega
  · rw [d, l02]; exact a2
  · rw [d, l00] at hh; omega
  · rw [d, l02]; decide
  · rw [d, l02]; decide
  · rw [d, l00] at hh; omega
  · have e1 : mI (sMm μ J N) (N + 1 + 30) i = 0 := y_z 30 (by decide +kernel) (by omega)
    have e2 : mI (sMm μ J N) (N + 1 + 193 + 2) i = 0 := y_z 195 (by decide +kernel) (by omega)
    rw [e1, e2]
    exact ⟨rfl, Or.inl rfl, fun w => absurd w (by decide)⟩
  · have t : ∀ i : Nat, i < 4 → (185 + 2 * i < 215 ∧ look 0 m3T.2.2 (185 + 2 * i) 1 = -1) ∧ (185 + 2 * i < 215 ∧ look 0 m3T.2.2 (185 + 2 * i) 0 = 0) ∧ (212 < 215 ∧ look 0 m3T.2.2 212 i = -1) ∧ (186 + 2 * i < 215 ∧ ∀ e ∈ m3T.2.2, e.1 = 186 + 2 * i → e.2.2 = 0) := by decide +kernel
    obtain ⟨t1, t2, t3, t4⟩ := t i hi
    have e1 : mI (sMm μ J N) (N + 1 + 185 + 2 * i) 1 = -1 := y_i (185 + 2 * i) t1 (by omega)
    have e2 : mI (sMm μ J N) (N + 1 + 185 + 2 * i) 0 = 0 := y_i (185 + 2 * i) t2 (by omega)
    have e3 : mI (sMm μ J N) (N + 1 + 193 + 19) i = -1 := y_i 212 t3 (by omega)
    have e4 : mI (sMm μ J N) (N + 1 + 193 + 20) i = 0 := y_z 213 (by decide +kernel) (by omega)
    have e5 : ∀ k : Nat, mI (sMm μ J N) (N + 1 + 185 + 2 * i + 1) k = 0 := fun k => y_z (186 + 2 * i) t4 (by omega)
    rw [e1, e2, e3, e4]
    refine ⟨rfl, by decide, rfl, by decide, fun k hk => ?_⟩
    rw [e5]
    exact ⟨by decide, fun w => absurd w (by omega)⟩
  · exact (y_i (x := 0) 1 (by decide +kernel) (by omega)).trans (y_i 193 (by decide +kernel) (by omega)).symm
  · have e1 : mI (sMm μ J N) (N + 1 + 1) 0 = 0 := y_i 1 (by decide +kernel) (by omega)
    rw [e1]; decide
  · have e1 : mI (sMm μ J N) (N + 1 + 1) 0 = 0 := y_i 1 (by decide +kernel) (by omega)
    have e2 : mI (sMm μ J N) (N + 1 + 2) k = 0 := y_z 2 (by decide +kernel) (by omega)
    rw [e1, e2]
    exact ⟨by decide, fun w => absurd w (by omega)⟩
  · exact (y_i (x := 0) 1 (by decide +kernel) (by omega)).trans (y_i 193 (by decide +kernel) (by omega)).symm
  · exact (y_i (x := -1) 1 (by decide +kernel) (by omega)).trans (y_i 193 (by decide +kernel) (by omega)).symm
end CY
