/-! THE JUDGEMENT. Sn X Γ cc ym nL ret fr lo N0 W0 Q pc L S μ f: where the function f of the memory answers some (r, μ'), the machine at pc, with the locals L, the stack S and a heap that holds μ, comes to a state with Q r μ'; cells and slots are counted from N0, W0 on. One row an instruction. -/
abbrev Ctx : Type := Program × Launch × Env × Room × State × MethodId × Array Value × List Frame × Method × Code
abbrev xP (X : Ctx) : Program := X.1
abbrev xL (X : Ctx) : Launch := X.2.1
abbrev xR (X : Ctx) : Room := X.2.2.2.1
abbrev xS (X : Ctx) : State := X.2.2.2.2.1
abbrev xM (X : Ctx) : MethodId := X.2.2.2.2.2.1
abbrev xA (X : Ctx) : Array Value := X.2.2.2.2.2.2.1
abbrev xB (X : Ctx) : List Frame := X.2.2.2.2.2.2.2.1
abbrev xH (X : Ctx) : Method := X.2.2.2.2.2.2.2.2.1
abbrev xC (X : Ctx) : Code := X.2.2.2.2.2.2.2.2.2
def WX (X : Ctx) (H : Heap) (locs : List Loc) (k ks : Nat) (Q : State → Prop) (g : JFrame) : Prop := W X.1 X.2.1 X.2.2.1 X.2.2.2.1 X.2.2.2.2.1 X.2.2.2.2.2.1 X.2.2.2.2.2.2.1 X.2.2.2.2.2.2.2.1 X.2.2.2.2.2.2.2.2.1 X.2.2.2.2.2.2.2.2.2 H locs k ks Q g
def Cx (X : Ctx) (Γ : Gm) (cc : ByteArray) (y : MethodName) (nL : Nat) (ret : Option FieldType) (fr lo : Nat) : Prop :=
  (xP X).tables.exec = Jvm.exec ∧ (xC X).code = cc ∧ (xC X).maxLocals = nL ∧ (xS X).vm.findClass y.cls = some (xM X).cls ∧ (∀ w ∈ gw, w.before (xA X) (xS X) = true) ∧ KK Γ (xS X) ∧ (xH X).sig.returnType = ret ∧ (xH X).locks = false ∧ fr ≤ (xR X).frames ∧ lo ≤ (xR X).locals ∧ (xH X).name = y.name
def Go (X : Ctx) (Γ : Gm) (nL N0 W0 : Nat) (Q : State → Prop) (μ' : Mem) (pc : Nat) (L : List (Option AV)) (S : List AV) (μ : Mem) : Prop :=
  (N0 ≤ mN μ ∧ W0 ≤ mW μ ∧ mN μ' - N0 ≤ (xR X).cells ∧ mW μ' - W0 ≤ (xR X).slots) → ∀ (H : Heap) (locs : List Loc) (ls : Array Slot), HH Γ μ (xS X) H → (∀ q ∈ locs, gB Γ ≤ q.base) → Lv ls nL L → WX X H locs (mN μ - N0) (mW μ - W0) Q (F0 (xM X) pc ls (S.map vl))
def Sn {ρ : Type} (X : Ctx) (Γ : Gm) (cc : ByteArray) (ym : MethodName) (nL : Nat) (ret : Option FieldType) (fr lo N0 W0 : Nat) (Q : ρ → Mem → State → Prop) (pc : Nat) (L : List (Option AV)) (S : List AV) (μ : Mem) (f : Option (ρ × Mem)) : Prop :=
  ∀ (r : ρ) (μ' : Mem), f = some (r, μ') → (mN μ ≤ mN μ' ∧ mW μ ≤ mW μ') ∧ (Cx X Γ cc ym nL ret fr lo → Go X Γ nL N0 W0 (Q r μ') μ' pc L S μ)
theorem wx_top {X : Ctx} {H : Heap} {locs : List Loc} {k ks : Nat} {Q : State → Prop} {m : MethodId} {pc : Nat} {ls : Array Slot} {v w : Value} {st : List Value} (e : v = w) (h : WX X H locs k ks Q (F0 m pc ls (v :: st))) : WX X H locs k ks Q (F0 m pc ls (w :: st)) := e ▸ h
theorem vb_ne {y : Int} {p : Prop} (h : ¬ Int32.ofInt y = 0) (e : Int32.ofInt y = 0) : p := absurd e h
section SN
variable {ρ : Type} {X : Ctx} {Γ : Gm} {cc : ByteArray} {ym : MethodName} {nL fr lo N0 W0 pc : Nat} {ret : Option FieldType} {Q : ρ → Mem → State → Prop} {L : List (Option AV)} {S : List AV} {μ : Mem} {f f1 f2 : Option (ρ × Mem)}
/-- fewer locals are known behind a jump -/
theorem sn_mask {L' : List (Option AV)} (M : List Bool) (h : lm M L = L') (hk : Sn X Γ cc ym nL ret fr lo N0 W0 Q pc L' S μ f) : Sn X Γ cc ym nL ret fr lo N0 W0 Q pc L S μ f := fun r μ' hf => ⟨(hk r μ' hf).1, fun hC hb H locs ls hH hl hv => (hk r μ' hf).2 hC hb H locs ls hH hl (h ▸ hv.mask M)⟩
theorem sn_none : Sn X Γ cc ym nL ret fr lo N0 W0 Q pc L S μ (none : Option (ρ × Mem)) := fun r μ' hf => by cases hf
theorem sn_eq {pc' : Nat} (h : pc = pc') (hk : Sn X Γ cc ym nL ret fr lo N0 W0 Q pc' L S μ f) : Sn X Γ cc ym nL ret fr lo N0 W0 Q pc L S μ f := h ▸ hk
/-- a guard that is written into f -/
theorem sn_ite {c : Prop} {d : Decidable c} (h1 : c → Sn X Γ cc ym nL ret fr lo N0 W0 Q pc L S μ f1) (h2 : ¬ c → Sn X Γ cc ym nL ret fr lo N0 W0 Q pc L S μ f2) : Sn X Γ cc ym nL ret fr lo N0 W0 Q pc L S μ (if c then f1 else f2) := by
  by_cases h : c
  · rw [if_pos h]; exact h1 h
  · rw [if_neg h]; exact h2 h
theorem sn_iconst {n : Int}  (hd : decode cc pc = .ok (.iconst n, 1))  (hk : Sn X Γ cc ym nL ret fr lo N0 W0 Q (pc + 1) L (aI n :: S) μ f) : Sn X Γ cc ym nL ret fr lo N0 W0 Q pc L (S) μ f := fun r μ' hf => ⟨(hk r μ' hf).1, fun hC hb H locs ls hH hl hv => lv_iconst hC.1 hC.2.1 hd rfl ((hk r μ' hf).2 hC hb H locs ls hH hl hv)⟩
theorem sn_bipush {n : Int}  (hd : decode cc pc = .ok (.bipush n, 2)) (hv0 : (Int8.ofInt n).toInt32 = Int32.ofInt n) (hk : Sn X Γ cc ym nL ret fr lo N0 W0 Q (pc + 2) L (aI n :: S) μ f) : Sn X Γ cc ym nL ret fr lo N0 W0 Q pc L (S) μ f := fun r μ' hf => ⟨(hk r μ' hf).1, fun hC hb H locs ls hH hl hv => lv_bipush hC.1 hC.2.1 hd hv0 ((hk r μ' hf).2 hC hb H locs ls hH hl hv)⟩
theorem sn_sipush {n : Int}  (hd : decode cc pc = .ok (.sipush n, 3)) (hv0 : (Int16.ofInt n).toInt32 = Int32.ofInt n) (hk : Sn X Γ cc ym nL ret fr lo N0 W0 Q (pc + 3) L (aI n :: S) μ f) : Sn X Γ cc ym nL ret fr lo N0 W0 Q pc L (S) μ f := fun r μ' hf => ⟨(hk r μ' hf).1, fun hC hb H locs ls hH hl hv => lv_sipush hC.1 hC.2.1 hd hv0 ((hk r μ' hf).2 hC hb H locs ls hH hl hv)⟩
theorem sn_lconst {n : Fin 2} {v : Int}  (hd : decode cc pc = .ok (.lconst n, 1)) (hv0 : Int64.ofNat (n : Nat) = Int64.ofInt v) (hk : Sn X Γ cc ym nL ret fr lo N0 W0 Q (pc + 1) L (aJ v :: S) μ f) : Sn X Γ cc ym nL ret fr lo N0 W0 Q pc L (S) μ f := fun r μ' hf => ⟨(hk r μ' hf).1, fun hC hb H locs ls hH hl hv => lv_lconst hC.1 hC.2.1 hd hv0 ((hk r μ' hf).2 hC hb H locs ls hH hl hv)⟩
theorem sn_iadd {x y : Int}  (hd : decode cc pc = .ok (.iadd, 1))  (hk : Sn X Γ cc ym nL ret fr lo N0 W0 Q (pc + 1) L (aI (x + y) :: S) μ f) : Sn X Γ cc ym nL ret fr lo N0 W0 Q pc L (aI y :: aI x :: S) μ f := fun r μ' hf => ⟨(hk r μ' hf).1, fun hC hb H locs ls hH hl hv => lv_iadd hC.1 hC.2.1 hd  (wx_top (congrArg Value.int (Int32.ofInt_add x y)) ((hk r μ' hf).2 hC hb H locs ls hH hl hv))⟩
theorem sn_isub {x y : Int}  (hd : decode cc pc = .ok (.isub, 1))  (hk : Sn X Γ cc ym nL ret fr lo N0 W0 Q (pc + 1) L (aI (x - y) :: S) μ f) : Sn X Γ cc ym nL ret fr lo N0 W0 Q pc L (aI y :: aI x :: S) μ f := fun r μ' hf => ⟨(hk r μ' hf).1, fun hC hb H locs ls hH hl hv => lv_isub hC.1 hC.2.1 hd  (wx_top (congrArg Value.int (Int32.ofInt_sub x y)) ((hk r μ' hf).2 hC hb H locs ls hH hl hv))⟩
theorem sn_imul {x y : Int}  (hd : decode cc pc = .ok (.imul, 1))  (hk : Sn X Γ cc ym nL ret fr lo N0 W0 Q (pc + 1) L (aI (x * y) :: S) μ f) : Sn X Γ cc ym nL ret fr lo N0 W0 Q pc L (aI y :: aI x :: S) μ f := fun r μ' hf => ⟨(hk r μ' hf).1, fun hC hb H locs ls hH hl hv => lv_imul hC.1 hC.2.1 hd  (wx_top (congrArg Value.int (Int32.ofInt_mul x y)) ((hk r μ' hf).2 hC hb H locs ls hH hl hv))⟩
theorem sn_iand {x y : Int}  (hd : decode cc pc = .ok (.iand, 1))  (hk : Sn X Γ cc ym nL ret fr lo N0 W0 Q (pc + 1) L (aI (oAnd x y) :: S) μ f) : Sn X Γ cc ym nL ret fr lo N0 W0 Q pc L (aI y :: aI x :: S) μ f := fun r μ' hf => ⟨(hk r μ' hf).1, fun hC hb H locs ls hH hl hv => lv_iand hC.1 hC.2.1 hd  (wx_top (congrArg Value.int (Int32.ofInt_toInt _)) ((hk r μ' hf).2 hC hb H locs ls hH hl hv))⟩
theorem sn_ior {x y : Int}  (hd : decode cc pc = .ok (.ior, 1))  (hk : Sn X Γ cc ym nL ret fr lo N0 W0 Q (pc + 1) L (aI (oOr x y) :: S) μ f) : Sn X Γ cc ym nL ret fr lo N0 W0 Q pc L (aI y :: aI x :: S) μ f := fun r μ' hf => ⟨(hk r μ' hf).1, fun hC hb H locs ls hH hl hv => lv_ior hC.1 hC.2.1 hd  (wx_top (congrArg Value.int (Int32.ofInt_toInt _)) ((hk r μ' hf).2 hC hb H locs ls hH hl hv))⟩
theorem sn_ixor {x y : Int}  (hd : decode cc pc = .ok (.ixor, 1))  (hk : Sn X Γ cc ym nL ret fr lo N0 W0 Q (pc + 1) L (aI (oXor x y) :: S) μ f) : Sn X Γ cc ym nL ret fr lo N0 W0 Q pc L (aI y :: aI x :: S) μ f := fun r μ' hf => ⟨(hk r μ' hf).1, fun hC hb H locs ls hH hl hv => lv_ixor hC.1 hC.2.1 hd  (wx_top (congrArg Value.int (Int32.ofInt_toInt _)) ((hk r μ' hf).2 hC hb H locs ls hH hl hv))⟩
theorem sn_ishl {x y : Int}  (hd : decode cc pc = .ok (.ishl, 1))  (hk : Sn X Γ cc ym nL ret fr lo N0 W0 Q (pc + 1) L (aI (oShl x y) :: S) μ f) : Sn X Γ cc ym nL ret fr lo N0 W0 Q pc L (aI y :: aI x :: S) μ f := fun r μ' hf => ⟨(hk r μ' hf).1, fun hC hb H locs ls hH hl hv => lv_ishl hC.1 hC.2.1 hd  (wx_top (congrArg Value.int (Int32.ofInt_toInt _)) ((hk r μ' hf).2 hC hb H locs ls hH hl hv))⟩
theorem sn_ishr {x y : Int}  (hd : decode cc pc = .ok (.ishr, 1))  (hk : Sn X Γ cc ym nL ret fr lo N0 W0 Q (pc + 1) L (aI (oShr x y) :: S) μ f) : Sn X Γ cc ym nL ret fr lo N0 W0 Q pc L (aI y :: aI x :: S) μ f := fun r μ' hf => ⟨(hk r μ' hf).1, fun hC hb H locs ls hH hl hv => lv_ishr hC.1 hC.2.1 hd  (wx_top (congrArg Value.int (Int32.ofInt_toInt _)) ((hk r μ' hf).2 hC hb H locs ls hH hl hv))⟩
theorem sn_ladd {x y : Int}  (hd : decode cc pc = .ok (.ladd, 1))  (hk : Sn X Γ cc ym nL ret fr lo N0 W0 Q (pc + 1) L (aJ (x + y) :: S) μ f) : Sn X Γ cc ym nL ret fr lo N0 W0 Q pc L (aJ y :: aJ x :: S) μ f := fun r μ' hf => ⟨(hk r μ' hf).1, fun hC hb H locs ls hH hl hv => lv_ladd hC.1 hC.2.1 hd  (wx_top (congrArg Value.long (Int64.ofInt_add x y)) ((hk r μ' hf).2 hC hb H locs ls hH hl hv))⟩
theorem sn_lsub {x y : Int}  (hd : decode cc pc = .ok (.lsub, 1))  (hk : Sn X Γ cc ym nL ret fr lo N0 W0 Q (pc + 1) L (aJ (x - y) :: S) μ f) : Sn X Γ cc ym nL ret fr lo N0 W0 Q pc L (aJ y :: aJ x :: S) μ f := fun r μ' hf => ⟨(hk r μ' hf).1, fun hC hb H locs ls hH hl hv => lv_lsub hC.1 hC.2.1 hd  (wx_top (congrArg Value.long (Int64.ofInt_sub x y)) ((hk r μ' hf).2 hC hb H locs ls hH hl hv))⟩
theorem sn_lmul {x y : Int}  (hd : decode cc pc = .ok (.lmul, 1))  (hk : Sn X Γ cc ym nL ret fr lo N0 W0 Q (pc + 1) L (aJ (x * y) :: S) μ f) : Sn X Γ cc ym nL ret fr lo N0 W0 Q pc L (aJ y :: aJ x :: S) μ f := fun r μ' hf => ⟨(hk r μ' hf).1, fun hC hb H locs ls hH hl hv => lv_lmul hC.1 hC.2.1 hd  (wx_top (congrArg Value.long (Int64.ofInt_mul x y)) ((hk r μ' hf).2 hC hb H locs ls hH hl hv))⟩
theorem sn_land {x y : Int}  (hd : decode cc pc = .ok (.land, 1))  (hk : Sn X Γ cc ym nL ret fr lo N0 W0 Q (pc + 1) L (aJ (lAnd x y) :: S) μ f) : Sn X Γ cc ym nL ret fr lo N0 W0 Q pc L (aJ y :: aJ x :: S) μ f := fun r μ' hf => ⟨(hk r μ' hf).1, fun hC hb H locs ls hH hl hv => lv_land hC.1 hC.2.1 hd  (wx_top (congrArg Value.long (Int64.ofInt_toInt _)) ((hk r μ' hf).2 hC hb H locs ls hH hl hv))⟩
theorem sn_lor {x y : Int}  (hd : decode cc pc = .ok (.lor, 1))  (hk : Sn X Γ cc ym nL ret fr lo N0 W0 Q (pc + 1) L (aJ (lOr x y) :: S) μ f) : Sn X Γ cc ym nL ret fr lo N0 W0 Q pc L (aJ y :: aJ x :: S) μ f := fun r μ' hf => ⟨(hk r μ' hf).1, fun hC hb H locs ls hH hl hv => lv_lor hC.1 hC.2.1 hd  (wx_top (congrArg Value.long (Int64.ofInt_toInt _)) ((hk r μ' hf).2 hC hb H locs ls hH hl hv))⟩
theorem sn_lxor {x y : Int}  (hd : decode cc pc = .ok (.lxor, 1))  (hk : Sn X Γ cc ym nL ret fr lo N0 W0 Q (pc + 1) L (aJ (lXor x y) :: S) μ f) : Sn X Γ cc ym nL ret fr lo N0 W0 Q pc L (aJ y :: aJ x :: S) μ f := fun r μ' hf => ⟨(hk r μ' hf).1, fun hC hb H locs ls hH hl hv => lv_lxor hC.1 hC.2.1 hd  (wx_top (congrArg Value.long (Int64.ofInt_toInt _)) ((hk r μ' hf).2 hC hb H locs ls hH hl hv))⟩
theorem sn_ineg {x : Int}  (hd : decode cc pc = .ok (.ineg, 1))  (hk : Sn X Γ cc ym nL ret fr lo N0 W0 Q (pc + 1) L (aI (-x) :: S) μ f) : Sn X Γ cc ym nL ret fr lo N0 W0 Q pc L (aI x :: S) μ f := fun r μ' hf => ⟨(hk r μ' hf).1, fun hC hb H locs ls hH hl hv => lv_ineg hC.1 hC.2.1 hd  (wx_top (congrArg Value.int (Int32.ofInt_neg x)) ((hk r μ' hf).2 hC hb H locs ls hH hl hv))⟩
theorem sn_iushr {x y : Int}  (hd : decode cc pc = .ok (.iushr, 1))  (hk : Sn X Γ cc ym nL ret fr lo N0 W0 Q (pc + 1) L (aI (oUshr x y) :: S) μ f) : Sn X Γ cc ym nL ret fr lo N0 W0 Q pc L (aI y :: aI x :: S) μ f := fun r μ' hf => ⟨(hk r μ' hf).1, fun hC hb H locs ls hH hl hv => lv_iushr hC.1 hC.2.1 hd rfl (wx_top (congrArg Value.int (Int32.ofInt_toInt _)) ((hk r μ' hf).2 hC hb H locs ls hH hl hv))⟩
theorem sn_lushr {x y : Int}  (hd : decode cc pc = .ok (.lushr, 1))  (hk : Sn X Γ cc ym nL ret fr lo N0 W0 Q (pc + 1) L (aJ (lUshr x y) :: S) μ f) : Sn X Γ cc ym nL ret fr lo N0 W0 Q pc L (aI y :: aJ x :: S) μ f := fun r μ' hf => ⟨(hk r μ' hf).1, fun hC hb H locs ls hH hl hv => lv_lushr hC.1 hC.2.1 hd rfl (wx_top (congrArg Value.long (Int64.ofInt_toInt _)) ((hk r μ' hf).2 hC hb H locs ls hH hl hv))⟩
theorem sn_lshl {x y : Int}  (hd : decode cc pc = .ok (.lshl, 1))  (hk : Sn X Γ cc ym nL ret fr lo N0 W0 Q (pc + 1) L (aJ (lShl x y) :: S) μ f) : Sn X Γ cc ym nL ret fr lo N0 W0 Q pc L (aI y :: aJ x :: S) μ f := fun r μ' hf => ⟨(hk r μ' hf).1, fun hC hb H locs ls hH hl hv => lv_lshl hC.1 hC.2.1 hd rfl (wx_top (congrArg Value.long (Int64.ofInt_toInt _)) ((hk r μ' hf).2 hC hb H locs ls hH hl hv))⟩
theorem sn_i2l {x : Int}  (hd : decode cc pc = .ok (.i2l, 1))  (hk : Sn X Γ cc ym nL ret fr lo N0 W0 Q (pc + 1) L (aJ (oI2l x) :: S) μ f) : Sn X Γ cc ym nL ret fr lo N0 W0 Q pc L (aI x :: S) μ f := fun r μ' hf => ⟨(hk r μ' hf).1, fun hC hb H locs ls hH hl hv => lv_i2l hC.1 hC.2.1 hd rfl (wx_top (congrArg Value.long (Int64.toInt_inj.mp (by rw [Int32.toInt_toInt64]; exact Int64.toInt_ofInt_of_le (Int.le_trans (by decide) (Int32.le_toInt _)) (Int.lt_of_lt_of_le (Int32.toInt_lt _) (by decide))))) ((hk r μ' hf).2 hC hb H locs ls hH hl hv))⟩
theorem sn_l2i {x : Int}  (hd : decode cc pc = .ok (.l2i, 1))  (hk : Sn X Γ cc ym nL ret fr lo N0 W0 Q (pc + 1) L (aI x :: S) μ f) : Sn X Γ cc ym nL ret fr lo N0 W0 Q pc L (aJ x :: S) μ f := fun r μ' hf => ⟨(hk r μ' hf).1, fun hC hb H locs ls hH hl hv => lv_l2i hC.1 hC.2.1 hd rfl (wx_top (congrArg Value.int Int64.toInt32_ofInt.symm) ((hk r μ' hf).2 hC hb H locs ls hH hl hv))⟩
theorem sn_i2b {x : Int}  (hd : decode cc pc = .ok (.i2b, 1))  (hk : Sn X Γ cc ym nL ret fr lo N0 W0 Q (pc + 1) L (aI (oI2b x) :: S) μ f) : Sn X Γ cc ym nL ret fr lo N0 W0 Q pc L (aI x :: S) μ f := fun r μ' hf => ⟨(hk r μ' hf).1, fun hC hb H locs ls hH hl hv => lv_i2b hC.1 hC.2.1 hd rfl (wx_top (congrArg Value.int (Int32.ofInt_toInt _)) ((hk r μ' hf).2 hC hb H locs ls hH hl hv))⟩
theorem sn_i2s {x : Int}  (hd : decode cc pc = .ok (.i2s, 1))  (hk : Sn X Γ cc ym nL ret fr lo N0 W0 Q (pc + 1) L (aI (oI2s x) :: S) μ f) : Sn X Γ cc ym nL ret fr lo N0 W0 Q pc L (aI x :: S) μ f := fun r μ' hf => ⟨(hk r μ' hf).1, fun hC hb H locs ls hH hl hv => lv_i2s hC.1 hC.2.1 hd rfl (wx_top (congrArg Value.int (Int32.ofInt_toInt _)) ((hk r μ' hf).2 hC hb H locs ls hH hl hv))⟩
theorem sn_lcmp {x y : Int}  (hd : decode cc pc = .ok (.lcmp, 1))  (hk : Sn X Γ cc ym nL ret fr lo N0 W0 Q (pc + 1) L (aI (oLcmp x y) :: S) μ f) : Sn X Γ cc ym nL ret fr lo N0 W0 Q pc L (aJ y :: aJ x :: S) μ f := fun r μ' hf => ⟨(hk r μ' hf).1, fun hC hb H locs ls hH hl hv => W.lcmp hC.1 hC.2.1 hd  (wx_top (congrArg Value.int (Int32.ofInt_toInt _)) ((hk r μ' hf).2 hC hb H locs ls hH hl hv))⟩
theorem sn_idiv {x y : Int}  (hd : decode cc pc = .ok (.idiv, 1)) (hk : Sn X Γ cc ym nL ret fr lo N0 W0 Q (pc + 1) L (aI (oDiv x y) :: S) μ f) : Sn X Γ cc ym nL ret fr lo N0 W0 Q pc L (aI y :: aI x :: S) μ (if Int32.ofInt y = 0 then none else f) := fun r μ' hf => by
  by_cases hz : Int32.ofInt y = 0
  · rw [if_pos hz] at hf; cases hf
  · rw [if_neg hz] at hf
    exact ⟨(hk r μ' hf).1, fun hC hb H locs ls hH hl hv => lv_idiv hC.1 hC.2.1 hd hz (wx_top (congrArg Value.int (Int32.ofInt_toInt _)) ((hk r μ' hf).2 hC hb H locs ls hH hl hv))⟩
theorem sn_idivK {x y : Int}  (hd : decode cc pc = .ok (.idiv, 1)) (hz : ¬ Int32.ofInt y = 0) (hk : Sn X Γ cc ym nL ret fr lo N0 W0 Q (pc + 1) L (aI (oDiv x y) :: S) μ f) : Sn X Γ cc ym nL ret fr lo N0 W0 Q pc L (aI y :: aI x :: S) μ f := fun r μ' hf => ⟨(hk r μ' hf).1, fun hC hb H locs ls hH hl hv => lv_idiv hC.1 hC.2.1 hd hz (wx_top (congrArg Value.int (Int32.ofInt_toInt _)) ((hk r μ' hf).2 hC hb H locs ls hH hl hv))⟩
theorem sn_irem {x y : Int}  (hd : decode cc pc = .ok (.irem, 1)) (hk : Sn X Γ cc ym nL ret fr lo N0 W0 Q (pc + 1) L (aI (oRem x y) :: S) μ f) : Sn X Γ cc ym nL ret fr lo N0 W0 Q pc L (aI y :: aI x :: S) μ (if Int32.ofInt y = 0 then none else f) := fun r μ' hf => by
  by_cases hz : Int32.ofInt y = 0
  · rw [if_pos hz] at hf; cases hf
  · rw [if_neg hz] at hf
    exact ⟨(hk r μ' hf).1, fun hC hb H locs ls hH hl hv => lv_irem hC.1 hC.2.1 hd hz (wx_top (congrArg Value.int (Int32.ofInt_toInt _)) ((hk r μ' hf).2 hC hb H locs ls hH hl hv))⟩
theorem sn_iremK {x y : Int}  (hd : decode cc pc = .ok (.irem, 1)) (hz : ¬ Int32.ofInt y = 0) (hk : Sn X Γ cc ym nL ret fr lo N0 W0 Q (pc + 1) L (aI (oRem x y) :: S) μ f) : Sn X Γ cc ym nL ret fr lo N0 W0 Q pc L (aI y :: aI x :: S) μ f := fun r μ' hf => ⟨(hk r μ' hf).1, fun hC hb H locs ls hH hl hv => lv_irem hC.1 hC.2.1 hd hz (wx_top (congrArg Value.int (Int32.ofInt_toInt _)) ((hk r μ' hf).2 hC hb H locs ls hH hl hv))⟩
theorem sn_ldiv {x y : Int}  (hd : decode cc pc = .ok (.ldiv, 1)) (hk : Sn X Γ cc ym nL ret fr lo N0 W0 Q (pc + 1) L (aJ (lDiv x y) :: S) μ f) : Sn X Γ cc ym nL ret fr lo N0 W0 Q pc L (aJ y :: aJ x :: S) μ (if Int64.ofInt y = 0 then none else f) := fun r μ' hf => by
  by_cases hz : Int64.ofInt y = 0
  · rw [if_pos hz] at hf; cases hf
  · rw [if_neg hz] at hf
    exact ⟨(hk r μ' hf).1, fun hC hb H locs ls hH hl hv => lv_ldiv hC.1 hC.2.1 hd hz (wx_top (congrArg Value.long (Int64.ofInt_toInt _)) ((hk r μ' hf).2 hC hb H locs ls hH hl hv))⟩
theorem sn_ldivK {x y : Int}  (hd : decode cc pc = .ok (.ldiv, 1)) (hz : ¬ Int64.ofInt y = 0) (hk : Sn X Γ cc ym nL ret fr lo N0 W0 Q (pc + 1) L (aJ (lDiv x y) :: S) μ f) : Sn X Γ cc ym nL ret fr lo N0 W0 Q pc L (aJ y :: aJ x :: S) μ f := fun r μ' hf => ⟨(hk r μ' hf).1, fun hC hb H locs ls hH hl hv => lv_ldiv hC.1 hC.2.1 hd hz (wx_top (congrArg Value.long (Int64.ofInt_toInt _)) ((hk r μ' hf).2 hC hb H locs ls hH hl hv))⟩
theorem sn_lrem {x y : Int}  (hd : decode cc pc = .ok (.lrem, 1)) (hk : Sn X Γ cc ym nL ret fr lo N0 W0 Q (pc + 1) L (aJ (lRem x y) :: S) μ f) : Sn X Γ cc ym nL ret fr lo N0 W0 Q pc L (aJ y :: aJ x :: S) μ (if Int64.ofInt y = 0 then none else f) := fun r μ' hf => by
  by_cases hz : Int64.ofInt y = 0
  · rw [if_pos hz] at hf; cases hf
  · rw [if_neg hz] at hf
    exact ⟨(hk r μ' hf).1, fun hC hb H locs ls hH hl hv => lv_lrem hC.1 hC.2.1 hd hz (wx_top (congrArg Value.long (Int64.ofInt_toInt _)) ((hk r μ' hf).2 hC hb H locs ls hH hl hv))⟩
theorem sn_lremK {x y : Int}  (hd : decode cc pc = .ok (.lrem, 1)) (hz : ¬ Int64.ofInt y = 0) (hk : Sn X Γ cc ym nL ret fr lo N0 W0 Q (pc + 1) L (aJ (lRem x y) :: S) μ f) : Sn X Γ cc ym nL ret fr lo N0 W0 Q pc L (aJ y :: aJ x :: S) μ f := fun r μ' hf => ⟨(hk r μ' hf).1, fun hC hb H locs ls hH hl hv => lv_lrem hC.1 hC.2.1 hd hz (wx_top (congrArg Value.long (Int64.ofInt_toInt _)) ((hk r μ' hf).2 hC hb H locs ls hH hl hv))⟩
theorem sn_dup {a : AV}  (hd : decode cc pc = .ok (.dup, 1)) (hc : ct a = 1) (hk : Sn X Γ cc ym nL ret fr lo N0 W0 Q (pc + 1) L (a :: a :: S) μ f) : Sn X Γ cc ym nL ret fr lo N0 W0 Q pc L (a :: S) μ f := fun r μ' hf => ⟨(hk r μ' hf).1, fun hC hb H locs ls hH hl hv => lv_dup hC.1 hC.2.1 hd (by rw [vl_ct]; exact hc) ((hk r μ' hf).2 hC hb H locs ls hH hl hv)⟩
theorem sn_pop {a : AV}  (hd : decode cc pc = .ok (.pop, 1)) (hc : ct a = 1) (hk : Sn X Γ cc ym nL ret fr lo N0 W0 Q (pc + 1) L (S) μ f) : Sn X Γ cc ym nL ret fr lo N0 W0 Q pc L (a :: S) μ f := fun r μ' hf => ⟨(hk r μ' hf).1, fun hC hb H locs ls hH hl hv => lv_pop hC.1 hC.2.1 hd (by rw [vl_ct]; exact hc) ((hk r μ' hf).2 hC hb H locs ls hH hl hv)⟩
theorem sn_pop2 {a : AV}  (hd : decode cc pc = .ok (.pop2, 1)) (hc : ct a = 2) (hk : Sn X Γ cc ym nL ret fr lo N0 W0 Q (pc + 1) L (S) μ f) : Sn X Γ cc ym nL ret fr lo N0 W0 Q pc L (a :: S) μ f := fun r μ' hf => ⟨(hk r μ' hf).1, fun hC hb H locs ls hH hl hv => lv_pop2_2 hC.1 hC.2.1 hd (by rw [vl_ct]; exact hc) ((hk r μ' hf).2 hC hb H locs ls hH hl hv)⟩
theorem sn_dup2 {a b : AV}  (hd : decode cc pc = .ok (.dup2, 1)) (hc : ct a = 1) (hb2 : ct b = 1) (hk : Sn X Γ cc ym nL ret fr lo N0 W0 Q (pc + 1) L (a :: b :: a :: b :: S) μ f) : Sn X Γ cc ym nL ret fr lo N0 W0 Q pc L (a :: b :: S) μ f := fun r μ' hf => ⟨(hk r μ' hf).1, fun hC hb H locs ls hH hl hv => lv_dup2_11 hC.1 hC.2.1 hd (by rw [vl_ct]; exact hc) (by rw [vl_ct]; exact hb2) ((hk r μ' hf).2 hC hb H locs ls hH hl hv)⟩
theorem sn_ldc {idx : Nat} {v : Int} {w : Int32}  (hd : decode cc pc = .ok (.ldc idx, 2)) (hw : Cond.constant ym.cls idx w ∈ gw) (he : Int32.ofInt v = w) (hk : Sn X Γ cc ym nL ret fr lo N0 W0 Q (pc + 2) L (aI v :: S) μ f) : Sn X Γ cc ym nL ret fr lo N0 W0 Q pc L S μ f := fun r μ' hf => ⟨(hk r μ' hf).1, fun hC hb H locs ls hH hl hv => lv_ldc hC.1 hC.2.1 hC.2.2.2.1 (hC.2.2.2.2.1 _ hw) hd (wx_top (congrArg Value.int he) ((hk r μ' hf).2 hC hb H locs ls hH hl hv))⟩
theorem sn_ldcw {idx : Nat} {v : Int} {w : Int32}  (hd : decode cc pc = .ok (.ldc_w idx, 3)) (hw : Cond.constant ym.cls idx w ∈ gw) (he : Int32.ofInt v = w) (hk : Sn X Γ cc ym nL ret fr lo N0 W0 Q (pc + 3) L (aI v :: S) μ f) : Sn X Γ cc ym nL ret fr lo N0 W0 Q pc L S μ f := fun r μ' hf => ⟨(hk r μ' hf).1, fun hC hb H locs ls hH hl hv => lv_ldcw hC.1 hC.2.1 hC.2.2.2.1 (hC.2.2.2.2.1 _ hw) hd (wx_top (congrArg Value.int he) ((hk r μ' hf).2 hC hb H locs ls hH hl hv))⟩
theorem sn_ldc2 {idx : Nat} {v : Int} {w : Int64}  (hd : decode cc pc = .ok (.ldc2_w idx, 3)) (hw : Cond.constantLong ym.cls idx w ∈ gw) (he : Int64.ofInt v = w) (hk : Sn X Γ cc ym nL ret fr lo N0 W0 Q (pc + 3) L (aJ v :: S) μ f) : Sn X Γ cc ym nL ret fr lo N0 W0 Q pc L S μ f := fun r μ' hf => ⟨(hk r μ' hf).1, fun hC hb H locs ls hH hl hv => lv_ldc2 hC.1 hC.2.1 hC.2.2.2.1 (hC.2.2.2.2.1 _ hw) hd (wx_top (congrArg Value.long he) ((hk r μ' hf).2 hC hb H locs ls hH hl hv))⟩
theorem sn_iload_n {j : Fin 4} {x : Int}  (hd : decode cc pc = .ok (.iload_n j, 1)) (hL : L[(j : Nat)]? = some (some (aI x))) (hk : Sn X Γ cc ym nL ret fr lo N0 W0 Q (pc + 1) L (aI x :: S) μ f) : Sn X Γ cc ym nL ret fr lo N0 W0 Q pc L S μ f := fun r μ' hf => ⟨(hk r μ' hf).1, fun hC hb H locs ls hH hl hv => lv_iload_n hC.1 hC.2.1 hd rfl (hv.2.2 _ _ hL) ((hk r μ' hf).2 hC hb H locs ls hH hl hv)⟩
theorem sn_iload {i : Nat} {x : Int}  (hd : decode cc pc = .ok (.iload i, 2)) (hL : L[i]? = some (some (aI x))) (hk : Sn X Γ cc ym nL ret fr lo N0 W0 Q (pc + 2) L (aI x :: S) μ f) : Sn X Γ cc ym nL ret fr lo N0 W0 Q pc L S μ f := fun r μ' hf => ⟨(hk r μ' hf).1, fun hC hb H locs ls hH hl hv => lv_iload hC.1 hC.2.1 hd (hv.2.2 _ _ hL) ((hk r μ' hf).2 hC hb H locs ls hH hl hv)⟩
theorem sn_lload_n {j : Fin 4} {x : Int}  (hd : decode cc pc = .ok (.lload_n j, 1)) (hL : L[(j : Nat)]? = some (some (aJ x))) (hk : Sn X Γ cc ym nL ret fr lo N0 W0 Q (pc + 1) L (aJ x :: S) μ f) : Sn X Γ cc ym nL ret fr lo N0 W0 Q pc L S μ f := fun r μ' hf => ⟨(hk r μ' hf).1, fun hC hb H locs ls hH hl hv => lv_lload_n hC.1 hC.2.1 hd rfl (hv.2.2 _ _ hL) ((hk r μ' hf).2 hC hb H locs ls hH hl hv)⟩
theorem sn_lload {i : Nat} {x : Int}  (hd : decode cc pc = .ok (.lload i, 2)) (hL : L[i]? = some (some (aJ x))) (hk : Sn X Γ cc ym nL ret fr lo N0 W0 Q (pc + 2) L (aJ x :: S) μ f) : Sn X Γ cc ym nL ret fr lo N0 W0 Q pc L S μ f := fun r μ' hf => ⟨(hk r μ' hf).1, fun hC hb H locs ls hH hl hv => lv_lload hC.1 hC.2.1 hd (hv.2.2 _ _ hL) ((hk r μ' hf).2 hC hb H locs ls hH hl hv)⟩
theorem sn_aload_n {j : Fin 4} {a : Nat}  (hd : decode cc pc = .ok (.aload_n j, 1)) (hL : L[(j : Nat)]? = some (some (aA a))) (hk : Sn X Γ cc ym nL ret fr lo N0 W0 Q (pc + 1) L (aA a :: S) μ f) : Sn X Γ cc ym nL ret fr lo N0 W0 Q pc L S μ f := fun r μ' hf => ⟨(hk r μ' hf).1, fun hC hb H locs ls hH hl hv => by
  have h := hv.2.2 _ _ hL
  have g := (hk r μ' hf).2 hC hb H locs ls hH hl hv
  cases a with
  | zero => exact lv_aload_nN hC.1 hC.2.1 hd rfl h g
  | succ q => exact lv_aload_n hC.1 hC.2.1 hd rfl h g⟩
theorem sn_aload {i : Nat} {a : Nat}  (hd : decode cc pc = .ok (.aload i, 2)) (hL : L[i]? = some (some (aA a))) (hk : Sn X Γ cc ym nL ret fr lo N0 W0 Q (pc + 2) L (aA a :: S) μ f) : Sn X Γ cc ym nL ret fr lo N0 W0 Q pc L S μ f := fun r μ' hf => ⟨(hk r μ' hf).1, fun hC hb H locs ls hH hl hv => by
  have h := hv.2.2 _ _ hL
  have g := (hk r μ' hf).2 hC hb H locs ls hH hl hv
  cases a with
  | zero => exact lv_aloadN hC.1 hC.2.1 hd  h g
  | succ q => exact lv_aload hC.1 hC.2.1 hd  h g⟩
theorem sn_istore_n {j : Fin 4} {x : Int} {L' : List (Option AV)}  (hd : decode cc pc = .ok (.istore_n j, 1)) (hn : (j : Nat) < nL) (hL : st1 L (j : Nat) (aI x) = L') (hk : Sn X Γ cc ym nL ret fr lo N0 W0 Q (pc + 1) L' S μ f) : Sn X Γ cc ym nL ret fr lo N0 W0 Q pc L (aI x :: S) μ f := fun r μ' hf => ⟨(hk r μ' hf).1, by
  obtain ⟨p, l, e, R, s, m, args, below, meth, c⟩ := X
  intro hC hbb H locs ls hH hl hv T hT Y
  obtain ⟨ls', e', h'⟩ := lv9_st1 hv hn (v := aI x) rfl
  obtain ⟨t, a, b⟩ := (hk r μ' hf).2 hC hbb H locs ls' hH hl (hL ▸ h') T hT Y
  have hexec : p.tables.exec = Jvm.exec := hC.1
  have hb : c.code = cc := hC.2.1
  refine ⟨t, ?_, b⟩
  have e2 : storeLocals ls (j : Nat) (.int (Int32.ofInt x)) = some ls' := e'
  show Steps _ _ _ (T.setTop (F0 m pc ls (.int (Int32.ofInt x) :: S.map vl))) t
  jvm_step Y.here [Y.here.top, ↓top_set Y.here.top, hexec, hb, hd, e2]
  exact a⟩
theorem sn_istore {i : Nat} {x : Int} {L' : List (Option AV)}  (hd : decode cc pc = .ok (.istore i, 2)) (hn : i < nL) (hL : st1 L i (aI x) = L') (hk : Sn X Γ cc ym nL ret fr lo N0 W0 Q (pc + 2) L' S μ f) : Sn X Γ cc ym nL ret fr lo N0 W0 Q pc L (aI x :: S) μ f := fun r μ' hf => ⟨(hk r μ' hf).1, by
  obtain ⟨p, l, e, R, s, m, args, below, meth, c⟩ := X
  intro hC hbb H locs ls hH hl hv T hT Y
  obtain ⟨ls', e', h'⟩ := lv9_st1 hv hn (v := aI x) rfl
  obtain ⟨t, a, b⟩ := (hk r μ' hf).2 hC hbb H locs ls' hH hl (hL ▸ h') T hT Y
  have hexec : p.tables.exec = Jvm.exec := hC.1
  have hb : c.code = cc := hC.2.1
  refine ⟨t, ?_, b⟩
  have e2 : storeLocals ls i (.int (Int32.ofInt x)) = some ls' := e'
  show Steps _ _ _ (T.setTop (F0 m pc ls (.int (Int32.ofInt x) :: S.map vl))) t
  jvm_step Y.here [Y.here.top, ↓top_set Y.here.top, hexec, hb, hd, e2]
  exact a⟩
theorem sn_lstore_n {j : Fin 4} {x : Int} {L' : List (Option AV)}  (hd : decode cc pc = .ok (.lstore_n j, 1)) (hn : (j : Nat) + 1 < nL) (hL : st2 L (j : Nat) (aJ x) = L') (hk : Sn X Γ cc ym nL ret fr lo N0 W0 Q (pc + 1) L' S μ f) : Sn X Γ cc ym nL ret fr lo N0 W0 Q pc L (aJ x :: S) μ f := fun r μ' hf => ⟨(hk r μ' hf).1, by
  obtain ⟨p, l, e, R, s, m, args, below, meth, c⟩ := X
  intro hC hbb H locs ls hH hl hv T hT Y
  obtain ⟨ls', e', h'⟩ := lv9_st2 hv hn (v := aJ x) rfl
  obtain ⟨t, a, b⟩ := (hk r μ' hf).2 hC hbb H locs ls' hH hl (hL ▸ h') T hT Y
  have hexec : p.tables.exec = Jvm.exec := hC.1
  have hb : c.code = cc := hC.2.1
  refine ⟨t, ?_, b⟩
  have e2 : storeLocals ls (j : Nat) (.long (Int64.ofInt x)) = some ls' := e'
  show Steps _ _ _ (T.setTop (F0 m pc ls (.long (Int64.ofInt x) :: S.map vl))) t
  jvm_step Y.here [Y.here.top, ↓top_set Y.here.top, hexec, hb, hd, e2]
  exact a⟩
theorem sn_lstore {i : Nat} {x : Int} {L' : List (Option AV)}  (hd : decode cc pc = .ok (.lstore i, 2)) (hn : i + 1 < nL) (hL : st2 L i (aJ x) = L') (hk : Sn X Γ cc ym nL ret fr lo N0 W0 Q (pc + 2) L' S μ f) : Sn X Γ cc ym nL ret fr lo N0 W0 Q pc L (aJ x :: S) μ f := fun r μ' hf => ⟨(hk r μ' hf).1, by
  obtain ⟨p, l, e, R, s, m, args, below, meth, c⟩ := X
  intro hC hbb H locs ls hH hl hv T hT Y
  obtain ⟨ls', e', h'⟩ := lv9_st2 hv hn (v := aJ x) rfl
  obtain ⟨t, a, b⟩ := (hk r μ' hf).2 hC hbb H locs ls' hH hl (hL ▸ h') T hT Y
  have hexec : p.tables.exec = Jvm.exec := hC.1
  have hb : c.code = cc := hC.2.1
  refine ⟨t, ?_, b⟩
  have e2 : storeLocals ls i (.long (Int64.ofInt x)) = some ls' := e'
  show Steps _ _ _ (T.setTop (F0 m pc ls (.long (Int64.ofInt x) :: S.map vl))) t
  jvm_step Y.here [Y.here.top, ↓top_set Y.here.top, hexec, hb, hd, e2]
  exact a⟩
theorem sn_astore_n {j : Fin 4} {a : Nat} {L' : List (Option AV)}  (hd : decode cc pc = .ok (.astore_n j, 1)) (hn : (j : Nat) < nL) (hL : st1 L (j : Nat) (aA a) = L') (hk : Sn X Γ cc ym nL ret fr lo N0 W0 Q (pc + 1) L' S μ f) : Sn X Γ cc ym nL ret fr lo N0 W0 Q pc L (aA a :: S) μ f := fun r μ' hf => ⟨(hk r μ' hf).1, by
  obtain ⟨p, l, e, R, s, m, args, below, meth, c⟩ := X
  intro hC hbb H locs ls hH hl hv T hT Y
  obtain ⟨ls', e', h'⟩ := lv9_st1 hv hn (v := aA a) rfl
  obtain ⟨t, z, b⟩ := (hk r μ' hf).2 hC hbb H locs ls' hH hl (hL ▸ h') T hT Y
  have hexec : p.tables.exec = Jvm.exec := hC.1
  have hb : c.code = cc := hC.2.1
  refine ⟨t, ?_, b⟩
  cases a with
  | zero =>
    have e2 : storeLocals ls (j : Nat) .null = some ls' := e'
    show Steps _ _ _ (T.setTop (F0 m pc ls (.null :: S.map vl))) t
    jvm_step Y.here [Y.here.top, ↓top_set Y.here.top, hexec, hb, hd, e2]
    exact ⟨rfl, z⟩
  | succ q =>
    have e2 : storeLocals ls (j : Nat) (.ref q) = some ls' := e'
    show Steps _ _ _ (T.setTop (F0 m pc ls (.ref q :: S.map vl))) t
    jvm_step Y.here [Y.here.top, ↓top_set Y.here.top, hexec, hb, hd, e2]
    exact ⟨rfl, z⟩⟩
theorem sn_astore {i : Nat} {a : Nat} {L' : List (Option AV)}  (hd : decode cc pc = .ok (.astore i, 2)) (hn : i < nL) (hL : st1 L i (aA a) = L') (hk : Sn X Γ cc ym nL ret fr lo N0 W0 Q (pc + 2) L' S μ f) : Sn X Γ cc ym nL ret fr lo N0 W0 Q pc L (aA a :: S) μ f := fun r μ' hf => ⟨(hk r μ' hf).1, by
  obtain ⟨p, l, e, R, s, m, args, below, meth, c⟩ := X
  intro hC hbb H locs ls hH hl hv T hT Y
  obtain ⟨ls', e', h'⟩ := lv9_st1 hv hn (v := aA a) rfl
  obtain ⟨t, z, b⟩ := (hk r μ' hf).2 hC hbb H locs ls' hH hl (hL ▸ h') T hT Y
  have hexec : p.tables.exec = Jvm.exec := hC.1
  have hb : c.code = cc := hC.2.1
  refine ⟨t, ?_, b⟩
  cases a with
  | zero =>
    have e2 : storeLocals ls i .null = some ls' := e'
    show Steps _ _ _ (T.setTop (F0 m pc ls (.null :: S.map vl))) t
    jvm_step Y.here [Y.here.top, ↓top_set Y.here.top, hexec, hb, hd, e2]
    exact ⟨rfl, z⟩
  | succ q =>
    have e2 : storeLocals ls i (.ref q) = some ls' := e'
    show Steps _ _ _ (T.setTop (F0 m pc ls (.ref q :: S.map vl))) t
    jvm_step Y.here [Y.here.top, ↓top_set Y.here.top, hexec, hb, hd, e2]
    exact ⟨rfl, z⟩⟩
theorem sn_iinc {i : Nat} {n : Int} {x : Int} {L' : List (Option AV)}  (hd : decode cc pc = .ok (.iinc i n, 3)) (hx : L[i]? = some (some (aI x))) (hn : i < nL) (hL : st1 L i (aI (x + n)) = L') (hk : Sn X Γ cc ym nL ret fr lo N0 W0 Q (pc + 3) L' S μ f) : Sn X Γ cc ym nL ret fr lo N0 W0 Q pc L S μ f := fun r μ' hf => ⟨(hk r μ' hf).1, by
  obtain ⟨p, l, e, R, s, m, args, below, meth, c⟩ := X
  intro hC hbb H locs ls hH hl hv T hT Y
  have hg : ls[i]? = some (.val (.int (Int32.ofInt x))) := hv.2.2 _ _ hx
  obtain ⟨ls', e', h'⟩ := lv9_st1 hv hn (v := aI (x + n)) rfl
  obtain ⟨t, z, b⟩ := (hk r μ' hf).2 hC hbb H locs ls' hH hl (hL ▸ h') T hT Y
  have hexec : p.tables.exec = Jvm.exec := hC.1
  have hb : c.code = cc := hC.2.1
  refine ⟨t, ?_, b⟩
  have e2 : storeLocals ls i (.int (Int32.ofInt x + Int32.ofInt n)) = some ls' := by rw [← Int32.ofInt_add]; exact e'
  jvm_step Y.here [Y.here.top, ↓top_set Y.here.top, hexec, hb, hd, hg, e2]
  exact z⟩
theorem sn_if_eq {x : Int} {off : Int} {tgt : Nat}  (hd : decode cc pc = .ok (.ifCond .eq off, 3)) (ht : (pc : Int) + off = (tgt : Int)) (h1 : Sn X Γ cc ym nL ret fr lo N0 W0 Q tgt L S μ f1) (h2 : Sn X Γ cc ym nL ret fr lo N0 W0 Q (pc + 3) L S μ f2) : Sn X Γ cc ym nL ret fr lo N0 W0 Q pc L (aI x :: S) μ (if eq32 x 0 then f1 else f2) := fun r μ' hf => by
  by_cases hc : eq32 x 0
  · rw [if_pos hc] at hf
    exact ⟨(h1 r μ' hf).1, fun hC hb H locs ls hH hl hv => lv_if_eq hC.1 hC.2.1 hd ht (fun _ => (h1 r μ' hf).2 hC hb H locs ls hH hl hv) (fun h => absurd hc h)⟩
  · rw [if_neg hc] at hf
    exact ⟨(h2 r μ' hf).1, fun hC hb H locs ls hH hl hv => lv_if_eq hC.1 hC.2.1 hd ht (fun h => absurd h hc) (fun _ => (h2 r μ' hf).2 hC hb H locs ls hH hl hv)⟩
theorem sn_icmp_eq {x y : Int} {off : Int} {tgt : Nat}  (hd : decode cc pc = .ok (.if_icmp .eq off, 3)) (ht : (pc : Int) + off = (tgt : Int)) (h1 : Sn X Γ cc ym nL ret fr lo N0 W0 Q tgt L S μ f1) (h2 : Sn X Γ cc ym nL ret fr lo N0 W0 Q (pc + 3) L S μ f2) : Sn X Γ cc ym nL ret fr lo N0 W0 Q pc L (aI y :: aI x :: S) μ (if eq32 x y then f1 else f2) := fun r μ' hf => by
  by_cases hc : eq32 x y
  · rw [if_pos hc] at hf
    exact ⟨(h1 r μ' hf).1, fun hC hb H locs ls hH hl hv => lv_icmp_eq hC.1 hC.2.1 hd ht (fun _ => (h1 r μ' hf).2 hC hb H locs ls hH hl hv) (fun h => absurd hc h)⟩
  · rw [if_neg hc] at hf
    exact ⟨(h2 r μ' hf).1, fun hC hb H locs ls hH hl hv => lv_icmp_eq hC.1 hC.2.1 hd ht (fun h => absurd h hc) (fun _ => (h2 r μ' hf).2 hC hb H locs ls hH hl hv)⟩
theorem sn_if_ne {x : Int} {off : Int} {tgt : Nat}  (hd : decode cc pc = .ok (.ifCond .ne off, 3)) (ht : (pc : Int) + off = (tgt : Int)) (h1 : Sn X Γ cc ym nL ret fr lo N0 W0 Q tgt L S μ f1) (h2 : Sn X Γ cc ym nL ret fr lo N0 W0 Q (pc + 3) L S μ f2) : Sn X Γ cc ym nL ret fr lo N0 W0 Q pc L (aI x :: S) μ (if eq32 x 0 then f2 else f1) := fun r μ' hf => by
  by_cases hc : eq32 x 0
  · rw [if_pos hc] at hf
    exact ⟨(h2 r μ' hf).1, fun hC hb H locs ls hH hl hv => lv_if_ne hC.1 hC.2.1 hd ht (fun h => absurd hc h) (fun _ => (h2 r μ' hf).2 hC hb H locs ls hH hl hv)⟩
  · rw [if_neg hc] at hf
    exact ⟨(h1 r μ' hf).1, fun hC hb H locs ls hH hl hv => lv_if_ne hC.1 hC.2.1 hd ht (fun _ => (h1 r μ' hf).2 hC hb H locs ls hH hl hv) (fun h => absurd h hc)⟩
theorem sn_icmp_ne {x y : Int} {off : Int} {tgt : Nat}  (hd : decode cc pc = .ok (.if_icmp .ne off, 3)) (ht : (pc : Int) + off = (tgt : Int)) (h1 : Sn X Γ cc ym nL ret fr lo N0 W0 Q tgt L S μ f1) (h2 : Sn X Γ cc ym nL ret fr lo N0 W0 Q (pc + 3) L S μ f2) : Sn X Γ cc ym nL ret fr lo N0 W0 Q pc L (aI y :: aI x :: S) μ (if eq32 x y then f2 else f1) := fun r μ' hf => by
  by_cases hc : eq32 x y
  · rw [if_pos hc] at hf
    exact ⟨(h2 r μ' hf).1, fun hC hb H locs ls hH hl hv => lv_icmp_ne hC.1 hC.2.1 hd ht (fun h => absurd hc h) (fun _ => (h2 r μ' hf).2 hC hb H locs ls hH hl hv)⟩
  · rw [if_neg hc] at hf
    exact ⟨(h1 r μ' hf).1, fun hC hb H locs ls hH hl hv => lv_icmp_ne hC.1 hC.2.1 hd ht (fun _ => (h1 r μ' hf).2 hC hb H locs ls hH hl hv) (fun h => absurd h hc)⟩
theorem sn_if_lt {x : Int} {off : Int} {tgt : Nat}  (hd : decode cc pc = .ok (.ifCond .lt off, 3)) (ht : (pc : Int) + off = (tgt : Int)) (h1 : Sn X Γ cc ym nL ret fr lo N0 W0 Q tgt L S μ f1) (h2 : Sn X Γ cc ym nL ret fr lo N0 W0 Q (pc + 3) L S μ f2) : Sn X Γ cc ym nL ret fr lo N0 W0 Q pc L (aI x :: S) μ (if lt32 x 0 then f1 else f2) := fun r μ' hf => by
  by_cases hc : lt32 x 0
  · rw [if_pos hc] at hf
    exact ⟨(h1 r μ' hf).1, fun hC hb H locs ls hH hl hv => lv_if_lt hC.1 hC.2.1 hd ht (fun _ => (h1 r μ' hf).2 hC hb H locs ls hH hl hv) (fun h => absurd hc h)⟩
  · rw [if_neg hc] at hf
    exact ⟨(h2 r μ' hf).1, fun hC hb H locs ls hH hl hv => lv_if_lt hC.1 hC.2.1 hd ht (fun h => absurd h hc) (fun _ => (h2 r μ' hf).2 hC hb H locs ls hH hl hv)⟩
theorem sn_icmp_lt {x y : Int} {off : Int} {tgt : Nat}  (hd : decode cc pc = .ok (.if_icmp .lt off, 3)) (ht : (pc : Int) + off = (tgt : Int)) (h1 : Sn X Γ cc ym nL ret fr lo N0 W0 Q tgt L S μ f1) (h2 : Sn X Γ cc ym nL ret fr lo N0 W0 Q (pc + 3) L S μ f2) : Sn X Γ cc ym nL ret fr lo N0 W0 Q pc L (aI y :: aI x :: S) μ (if lt32 x y then f1 else f2) := fun r μ' hf => by
  by_cases hc : lt32 x y
  · rw [if_pos hc] at hf
    exact ⟨(h1 r μ' hf).1, fun hC hb H locs ls hH hl hv => lv_icmp_lt hC.1 hC.2.1 hd ht (fun _ => (h1 r μ' hf).2 hC hb H locs ls hH hl hv) (fun h => absurd hc h)⟩
  · rw [if_neg hc] at hf
    exact ⟨(h2 r μ' hf).1, fun hC hb H locs ls hH hl hv => lv_icmp_lt hC.1 hC.2.1 hd ht (fun h => absurd h hc) (fun _ => (h2 r μ' hf).2 hC hb H locs ls hH hl hv)⟩
theorem sn_if_ge {x : Int} {off : Int} {tgt : Nat}  (hd : decode cc pc = .ok (.ifCond .ge off, 3)) (ht : (pc : Int) + off = (tgt : Int)) (h1 : Sn X Γ cc ym nL ret fr lo N0 W0 Q tgt L S μ f1) (h2 : Sn X Γ cc ym nL ret fr lo N0 W0 Q (pc + 3) L S μ f2) : Sn X Γ cc ym nL ret fr lo N0 W0 Q pc L (aI x :: S) μ (if lt32 x 0 then f2 else f1) := fun r μ' hf => by
  by_cases hc : lt32 x 0
  · rw [if_pos hc] at hf
    exact ⟨(h2 r μ' hf).1, fun hC hb H locs ls hH hl hv => lv_if_ge hC.1 hC.2.1 hd ht (fun h => absurd hc (Int32.not_lt.mpr h)) (fun _ => (h2 r μ' hf).2 hC hb H locs ls hH hl hv)⟩
  · rw [if_neg hc] at hf
    exact ⟨(h1 r μ' hf).1, fun hC hb H locs ls hH hl hv => lv_if_ge hC.1 hC.2.1 hd ht (fun _ => (h1 r μ' hf).2 hC hb H locs ls hH hl hv) (fun h => absurd (Int32.not_lt.mp hc) h)⟩
theorem sn_icmp_ge {x y : Int} {off : Int} {tgt : Nat}  (hd : decode cc pc = .ok (.if_icmp .ge off, 3)) (ht : (pc : Int) + off = (tgt : Int)) (h1 : Sn X Γ cc ym nL ret fr lo N0 W0 Q tgt L S μ f1) (h2 : Sn X Γ cc ym nL ret fr lo N0 W0 Q (pc + 3) L S μ f2) : Sn X Γ cc ym nL ret fr lo N0 W0 Q pc L (aI y :: aI x :: S) μ (if lt32 x y then f2 else f1) := fun r μ' hf => by
  by_cases hc : lt32 x y
  · rw [if_pos hc] at hf
    exact ⟨(h2 r μ' hf).1, fun hC hb H locs ls hH hl hv => lv_icmp_ge hC.1 hC.2.1 hd ht (fun h => absurd hc (Int32.not_lt.mpr h)) (fun _ => (h2 r μ' hf).2 hC hb H locs ls hH hl hv)⟩
  · rw [if_neg hc] at hf
    exact ⟨(h1 r μ' hf).1, fun hC hb H locs ls hH hl hv => lv_icmp_ge hC.1 hC.2.1 hd ht (fun _ => (h1 r μ' hf).2 hC hb H locs ls hH hl hv) (fun h => absurd (Int32.not_lt.mp hc) h)⟩
theorem sn_if_gt {x : Int} {off : Int} {tgt : Nat}  (hd : decode cc pc = .ok (.ifCond .gt off, 3)) (ht : (pc : Int) + off = (tgt : Int)) (h1 : Sn X Γ cc ym nL ret fr lo N0 W0 Q tgt L S μ f1) (h2 : Sn X Γ cc ym nL ret fr lo N0 W0 Q (pc + 3) L S μ f2) : Sn X Γ cc ym nL ret fr lo N0 W0 Q pc L (aI x :: S) μ (if lt32 0 x then f1 else f2) := fun r μ' hf => by
  by_cases hc : lt32 0 x
  · rw [if_pos hc] at hf
    exact ⟨(h1 r μ' hf).1, fun hC hb H locs ls hH hl hv => lv_if_gt hC.1 hC.2.1 hd ht (fun _ => (h1 r μ' hf).2 hC hb H locs ls hH hl hv) (fun h => absurd hc h)⟩
  · rw [if_neg hc] at hf
    exact ⟨(h2 r μ' hf).1, fun hC hb H locs ls hH hl hv => lv_if_gt hC.1 hC.2.1 hd ht (fun h => absurd h hc) (fun _ => (h2 r μ' hf).2 hC hb H locs ls hH hl hv)⟩
theorem sn_icmp_gt {x y : Int} {off : Int} {tgt : Nat}  (hd : decode cc pc = .ok (.if_icmp .gt off, 3)) (ht : (pc : Int) + off = (tgt : Int)) (h1 : Sn X Γ cc ym nL ret fr lo N0 W0 Q tgt L S μ f1) (h2 : Sn X Γ cc ym nL ret fr lo N0 W0 Q (pc + 3) L S μ f2) : Sn X Γ cc ym nL ret fr lo N0 W0 Q pc L (aI y :: aI x :: S) μ (if lt32 y x then f1 else f2) := fun r μ' hf => by
  by_cases hc : lt32 y x
  · rw [if_pos hc] at hf
    exact ⟨(h1 r μ' hf).1, fun hC hb H locs ls hH hl hv => lv_icmp_gt hC.1 hC.2.1 hd ht (fun _ => (h1 r μ' hf).2 hC hb H locs ls hH hl hv) (fun h => absurd hc h)⟩
  · rw [if_neg hc] at hf
    exact ⟨(h2 r μ' hf).1, fun hC hb H locs ls hH hl hv => lv_icmp_gt hC.1 hC.2.1 hd ht (fun h => absurd h hc) (fun _ => (h2 r μ' hf).2 hC hb H locs ls hH hl hv)⟩
theorem sn_if_le {x : Int} {off : Int} {tgt : Nat}  (hd : decode cc pc = .ok (.ifCond .le off, 3)) (ht : (pc : Int) + off = (tgt : Int)) (h1 : Sn X Γ cc ym nL ret fr lo N0 W0 Q tgt L S μ f1) (h2 : Sn X Γ cc ym nL ret fr lo N0 W0 Q (pc + 3) L S μ f2) : Sn X Γ cc ym nL ret fr lo N0 W0 Q pc L (aI x :: S) μ (if lt32 0 x then f2 else f1) := fun r μ' hf => by
  by_cases hc : lt32 0 x
  · rw [if_pos hc] at hf
    exact ⟨(h2 r μ' hf).1, fun hC hb H locs ls hH hl hv => lv_if_le hC.1 hC.2.1 hd ht (fun h => absurd hc (Int32.not_lt.mpr h)) (fun _ => (h2 r μ' hf).2 hC hb H locs ls hH hl hv)⟩
  · rw [if_neg hc] at hf
    exact ⟨(h1 r μ' hf).1, fun hC hb H locs ls hH hl hv => lv_if_le hC.1 hC.2.1 hd ht (fun _ => (h1 r μ' hf).2 hC hb H locs ls hH hl hv) (fun h => absurd (Int32.not_lt.mp hc) h)⟩
theorem sn_icmp_le {x y : Int} {off : Int} {tgt : Nat}  (hd : decode cc pc = .ok (.if_icmp .le off, 3)) (ht : (pc : Int) + off = (tgt : Int)) (h1 : Sn X Γ cc ym nL ret fr lo N0 W0 Q tgt L S μ f1) (h2 : Sn X Γ cc ym nL ret fr lo N0 W0 Q (pc + 3) L S μ f2) : Sn X Γ cc ym nL ret fr lo N0 W0 Q pc L (aI y :: aI x :: S) μ (if lt32 y x then f2 else f1) := fun r μ' hf => by
  by_cases hc : lt32 y x
  · rw [if_pos hc] at hf
    exact ⟨(h2 r μ' hf).1, fun hC hb H locs ls hH hl hv => lv_icmp_le hC.1 hC.2.1 hd ht (fun h => absurd hc (Int32.not_lt.mpr h)) (fun _ => (h2 r μ' hf).2 hC hb H locs ls hH hl hv)⟩
  · rw [if_neg hc] at hf
    exact ⟨(h1 r μ' hf).1, fun hC hb H locs ls hH hl hv => lv_icmp_le hC.1 hC.2.1 hd ht (fun _ => (h1 r μ' hf).2 hC hb H locs ls hH hl hv) (fun h => absurd (Int32.not_lt.mp hc) h)⟩
theorem sn_goto {off : Int} {tgt : Nat}  (hd : decode cc pc = .ok (.goto off, 3)) (ht : (pc : Int) + off = (tgt : Int)) (hk : Sn X Γ cc ym nL ret fr lo N0 W0 Q tgt L S μ f) : Sn X Γ cc ym nL ret fr lo N0 W0 Q pc L S μ f := fun r μ' hf => ⟨(hk r μ' hf).1, fun hC hb H locs ls hH hl hv => lv_goto hC.1 hC.2.1 hd ht ((hk r μ' hf).2 hC hb H locs ls hH hl hv)⟩
theorem sn_ifnonnull {a : Nat} {off : Int} {tgt : Nat}  (hd : decode cc pc = .ok (.ifnonnull off, 3)) (ht : (pc : Int) + off = (tgt : Int)) (h1 : Sn X Γ cc ym nL ret fr lo N0 W0 Q (pc + 3) L S μ f1) (h2 : Sn X Γ cc ym nL ret fr lo N0 W0 Q tgt L S μ f2) : Sn X Γ cc ym nL ret fr lo N0 W0 Q pc L (aA a :: S) μ (if a = 0 then f1 else f2) := fun r μ' hf => by
  cases a with
  | zero => exact ⟨(h1 r μ' hf).1, fun hC hb H locs ls hH hl hv => lv_ifnonnullN hC.1 hC.2.1 hd ((h1 r μ' hf).2 hC hb H locs ls hH hl hv)⟩
  | succ q =>
    rw [if_neg (Nat.succ_ne_zero q)] at hf
    exact ⟨(h2 r μ' hf).1, fun hC hb H locs ls hH hl hv => lv_ifnonnull hC.1 hC.2.1 hd ht ((h2 r μ' hf).2 hC hb H locs ls hH hl hv)⟩
end SN
