/-! layer 1: tape -/
theorem dX8_addInt_0 : decode cX8_addInt 0 = .ok (.bipush 24, 2) := by decide +kernel
theorem dX8_addInt_2 : decode cX8_addInt 2 = .ok (.istore_n 2, 1) := by decide +kernel
theorem dX8_addInt_3 : decode cX8_addInt 3 = .ok (.iload_n 2, 1) := by decide +kernel
theorem dX8_addInt_4 : decode cX8_addInt 4 = .ok (.ifCond .lt 42, 3) := by decide +kernel
theorem dX8_addInt_7 : decode cX8_addInt 7 = .ok (.aload_n 0, 1) := by decide +kernel
theorem dX8_addInt_8 : decode cX8_addInt 8 = .ok (.getfield 19, 3) := by decide +kernel
theorem dX8_addInt_11 : decode cX8_addInt 11 = .ok (.sipush 900, 3) := by decide +kernel
theorem dX8_addInt_14 : decode cX8_addInt 14 = .ok (.if_icmp .ge 32, 3) := by decide +kernel
theorem dX8_addInt_17 : decode cX8_addInt 17 = .ok (.aload_n 0, 1) := by decide +kernel
theorem dX8_addInt_18 : decode cX8_addInt 18 = .ok (.getfield 15, 3) := by decide +kernel
theorem dX8_addInt_21 : decode cX8_addInt 21 = .ok (.aload_n 0, 1) := by decide +kernel
theorem dX8_addInt_22 : decode cX8_addInt 22 = .ok (.getfield 19, 3) := by decide +kernel
theorem dX8_addInt_25 : decode cX8_addInt 25 = .ok (.iload_n 1, 1) := by decide +kernel
theorem dX8_addInt_26 : decode cX8_addInt 26 = .ok (.iload_n 2, 1) := by decide +kernel
theorem dX8_addInt_27 : decode cX8_addInt 27 = .ok (.iushr, 1) := by decide +kernel
theorem dX8_addInt_28 : decode cX8_addInt 28 = .ok (.i2b, 1) := by decide +kernel
theorem dX8_addInt_29 : decode cX8_addInt 29 = .ok (.bastore, 1) := by decide +kernel
theorem dX8_addInt_30 : decode cX8_addInt 30 = .ok (.aload_n 0, 1) := by decide +kernel
theorem dX8_addInt_31 : decode cX8_addInt 31 = .ok (.dup, 1) := by decide +kernel
theorem dX8_addInt_32 : decode cX8_addInt 32 = .ok (.getfield 19, 3) := by decide +kernel
theorem dX8_addInt_35 : decode cX8_addInt 35 = .ok (.iconst 1, 1) := by decide +kernel
theorem dX8_addInt_36 : decode cX8_addInt 36 = .ok (.iadd, 1) := by decide +kernel
theorem dX8_addInt_37 : decode cX8_addInt 37 = .ok (.putfield 19, 3) := by decide +kernel
theorem dX8_addInt_40 : decode cX8_addInt 40 = .ok (.iinc 2 (-8), 3) := by decide +kernel
theorem dX8_addInt_43 : decode cX8_addInt 43 = .ok (.goto (-40), 3) := by decide +kernel
theorem dX8_addInt_46 : decode cX8_addInt 46 = .ok (.return_, 1) := by decide +kernel
def mX8_addInt (n : Nat) (a : Nat) (b1 : Int) (μ : Mem) : Option (Unit × Mem) :=
  lp (fun nx3 (v3 : Int) (μ3 : Mem) =>
  if lt32 v3 0 then
    some ((), μ3)
  else
  (gI μ3 9 a 0).bind fun x8 =>
  if lt32 x8 900 then
    (gA μ3 9 a 3).bind fun x18 =>
    (gI μ3 9 a 0).bind fun x22 =>
    (stI μ3 1 x18 x22 (oI2b (oI2b (oUshr b1 v3)))).bind fun μ29 =>
    (gI μ29 9 a 0).bind fun x32 =>
    (pI μ29 9 a 0 (x32 + 1)).bind fun μ37 =>
    nx3 (v3 + (-8)) μ37
  else
  some ((), μ3)) n 24 μ
set_option maxRecDepth 100000 in
set_option maxHeartbeats 4000000 in
theorem cX8_addInt_ok (n : Nat) (a : Nat) (b1 : Int) (μ : Mem) : Mc yX8_addInt cX8_addInt 3 none 0 0 eV [aA a, aI b1] μ (mX8_addInt n a b1 μ) := by
  refine mc_of (L0 := [some (aA a), some (aI b1), none]) (k := 1) (by decide) rfl rfl (fun X Γ => ?_)
  unfold mX8_addInt
  refine sn_bipush dX8_addInt_0 (by decide) ?_
  refine sn_istore_n (L' := [some (aA a), some (aI b1), some (aI 24)]) dX8_addInt_2 (by decide) rfl ?_
  refine sn_lp (La := fun v3 : Int => [some (aA a), some (aI b1), some (aI v3)]) ?_ n 24 μ
  intro nx3 hnx3 v3 μ3
  refine sn_iload_n dX8_addInt_3 rfl ?_
  refine sn_if_lt (tgt := 46) dX8_addInt_4 (by decide) ?_ ?_
  · exact sn_vret dX8_addInt_46
  · refine sn_aload_n dX8_addInt_7 rfl ?_
    refine sn_getI (ci := 8) (j := 0) dX8_addInt_8 fl_X8_19 rfl (fun x8 => ?_)
    refine sn_sipush dX8_addInt_11 (by decide) ?_
    refine sn_icmp_ge (tgt := 46) dX8_addInt_14 (by decide) ?_ ?_
    · exact sn_vret dX8_addInt_46
    · refine sn_aload_n dX8_addInt_17 rfl ?_
      refine sn_getA (ci := 8) (j := 3) dX8_addInt_18 fl_X8_15 (by decide) (fun x18 => ?_)
      refine sn_aload_n dX8_addInt_21 rfl ?_
      refine sn_getI (ci := 8) (j := 0) dX8_addInt_22 fl_X8_19 rfl (fun x22 => ?_)
      refine sn_iload_n dX8_addInt_25 rfl ?_
      refine sn_iload_n dX8_addInt_26 rfl ?_
      refine sn_iushr dX8_addInt_27 ?_
      refine sn_i2b dX8_addInt_28 ?_
      refine sn_bast dX8_addInt_29 (fun μ29 => ?_)
      refine sn_aload_n dX8_addInt_30 rfl ?_
      refine sn_dup dX8_addInt_31 rfl ?_
      refine sn_getI (ci := 8) (j := 0) dX8_addInt_32 fl_X8_19 rfl (fun x32 => ?_)
      refine sn_iconst dX8_addInt_35 ?_
      refine sn_iadd dX8_addInt_36 ?_
      refine sn_putI (ci := 8) (j := 0) dX8_addInt_37 fl_X8_19 rfl (fun q h => by cases h; rfl) (fun μ37 => ?_)
      refine sn_iinc (L' := [some (aA a), some (aI b1), some (aI (v3 + (-8)))]) dX8_addInt_40 rfl (by decide) rfl ?_
      refine sn_goto (tgt := 3) dX8_addInt_43 (by decide) ?_
      exact hnx3 (v3 + (-8)) μ37
theorem dX8_init_0 : decode cX8_init 0 = .ok (.aload_n 0, 1) := by decide +kernel
theorem dX8_init_1 : decode cX8_init 1 = .ok (.invokespecial 3, 3) := by decide +kernel
theorem dX8_init_4 : decode cX8_init 4 = .ok (.aload_n 0, 1) := by decide +kernel
theorem dX8_init_5 : decode cX8_init 5 = .ok (.iconst (-1), 1) := by decide +kernel
theorem dX8_init_6 : decode cX8_init 6 = .ok (.putfield 9, 3) := by decide +kernel
theorem dX8_init_9 : decode cX8_init 9 = .ok (.aload_n 0, 1) := by decide +kernel
theorem dX8_init_10 : decode cX8_init 10 = .ok (.sipush 900, 3) := by decide +kernel
theorem dX8_init_13 : decode cX8_init 13 = .ok (.newarray .byte, 2) := by decide +kernel
theorem dX8_init_15 : decode cX8_init 15 = .ok (.putfield 15, 3) := by decide +kernel
theorem dX8_init_18 : decode cX8_init 18 = .ok (.return_, 1) := by decide +kernel
def mX8_init (n : Nat) (a : Nat) (μ : Mem) : Option (Unit × Mem) :=
  inv μ 9 a
  ((pI μ 9 a 2 (-1)).bind fun μ6 =>
  (nwA μ6 1 900).bind fun p13 =>
  (pA p13.2 9 a 3 p13.1).bind fun μ15 =>
  some ((), μ15))
set_option maxRecDepth 100000 in
set_option maxHeartbeats 4000000 in
theorem cX8_init_ok (n : Nat) (a : Nat) (μ : Mem) : Mc yX8_init cX8_init 1 none 1 20 eV [aA a] μ (mX8_init n a μ) := by
  refine mc_of (L0 := [some (aA a)]) (k := 0) (by decide) rfl rfl (fun X Γ => ?_)
  unfold mX8_init
  refine sn_aload_n dX8_init_0 rfl ?_
  refine sn_objInit (ci := 8) dX8_init_1 (by decide) ml_X8_3 im_obj co_obj (by decide) (by decide) (Nat.le_of_ble_eq_true rfl) ?_
  refine sn_aload_n dX8_init_4 rfl ?_
  refine sn_iconst dX8_init_5 ?_
  refine sn_putI (ci := 8) (j := 2) dX8_init_6 fl_X8_9 rfl (fun q h => by cases h; rfl) (fun μ6 => ?_)
  refine sn_aload_n dX8_init_9 rfl ?_
  refine sn_sipush dX8_init_10 (by decide) ?_
  refine sn_newa (t := 1) dX8_init_13 (by decide) rfl ac_1 (fun p13 => ?_)
  refine sn_putA (ci := 8) (j := 3) dX8_init_15 fl_X8_15 (Or.inr ⟨_, rfl⟩) (Or.inr ⟨rfl, fun q h => by cases h; exact ⟨rfl, rfl⟩⟩) (fun μ15 => ?_)
  exact sn_vret dX8_init_18
theorem dX8_byteAt_0 : decode cX8_byteAt 0 = .ok (.iload_n 1, 1) := by decide +kernel
theorem dX8_byteAt_1 : decode cX8_byteAt 1 = .ok (.ifCond .lt 24, 3) := by decide +kernel
theorem dX8_byteAt_4 : decode cX8_byteAt 4 = .ok (.iload_n 1, 1) := by decide +kernel
theorem dX8_byteAt_5 : decode cX8_byteAt 5 = .ok (.aload_n 0, 1) := by decide +kernel
theorem dX8_byteAt_6 : decode cX8_byteAt 6 = .ok (.getfield 31, 3) := by decide +kernel
theorem dX8_byteAt_9 : decode cX8_byteAt 9 = .ok (.if_icmp .ge 16, 3) := by decide +kernel
theorem dX8_byteAt_12 : decode cX8_byteAt 12 = .ok (.aload_n 0, 1) := by decide +kernel
theorem dX8_byteAt_13 : decode cX8_byteAt 13 = .ok (.getfield 15, 3) := by decide +kernel
theorem dX8_byteAt_16 : decode cX8_byteAt 16 = .ok (.iload_n 1, 1) := by decide +kernel
theorem dX8_byteAt_17 : decode cX8_byteAt 17 = .ok (.baload, 1) := by decide +kernel
theorem dX8_byteAt_18 : decode cX8_byteAt 18 = .ok (.sipush 255, 3) := by decide +kernel
theorem dX8_byteAt_21 : decode cX8_byteAt 21 = .ok (.iand, 1) := by decide +kernel
theorem dX8_byteAt_22 : decode cX8_byteAt 22 = .ok (.goto 4, 3) := by decide +kernel
theorem dX8_byteAt_25 : decode cX8_byteAt 25 = .ok (.iconst (-1), 1) := by decide +kernel
theorem dX8_byteAt_26 : decode cX8_byteAt 26 = .ok (.ireturn, 1) := by decide +kernel
def mX8_byteAt (n : Nat) (a : Nat) (b1 : Int) (μ : Mem) : Option (Int × Mem) :=
  if lt32 b1 0 then
    some ((-1), μ)
  else
  (gI μ 9 a 4).bind fun x6 =>
  if lt32 b1 x6 then
    (gA μ 9 a 3).bind fun x13 =>
    (ldI μ 1 x13 b1).bind fun x17 =>
    some ((oAnd x17 255), μ)
  else
  some ((-1), μ)
set_option maxRecDepth 100000 in
set_option maxHeartbeats 4000000 in
theorem cX8_byteAt_ok (n : Nat) (a : Nat) (b1 : Int) (μ : Mem) : Mc yX8_byteAt cX8_byteAt 2 (some .int) 0 0 eI [aA a, aI b1] μ (mX8_byteAt n a b1 μ) := by
  refine mc_of (L0 := [some (aA a), some (aI b1)]) (k := 0) (by decide) rfl rfl (fun X Γ => ?_)
  unfold mX8_byteAt
  refine sn_iload_n dX8_byteAt_0 rfl ?_
  refine sn_if_lt (tgt := 25) dX8_byteAt_1 (by decide) ?_ ?_
  · refine sn_iconst dX8_byteAt_25 ?_
    exact sn_iret dX8_byteAt_26
  · refine sn_iload_n dX8_byteAt_4 rfl ?_
    refine sn_aload_n dX8_byteAt_5 rfl ?_
    refine sn_getI (ci := 8) (j := 4) dX8_byteAt_6 fl_X8_31 rfl (fun x6 => ?_)
    refine sn_icmp_ge (tgt := 25) dX8_byteAt_9 (by decide) ?_ ?_
    · refine sn_iconst dX8_byteAt_25 ?_
      exact sn_iret dX8_byteAt_26
    · refine sn_aload_n dX8_byteAt_12 rfl ?_
      refine sn_getA (ci := 8) (j := 3) dX8_byteAt_13 fl_X8_15 (by decide) (fun x13 => ?_)
      refine sn_iload_n dX8_byteAt_16 rfl ?_
      refine sn_bald dX8_byteAt_17 (fun x17 => ?_)
      refine sn_sipush dX8_byteAt_18 (by decide) ?_
      refine sn_iand dX8_byteAt_21 ?_
      refine sn_goto (tgt := 26) dX8_byteAt_22 (by decide) ?_
      exact sn_iret dX8_byteAt_26
theorem dX8_isBlank_0 : decode cX8_isBlank 0 = .ok (.iload_n 0, 1) := by decide +kernel
theorem dX8_isBlank_1 : decode cX8_isBlank 1 = .ok (.bipush 10, 2) := by decide +kernel
theorem dX8_isBlank_3 : decode cX8_isBlank 3 = .ok (.if_icmp .eq 9, 3) := by decide +kernel
theorem dX8_isBlank_6 : decode cX8_isBlank 6 = .ok (.iload_n 0, 1) := by decide +kernel
theorem dX8_isBlank_7 : decode cX8_isBlank 7 = .ok (.bipush 32, 2) := by decide +kernel
theorem dX8_isBlank_9 : decode cX8_isBlank 9 = .ok (.if_icmp .ne 7, 3) := by decide +kernel
theorem dX8_isBlank_12 : decode cX8_isBlank 12 = .ok (.iconst 1, 1) := by decide +kernel
theorem dX8_isBlank_13 : decode cX8_isBlank 13 = .ok (.goto 4, 3) := by decide +kernel
theorem dX8_isBlank_16 : decode cX8_isBlank 16 = .ok (.iconst 0, 1) := by decide +kernel
theorem dX8_isBlank_17 : decode cX8_isBlank 17 = .ok (.ireturn, 1) := by decide +kernel
def mX8_isBlank (n : Nat) (b1 : Int) (μ : Mem) : Option (Int × Mem) :=
  if eq32 b1 10 then
    retZ 1 μ
  else
  if eq32 b1 32 then
    retZ 1 μ
  else
  retZ 0 μ
set_option maxRecDepth 100000 in
set_option maxHeartbeats 4000000 in
theorem cX8_isBlank_ok (n : Nat) (b1 : Int) (μ : Mem) : Mc yX8_isBlank cX8_isBlank 1 (some .boolean) 0 0 eI [aI b1] μ (mX8_isBlank n b1 μ) := by
  refine mc_of (L0 := [some (aI b1)]) (k := 0) (by decide) rfl rfl (fun X Γ => ?_)
  unfold mX8_isBlank
  refine sn_iload_n dX8_isBlank_0 rfl ?_
  refine sn_bipush dX8_isBlank_1 (by decide) ?_
  refine sn_icmp_eq (tgt := 12) dX8_isBlank_3 (by decide) ?_ ?_
  · refine sn_iconst dX8_isBlank_12 ?_
    refine sn_goto (tgt := 17) dX8_isBlank_13 (by decide) ?_
    exact sn_zret dX8_isBlank_17
  · refine sn_iload_n dX8_isBlank_6 rfl ?_
    refine sn_bipush dX8_isBlank_7 (by decide) ?_
    refine sn_icmp_ne (tgt := 16) dX8_isBlank_9 (by decide) ?_ ?_
    · refine sn_iconst dX8_isBlank_16 ?_
      exact sn_zret dX8_isBlank_17
    · refine sn_iconst dX8_isBlank_12 ?_
      refine sn_goto (tgt := 17) dX8_isBlank_13 (by decide) ?_
      exact sn_zret dX8_isBlank_17
theorem dX8_isLetter_0 : decode cX8_isLetter 0 = .ok (.iload_n 0, 1) := by decide +kernel
theorem dX8_isLetter_1 : decode cX8_isLetter 1 = .ok (.bipush 97, 2) := by decide +kernel
theorem dX8_isLetter_3 : decode cX8_isLetter 3 = .ok (.if_icmp .lt 13, 3) := by decide +kernel
theorem dX8_isLetter_6 : decode cX8_isLetter 6 = .ok (.iload_n 0, 1) := by decide +kernel
theorem dX8_isLetter_7 : decode cX8_isLetter 7 = .ok (.bipush 122, 2) := by decide +kernel
theorem dX8_isLetter_9 : decode cX8_isLetter 9 = .ok (.if_icmp .gt 7, 3) := by decide +kernel
theorem dX8_isLetter_12 : decode cX8_isLetter 12 = .ok (.iconst 1, 1) := by decide +kernel
theorem dX8_isLetter_13 : decode cX8_isLetter 13 = .ok (.goto 4, 3) := by decide +kernel
theorem dX8_isLetter_16 : decode cX8_isLetter 16 = .ok (.iconst 0, 1) := by decide +kernel
theorem dX8_isLetter_17 : decode cX8_isLetter 17 = .ok (.ireturn, 1) := by decide +kernel
def mX8_isLetter (n : Nat) (b1 : Int) (μ : Mem) : Option (Int × Mem) :=
  if lt32 b1 97 then
    retZ 0 μ
  else
  if lt32 122 b1 then
    retZ 0 μ
  else
  retZ 1 μ
set_option maxRecDepth 100000 in
set_option maxHeartbeats 4000000 in
theorem cX8_isLetter_ok (n : Nat) (b1 : Int) (μ : Mem) : Mc yX8_isLetter cX8_isLetter 1 (some .boolean) 0 0 eI [aI b1] μ (mX8_isLetter n b1 μ) := by
  refine mc_of (L0 := [some (aI b1)]) (k := 0) (by decide) rfl rfl (fun X Γ => ?_)
  unfold mX8_isLetter
  refine sn_iload_n dX8_isLetter_0 rfl ?_
  refine sn_bipush dX8_isLetter_1 (by decide) ?_
  refine sn_icmp_lt (tgt := 16) dX8_isLetter_3 (by decide) ?_ ?_
  · refine sn_iconst dX8_isLetter_16 ?_
    exact sn_zret dX8_isLetter_17
  · refine sn_iload_n dX8_isLetter_6 rfl ?_
    refine sn_bipush dX8_isLetter_7 (by decide) ?_
    refine sn_icmp_gt (tgt := 16) dX8_isLetter_9 (by decide) ?_ ?_
    · refine sn_iconst dX8_isLetter_16 ?_
      exact sn_zret dX8_isLetter_17
    · refine sn_iconst dX8_isLetter_12 ?_
      refine sn_goto (tgt := 17) dX8_isLetter_13 (by decide) ?_
      exact sn_zret dX8_isLetter_17
theorem dX8_takeLetters_0 : decode cX8_takeLetters 0 = .ok (.aload_n 0, 1) := by decide +kernel
theorem dX8_takeLetters_1 : decode cX8_takeLetters 1 = .ok (.iconst 1, 1) := by decide +kernel
theorem dX8_takeLetters_2 : decode cX8_takeLetters 2 = .ok (.putfield 45, 3) := by decide +kernel
theorem dX8_takeLetters_5 : decode cX8_takeLetters 5 = .ok (.aload_n 0, 1) := by decide +kernel
theorem dX8_takeLetters_6 : decode cX8_takeLetters 6 = .ok (.getfield 34, 3) := by decide +kernel
theorem dX8_takeLetters_9 : decode cX8_takeLetters 9 = .ok (.aload_n 0, 1) := by decide +kernel
theorem dX8_takeLetters_10 : decode cX8_takeLetters 10 = .ok (.getfield 31, 3) := by decide +kernel
theorem dX8_takeLetters_13 : decode cX8_takeLetters 13 = .ok (.if_icmp .ge 30, 3) := by decide +kernel
theorem dX8_takeLetters_16 : decode cX8_takeLetters 16 = .ok (.aload_n 0, 1) := by decide +kernel
theorem dX8_takeLetters_17 : decode cX8_takeLetters 17 = .ok (.aload_n 0, 1) := by decide +kernel
theorem dX8_takeLetters_18 : decode cX8_takeLetters 18 = .ok (.getfield 34, 3) := by decide +kernel
theorem dX8_takeLetters_21 : decode cX8_takeLetters 21 = .ok (.invokevirtual 144, 3) := by decide +kernel
theorem dX8_takeLetters_24 : decode cX8_takeLetters 24 = .ok (.invokestatic 156, 3) := by decide +kernel
theorem dX8_takeLetters_27 : decode cX8_takeLetters 27 = .ok (.ifCond .eq 16, 3) := by decide +kernel
theorem dX8_takeLetters_30 : decode cX8_takeLetters 30 = .ok (.aload_n 0, 1) := by decide +kernel
theorem dX8_takeLetters_31 : decode cX8_takeLetters 31 = .ok (.dup, 1) := by decide +kernel
theorem dX8_takeLetters_32 : decode cX8_takeLetters 32 = .ok (.getfield 34, 3) := by decide +kernel
theorem dX8_takeLetters_35 : decode cX8_takeLetters 35 = .ok (.iconst 1, 1) := by decide +kernel
theorem dX8_takeLetters_36 : decode cX8_takeLetters 36 = .ok (.iadd, 1) := by decide +kernel
theorem dX8_takeLetters_37 : decode cX8_takeLetters 37 = .ok (.putfield 34, 3) := by decide +kernel
theorem dX8_takeLetters_40 : decode cX8_takeLetters 40 = .ok (.goto (-35), 3) := by decide +kernel
theorem dX8_takeLetters_43 : decode cX8_takeLetters 43 = .ok (.return_, 1) := by decide +kernel
def mX8_takeLetters (n : Nat) (a : Nat) (μ : Mem) : Option (Unit × Mem) :=
  (pI μ 9 a 5 1).bind fun μ2 =>
  lp (fun nx5 (v5 : Unit) (μ5 : Mem) =>
  (gI μ5 9 a 7).bind fun x6 =>
  (gI μ5 9 a 4).bind fun x10 =>
  if lt32 x6 x10 then
    (gI μ5 9 a 7).bind fun x18 =>
    (inv μ5 9 a (mX8_byteAt n a x18 μ5)).bind fun p21 =>
    (mX8_isLetter n p21.1 p21.2).bind fun p24 =>
    if eq32 p24.1 0 then
      some ((), p24.2)
    else
    (gI p24.2 9 a 7).bind fun x32 =>
    (pI p24.2 9 a 7 (x32 + 1)).bind fun μ37 =>
    nx5 () μ37
  else
  some ((), μ5)) n () μ2
set_option maxRecDepth 100000 in
set_option maxHeartbeats 4000000 in
theorem cX8_takeLetters_ok (n : Nat) (a : Nat) (μ : Mem) : Mc yX8_takeLetters cX8_takeLetters 1 none 1 21 eV [aA a] μ (mX8_takeLetters n a μ) := by
  refine mc_of (L0 := [some (aA a)]) (k := 0) (by decide) rfl rfl (fun X Γ => ?_)
  unfold mX8_takeLetters
  refine sn_aload_n dX8_takeLetters_0 rfl ?_
  refine sn_iconst dX8_takeLetters_1 ?_
  refine sn_putI (ci := 8) (j := 5) dX8_takeLetters_2 fl_X8_45 rfl (fun q h => by cases h; rfl) (fun μ2 => ?_)
  refine sn_lp (La := fun v5 : Unit => [some (aA a)]) ?_ n () μ2
  intro nx5 hnx5 v5 μ5
  refine sn_aload_n dX8_takeLetters_5 rfl ?_
  refine sn_getI (ci := 8) (j := 7) dX8_takeLetters_6 fl_X8_34 rfl (fun x6 => ?_)
  refine sn_aload_n dX8_takeLetters_9 rfl ?_
  refine sn_getI (ci := 8) (j := 4) dX8_takeLetters_10 fl_X8_31 rfl (fun x10 => ?_)
  refine sn_icmp_ge (tgt := 43) dX8_takeLetters_13 (by decide) ?_ ?_
  · exact sn_vret dX8_takeLetters_43
  · refine sn_aload_n dX8_takeLetters_16 rfl ?_
    refine sn_aload_n dX8_takeLetters_17 rfl ?_
    refine sn_getI (ci := 8) (j := 7) dX8_takeLetters_18 fl_X8_34 rfl (fun x18 => ?_)
    refine sn_callVI (vs := [aI x18]) (ci := 8) (cX8_byteAt_ok n a x18 μ5) dX8_takeLetters_21 cw_X8_144 rfl rfl rfl (by decide) (by decide) (Nat.le_of_ble_eq_true rfl) (fun p21 => ?_)
    refine sn_callSI (vs := [aI p21.1]) (cX8_isLetter_ok n p21.1 p21.2) dX8_takeLetters_24 cw_X8_156 rfl (by decide) (by decide) (Nat.le_of_ble_eq_true rfl) (fun p24 => ?_)
    refine sn_if_eq (tgt := 43) dX8_takeLetters_27 (by decide) ?_ ?_
    · exact sn_vret dX8_takeLetters_43
    · refine sn_aload_n dX8_takeLetters_30 rfl ?_
      refine sn_dup dX8_takeLetters_31 rfl ?_
      refine sn_getI (ci := 8) (j := 7) dX8_takeLetters_32 fl_X8_34 rfl (fun x32 => ?_)
      refine sn_iconst dX8_takeLetters_35 ?_
      refine sn_iadd dX8_takeLetters_36 ?_
      refine sn_putI (ci := 8) (j := 7) dX8_takeLetters_37 fl_X8_34 rfl (fun q h => by cases h; rfl) (fun μ37 => ?_)
      refine sn_goto (tgt := 5) dX8_takeLetters_40 (by decide) ?_
      exact hnx5 () μ37
theorem dX8_isDigit_0 : decode cX8_isDigit 0 = .ok (.iload_n 0, 1) := by decide +kernel
theorem dX8_isDigit_1 : decode cX8_isDigit 1 = .ok (.bipush 48, 2) := by decide +kernel
theorem dX8_isDigit_3 : decode cX8_isDigit 3 = .ok (.if_icmp .lt 13, 3) := by decide +kernel
theorem dX8_isDigit_6 : decode cX8_isDigit 6 = .ok (.iload_n 0, 1) := by decide +kernel
theorem dX8_isDigit_7 : decode cX8_isDigit 7 = .ok (.bipush 57, 2) := by decide +kernel
theorem dX8_isDigit_9 : decode cX8_isDigit 9 = .ok (.if_icmp .gt 7, 3) := by decide +kernel
theorem dX8_isDigit_12 : decode cX8_isDigit 12 = .ok (.iconst 1, 1) := by decide +kernel
theorem dX8_isDigit_13 : decode cX8_isDigit 13 = .ok (.goto 4, 3) := by decide +kernel
theorem dX8_isDigit_16 : decode cX8_isDigit 16 = .ok (.iconst 0, 1) := by decide +kernel
theorem dX8_isDigit_17 : decode cX8_isDigit 17 = .ok (.ireturn, 1) := by decide +kernel
def mX8_isDigit (n : Nat) (b1 : Int) (μ : Mem) : Option (Int × Mem) :=
  if lt32 b1 48 then
    retZ 0 μ
  else
  if lt32 57 b1 then
    retZ 0 μ
  else
  retZ 1 μ
set_option maxRecDepth 100000 in
set_option maxHeartbeats 4000000 in
theorem cX8_isDigit_ok (n : Nat) (b1 : Int) (μ : Mem) : Mc yX8_isDigit cX8_isDigit 1 (some .boolean) 0 0 eI [aI b1] μ (mX8_isDigit n b1 μ) := by
  refine mc_of (L0 := [some (aI b1)]) (k := 0) (by decide) rfl rfl (fun X Γ => ?_)
  unfold mX8_isDigit
  refine sn_iload_n dX8_isDigit_0 rfl ?_
  refine sn_bipush dX8_isDigit_1 (by decide) ?_
  refine sn_icmp_lt (tgt := 16) dX8_isDigit_3 (by decide) ?_ ?_
  · refine sn_iconst dX8_isDigit_16 ?_
    exact sn_zret dX8_isDigit_17
  · refine sn_iload_n dX8_isDigit_6 rfl ?_
    refine sn_bipush dX8_isDigit_7 (by decide) ?_
    refine sn_icmp_gt (tgt := 16) dX8_isDigit_9 (by decide) ?_ ?_
    · refine sn_iconst dX8_isDigit_16 ?_
      exact sn_zret dX8_isDigit_17
    · refine sn_iconst dX8_isDigit_12 ?_
      refine sn_goto (tgt := 17) dX8_isDigit_13 (by decide) ?_
      exact sn_zret dX8_isDigit_17
theorem dX8_takeDigits_0 : decode cX8_takeDigits 0 = .ok (.aload_n 0, 1) := by decide +kernel
theorem dX8_takeDigits_1 : decode cX8_takeDigits 1 = .ok (.iconst 0, 1) := by decide +kernel
theorem dX8_takeDigits_2 : decode cX8_takeDigits 2 = .ok (.putfield 116, 3) := by decide +kernel
theorem dX8_takeDigits_5 : decode cX8_takeDigits 5 = .ok (.aload_n 0, 1) := by decide +kernel
theorem dX8_takeDigits_6 : decode cX8_takeDigits 6 = .ok (.getfield 34, 3) := by decide +kernel
theorem dX8_takeDigits_9 : decode cX8_takeDigits 9 = .ok (.aload_n 0, 1) := by decide +kernel
theorem dX8_takeDigits_10 : decode cX8_takeDigits 10 = .ok (.getfield 31, 3) := by decide +kernel
theorem dX8_takeDigits_13 : decode cX8_takeDigits 13 = .ok (.if_icmp .ge 66, 3) := by decide +kernel
theorem dX8_takeDigits_16 : decode cX8_takeDigits 16 = .ok (.aload_n 0, 1) := by decide +kernel
theorem dX8_takeDigits_17 : decode cX8_takeDigits 17 = .ok (.aload_n 0, 1) := by decide +kernel
theorem dX8_takeDigits_18 : decode cX8_takeDigits 18 = .ok (.getfield 34, 3) := by decide +kernel
theorem dX8_takeDigits_21 : decode cX8_takeDigits 21 = .ok (.invokevirtual 144, 3) := by decide +kernel
theorem dX8_takeDigits_24 : decode cX8_takeDigits 24 = .ok (.invokestatic 162, 3) := by decide +kernel
theorem dX8_takeDigits_27 : decode cX8_takeDigits 27 = .ok (.ifCond .eq 52, 3) := by decide +kernel
theorem dX8_takeDigits_30 : decode cX8_takeDigits 30 = .ok (.aload_n 0, 1) := by decide +kernel
theorem dX8_takeDigits_31 : decode cX8_takeDigits 31 = .ok (.getfield 34, 3) := by decide +kernel
theorem dX8_takeDigits_34 : decode cX8_takeDigits 34 = .ok (.aload_n 0, 1) := by decide +kernel
theorem dX8_takeDigits_35 : decode cX8_takeDigits 35 = .ok (.getfield 135, 3) := by decide +kernel
theorem dX8_takeDigits_38 : decode cX8_takeDigits 38 = .ok (.isub, 1) := by decide +kernel
theorem dX8_takeDigits_39 : decode cX8_takeDigits 39 = .ok (.iconst 4, 1) := by decide +kernel
theorem dX8_takeDigits_40 : decode cX8_takeDigits 40 = .ok (.if_icmp .ge 26, 3) := by decide +kernel
theorem dX8_takeDigits_43 : decode cX8_takeDigits 43 = .ok (.aload_n 0, 1) := by decide +kernel
theorem dX8_takeDigits_44 : decode cX8_takeDigits 44 = .ok (.bipush 10, 2) := by decide +kernel
theorem dX8_takeDigits_46 : decode cX8_takeDigits 46 = .ok (.aload_n 0, 1) := by decide +kernel
theorem dX8_takeDigits_47 : decode cX8_takeDigits 47 = .ok (.getfield 116, 3) := by decide +kernel
theorem dX8_takeDigits_50 : decode cX8_takeDigits 50 = .ok (.imul, 1) := by decide +kernel
theorem dX8_takeDigits_51 : decode cX8_takeDigits 51 = .ok (.aload_n 0, 1) := by decide +kernel
theorem dX8_takeDigits_52 : decode cX8_takeDigits 52 = .ok (.aload_n 0, 1) := by decide +kernel
theorem dX8_takeDigits_53 : decode cX8_takeDigits 53 = .ok (.getfield 34, 3) := by decide +kernel
theorem dX8_takeDigits_56 : decode cX8_takeDigits 56 = .ok (.invokevirtual 144, 3) := by decide +kernel
theorem dX8_takeDigits_59 : decode cX8_takeDigits 59 = .ok (.iadd, 1) := by decide +kernel
theorem dX8_takeDigits_60 : decode cX8_takeDigits 60 = .ok (.bipush 48, 2) := by decide +kernel
theorem dX8_takeDigits_62 : decode cX8_takeDigits 62 = .ok (.isub, 1) := by decide +kernel
theorem dX8_takeDigits_63 : decode cX8_takeDigits 63 = .ok (.putfield 116, 3) := by decide +kernel
theorem dX8_takeDigits_66 : decode cX8_takeDigits 66 = .ok (.aload_n 0, 1) := by decide +kernel
theorem dX8_takeDigits_67 : decode cX8_takeDigits 67 = .ok (.dup, 1) := by decide +kernel
theorem dX8_takeDigits_68 : decode cX8_takeDigits 68 = .ok (.getfield 34, 3) := by decide +kernel
theorem dX8_takeDigits_71 : decode cX8_takeDigits 71 = .ok (.iconst 1, 1) := by decide +kernel
theorem dX8_takeDigits_72 : decode cX8_takeDigits 72 = .ok (.iadd, 1) := by decide +kernel
theorem dX8_takeDigits_73 : decode cX8_takeDigits 73 = .ok (.putfield 34, 3) := by decide +kernel
theorem dX8_takeDigits_76 : decode cX8_takeDigits 76 = .ok (.goto (-71), 3) := by decide +kernel
theorem dX8_takeDigits_79 : decode cX8_takeDigits 79 = .ok (.aload_n 0, 1) := by decide +kernel
theorem dX8_takeDigits_80 : decode cX8_takeDigits 80 = .ok (.aload_n 0, 1) := by decide +kernel
theorem dX8_takeDigits_81 : decode cX8_takeDigits 81 = .ok (.getfield 34, 3) := by decide +kernel
theorem dX8_takeDigits_84 : decode cX8_takeDigits 84 = .ok (.aload_n 0, 1) := by decide +kernel
theorem dX8_takeDigits_85 : decode cX8_takeDigits 85 = .ok (.getfield 135, 3) := by decide +kernel
theorem dX8_takeDigits_88 : decode cX8_takeDigits 88 = .ok (.isub, 1) := by decide +kernel
theorem dX8_takeDigits_89 : decode cX8_takeDigits 89 = .ok (.iconst 4, 1) := by decide +kernel
theorem dX8_takeDigits_90 : decode cX8_takeDigits 90 = .ok (.if_icmp .le 7, 3) := by decide +kernel
theorem dX8_takeDigits_93 : decode cX8_takeDigits 93 = .ok (.iconst 4, 1) := by decide +kernel
theorem dX8_takeDigits_94 : decode cX8_takeDigits 94 = .ok (.goto 4, 3) := by decide +kernel
theorem dX8_takeDigits_97 : decode cX8_takeDigits 97 = .ok (.iconst 2, 1) := by decide +kernel
theorem dX8_takeDigits_98 : decode cX8_takeDigits 98 = .ok (.putfield 45, 3) := by decide +kernel
theorem dX8_takeDigits_101 : decode cX8_takeDigits 101 = .ok (.return_, 1) := by decide +kernel
def mX8_takeDigits (n : Nat) (a : Nat) (μ : Mem) : Option (Unit × Mem) :=
  (pI μ 9 a 8 0).bind fun μ2 =>
  lp (fun nx5 (v5 : Unit) (μ5 : Mem) =>
  (gI μ5 9 a 7).bind fun x6 =>
  (gI μ5 9 a 4).bind fun x10 =>
  jn (fun (v79 : Unit) (μ79 : Mem) =>
  (gI μ79 9 a 7).bind fun x81 =>
  (gI μ79 9 a 6).bind fun x85 =>
  jn (fun (v98 : Int) (μ98 : Mem) =>
  (pI μ98 9 a 5 v98).bind fun μ98 =>
  some ((), μ98)) (fun j98 =>
  if lt32 4 (x81 - x85) then
    j98 4 μ79
  else
  j98 2 μ79)) (fun j79 =>
  if lt32 x6 x10 then
    (gI μ5 9 a 7).bind fun x18 =>
    (inv μ5 9 a (mX8_byteAt n a x18 μ5)).bind fun p21 =>
    (mX8_isDigit n p21.1 p21.2).bind fun p24 =>
    if eq32 p24.1 0 then
      j79 () p24.2
    else
    (gI p24.2 9 a 7).bind fun x31 =>
    (gI p24.2 9 a 6).bind fun x35 =>
    jn (fun (v66 : Unit) (μ66 : Mem) =>
    (gI μ66 9 a 7).bind fun x68 =>
    (pI μ66 9 a 7 (x68 + 1)).bind fun μ73 =>
    nx5 () μ73) (fun j66 =>
    if lt32 (x31 - x35) 4 then
      (gI p24.2 9 a 8).bind fun x47 =>
      (gI p24.2 9 a 7).bind fun x53 =>
      (inv p24.2 9 a (mX8_byteAt n a x53 p24.2)).bind fun p56 =>
      (pI p56.2 9 a 8 (((10 * x47) + p56.1) - 48)).bind fun μ63 =>
      j66 () μ63
    else
    j66 () p24.2)
  else
  j79 () μ5)) n () μ2
set_option maxRecDepth 100000 in
set_option maxHeartbeats 4000000 in
theorem cX8_takeDigits_ok (n : Nat) (a : Nat) (μ : Mem) : Mc yX8_takeDigits cX8_takeDigits 1 none 1 21 eV [aA a] μ (mX8_takeDigits n a μ) := by
  refine mc_of (L0 := [some (aA a)]) (k := 0) (by decide) rfl rfl (fun X Γ => ?_)
  unfold mX8_takeDigits
  refine sn_aload_n dX8_takeDigits_0 rfl ?_
  refine sn_iconst dX8_takeDigits_1 ?_
  refine sn_putI (ci := 8) (j := 8) dX8_takeDigits_2 fl_X8_116 rfl (fun q h => by cases h; rfl) (fun μ2 => ?_)
  refine sn_lp (La := fun v5 : Unit => [some (aA a)]) ?_ n () μ2
  intro nx5 hnx5 v5 μ5
  refine sn_aload_n dX8_takeDigits_5 rfl ?_
  refine sn_getI (ci := 8) (j := 7) dX8_takeDigits_6 fl_X8_34 rfl (fun x6 => ?_)
  refine sn_aload_n dX8_takeDigits_9 rfl ?_
  refine sn_getI (ci := 8) (j := 4) dX8_takeDigits_10 fl_X8_31 rfl (fun x10 => ?_)
  refine sn_jn (pcj := 79) (La := fun v79 : Unit => [some (aA a)]) (Sa := fun v79 : Unit => []) ?_ ?_
  · intro v79 μ79
    refine sn_aload_n dX8_takeDigits_79 rfl ?_
    refine sn_aload_n dX8_takeDigits_80 rfl ?_
    refine sn_getI (ci := 8) (j := 7) dX8_takeDigits_81 fl_X8_34 rfl (fun x81 => ?_)
    refine sn_aload_n dX8_takeDigits_84 rfl ?_
    refine sn_getI (ci := 8) (j := 6) dX8_takeDigits_85 fl_X8_135 rfl (fun x85 => ?_)
    refine sn_isub dX8_takeDigits_88 ?_
    refine sn_iconst dX8_takeDigits_89 ?_
    refine sn_jn (pcj := 98) (La := fun v98 : Int => [none]) (Sa := fun v98 : Int => [aI v98, aA a]) ?_ ?_
    · intro v98 μ98
      refine sn_putI (ci := 8) (j := 5) dX8_takeDigits_98 fl_X8_45 rfl (fun q h => by cases h; rfl) (fun μ98 => ?_)
      exact sn_vret dX8_takeDigits_101
    intro j98 hj98
    refine sn_icmp_le (tgt := 97) dX8_takeDigits_90 (by decide) ?_ ?_
    · refine sn_iconst dX8_takeDigits_97 ?_
      exact sn_mask (L' := [none]) [false] rfl (hj98 2 μ79)
    · refine sn_iconst dX8_takeDigits_93 ?_
      refine sn_goto (tgt := 98) dX8_takeDigits_94 (by decide) ?_
      exact sn_mask (L' := [none]) [false] rfl (hj98 4 μ79)
  intro j79 hj79
  refine sn_icmp_ge (tgt := 79) dX8_takeDigits_13 (by decide) ?_ ?_
  · exact hj79 () μ5
  · refine sn_aload_n dX8_takeDigits_16 rfl ?_
    refine sn_aload_n dX8_takeDigits_17 rfl ?_
    refine sn_getI (ci := 8) (j := 7) dX8_takeDigits_18 fl_X8_34 rfl (fun x18 => ?_)
    refine sn_callVI (vs := [aI x18]) (ci := 8) (cX8_byteAt_ok n a x18 μ5) dX8_takeDigits_21 cw_X8_144 rfl rfl rfl (by decide) (by decide) (Nat.le_of_ble_eq_true rfl) (fun p21 => ?_)
    refine sn_callSI (vs := [aI p21.1]) (cX8_isDigit_ok n p21.1 p21.2) dX8_takeDigits_24 cw_X8_162 rfl (by decide) (by decide) (Nat.le_of_ble_eq_true rfl) (fun p24 => ?_)
    refine sn_if_eq (tgt := 79) dX8_takeDigits_27 (by decide) ?_ ?_
    · exact hj79 () p24.2
    · refine sn_aload_n dX8_takeDigits_30 rfl ?_
      refine sn_getI (ci := 8) (j := 7) dX8_takeDigits_31 fl_X8_34 rfl (fun x31 => ?_)
      refine sn_aload_n dX8_takeDigits_34 rfl ?_
      refine sn_getI (ci := 8) (j := 6) dX8_takeDigits_35 fl_X8_135 rfl (fun x35 => ?_)
      refine sn_isub dX8_takeDigits_38 ?_
      refine sn_iconst dX8_takeDigits_39 ?_
      refine sn_jn (pcj := 66) (La := fun v66 : Unit => [some (aA a)]) (Sa := fun v66 : Unit => []) ?_ ?_
      · intro v66 μ66
        refine sn_aload_n dX8_takeDigits_66 rfl ?_
        refine sn_dup dX8_takeDigits_67 rfl ?_
        refine sn_getI (ci := 8) (j := 7) dX8_takeDigits_68 fl_X8_34 rfl (fun x68 => ?_)
        refine sn_iconst dX8_takeDigits_71 ?_
        refine sn_iadd dX8_takeDigits_72 ?_
        refine sn_putI (ci := 8) (j := 7) dX8_takeDigits_73 fl_X8_34 rfl (fun q h => by cases h; rfl) (fun μ73 => ?_)
        refine sn_goto (tgt := 5) dX8_takeDigits_76 (by decide) ?_
        exact hnx5 () μ73
      intro j66 hj66
      refine sn_icmp_ge (tgt := 66) dX8_takeDigits_40 (by decide) ?_ ?_
      · exact hj66 () p24.2
      · refine sn_aload_n dX8_takeDigits_43 rfl ?_
        refine sn_bipush dX8_takeDigits_44 (by decide) ?_
        refine sn_aload_n dX8_takeDigits_46 rfl ?_
        refine sn_getI (ci := 8) (j := 8) dX8_takeDigits_47 fl_X8_116 rfl (fun x47 => ?_)
        refine sn_imul dX8_takeDigits_50 ?_
        refine sn_aload_n dX8_takeDigits_51 rfl ?_
        refine sn_aload_n dX8_takeDigits_52 rfl ?_
        refine sn_getI (ci := 8) (j := 7) dX8_takeDigits_53 fl_X8_34 rfl (fun x53 => ?_)
        refine sn_callVI (vs := [aI x53]) (ci := 8) (cX8_byteAt_ok n a x53 p24.2) dX8_takeDigits_56 cw_X8_144 rfl rfl rfl (by decide) (by decide) (Nat.le_of_ble_eq_true rfl) (fun p56 => ?_)
        refine sn_iadd dX8_takeDigits_59 ?_
        refine sn_bipush dX8_takeDigits_60 (by decide) ?_
        refine sn_isub dX8_takeDigits_62 ?_
        refine sn_putI (ci := 8) (j := 8) dX8_takeDigits_63 fl_X8_116 rfl (fun q h => by cases h; rfl) (fun μ63 => ?_)
        exact hj66 () μ63
theorem dX8_advance_0 : decode cX8_advance 0 = .ok (.aload_n 0, 1) := by decide +kernel
theorem dX8_advance_1 : decode cX8_advance 1 = .ok (.aload_n 0, 1) := by decide +kernel
theorem dX8_advance_2 : decode cX8_advance 2 = .ok (.getfield 34, 3) := by decide +kernel
theorem dX8_advance_5 : decode cX8_advance 5 = .ok (.putfield 135, 3) := by decide +kernel
theorem dX8_advance_8 : decode cX8_advance 8 = .ok (.aload_n 0, 1) := by decide +kernel
theorem dX8_advance_9 : decode cX8_advance 9 = .ok (.getfield 135, 3) := by decide +kernel
theorem dX8_advance_12 : decode cX8_advance 12 = .ok (.aload_n 0, 1) := by decide +kernel
theorem dX8_advance_13 : decode cX8_advance 13 = .ok (.getfield 31, 3) := by decide +kernel
theorem dX8_advance_16 : decode cX8_advance 16 = .ok (.if_icmp .ge 30, 3) := by decide +kernel
theorem dX8_advance_19 : decode cX8_advance 19 = .ok (.aload_n 0, 1) := by decide +kernel
theorem dX8_advance_20 : decode cX8_advance 20 = .ok (.aload_n 0, 1) := by decide +kernel
theorem dX8_advance_21 : decode cX8_advance 21 = .ok (.getfield 135, 3) := by decide +kernel
theorem dX8_advance_24 : decode cX8_advance 24 = .ok (.invokevirtual 144, 3) := by decide +kernel
theorem dX8_advance_27 : decode cX8_advance 27 = .ok (.invokestatic 152, 3) := by decide +kernel
theorem dX8_advance_30 : decode cX8_advance 30 = .ok (.ifCond .eq 16, 3) := by decide +kernel
theorem dX8_advance_33 : decode cX8_advance 33 = .ok (.aload_n 0, 1) := by decide +kernel
theorem dX8_advance_34 : decode cX8_advance 34 = .ok (.dup, 1) := by decide +kernel
theorem dX8_advance_35 : decode cX8_advance 35 = .ok (.getfield 135, 3) := by decide +kernel
theorem dX8_advance_38 : decode cX8_advance 38 = .ok (.iconst 1, 1) := by decide +kernel
theorem dX8_advance_39 : decode cX8_advance 39 = .ok (.iadd, 1) := by decide +kernel
theorem dX8_advance_40 : decode cX8_advance 40 = .ok (.putfield 135, 3) := by decide +kernel
theorem dX8_advance_43 : decode cX8_advance 43 = .ok (.goto (-35), 3) := by decide +kernel
theorem dX8_advance_46 : decode cX8_advance 46 = .ok (.aload_n 0, 1) := by decide +kernel
theorem dX8_advance_47 : decode cX8_advance 47 = .ok (.aload_n 0, 1) := by decide +kernel
theorem dX8_advance_48 : decode cX8_advance 48 = .ok (.getfield 135, 3) := by decide +kernel
theorem dX8_advance_51 : decode cX8_advance 51 = .ok (.putfield 34, 3) := by decide +kernel
theorem dX8_advance_54 : decode cX8_advance 54 = .ok (.aload_n 0, 1) := by decide +kernel
theorem dX8_advance_55 : decode cX8_advance 55 = .ok (.getfield 135, 3) := by decide +kernel
theorem dX8_advance_58 : decode cX8_advance 58 = .ok (.aload_n 0, 1) := by decide +kernel
theorem dX8_advance_59 : decode cX8_advance 59 = .ok (.getfield 31, 3) := by decide +kernel
theorem dX8_advance_62 : decode cX8_advance 62 = .ok (.if_icmp .lt 11, 3) := by decide +kernel
theorem dX8_advance_65 : decode cX8_advance 65 = .ok (.aload_n 0, 1) := by decide +kernel
theorem dX8_advance_66 : decode cX8_advance 66 = .ok (.iconst 0, 1) := by decide +kernel
theorem dX8_advance_67 : decode cX8_advance 67 = .ok (.putfield 45, 3) := by decide +kernel
theorem dX8_advance_70 : decode cX8_advance 70 = .ok (.goto 77, 3) := by decide +kernel
theorem dX8_advance_73 : decode cX8_advance 73 = .ok (.aload_n 0, 1) := by decide +kernel
theorem dX8_advance_74 : decode cX8_advance 74 = .ok (.aload_n 0, 1) := by decide +kernel
theorem dX8_advance_75 : decode cX8_advance 75 = .ok (.getfield 135, 3) := by decide +kernel
theorem dX8_advance_78 : decode cX8_advance 78 = .ok (.invokevirtual 144, 3) := by decide +kernel
theorem dX8_advance_81 : decode cX8_advance 81 = .ok (.invokestatic 156, 3) := by decide +kernel
theorem dX8_advance_84 : decode cX8_advance 84 = .ok (.ifCond .eq 10, 3) := by decide +kernel
theorem dX8_advance_87 : decode cX8_advance 87 = .ok (.aload_n 0, 1) := by decide +kernel
theorem dX8_advance_88 : decode cX8_advance 88 = .ok (.invokevirtual 159, 3) := by decide +kernel
theorem dX8_advance_91 : decode cX8_advance 91 = .ok (.goto 56, 3) := by decide +kernel
theorem dX8_advance_94 : decode cX8_advance 94 = .ok (.aload_n 0, 1) := by decide +kernel
theorem dX8_advance_95 : decode cX8_advance 95 = .ok (.aload_n 0, 1) := by decide +kernel
theorem dX8_advance_96 : decode cX8_advance 96 = .ok (.getfield 135, 3) := by decide +kernel
theorem dX8_advance_99 : decode cX8_advance 99 = .ok (.invokevirtual 144, 3) := by decide +kernel
theorem dX8_advance_102 : decode cX8_advance 102 = .ok (.invokestatic 162, 3) := by decide +kernel
theorem dX8_advance_105 : decode cX8_advance 105 = .ok (.ifCond .eq 10, 3) := by decide +kernel
theorem dX8_advance_108 : decode cX8_advance 108 = .ok (.aload_n 0, 1) := by decide +kernel
theorem dX8_advance_109 : decode cX8_advance 109 = .ok (.invokevirtual 165, 3) := by decide +kernel
theorem dX8_advance_112 : decode cX8_advance 112 = .ok (.goto 35, 3) := by decide +kernel
theorem dX8_advance_115 : decode cX8_advance 115 = .ok (.aload_n 0, 1) := by decide +kernel
theorem dX8_advance_116 : decode cX8_advance 116 = .ok (.aload_n 0, 1) := by decide +kernel
theorem dX8_advance_117 : decode cX8_advance 117 = .ok (.aload_n 0, 1) := by decide +kernel
theorem dX8_advance_118 : decode cX8_advance 118 = .ok (.getfield 135, 3) := by decide +kernel
theorem dX8_advance_121 : decode cX8_advance 121 = .ok (.invokevirtual 144, 3) := by decide +kernel
theorem dX8_advance_124 : decode cX8_advance 124 = .ok (.bipush 59, 2) := by decide +kernel
theorem dX8_advance_126 : decode cX8_advance 126 = .ok (.if_icmp .ne 7, 3) := by decide +kernel
theorem dX8_advance_129 : decode cX8_advance 129 = .ok (.iconst 3, 1) := by decide +kernel
theorem dX8_advance_130 : decode cX8_advance 130 = .ok (.goto 4, 3) := by decide +kernel
theorem dX8_advance_133 : decode cX8_advance 133 = .ok (.iconst 4, 1) := by decide +kernel
theorem dX8_advance_134 : decode cX8_advance 134 = .ok (.putfield 45, 3) := by decide +kernel
theorem dX8_advance_137 : decode cX8_advance 137 = .ok (.aload_n 0, 1) := by decide +kernel
theorem dX8_advance_138 : decode cX8_advance 138 = .ok (.aload_n 0, 1) := by decide +kernel
theorem dX8_advance_139 : decode cX8_advance 139 = .ok (.getfield 135, 3) := by decide +kernel
theorem dX8_advance_142 : decode cX8_advance 142 = .ok (.iconst 1, 1) := by decide +kernel
theorem dX8_advance_143 : decode cX8_advance 143 = .ok (.iadd, 1) := by decide +kernel
theorem dX8_advance_144 : decode cX8_advance 144 = .ok (.putfield 34, 3) := by decide +kernel
theorem dX8_advance_147 : decode cX8_advance 147 = .ok (.return_, 1) := by decide +kernel
def mX8_advance (n : Nat) (a : Nat) (μ : Mem) : Option (Unit × Mem) :=
  (gI μ 9 a 7).bind fun x2 =>
  (pI μ 9 a 6 x2).bind fun μ5 =>
  lp (fun nx8 (v8 : Unit) (μ8 : Mem) =>
  (gI μ8 9 a 6).bind fun x9 =>
  (gI μ8 9 a 4).bind fun x13 =>
  jn (fun (v46 : Unit) (μ46 : Mem) =>
  (gI μ46 9 a 6).bind fun x48 =>
  (pI μ46 9 a 7 x48).bind fun μ51 =>
  (gI μ51 9 a 6).bind fun x55 =>
  (gI μ51 9 a 4).bind fun x59 =>
  if lt32 x55 x59 then
    (gI μ51 9 a 6).bind fun x75 =>
    (inv μ51 9 a (mX8_byteAt n a x75 μ51)).bind fun p78 =>
    (mX8_isLetter n p78.1 p78.2).bind fun p81 =>
    if eq32 p81.1 0 then
      (gI p81.2 9 a 6).bind fun x96 =>
      (inv p81.2 9 a (mX8_byteAt n a x96 p81.2)).bind fun p99 =>
      (mX8_isDigit n p99.1 p99.2).bind fun p102 =>
      if eq32 p102.1 0 then
        (gI p102.2 9 a 6).bind fun x118 =>
        (inv p102.2 9 a (mX8_byteAt n a x118 p102.2)).bind fun p121 =>
        jn (fun (v134 : Int) (μ134 : Mem) =>
        (pI μ134 9 a 5 v134).bind fun μ134 =>
        (gI μ134 9 a 6).bind fun x139 =>
        (pI μ134 9 a 7 (x139 + 1)).bind fun μ144 =>
        some ((), μ144)) (fun j134 =>
        if eq32 p121.1 59 then
          j134 3 p121.2
        else
        j134 4 p121.2)
      else
      (inv p102.2 9 a (mX8_takeDigits n a p102.2)).bind fun p109 =>
      some ((), p109.2)
    else
    (inv p81.2 9 a (mX8_takeLetters n a p81.2)).bind fun p88 =>
    some ((), p88.2)
  else
  (pI μ51 9 a 5 0).bind fun μ67 =>
  some ((), μ67)) (fun j46 =>
  if lt32 x9 x13 then
    (gI μ8 9 a 6).bind fun x21 =>
    (inv μ8 9 a (mX8_byteAt n a x21 μ8)).bind fun p24 =>
    (mX8_isBlank n p24.1 p24.2).bind fun p27 =>
    if eq32 p27.1 0 then
      j46 () p27.2
    else
    (gI p27.2 9 a 6).bind fun x35 =>
    (pI p27.2 9 a 6 (x35 + 1)).bind fun μ40 =>
    nx8 () μ40
  else
  j46 () μ8)) n () μ5
set_option maxRecDepth 100000 in
set_option maxHeartbeats 4000000 in
theorem cX8_advance_ok (n : Nat) (a : Nat) (μ : Mem) : Mc yX8_advance cX8_advance 1 none 2 41 eV [aA a] μ (mX8_advance n a μ) := by
  refine mc_of (L0 := [some (aA a)]) (k := 0) (by decide) rfl rfl (fun X Γ => ?_)
  unfold mX8_advance
  refine sn_aload_n dX8_advance_0 rfl ?_
  refine sn_aload_n dX8_advance_1 rfl ?_
  refine sn_getI (ci := 8) (j := 7) dX8_advance_2 fl_X8_34 rfl (fun x2 => ?_)
  refine sn_putI (ci := 8) (j := 6) dX8_advance_5 fl_X8_135 rfl (fun q h => by cases h; rfl) (fun μ5 => ?_)
  refine sn_lp (La := fun v8 : Unit => [some (aA a)]) ?_ n () μ5
  intro nx8 hnx8 v8 μ8
  refine sn_aload_n dX8_advance_8 rfl ?_
  refine sn_getI (ci := 8) (j := 6) dX8_advance_9 fl_X8_135 rfl (fun x9 => ?_)
  refine sn_aload_n dX8_advance_12 rfl ?_
  refine sn_getI (ci := 8) (j := 4) dX8_advance_13 fl_X8_31 rfl (fun x13 => ?_)
  refine sn_jn (pcj := 46) (La := fun v46 : Unit => [some (aA a)]) (Sa := fun v46 : Unit => []) ?_ ?_
  · intro v46 μ46
    refine sn_aload_n dX8_advance_46 rfl ?_
    refine sn_aload_n dX8_advance_47 rfl ?_
    refine sn_getI (ci := 8) (j := 6) dX8_advance_48 fl_X8_135 rfl (fun x48 => ?_)
    refine sn_putI (ci := 8) (j := 7) dX8_advance_51 fl_X8_34 rfl (fun q h => by cases h; rfl) (fun μ51 => ?_)
    refine sn_aload_n dX8_advance_54 rfl ?_
    refine sn_getI (ci := 8) (j := 6) dX8_advance_55 fl_X8_135 rfl (fun x55 => ?_)
    refine sn_aload_n dX8_advance_58 rfl ?_
    refine sn_getI (ci := 8) (j := 4) dX8_advance_59 fl_X8_31 rfl (fun x59 => ?_)
    refine sn_icmp_lt (tgt := 73) dX8_advance_62 (by decide) ?_ ?_
    · refine sn_aload_n dX8_advance_73 rfl ?_
      refine sn_aload_n dX8_advance_74 rfl ?_
      refine sn_getI (ci := 8) (j := 6) dX8_advance_75 fl_X8_135 rfl (fun x75 => ?_)
      refine sn_callVI (vs := [aI x75]) (ci := 8) (cX8_byteAt_ok n a x75 μ51) dX8_advance_78 cw_X8_144 rfl rfl rfl (by decide) (by decide) (Nat.le_of_ble_eq_true rfl) (fun p78 => ?_)
      refine sn_callSI (vs := [aI p78.1]) (cX8_isLetter_ok n p78.1 p78.2) dX8_advance_81 cw_X8_156 rfl (by decide) (by decide) (Nat.le_of_ble_eq_true rfl) (fun p81 => ?_)
      refine sn_if_eq (tgt := 94) dX8_advance_84 (by decide) ?_ ?_
      · refine sn_aload_n dX8_advance_94 rfl ?_
        refine sn_aload_n dX8_advance_95 rfl ?_
        refine sn_getI (ci := 8) (j := 6) dX8_advance_96 fl_X8_135 rfl (fun x96 => ?_)
        refine sn_callVI (vs := [aI x96]) (ci := 8) (cX8_byteAt_ok n a x96 p81.2) dX8_advance_99 cw_X8_144 rfl rfl rfl (by decide) (by decide) (Nat.le_of_ble_eq_true rfl) (fun p99 => ?_)
        refine sn_callSI (vs := [aI p99.1]) (cX8_isDigit_ok n p99.1 p99.2) dX8_advance_102 cw_X8_162 rfl (by decide) (by decide) (Nat.le_of_ble_eq_true rfl) (fun p102 => ?_)
        refine sn_if_eq (tgt := 115) dX8_advance_105 (by decide) ?_ ?_
        · refine sn_aload_n dX8_advance_115 rfl ?_
          refine sn_aload_n dX8_advance_116 rfl ?_
          refine sn_aload_n dX8_advance_117 rfl ?_
          refine sn_getI (ci := 8) (j := 6) dX8_advance_118 fl_X8_135 rfl (fun x118 => ?_)
          refine sn_callVI (vs := [aI x118]) (ci := 8) (cX8_byteAt_ok n a x118 p102.2) dX8_advance_121 cw_X8_144 rfl rfl rfl (by decide) (by decide) (Nat.le_of_ble_eq_true rfl) (fun p121 => ?_)
          refine sn_bipush dX8_advance_124 (by decide) ?_
          refine sn_jn (pcj := 134) (La := fun v134 : Int => [some (aA a)]) (Sa := fun v134 : Int => [aI v134, aA a]) ?_ ?_
          · intro v134 μ134
            refine sn_putI (ci := 8) (j := 5) dX8_advance_134 fl_X8_45 rfl (fun q h => by cases h; rfl) (fun μ134 => ?_)
            refine sn_aload_n dX8_advance_137 rfl ?_
            refine sn_aload_n dX8_advance_138 rfl ?_
            refine sn_getI (ci := 8) (j := 6) dX8_advance_139 fl_X8_135 rfl (fun x139 => ?_)
            refine sn_iconst dX8_advance_142 ?_
            refine sn_iadd dX8_advance_143 ?_
            refine sn_putI (ci := 8) (j := 7) dX8_advance_144 fl_X8_34 rfl (fun q h => by cases h; rfl) (fun μ144 => ?_)
            exact sn_vret dX8_advance_147
          intro j134 hj134
          refine sn_icmp_ne (tgt := 133) dX8_advance_126 (by decide) ?_ ?_
          · refine sn_iconst dX8_advance_133 ?_
            exact hj134 4 p121.2
          · refine sn_iconst dX8_advance_129 ?_
            refine sn_goto (tgt := 134) dX8_advance_130 (by decide) ?_
            exact hj134 3 p121.2
        · refine sn_aload_n dX8_advance_108 rfl ?_
          refine sn_callVV (vs := []) (ci := 8) (cX8_takeDigits_ok n a p102.2) dX8_advance_109 cw_X8_165 rfl rfl rfl (by decide) (by decide) (Nat.le_of_ble_eq_true rfl) (fun p109 => ?_)
          refine sn_goto (tgt := 147) dX8_advance_112 (by decide) ?_
          exact sn_vret dX8_advance_147
      · refine sn_aload_n dX8_advance_87 rfl ?_
        refine sn_callVV (vs := []) (ci := 8) (cX8_takeLetters_ok n a p81.2) dX8_advance_88 cw_X8_159 rfl rfl rfl (by decide) (by decide) (Nat.le_of_ble_eq_true rfl) (fun p88 => ?_)
        refine sn_goto (tgt := 147) dX8_advance_91 (by decide) ?_
        exact sn_vret dX8_advance_147
    · refine sn_aload_n dX8_advance_65 rfl ?_
      refine sn_iconst dX8_advance_66 ?_
      refine sn_putI (ci := 8) (j := 5) dX8_advance_67 fl_X8_45 rfl (fun q h => by cases h; rfl) (fun μ67 => ?_)
      refine sn_goto (tgt := 147) dX8_advance_70 (by decide) ?_
      exact sn_vret dX8_advance_147
  intro j46 hj46
  refine sn_icmp_ge (tgt := 46) dX8_advance_16 (by decide) ?_ ?_
  · exact hj46 () μ8
  · refine sn_aload_n dX8_advance_19 rfl ?_
    refine sn_aload_n dX8_advance_20 rfl ?_
    refine sn_getI (ci := 8) (j := 6) dX8_advance_21 fl_X8_135 rfl (fun x21 => ?_)
    refine sn_callVI (vs := [aI x21]) (ci := 8) (cX8_byteAt_ok n a x21 μ8) dX8_advance_24 cw_X8_144 rfl rfl rfl (by decide) (by decide) (Nat.le_of_ble_eq_true rfl) (fun p24 => ?_)
    refine sn_callSI (vs := [aI p24.1]) (cX8_isBlank_ok n p24.1 p24.2) dX8_advance_27 cw_X8_152 rfl (by decide) (by decide) (Nat.le_of_ble_eq_true rfl) (fun p27 => ?_)
    refine sn_if_eq (tgt := 46) dX8_advance_30 (by decide) ?_ ?_
    · exact hj46 () p27.2
    · refine sn_aload_n dX8_advance_33 rfl ?_
      refine sn_dup dX8_advance_34 rfl ?_
      refine sn_getI (ci := 8) (j := 6) dX8_advance_35 fl_X8_135 rfl (fun x35 => ?_)
      refine sn_iconst dX8_advance_38 ?_
      refine sn_iadd dX8_advance_39 ?_
      refine sn_putI (ci := 8) (j := 6) dX8_advance_40 fl_X8_135 rfl (fun q h => by cases h; rfl) (fun μ40 => ?_)
      refine sn_goto (tgt := 8) dX8_advance_43 (by decide) ?_
      exact hnx8 () μ40
theorem dX8_isWord_0 : decode cX8_isWord 0 = .ok (.aload_n 0, 1) := by decide +kernel
theorem dX8_isWord_1 : decode cX8_isWord 1 = .ok (.getfield 45, 3) := by decide +kernel
theorem dX8_isWord_4 : decode cX8_isWord 4 = .ok (.iconst 1, 1) := by decide +kernel
theorem dX8_isWord_5 : decode cX8_isWord 5 = .ok (.if_icmp .ne 19, 3) := by decide +kernel
theorem dX8_isWord_8 : decode cX8_isWord 8 = .ok (.aload_n 0, 1) := by decide +kernel
theorem dX8_isWord_9 : decode cX8_isWord 9 = .ok (.getfield 34, 3) := by decide +kernel
theorem dX8_isWord_12 : decode cX8_isWord 12 = .ok (.aload_n 0, 1) := by decide +kernel
theorem dX8_isWord_13 : decode cX8_isWord 13 = .ok (.getfield 135, 3) := by decide +kernel
theorem dX8_isWord_16 : decode cX8_isWord 16 = .ok (.isub, 1) := by decide +kernel
theorem dX8_isWord_17 : decode cX8_isWord 17 = .ok (.aload_n 1, 1) := by decide +kernel
theorem dX8_isWord_18 : decode cX8_isWord 18 = .ok (.invokevirtual 138, 3) := by decide +kernel
theorem dX8_isWord_21 : decode cX8_isWord 21 = .ok (.if_icmp .eq 5, 3) := by decide +kernel
theorem dX8_isWord_24 : decode cX8_isWord 24 = .ok (.iconst 0, 1) := by decide +kernel
theorem dX8_isWord_25 : decode cX8_isWord 25 = .ok (.ireturn, 1) := by decide +kernel
theorem dX8_isWord_26 : decode cX8_isWord 26 = .ok (.iconst 0, 1) := by decide +kernel
theorem dX8_isWord_27 : decode cX8_isWord 27 = .ok (.istore_n 2, 1) := by decide +kernel
theorem dX8_isWord_28 : decode cX8_isWord 28 = .ok (.iload_n 2, 1) := by decide +kernel
theorem dX8_isWord_29 : decode cX8_isWord 29 = .ok (.aload_n 1, 1) := by decide +kernel
theorem dX8_isWord_30 : decode cX8_isWord 30 = .ok (.invokevirtual 138, 3) := by decide +kernel
theorem dX8_isWord_33 : decode cX8_isWord 33 = .ok (.if_icmp .ge 29, 3) := by decide +kernel
theorem dX8_isWord_36 : decode cX8_isWord 36 = .ok (.aload_n 0, 1) := by decide +kernel
theorem dX8_isWord_37 : decode cX8_isWord 37 = .ok (.aload_n 0, 1) := by decide +kernel
theorem dX8_isWord_38 : decode cX8_isWord 38 = .ok (.getfield 135, 3) := by decide +kernel
theorem dX8_isWord_41 : decode cX8_isWord 41 = .ok (.iload_n 2, 1) := by decide +kernel
theorem dX8_isWord_42 : decode cX8_isWord 42 = .ok (.iadd, 1) := by decide +kernel
theorem dX8_isWord_43 : decode cX8_isWord 43 = .ok (.invokevirtual 144, 3) := by decide +kernel
theorem dX8_isWord_46 : decode cX8_isWord 46 = .ok (.aload_n 1, 1) := by decide +kernel
theorem dX8_isWord_47 : decode cX8_isWord 47 = .ok (.iload_n 2, 1) := by decide +kernel
theorem dX8_isWord_48 : decode cX8_isWord 48 = .ok (.invokevirtual 148, 3) := by decide +kernel
theorem dX8_isWord_51 : decode cX8_isWord 51 = .ok (.if_icmp .eq 5, 3) := by decide +kernel
theorem dX8_isWord_54 : decode cX8_isWord 54 = .ok (.iconst 0, 1) := by decide +kernel
theorem dX8_isWord_55 : decode cX8_isWord 55 = .ok (.ireturn, 1) := by decide +kernel
theorem dX8_isWord_56 : decode cX8_isWord 56 = .ok (.iinc 2 1, 3) := by decide +kernel
theorem dX8_isWord_59 : decode cX8_isWord 59 = .ok (.goto (-31), 3) := by decide +kernel
theorem dX8_isWord_62 : decode cX8_isWord 62 = .ok (.iconst 1, 1) := by decide +kernel
theorem dX8_isWord_63 : decode cX8_isWord 63 = .ok (.ireturn, 1) := by decide +kernel
def mX8_isWord (n : Nat) (a : Nat) (b1 : Nat) (μ : Mem) : Option (Int × Mem) :=
  (gI μ 9 a 5).bind fun x1 =>
  if eq32 x1 1 then
    (gI μ 9 a 7).bind fun x9 =>
    (gI μ 9 a 6).bind fun x13 =>
    (tInv μ b1 (mJ0_length_8abf5 n b1 μ)).bind fun p18 =>
    if eq32 (x9 - x13) p18.1 then
      lp (fun nx28 (v28 : Int) (μ28 : Mem) =>
      (tInv μ28 b1 (mJ0_length_8abf5 n b1 μ28)).bind fun p30 =>
      if lt32 v28 p30.1 then
        (gI p30.2 9 a 6).bind fun x38 =>
        (inv p30.2 9 a (mX8_byteAt n a (x38 + v28) p30.2)).bind fun p43 =>
        (tInv p43.2 b1 (mJ0_charAt_5068e n b1 v28 p43.2)).bind fun p48 =>
        if eq32 p43.1 p48.1 then
          nx28 (v28 + 1) p48.2
        else
        retZ 0 p48.2
      else
      retZ 1 p30.2) n 0 p18.2
    else
    retZ 0 p18.2
  else
  retZ 0 μ
set_option maxRecDepth 100000 in
set_option maxHeartbeats 4000000 in
theorem cX8_isWord_ok (n : Nat) (a : Nat) (b1 : Nat) (μ : Mem) : Mc yX8_isWord cX8_isWord 3 (some .boolean) 4 85 eI [aA a, aA b1] μ (mX8_isWord n a b1 μ) := by
  refine mc_of (L0 := [some (aA a), some (aA b1), none]) (k := 1) (by decide) rfl rfl (fun X Γ => ?_)
  unfold mX8_isWord
  refine sn_aload_n dX8_isWord_0 rfl ?_
  refine sn_getI (ci := 8) (j := 5) dX8_isWord_1 fl_X8_45 rfl (fun x1 => ?_)
  refine sn_iconst dX8_isWord_4 ?_
  refine sn_icmp_ne (tgt := 24) dX8_isWord_5 (by decide) ?_ ?_
  · refine sn_iconst dX8_isWord_24 ?_
    exact sn_zret dX8_isWord_25
  · refine sn_aload_n dX8_isWord_8 rfl ?_
    refine sn_getI (ci := 8) (j := 7) dX8_isWord_9 fl_X8_34 rfl (fun x9 => ?_)
    refine sn_aload_n dX8_isWord_12 rfl ?_
    refine sn_getI (ci := 8) (j := 6) dX8_isWord_13 fl_X8_135 rfl (fun x13 => ?_)
    refine sn_isub dX8_isWord_16 ?_
    refine sn_aload_n dX8_isWord_17 rfl ?_
    refine sn_callT (vs := []) (cJ0_length_8abf5_ok n b1 μ) dX8_isWord_18 cw_X8_138 rfl rfl (by decide) (by decide) (Nat.le_of_ble_eq_true rfl) (fun p18 => ?_)
    refine sn_icmp_eq (tgt := 26) dX8_isWord_21 (by decide) ?_ ?_
    · refine sn_iconst dX8_isWord_26 ?_
      refine sn_istore_n (L' := [some (aA a), some (aA b1), some (aI 0)]) dX8_isWord_27 (by decide) rfl ?_
      refine sn_lp (La := fun v28 : Int => [some (aA a), some (aA b1), some (aI v28)]) ?_ n 0 p18.2
      intro nx28 hnx28 v28 μ28
      refine sn_iload_n dX8_isWord_28 rfl ?_
      refine sn_aload_n dX8_isWord_29 rfl ?_
      refine sn_callT (vs := []) (cJ0_length_8abf5_ok n b1 μ28) dX8_isWord_30 cw_X8_138 rfl rfl (by decide) (by decide) (Nat.le_of_ble_eq_true rfl) (fun p30 => ?_)
      refine sn_icmp_ge (tgt := 62) dX8_isWord_33 (by decide) ?_ ?_
      · refine sn_iconst dX8_isWord_62 ?_
        exact sn_zret dX8_isWord_63
      · refine sn_aload_n dX8_isWord_36 rfl ?_
        refine sn_aload_n dX8_isWord_37 rfl ?_
        refine sn_getI (ci := 8) (j := 6) dX8_isWord_38 fl_X8_135 rfl (fun x38 => ?_)
        refine sn_iload_n dX8_isWord_41 rfl ?_
        refine sn_iadd dX8_isWord_42 ?_
        refine sn_callVI (vs := [aI (x38 + v28)]) (ci := 8) (cX8_byteAt_ok n a (x38 + v28) p30.2) dX8_isWord_43 cw_X8_144 rfl rfl rfl (by decide) (by decide) (Nat.le_of_ble_eq_true rfl) (fun p43 => ?_)
        refine sn_aload_n dX8_isWord_46 rfl ?_
        refine sn_iload_n dX8_isWord_47 rfl ?_
        refine sn_callT (vs := [aI v28]) (cJ0_charAt_5068e_ok n b1 v28 p43.2) dX8_isWord_48 cw_X8_148 rfl rfl (by decide) (by decide) (Nat.le_of_ble_eq_true rfl) (fun p48 => ?_)
        refine sn_icmp_eq (tgt := 56) dX8_isWord_51 (by decide) ?_ ?_
        · refine sn_iinc (L' := [some (aA a), some (aA b1), some (aI (v28 + 1))]) dX8_isWord_56 rfl (by decide) rfl ?_
          refine sn_goto (tgt := 28) dX8_isWord_59 (by decide) ?_
          exact hnx28 (v28 + 1) p48.2
        · refine sn_iconst dX8_isWord_54 ?_
          exact sn_zret dX8_isWord_55
    · refine sn_iconst dX8_isWord_24 ?_
      exact sn_zret dX8_isWord_25
theorem dX8_tellFault_0 : decode cX8_tellFault 0 = .ok (.aload_n 0, 1) := by decide +kernel
theorem dX8_tellFault_1 : decode cX8_tellFault 1 = .ok (.getfield 22, 3) := by decide +kernel
theorem dX8_tellFault_4 : decode cX8_tellFault 4 = .ok (.ifCond .ne 16, 3) := by decide +kernel
theorem dX8_tellFault_7 : decode cX8_tellFault 7 = .ok (.aload_n 0, 1) := by decide +kernel
theorem dX8_tellFault_8 : decode cX8_tellFault 8 = .ok (.iload_n 1, 1) := by decide +kernel
theorem dX8_tellFault_9 : decode cX8_tellFault 9 = .ok (.putfield 22, 3) := by decide +kernel
theorem dX8_tellFault_12 : decode cX8_tellFault 12 = .ok (.aload_n 0, 1) := by decide +kernel
theorem dX8_tellFault_13 : decode cX8_tellFault 13 = .ok (.aload_n 0, 1) := by decide +kernel
theorem dX8_tellFault_14 : decode cX8_tellFault 14 = .ok (.getfield 135, 3) := by decide +kernel
theorem dX8_tellFault_17 : decode cX8_tellFault 17 = .ok (.putfield 9, 3) := by decide +kernel
theorem dX8_tellFault_20 : decode cX8_tellFault 20 = .ok (.return_, 1) := by decide +kernel
def mX8_tellFault (n : Nat) (a : Nat) (b1 : Int) (μ : Mem) : Option (Unit × Mem) :=
  (gI μ 9 a 1).bind fun x1 =>
  if eq32 x1 0 then
    (pI μ 9 a 1 b1).bind fun μ9 =>
    (gI μ9 9 a 6).bind fun x14 =>
    (pI μ9 9 a 2 x14).bind fun μ17 =>
    some ((), μ17)
  else
  some ((), μ)
set_option maxRecDepth 100000 in
set_option maxHeartbeats 4000000 in
theorem cX8_tellFault_ok (n : Nat) (a : Nat) (b1 : Int) (μ : Mem) : Mc yX8_tellFault cX8_tellFault 2 none 0 0 eV [aA a, aI b1] μ (mX8_tellFault n a b1 μ) := by
  refine mc_of (L0 := [some (aA a), some (aI b1)]) (k := 0) (by decide) rfl rfl (fun X Γ => ?_)
  unfold mX8_tellFault
  refine sn_aload_n dX8_tellFault_0 rfl ?_
  refine sn_getI (ci := 8) (j := 1) dX8_tellFault_1 fl_X8_22 rfl (fun x1 => ?_)
  refine sn_if_ne (tgt := 20) dX8_tellFault_4 (by decide) ?_ ?_
  · exact sn_vret dX8_tellFault_20
  · refine sn_aload_n dX8_tellFault_7 rfl ?_
    refine sn_iload_n dX8_tellFault_8 rfl ?_
    refine sn_putI (ci := 8) (j := 1) dX8_tellFault_9 fl_X8_22 rfl (fun q h => by cases h; rfl) (fun μ9 => ?_)
    refine sn_aload_n dX8_tellFault_12 rfl ?_
    refine sn_aload_n dX8_tellFault_13 rfl ?_
    refine sn_getI (ci := 8) (j := 6) dX8_tellFault_14 fl_X8_135 rfl (fun x14 => ?_)
    refine sn_putI (ci := 8) (j := 2) dX8_tellFault_17 fl_X8_9 rfl (fun q h => by cases h; rfl) (fun μ17 => ?_)
    exact sn_vret dX8_tellFault_20
theorem dX8_tellWrongToken_0 : decode cX8_tellWrongToken 0 = .ok (.aload_n 0, 1) := by decide +kernel
theorem dX8_tellWrongToken_1 : decode cX8_tellWrongToken 1 = .ok (.aload_n 0, 1) := by decide +kernel
theorem dX8_tellWrongToken_2 : decode cX8_tellWrongToken 2 = .ok (.getfield 45, 3) := by decide +kernel
theorem dX8_tellWrongToken_5 : decode cX8_tellWrongToken 5 = .ok (.iconst 4, 1) := by decide +kernel
theorem dX8_tellWrongToken_6 : decode cX8_tellWrongToken 6 = .ok (.if_icmp .ne 7, 3) := by decide +kernel
theorem dX8_tellWrongToken_9 : decode cX8_tellWrongToken 9 = .ok (.iconst 1, 1) := by decide +kernel
theorem dX8_tellWrongToken_10 : decode cX8_tellWrongToken 10 = .ok (.goto 4, 3) := by decide +kernel
theorem dX8_tellWrongToken_13 : decode cX8_tellWrongToken 13 = .ok (.iconst 2, 1) := by decide +kernel
theorem dX8_tellWrongToken_14 : decode cX8_tellWrongToken 14 = .ok (.invokevirtual 90, 3) := by decide +kernel
theorem dX8_tellWrongToken_17 : decode cX8_tellWrongToken 17 = .ok (.return_, 1) := by decide +kernel
def mX8_tellWrongToken (n : Nat) (a : Nat) (μ : Mem) : Option (Unit × Mem) :=
  (gI μ 9 a 5).bind fun x2 =>
  jn (fun (v14 : Int) (μ14 : Mem) =>
  (inv μ14 9 a (mX8_tellFault n a v14 μ14)).bind fun p14 =>
  some ((), p14.2)) (fun j14 =>
  if eq32 x2 4 then
    j14 1 μ
  else
  j14 2 μ)
set_option maxRecDepth 100000 in
set_option maxHeartbeats 4000000 in
theorem cX8_tellWrongToken_ok (n : Nat) (a : Nat) (μ : Mem) : Mc yX8_tellWrongToken cX8_tellWrongToken 1 none 1 21 eV [aA a] μ (mX8_tellWrongToken n a μ) := by
  refine mc_of (L0 := [some (aA a)]) (k := 0) (by decide) rfl rfl (fun X Γ => ?_)
  unfold mX8_tellWrongToken
  refine sn_aload_n dX8_tellWrongToken_0 rfl ?_
  refine sn_aload_n dX8_tellWrongToken_1 rfl ?_
  refine sn_getI (ci := 8) (j := 5) dX8_tellWrongToken_2 fl_X8_45 rfl (fun x2 => ?_)
  refine sn_iconst dX8_tellWrongToken_5 ?_
  refine sn_jn (pcj := 14) (La := fun v14 : Int => [none]) (Sa := fun v14 : Int => [aI v14, aA a]) ?_ ?_
  · intro v14 μ14
    refine sn_callVV (vs := [aI v14]) (ci := 8) (cX8_tellFault_ok n a v14 μ14) dX8_tellWrongToken_14 cw_X8_90 rfl rfl rfl (by decide) (by decide) (Nat.le_of_ble_eq_true rfl) (fun p14 => ?_)
    exact sn_vret dX8_tellWrongToken_17
  intro j14 hj14
  refine sn_icmp_ne (tgt := 13) dX8_tellWrongToken_6 (by decide) ?_ ?_
  · refine sn_iconst dX8_tellWrongToken_13 ?_
    exact sn_mask (L' := [none]) [false] rfl (hj14 2 μ)
  · refine sn_iconst dX8_tellWrongToken_9 ?_
    refine sn_goto (tgt := 14) dX8_tellWrongToken_10 (by decide) ?_
    exact sn_mask (L' := [none]) [false] rfl (hj14 1 μ)
theorem dX8_takeNumber_0 : decode cX8_takeNumber 0 = .ok (.aload_n 0, 1) := by decide +kernel
theorem dX8_takeNumber_1 : decode cX8_takeNumber 1 = .ok (.getfield 45, 3) := by decide +kernel
theorem dX8_takeNumber_4 : decode cX8_takeNumber 4 = .ok (.iconst 2, 1) := by decide +kernel
theorem dX8_takeNumber_5 : decode cX8_takeNumber 5 = .ok (.if_icmp .eq 9, 3) := by decide +kernel
theorem dX8_takeNumber_8 : decode cX8_takeNumber 8 = .ok (.aload_n 0, 1) := by decide +kernel
theorem dX8_takeNumber_9 : decode cX8_takeNumber 9 = .ok (.invokevirtual 78, 3) := by decide +kernel
theorem dX8_takeNumber_12 : decode cX8_takeNumber 12 = .ok (.iload_n 1, 1) := by decide +kernel
theorem dX8_takeNumber_13 : decode cX8_takeNumber 13 = .ok (.ireturn, 1) := by decide +kernel
theorem dX8_takeNumber_14 : decode cX8_takeNumber 14 = .ok (.aload_n 0, 1) := by decide +kernel
theorem dX8_takeNumber_15 : decode cX8_takeNumber 15 = .ok (.getfield 116, 3) := by decide +kernel
theorem dX8_takeNumber_18 : decode cX8_takeNumber 18 = .ok (.iload_n 1, 1) := by decide +kernel
theorem dX8_takeNumber_19 : decode cX8_takeNumber 19 = .ok (.if_icmp .lt 11, 3) := by decide +kernel
theorem dX8_takeNumber_22 : decode cX8_takeNumber 22 = .ok (.aload_n 0, 1) := by decide +kernel
theorem dX8_takeNumber_23 : decode cX8_takeNumber 23 = .ok (.getfield 116, 3) := by decide +kernel
theorem dX8_takeNumber_26 : decode cX8_takeNumber 26 = .ok (.iload_n 2, 1) := by decide +kernel
theorem dX8_takeNumber_27 : decode cX8_takeNumber 27 = .ok (.if_icmp .le 10, 3) := by decide +kernel
theorem dX8_takeNumber_30 : decode cX8_takeNumber 30 = .ok (.aload_n 0, 1) := by decide +kernel
theorem dX8_takeNumber_31 : decode cX8_takeNumber 31 = .ok (.iconst 3, 1) := by decide +kernel
theorem dX8_takeNumber_32 : decode cX8_takeNumber 32 = .ok (.invokevirtual 90, 3) := by decide +kernel
theorem dX8_takeNumber_35 : decode cX8_takeNumber 35 = .ok (.iload_n 1, 1) := by decide +kernel
theorem dX8_takeNumber_36 : decode cX8_takeNumber 36 = .ok (.ireturn, 1) := by decide +kernel
theorem dX8_takeNumber_37 : decode cX8_takeNumber 37 = .ok (.aload_n 0, 1) := by decide +kernel
theorem dX8_takeNumber_38 : decode cX8_takeNumber 38 = .ok (.getfield 116, 3) := by decide +kernel
theorem dX8_takeNumber_41 : decode cX8_takeNumber 41 = .ok (.istore_n 3, 1) := by decide +kernel
theorem dX8_takeNumber_42 : decode cX8_takeNumber 42 = .ok (.aload_n 0, 1) := by decide +kernel
theorem dX8_takeNumber_43 : decode cX8_takeNumber 43 = .ok (.invokevirtual 42, 3) := by decide +kernel
theorem dX8_takeNumber_46 : decode cX8_takeNumber 46 = .ok (.iload_n 3, 1) := by decide +kernel
theorem dX8_takeNumber_47 : decode cX8_takeNumber 47 = .ok (.ireturn, 1) := by decide +kernel
def mX8_takeNumber (n : Nat) (a : Nat) (b1 : Int) (b2 : Int) (μ : Mem) : Option (Int × Mem) :=
  (gI μ 9 a 5).bind fun x1 =>
  if eq32 x1 2 then
    (gI μ 9 a 8).bind fun x15 =>
    jn (fun (v30 : Unit) (μ30 : Mem) =>
    (inv μ30 9 a (mX8_tellFault n a 3 μ30)).bind fun p32 =>
    some (b1, p32.2)) (fun j30 =>
    if lt32 x15 b1 then
      j30 () μ
    else
    (gI μ 9 a 8).bind fun x23 =>
    if lt32 b2 x23 then
      j30 () μ
    else
    (gI μ 9 a 8).bind fun x38 =>
    (inv μ 9 a (mX8_advance n a μ)).bind fun p43 =>
    some (x38, p43.2))
  else
  (inv μ 9 a (mX8_tellWrongToken n a μ)).bind fun p9 =>
  some (b1, p9.2)
set_option maxRecDepth 100000 in
set_option maxHeartbeats 4000000 in
theorem cX8_takeNumber_ok (n : Nat) (a : Nat) (b1 : Int) (b2 : Int) (μ : Mem) : Mc yX8_takeNumber cX8_takeNumber 4 (some .int) 3 61 eI [aA a, aI b1, aI b2] μ (mX8_takeNumber n a b1 b2 μ) := by
  refine mc_of (L0 := [some (aA a), some (aI b1), some (aI b2), none]) (k := 1) (by decide) rfl rfl (fun X Γ => ?_)
  unfold mX8_takeNumber
  refine sn_aload_n dX8_takeNumber_0 rfl ?_
  refine sn_getI (ci := 8) (j := 5) dX8_takeNumber_1 fl_X8_45 rfl (fun x1 => ?_)
  refine sn_iconst dX8_takeNumber_4 ?_
  refine sn_icmp_eq (tgt := 14) dX8_takeNumber_5 (by decide) ?_ ?_
  · refine sn_aload_n dX8_takeNumber_14 rfl ?_
    refine sn_getI (ci := 8) (j := 8) dX8_takeNumber_15 fl_X8_116 rfl (fun x15 => ?_)
    refine sn_iload_n dX8_takeNumber_18 rfl ?_
    refine sn_jn (pcj := 30) (La := fun v30 : Unit => [some (aA a), some (aI b1), none, none]) (Sa := fun v30 : Unit => []) ?_ ?_
    · intro v30 μ30
      refine sn_aload_n dX8_takeNumber_30 rfl ?_
      refine sn_iconst dX8_takeNumber_31 ?_
      refine sn_callVV (vs := [aI 3]) (ci := 8) (cX8_tellFault_ok n a 3 μ30) dX8_takeNumber_32 cw_X8_90 rfl rfl rfl (by decide) (by decide) (Nat.le_of_ble_eq_true rfl) (fun p32 => ?_)
      refine sn_iload_n dX8_takeNumber_35 rfl ?_
      exact sn_iret dX8_takeNumber_36
    intro j30 hj30
    refine sn_icmp_lt (tgt := 30) dX8_takeNumber_19 (by decide) ?_ ?_
    · exact sn_mask (L' := [some (aA a), some (aI b1), none, none]) [true, true, false, false] rfl (hj30 () μ)
    · refine sn_aload_n dX8_takeNumber_22 rfl ?_
      refine sn_getI (ci := 8) (j := 8) dX8_takeNumber_23 fl_X8_116 rfl (fun x23 => ?_)
      refine sn_iload_n dX8_takeNumber_26 rfl ?_
      refine sn_icmp_le (tgt := 37) dX8_takeNumber_27 (by decide) ?_ ?_
      · refine sn_aload_n dX8_takeNumber_37 rfl ?_
        refine sn_getI (ci := 8) (j := 8) dX8_takeNumber_38 fl_X8_116 rfl (fun x38 => ?_)
        refine sn_istore_n (L' := [some (aA a), some (aI b1), some (aI b2), some (aI x38)]) dX8_takeNumber_41 (by decide) rfl ?_
        refine sn_aload_n dX8_takeNumber_42 rfl ?_
        refine sn_callVV (vs := []) (ci := 8) (cX8_advance_ok n a μ) dX8_takeNumber_43 cw_X8_42 rfl rfl rfl (by decide) (by decide) (Nat.le_of_ble_eq_true rfl) (fun p43 => ?_)
        refine sn_iload_n dX8_takeNumber_46 rfl ?_
        exact sn_iret dX8_takeNumber_47
      · exact sn_mask (L' := [some (aA a), some (aI b1), none, none]) [true, true, false, false] rfl (hj30 () μ)
  · refine sn_aload_n dX8_takeNumber_8 rfl ?_
    refine sn_callVV (vs := []) (ci := 8) (cX8_tellWrongToken_ok n a μ) dX8_takeNumber_9 cw_X8_78 rfl rfl rfl (by decide) (by decide) (Nat.le_of_ble_eq_true rfl) (fun p9 => ?_)
    refine sn_iload_n dX8_takeNumber_12 rfl ?_
    exact sn_iret dX8_takeNumber_13
theorem dX8_takeWord_0 : decode cX8_takeWord 0 = .ok (.aload_n 0, 1) := by decide +kernel
theorem dX8_takeWord_1 : decode cX8_takeWord 1 = .ok (.aload_n 1, 1) := by decide +kernel
theorem dX8_takeWord_2 : decode cX8_takeWord 2 = .ok (.invokevirtual 54, 3) := by decide +kernel
theorem dX8_takeWord_5 : decode cX8_takeWord 5 = .ok (.ifCond .ne 5, 3) := by decide +kernel
theorem dX8_takeWord_8 : decode cX8_takeWord 8 = .ok (.iconst 0, 1) := by decide +kernel
theorem dX8_takeWord_9 : decode cX8_takeWord 9 = .ok (.ireturn, 1) := by decide +kernel
theorem dX8_takeWord_10 : decode cX8_takeWord 10 = .ok (.aload_n 0, 1) := by decide +kernel
theorem dX8_takeWord_11 : decode cX8_takeWord 11 = .ok (.invokevirtual 42, 3) := by decide +kernel
theorem dX8_takeWord_14 : decode cX8_takeWord 14 = .ok (.iconst 1, 1) := by decide +kernel
theorem dX8_takeWord_15 : decode cX8_takeWord 15 = .ok (.ireturn, 1) := by decide +kernel
def mX8_takeWord (n : Nat) (a : Nat) (b1 : Nat) (μ : Mem) : Option (Int × Mem) :=
  (inv μ 9 a (mX8_isWord n a b1 μ)).bind fun p2 =>
  if eq32 p2.1 0 then
    retZ 0 p2.2
  else
  (inv p2.2 9 a (mX8_advance n a p2.2)).bind fun p11 =>
  retZ 1 p11.2
set_option maxRecDepth 100000 in
set_option maxHeartbeats 4000000 in
theorem cX8_takeWord_ok (n : Nat) (a : Nat) (b1 : Nat) (μ : Mem) : Mc yX8_takeWord cX8_takeWord 2 (some .boolean) 5 107 eI [aA a, aA b1] μ (mX8_takeWord n a b1 μ) := by
  refine mc_of (L0 := [some (aA a), some (aA b1)]) (k := 0) (by decide) rfl rfl (fun X Γ => ?_)
  unfold mX8_takeWord
  refine sn_aload_n dX8_takeWord_0 rfl ?_
  refine sn_aload_n dX8_takeWord_1 rfl ?_
  refine sn_callVI (vs := [aA b1]) (ci := 8) (cX8_isWord_ok n a b1 μ) dX8_takeWord_2 cw_X8_54 rfl rfl rfl (by decide) (by decide) (Nat.le_of_ble_eq_true rfl) (fun p2 => ?_)
  refine sn_if_ne (tgt := 10) dX8_takeWord_5 (by decide) ?_ ?_
  · refine sn_aload_n dX8_takeWord_10 rfl ?_
    refine sn_callVV (vs := []) (ci := 8) (cX8_advance_ok n a p2.2) dX8_takeWord_11 cw_X8_42 rfl rfl rfl (by decide) (by decide) (Nat.le_of_ble_eq_true rfl) (fun p11 => ?_)
    refine sn_iconst dX8_takeWord_14 ?_
    exact sn_zret dX8_takeWord_15
  · refine sn_iconst dX8_takeWord_8 ?_
    exact sn_zret dX8_takeWord_9
theorem dX8_readHouse_0 : decode cX8_readHouse 0 = .ok (.aload_n 1, 1) := by decide +kernel
theorem dX8_readHouse_1 : decode cX8_readHouse 1 = .ok (.getfield 87, 3) := by decide +kernel
theorem dX8_readHouse_4 : decode cX8_readHouse 4 = .ok (.istore_n 2, 1) := by decide +kernel
theorem dX8_readHouse_5 : decode cX8_readHouse 5 = .ok (.iload_n 2, 1) := by decide +kernel
theorem dX8_readHouse_6 : decode cX8_readHouse 6 = .ok (.bipush 10, 2) := by decide +kernel
theorem dX8_readHouse_8 : decode cX8_readHouse 8 = .ok (.if_icmp .lt 9, 3) := by decide +kernel
theorem dX8_readHouse_11 : decode cX8_readHouse 11 = .ok (.aload_n 0, 1) := by decide +kernel
theorem dX8_readHouse_12 : decode cX8_readHouse 12 = .ok (.iconst 4, 1) := by decide +kernel
theorem dX8_readHouse_13 : decode cX8_readHouse 13 = .ok (.invokevirtual 90, 3) := by decide +kernel
theorem dX8_readHouse_16 : decode cX8_readHouse 16 = .ok (.return_, 1) := by decide +kernel
theorem dX8_readHouse_17 : decode cX8_readHouse 17 = .ok (.aload_n 0, 1) := by decide +kernel
theorem dX8_readHouse_18 : decode cX8_readHouse 18 = .ok (.invokevirtual 42, 3) := by decide +kernel
theorem dX8_readHouse_21 : decode cX8_readHouse 21 = .ok (.aload_n 1, 1) := by decide +kernel
theorem dX8_readHouse_22 : decode cX8_readHouse 22 = .ok (.aload_n 0, 1) := by decide +kernel
theorem dX8_readHouse_23 : decode cX8_readHouse 23 = .ok (.iconst 0, 1) := by decide +kernel
theorem dX8_readHouse_24 : decode cX8_readHouse 24 = .ok (.bipush 20, 2) := by decide +kernel
theorem dX8_readHouse_26 : decode cX8_readHouse 26 = .ok (.invokevirtual 68, 3) := by decide +kernel
theorem dX8_readHouse_29 : decode cX8_readHouse 29 = .ok (.invokevirtual 94, 3) := by decide +kernel
theorem dX8_readHouse_32 : decode cX8_readHouse 32 = .ok (.aload_n 0, 1) := by decide +kernel
theorem dX8_readHouse_33 : decode cX8_readHouse 33 = .ok (.ldc 97, 2) := by decide +kernel
theorem dX8_readHouse_35 : decode cX8_readHouse 35 = .ok (.invokevirtual 99, 3) := by decide +kernel
theorem dX8_readHouse_38 : decode cX8_readHouse 38 = .ok (.ifCond .eq 16, 3) := by decide +kernel
theorem dX8_readHouse_41 : decode cX8_readHouse 41 = .ok (.aload_n 1, 1) := by decide +kernel
theorem dX8_readHouse_42 : decode cX8_readHouse 42 = .ok (.getfield 102, 3) := by decide +kernel
theorem dX8_readHouse_45 : decode cX8_readHouse 45 = .ok (.iload_n 2, 1) := by decide +kernel
theorem dX8_readHouse_46 : decode cX8_readHouse 46 = .ok (.aload_n 0, 1) := by decide +kernel
theorem dX8_readHouse_47 : decode cX8_readHouse 47 = .ok (.iconst 1, 1) := by decide +kernel
theorem dX8_readHouse_48 : decode cX8_readHouse 48 = .ok (.bipush 9, 2) := by decide +kernel
theorem dX8_readHouse_50 : decode cX8_readHouse 50 = .ok (.invokevirtual 68, 3) := by decide +kernel
theorem dX8_readHouse_53 : decode cX8_readHouse 53 = .ok (.iastore, 1) := by decide +kernel
theorem dX8_readHouse_54 : decode cX8_readHouse 54 = .ok (.aload_n 0, 1) := by decide +kernel
theorem dX8_readHouse_55 : decode cX8_readHouse 55 = .ok (.ldc 105, 2) := by decide +kernel
theorem dX8_readHouse_57 : decode cX8_readHouse 57 = .ok (.invokevirtual 99, 3) := by decide +kernel
theorem dX8_readHouse_60 : decode cX8_readHouse 60 = .ok (.ifCond .eq 16, 3) := by decide +kernel
theorem dX8_readHouse_63 : decode cX8_readHouse 63 = .ok (.aload_n 1, 1) := by decide +kernel
theorem dX8_readHouse_64 : decode cX8_readHouse 64 = .ok (.getfield 107, 3) := by decide +kernel
theorem dX8_readHouse_67 : decode cX8_readHouse 67 = .ok (.iload_n 2, 1) := by decide +kernel
theorem dX8_readHouse_68 : decode cX8_readHouse 68 = .ok (.aload_n 0, 1) := by decide +kernel
theorem dX8_readHouse_69 : decode cX8_readHouse 69 = .ok (.iconst 0, 1) := by decide +kernel
theorem dX8_readHouse_70 : decode cX8_readHouse 70 = .ok (.bipush 99, 2) := by decide +kernel
theorem dX8_readHouse_72 : decode cX8_readHouse 72 = .ok (.invokevirtual 68, 3) := by decide +kernel
theorem dX8_readHouse_75 : decode cX8_readHouse 75 = .ok (.iastore, 1) := by decide +kernel
theorem dX8_readHouse_76 : decode cX8_readHouse 76 = .ok (.aload_n 0, 1) := by decide +kernel
theorem dX8_readHouse_77 : decode cX8_readHouse 77 = .ok (.ldc 109, 2) := by decide +kernel
theorem dX8_readHouse_79 : decode cX8_readHouse 79 = .ok (.invokevirtual 99, 3) := by decide +kernel
theorem dX8_readHouse_82 : decode cX8_readHouse 82 = .ok (.ifCond .eq 17, 3) := by decide +kernel
theorem dX8_readHouse_85 : decode cX8_readHouse 85 = .ok (.aload_n 1, 1) := by decide +kernel
theorem dX8_readHouse_86 : decode cX8_readHouse 86 = .ok (.getfield 111, 3) := by decide +kernel
theorem dX8_readHouse_89 : decode cX8_readHouse 89 = .ok (.iload_n 2, 1) := by decide +kernel
theorem dX8_readHouse_90 : decode cX8_readHouse 90 = .ok (.aload_n 0, 1) := by decide +kernel
theorem dX8_readHouse_91 : decode cX8_readHouse 91 = .ok (.iconst 0, 1) := by decide +kernel
theorem dX8_readHouse_92 : decode cX8_readHouse 92 = .ok (.sipush 4095, 3) := by decide +kernel
theorem dX8_readHouse_95 : decode cX8_readHouse 95 = .ok (.invokevirtual 68, 3) := by decide +kernel
theorem dX8_readHouse_98 : decode cX8_readHouse 98 = .ok (.iastore, 1) := by decide +kernel
theorem dX8_readHouse_99 : decode cX8_readHouse 99 = .ok (.return_, 1) := by decide +kernel
def mX8_readHouse (n : Nat) (a : Nat) (b1 : Nat) (μ : Mem) : Option (Unit × Mem) :=
  (gI μ 2 b1 0).bind fun x1 =>
  if lt32 x1 10 then
    (inv μ 9 a (mX8_advance n a μ)).bind fun p18 =>
    (inv p18.2 9 a (mX8_takeNumber n a 0 20 p18.2)).bind fun p26 =>
    (inv p26.2 2 b1 (mX1_addHouse n b1 p26.1 p26.2)).bind fun p29 =>
    (txt p29.2 1).bind fun x33 =>
    (inv p29.2 9 a (mX8_takeWord n a x33 p29.2)).bind fun p35 =>
    jn (fun (v54 : Unit) (μ54 : Mem) =>
    (txt μ54 2).bind fun x55 =>
    (inv μ54 9 a (mX8_takeWord n a x55 μ54)).bind fun p57 =>
    jn (fun (v76 : Unit) (μ76 : Mem) =>
    (txt μ76 3).bind fun x77 =>
    (inv μ76 9 a (mX8_takeWord n a x77 μ76)).bind fun p79 =>
    if eq32 p79.1 0 then
      some ((), p79.2)
    else
    (gA p79.2 2 b1 9).bind fun x86 =>
    (inv p79.2 9 a (mX8_takeNumber n a 0 4095 p79.2)).bind fun p95 =>
    (stI p95.2 0 x86 x1 p95.1).bind fun μ98 =>
    some ((), μ98)) (fun j76 =>
    if eq32 p57.1 0 then
      j76 () p57.2
    else
    (gA p57.2 2 b1 8).bind fun x64 =>
    (inv p57.2 9 a (mX8_takeNumber n a 0 99 p57.2)).bind fun p72 =>
    (stI p72.2 0 x64 x1 p72.1).bind fun μ75 =>
    j76 () μ75)) (fun j54 =>
    if eq32 p35.1 0 then
      j54 () p35.2
    else
    (gA p35.2 2 b1 7).bind fun x42 =>
    (inv p35.2 9 a (mX8_takeNumber n a 1 9 p35.2)).bind fun p50 =>
    (stI p50.2 0 x42 x1 p50.1).bind fun μ53 =>
    j54 () μ53)
  else
  (inv μ 9 a (mX8_tellFault n a 4 μ)).bind fun p13 =>
  some ((), p13.2)
set_option maxRecDepth 100000 in
set_option maxHeartbeats 4000000 in
theorem cX8_readHouse_ok (n : Nat) (a : Nat) (b1 : Nat) (μ : Mem) : Mc yX8_readHouse cX8_readHouse 3 none 6 128 eV [aA a, aA b1] μ (mX8_readHouse n a b1 μ) := by
  refine mc_of (L0 := [some (aA a), some (aA b1), none]) (k := 1) (by decide) rfl rfl (fun X Γ => ?_)
  unfold mX8_readHouse
  refine sn_aload_n dX8_readHouse_0 rfl ?_
  refine sn_getI (ci := 1) (j := 0) dX8_readHouse_1 fl_X8_87 rfl (fun x1 => ?_)
  refine sn_istore_n (L' := [some (aA a), some (aA b1), some (aI x1)]) dX8_readHouse_4 (by decide) rfl ?_
  refine sn_iload_n dX8_readHouse_5 rfl ?_
  refine sn_bipush dX8_readHouse_6 (by decide) ?_
  refine sn_icmp_lt (tgt := 17) dX8_readHouse_8 (by decide) ?_ ?_
  · refine sn_aload_n dX8_readHouse_17 rfl ?_
    refine sn_callVV (vs := []) (ci := 8) (cX8_advance_ok n a μ) dX8_readHouse_18 cw_X8_42 rfl rfl rfl (by decide) (by decide) (Nat.le_of_ble_eq_true rfl) (fun p18 => ?_)
    refine sn_aload_n dX8_readHouse_21 rfl ?_
    refine sn_aload_n dX8_readHouse_22 rfl ?_
    refine sn_iconst dX8_readHouse_23 ?_
    refine sn_bipush dX8_readHouse_24 (by decide) ?_
    refine sn_callVI (vs := [aI 0, aI 20]) (ci := 8) (cX8_takeNumber_ok n a 0 20 p18.2) dX8_readHouse_26 cw_X8_68 rfl rfl rfl (by decide) (by decide) (Nat.le_of_ble_eq_true rfl) (fun p26 => ?_)
    refine sn_callVV (vs := [aI p26.1]) (ci := 1) (cX1_addHouse_ok n b1 p26.1 p26.2) dX8_readHouse_29 cw_X8_94 rfl rfl rfl (by decide) (by decide) (Nat.le_of_ble_eq_true rfl) (fun p29 => ?_)
    refine sn_aload_n dX8_readHouse_32 rfl ?_
    refine sn_ldcS (k := 1) dX8_readHouse_33 (by decide) rfl (fun x33 => ?_)
    refine sn_callVI (vs := [aA x33]) (ci := 8) (cX8_takeWord_ok n a x33 p29.2) dX8_readHouse_35 cw_X8_99 rfl rfl rfl (by decide) (by decide) (Nat.le_of_ble_eq_true rfl) (fun p35 => ?_)
    refine sn_jn (pcj := 54) (La := fun v54 : Unit => [some (aA a), some (aA b1), some (aI x1)]) (Sa := fun v54 : Unit => []) ?_ ?_
    · intro v54 μ54
      refine sn_aload_n dX8_readHouse_54 rfl ?_
      refine sn_ldcS (k := 2) dX8_readHouse_55 (by decide) rfl (fun x55 => ?_)
      refine sn_callVI (vs := [aA x55]) (ci := 8) (cX8_takeWord_ok n a x55 μ54) dX8_readHouse_57 cw_X8_99 rfl rfl rfl (by decide) (by decide) (Nat.le_of_ble_eq_true rfl) (fun p57 => ?_)
      refine sn_jn (pcj := 76) (La := fun v76 : Unit => [some (aA a), some (aA b1), some (aI x1)]) (Sa := fun v76 : Unit => []) ?_ ?_
      · intro v76 μ76
        refine sn_aload_n dX8_readHouse_76 rfl ?_
        refine sn_ldcS (k := 3) dX8_readHouse_77 (by decide) rfl (fun x77 => ?_)
        refine sn_callVI (vs := [aA x77]) (ci := 8) (cX8_takeWord_ok n a x77 μ76) dX8_readHouse_79 cw_X8_99 rfl rfl rfl (by decide) (by decide) (Nat.le_of_ble_eq_true rfl) (fun p79 => ?_)
        refine sn_if_eq (tgt := 99) dX8_readHouse_82 (by decide) ?_ ?_
        · exact sn_vret dX8_readHouse_99
        · refine sn_aload_n dX8_readHouse_85 rfl ?_
          refine sn_getA (ci := 1) (j := 9) dX8_readHouse_86 fl_X8_111 (by decide) (fun x86 => ?_)
          refine sn_iload_n dX8_readHouse_89 rfl ?_
          refine sn_aload_n dX8_readHouse_90 rfl ?_
          refine sn_iconst dX8_readHouse_91 ?_
          refine sn_sipush dX8_readHouse_92 (by decide) ?_
          refine sn_callVI (vs := [aI 0, aI 4095]) (ci := 8) (cX8_takeNumber_ok n a 0 4095 p79.2) dX8_readHouse_95 cw_X8_68 rfl rfl rfl (by decide) (by decide) (Nat.le_of_ble_eq_true rfl) (fun p95 => ?_)
          refine sn_iast dX8_readHouse_98 (fun μ98 => ?_)
          exact sn_vret dX8_readHouse_99
      intro j76 hj76
      refine sn_if_eq (tgt := 76) dX8_readHouse_60 (by decide) ?_ ?_
      · exact hj76 () p57.2
      · refine sn_aload_n dX8_readHouse_63 rfl ?_
        refine sn_getA (ci := 1) (j := 8) dX8_readHouse_64 fl_X8_107 (by decide) (fun x64 => ?_)
        refine sn_iload_n dX8_readHouse_67 rfl ?_
        refine sn_aload_n dX8_readHouse_68 rfl ?_
        refine sn_iconst dX8_readHouse_69 ?_
        refine sn_bipush dX8_readHouse_70 (by decide) ?_
        refine sn_callVI (vs := [aI 0, aI 99]) (ci := 8) (cX8_takeNumber_ok n a 0 99 p57.2) dX8_readHouse_72 cw_X8_68 rfl rfl rfl (by decide) (by decide) (Nat.le_of_ble_eq_true rfl) (fun p72 => ?_)
        refine sn_iast dX8_readHouse_75 (fun μ75 => ?_)
        exact hj76 () μ75
    intro j54 hj54
    refine sn_if_eq (tgt := 54) dX8_readHouse_38 (by decide) ?_ ?_
    · exact hj54 () p35.2
    · refine sn_aload_n dX8_readHouse_41 rfl ?_
      refine sn_getA (ci := 1) (j := 7) dX8_readHouse_42 fl_X8_102 (by decide) (fun x42 => ?_)
      refine sn_iload_n dX8_readHouse_45 rfl ?_
      refine sn_aload_n dX8_readHouse_46 rfl ?_
      refine sn_iconst dX8_readHouse_47 ?_
      refine sn_bipush dX8_readHouse_48 (by decide) ?_
      refine sn_callVI (vs := [aI 1, aI 9]) (ci := 8) (cX8_takeNumber_ok n a 1 9 p35.2) dX8_readHouse_50 cw_X8_68 rfl rfl rfl (by decide) (by decide) (Nat.le_of_ble_eq_true rfl) (fun p50 => ?_)
      refine sn_iast dX8_readHouse_53 (fun μ53 => ?_)
      exact hj54 () μ53
  · refine sn_aload_n dX8_readHouse_11 rfl ?_
    refine sn_iconst dX8_readHouse_12 ?_
    refine sn_callVV (vs := [aI 4]) (ci := 8) (cX8_tellFault_ok n a 4 μ) dX8_readHouse_13 cw_X8_90 rfl rfl rfl (by decide) (by decide) (Nat.le_of_ble_eq_true rfl) (fun p13 => ?_)
    exact sn_vret dX8_readHouse_16
theorem dX8_readRope_0 : decode cX8_readRope 0 = .ok (.aload_n 1, 1) := by decide +kernel
theorem dX8_readRope_1 : decode cX8_readRope 1 = .ok (.getfield 113, 3) := by decide +kernel
theorem dX8_readRope_4 : decode cX8_readRope 4 = .ok (.istore_n 2, 1) := by decide +kernel
theorem dX8_readRope_5 : decode cX8_readRope 5 = .ok (.iload_n 2, 1) := by decide +kernel
theorem dX8_readRope_6 : decode cX8_readRope 6 = .ok (.bipush 16, 2) := by decide +kernel
theorem dX8_readRope_8 : decode cX8_readRope 8 = .ok (.if_icmp .lt 9, 3) := by decide +kernel
theorem dX8_readRope_11 : decode cX8_readRope 11 = .ok (.aload_n 0, 1) := by decide +kernel
theorem dX8_readRope_12 : decode cX8_readRope 12 = .ok (.iconst 4, 1) := by decide +kernel
theorem dX8_readRope_13 : decode cX8_readRope 13 = .ok (.invokevirtual 90, 3) := by decide +kernel
theorem dX8_readRope_16 : decode cX8_readRope 16 = .ok (.return_, 1) := by decide +kernel
theorem dX8_readRope_17 : decode cX8_readRope 17 = .ok (.aload_n 0, 1) := by decide +kernel
theorem dX8_readRope_18 : decode cX8_readRope 18 = .ok (.invokevirtual 42, 3) := by decide +kernel
theorem dX8_readRope_21 : decode cX8_readRope 21 = .ok (.aload_n 0, 1) := by decide +kernel
theorem dX8_readRope_22 : decode cX8_readRope 22 = .ok (.iconst 0, 1) := by decide +kernel
theorem dX8_readRope_23 : decode cX8_readRope 23 = .ok (.aload_n 1, 1) := by decide +kernel
theorem dX8_readRope_24 : decode cX8_readRope 24 = .ok (.getfield 87, 3) := by decide +kernel
theorem dX8_readRope_27 : decode cX8_readRope 27 = .ok (.iconst 1, 1) := by decide +kernel
theorem dX8_readRope_28 : decode cX8_readRope 28 = .ok (.isub, 1) := by decide +kernel
theorem dX8_readRope_29 : decode cX8_readRope 29 = .ok (.invokevirtual 68, 3) := by decide +kernel
theorem dX8_readRope_32 : decode cX8_readRope 32 = .ok (.istore_n 3, 1) := by decide +kernel
theorem dX8_readRope_33 : decode cX8_readRope 33 = .ok (.aload_n 0, 1) := by decide +kernel
theorem dX8_readRope_34 : decode cX8_readRope 34 = .ok (.getfield 45, 3) := by decide +kernel
theorem dX8_readRope_37 : decode cX8_readRope 37 = .ok (.iconst 2, 1) := by decide +kernel
theorem dX8_readRope_38 : decode cX8_readRope 38 = .ok (.if_icmp .ne 16, 3) := by decide +kernel
theorem dX8_readRope_41 : decode cX8_readRope 41 = .ok (.aload_n 0, 1) := by decide +kernel
theorem dX8_readRope_42 : decode cX8_readRope 42 = .ok (.getfield 116, 3) := by decide +kernel
theorem dX8_readRope_45 : decode cX8_readRope 45 = .ok (.iload_n 3, 1) := by decide +kernel
theorem dX8_readRope_46 : decode cX8_readRope 46 = .ok (.if_icmp .ne 8, 3) := by decide +kernel
theorem dX8_readRope_49 : decode cX8_readRope 49 = .ok (.aload_n 0, 1) := by decide +kernel
theorem dX8_readRope_50 : decode cX8_readRope 50 = .ok (.iconst 3, 1) := by decide +kernel
theorem dX8_readRope_51 : decode cX8_readRope 51 = .ok (.invokevirtual 90, 3) := by decide +kernel
theorem dX8_readRope_54 : decode cX8_readRope 54 = .ok (.aload_n 0, 1) := by decide +kernel
theorem dX8_readRope_55 : decode cX8_readRope 55 = .ok (.iconst 0, 1) := by decide +kernel
theorem dX8_readRope_56 : decode cX8_readRope 56 = .ok (.aload_n 1, 1) := by decide +kernel
theorem dX8_readRope_57 : decode cX8_readRope 57 = .ok (.getfield 87, 3) := by decide +kernel
theorem dX8_readRope_60 : decode cX8_readRope 60 = .ok (.iconst 1, 1) := by decide +kernel
theorem dX8_readRope_61 : decode cX8_readRope 61 = .ok (.isub, 1) := by decide +kernel
theorem dX8_readRope_62 : decode cX8_readRope 62 = .ok (.invokevirtual 68, 3) := by decide +kernel
theorem dX8_readRope_65 : decode cX8_readRope 65 = .ok (.istore 4, 2) := by decide +kernel
theorem dX8_readRope_67 : decode cX8_readRope 67 = .ok (.aload_n 0, 1) := by decide +kernel
theorem dX8_readRope_68 : decode cX8_readRope 68 = .ok (.ldc 119, 2) := by decide +kernel
theorem dX8_readRope_70 : decode cX8_readRope 70 = .ok (.invokevirtual 99, 3) := by decide +kernel
theorem dX8_readRope_73 : decode cX8_readRope 73 = .ok (.ifCond .ne 7, 3) := by decide +kernel
theorem dX8_readRope_76 : decode cX8_readRope 76 = .ok (.aload_n 0, 1) := by decide +kernel
theorem dX8_readRope_77 : decode cX8_readRope 77 = .ok (.invokevirtual 78, 3) := by decide +kernel
theorem dX8_readRope_80 : decode cX8_readRope 80 = .ok (.aload_n 0, 1) := by decide +kernel
theorem dX8_readRope_81 : decode cX8_readRope 81 = .ok (.iconst 2, 1) := by decide +kernel
theorem dX8_readRope_82 : decode cX8_readRope 82 = .ok (.bipush 9, 2) := by decide +kernel
theorem dX8_readRope_84 : decode cX8_readRope 84 = .ok (.invokevirtual 68, 3) := by decide +kernel
theorem dX8_readRope_87 : decode cX8_readRope 87 = .ok (.istore 5, 2) := by decide +kernel
theorem dX8_readRope_89 : decode cX8_readRope 89 = .ok (.aload_n 0, 1) := by decide +kernel
theorem dX8_readRope_90 : decode cX8_readRope 90 = .ok (.getfield 22, 3) := by decide +kernel
theorem dX8_readRope_93 : decode cX8_readRope 93 = .ok (.ifCond .eq 4, 3) := by decide +kernel
theorem dX8_readRope_96 : decode cX8_readRope 96 = .ok (.return_, 1) := by decide +kernel
theorem dX8_readRope_97 : decode cX8_readRope 97 = .ok (.aload_n 1, 1) := by decide +kernel
theorem dX8_readRope_98 : decode cX8_readRope 98 = .ok (.iload_n 3, 1) := by decide +kernel
theorem dX8_readRope_99 : decode cX8_readRope 99 = .ok (.iload 4, 2) := by decide +kernel
theorem dX8_readRope_101 : decode cX8_readRope 101 = .ok (.iload 5, 2) := by decide +kernel
theorem dX8_readRope_103 : decode cX8_readRope 103 = .ok (.invokevirtual 121, 3) := by decide +kernel
theorem dX8_readRope_106 : decode cX8_readRope 106 = .ok (.aload_n 0, 1) := by decide +kernel
theorem dX8_readRope_107 : decode cX8_readRope 107 = .ok (.ldc 125, 2) := by decide +kernel
theorem dX8_readRope_109 : decode cX8_readRope 109 = .ok (.invokevirtual 99, 3) := by decide +kernel
theorem dX8_readRope_112 : decode cX8_readRope 112 = .ok (.ifCond .eq 16, 3) := by decide +kernel
theorem dX8_readRope_115 : decode cX8_readRope 115 = .ok (.aload_n 1, 1) := by decide +kernel
theorem dX8_readRope_116 : decode cX8_readRope 116 = .ok (.getfield 127, 3) := by decide +kernel
theorem dX8_readRope_119 : decode cX8_readRope 119 = .ok (.iload_n 2, 1) := by decide +kernel
theorem dX8_readRope_120 : decode cX8_readRope 120 = .ok (.aload_n 0, 1) := by decide +kernel
theorem dX8_readRope_121 : decode cX8_readRope 121 = .ok (.iconst 0, 1) := by decide +kernel
theorem dX8_readRope_122 : decode cX8_readRope 122 = .ok (.iload 5, 2) := by decide +kernel
theorem dX8_readRope_124 : decode cX8_readRope 124 = .ok (.invokevirtual 68, 3) := by decide +kernel
theorem dX8_readRope_127 : decode cX8_readRope 127 = .ok (.iastore, 1) := by decide +kernel
theorem dX8_readRope_128 : decode cX8_readRope 128 = .ok (.aload_n 0, 1) := by decide +kernel
theorem dX8_readRope_129 : decode cX8_readRope 129 = .ok (.ldc 130, 2) := by decide +kernel
theorem dX8_readRope_131 : decode cX8_readRope 131 = .ok (.invokevirtual 99, 3) := by decide +kernel
theorem dX8_readRope_134 : decode cX8_readRope 134 = .ok (.ifCond .eq 35, 3) := by decide +kernel
theorem dX8_readRope_137 : decode cX8_readRope 137 = .ok (.aload_n 1, 1) := by decide +kernel
theorem dX8_readRope_138 : decode cX8_readRope 138 = .ok (.getfield 132, 3) := by decide +kernel
theorem dX8_readRope_141 : decode cX8_readRope 141 = .ok (.iconst 2, 1) := by decide +kernel
theorem dX8_readRope_142 : decode cX8_readRope 142 = .ok (.iload_n 2, 1) := by decide +kernel
theorem dX8_readRope_143 : decode cX8_readRope 143 = .ok (.imul, 1) := by decide +kernel
theorem dX8_readRope_144 : decode cX8_readRope 144 = .ok (.aload_n 0, 1) := by decide +kernel
theorem dX8_readRope_145 : decode cX8_readRope 145 = .ok (.iconst 0, 1) := by decide +kernel
theorem dX8_readRope_146 : decode cX8_readRope 146 = .ok (.bipush 9, 2) := by decide +kernel
theorem dX8_readRope_148 : decode cX8_readRope 148 = .ok (.invokevirtual 68, 3) := by decide +kernel
theorem dX8_readRope_151 : decode cX8_readRope 151 = .ok (.iastore, 1) := by decide +kernel
theorem dX8_readRope_152 : decode cX8_readRope 152 = .ok (.aload_n 1, 1) := by decide +kernel
theorem dX8_readRope_153 : decode cX8_readRope 153 = .ok (.getfield 132, 3) := by decide +kernel
theorem dX8_readRope_156 : decode cX8_readRope 156 = .ok (.iconst 2, 1) := by decide +kernel
theorem dX8_readRope_157 : decode cX8_readRope 157 = .ok (.iload_n 2, 1) := by decide +kernel
theorem dX8_readRope_158 : decode cX8_readRope 158 = .ok (.imul, 1) := by decide +kernel
theorem dX8_readRope_159 : decode cX8_readRope 159 = .ok (.iconst 1, 1) := by decide +kernel
theorem dX8_readRope_160 : decode cX8_readRope 160 = .ok (.iadd, 1) := by decide +kernel
theorem dX8_readRope_161 : decode cX8_readRope 161 = .ok (.aload_n 0, 1) := by decide +kernel
theorem dX8_readRope_162 : decode cX8_readRope 162 = .ok (.iconst 0, 1) := by decide +kernel
theorem dX8_readRope_163 : decode cX8_readRope 163 = .ok (.bipush 9, 2) := by decide +kernel
theorem dX8_readRope_165 : decode cX8_readRope 165 = .ok (.invokevirtual 68, 3) := by decide +kernel
theorem dX8_readRope_168 : decode cX8_readRope 168 = .ok (.iastore, 1) := by decide +kernel
theorem dX8_readRope_169 : decode cX8_readRope 169 = .ok (.return_, 1) := by decide +kernel
def mX8_readRope (n : Nat) (a : Nat) (b1 : Nat) (μ : Mem) : Option (Unit × Mem) :=
  (gI μ 2 b1 1).bind fun x1 =>
  if lt32 x1 16 then
    (inv μ 9 a (mX8_advance n a μ)).bind fun p18 =>
    (gI p18.2 2 b1 0).bind fun x24 =>
    (inv p18.2 9 a (mX8_takeNumber n a 0 (x24 - 1) p18.2)).bind fun p29 =>
    (gI p29.2 9 a 5).bind fun x34 =>
    jn (fun (v54 : Unit) (μ54 : Mem) =>
    (gI μ54 2 b1 0).bind fun x57 =>
    (inv μ54 9 a (mX8_takeNumber n a 0 (x57 - 1) μ54)).bind fun p62 =>
    (txt p62.2 5).bind fun x68 =>
    (inv p62.2 9 a (mX8_takeWord n a x68 p62.2)).bind fun p70 =>
    jn (fun (v80 : Unit) (μ80 : Mem) =>
    (inv μ80 9 a (mX8_takeNumber n a 2 9 μ80)).bind fun p84 =>
    (gI p84.2 9 a 1).bind fun x90 =>
    if eq32 x90 0 then
      (inv p84.2 2 b1 (mX1_addRope n b1 p29.1 p62.1 p84.1 p84.2)).bind fun p103 =>
      (txt p103.2 6).bind fun x107 =>
      (inv p103.2 9 a (mX8_takeWord n a x107 p103.2)).bind fun p109 =>
      jn (fun (v128 : Unit) (μ128 : Mem) =>
      (txt μ128 7).bind fun x129 =>
      (inv μ128 9 a (mX8_takeWord n a x129 μ128)).bind fun p131 =>
      if eq32 p131.1 0 then
        some ((), p131.2)
      else
      (gA p131.2 2 b1 16).bind fun x138 =>
      (inv p131.2 9 a (mX8_takeNumber n a 0 9 p131.2)).bind fun p148 =>
      (stI p148.2 0 x138 (2 * x1) p148.1).bind fun μ151 =>
      (gA μ151 2 b1 16).bind fun x153 =>
      (inv μ151 9 a (mX8_takeNumber n a 0 9 μ151)).bind fun p165 =>
      (stI p165.2 0 x153 ((2 * x1) + 1) p165.1).bind fun μ168 =>
      some ((), μ168)) (fun j128 =>
      if eq32 p109.1 0 then
        j128 () p109.2
      else
      (gA p109.2 2 b1 13).bind fun x116 =>
      (inv p109.2 9 a (mX8_takeNumber n a 0 p84.1 p109.2)).bind fun p124 =>
      (stI p124.2 0 x116 x1 p124.1).bind fun μ127 =>
      j128 () μ127)
    else
    some ((), p84.2)) (fun j80 =>
    if eq32 p70.1 0 then
      (inv p70.2 9 a (mX8_tellWrongToken n a p70.2)).bind fun p77 =>
      j80 () p77.2
    else
    j80 () p70.2)) (fun j54 =>
    if eq32 x34 2 then
      (gI p29.2 9 a 8).bind fun x42 =>
      if eq32 x42 p29.1 then
        (inv p29.2 9 a (mX8_tellFault n a 3 p29.2)).bind fun p51 =>
        j54 () p51.2
      else
      j54 () p29.2
    else
    j54 () p29.2)
  else
  (inv μ 9 a (mX8_tellFault n a 4 μ)).bind fun p13 =>
  some ((), p13.2)
set_option maxRecDepth 100000 in
set_option maxHeartbeats 4000000 in
theorem cX8_readRope_ok (n : Nat) (a : Nat) (b1 : Nat) (μ : Mem) : Mc yX8_readRope cX8_readRope 6 none 6 128 eV [aA a, aA b1] μ (mX8_readRope n a b1 μ) := by
  refine mc_of (L0 := [some (aA a), some (aA b1), none, none, none, none]) (k := 4) (by decide) rfl rfl (fun X Γ => ?_)
  unfold mX8_readRope
  refine sn_aload_n dX8_readRope_0 rfl ?_
  refine sn_getI (ci := 1) (j := 1) dX8_readRope_1 fl_X8_113 rfl (fun x1 => ?_)
  refine sn_istore_n (L' := [some (aA a), some (aA b1), some (aI x1), none, none, none]) dX8_readRope_4 (by decide) rfl ?_
  refine sn_iload_n dX8_readRope_5 rfl ?_
  refine sn_bipush dX8_readRope_6 (by decide) ?_
  refine sn_icmp_lt (tgt := 17) dX8_readRope_8 (by decide) ?_ ?_
  · refine sn_aload_n dX8_readRope_17 rfl ?_
    refine sn_callVV (vs := []) (ci := 8) (cX8_advance_ok n a μ) dX8_readRope_18 cw_X8_42 rfl rfl rfl (by decide) (by decide) (Nat.le_of_ble_eq_true rfl) (fun p18 => ?_)
    refine sn_aload_n dX8_readRope_21 rfl ?_
    refine sn_iconst dX8_readRope_22 ?_
    refine sn_aload_n dX8_readRope_23 rfl ?_
    refine sn_getI (ci := 1) (j := 0) dX8_readRope_24 fl_X8_87 rfl (fun x24 => ?_)
    refine sn_iconst dX8_readRope_27 ?_
    refine sn_isub dX8_readRope_28 ?_
    refine sn_callVI (vs := [aI 0, aI (x24 - 1)]) (ci := 8) (cX8_takeNumber_ok n a 0 (x24 - 1) p18.2) dX8_readRope_29 cw_X8_68 rfl rfl rfl (by decide) (by decide) (Nat.le_of_ble_eq_true rfl) (fun p29 => ?_)
    refine sn_istore_n (L' := [some (aA a), some (aA b1), some (aI x1), some (aI p29.1), none, none]) dX8_readRope_32 (by decide) rfl ?_
    refine sn_aload_n dX8_readRope_33 rfl ?_
    refine sn_getI (ci := 8) (j := 5) dX8_readRope_34 fl_X8_45 rfl (fun x34 => ?_)
    refine sn_iconst dX8_readRope_37 ?_
    refine sn_jn (pcj := 54) (La := fun v54 : Unit => [some (aA a), some (aA b1), some (aI x1), some (aI p29.1), none, none]) (Sa := fun v54 : Unit => []) ?_ ?_
    · intro v54 μ54
      refine sn_aload_n dX8_readRope_54 rfl ?_
      refine sn_iconst dX8_readRope_55 ?_
      refine sn_aload_n dX8_readRope_56 rfl ?_
      refine sn_getI (ci := 1) (j := 0) dX8_readRope_57 fl_X8_87 rfl (fun x57 => ?_)
      refine sn_iconst dX8_readRope_60 ?_
      refine sn_isub dX8_readRope_61 ?_
      refine sn_callVI (vs := [aI 0, aI (x57 - 1)]) (ci := 8) (cX8_takeNumber_ok n a 0 (x57 - 1) μ54) dX8_readRope_62 cw_X8_68 rfl rfl rfl (by decide) (by decide) (Nat.le_of_ble_eq_true rfl) (fun p62 => ?_)
      refine sn_istore (L' := [some (aA a), some (aA b1), some (aI x1), some (aI p29.1), some (aI p62.1), none]) dX8_readRope_65 (by decide) rfl ?_
      refine sn_aload_n dX8_readRope_67 rfl ?_
      refine sn_ldcS (k := 5) dX8_readRope_68 (by decide) rfl (fun x68 => ?_)
      refine sn_callVI (vs := [aA x68]) (ci := 8) (cX8_takeWord_ok n a x68 p62.2) dX8_readRope_70 cw_X8_99 rfl rfl rfl (by decide) (by decide) (Nat.le_of_ble_eq_true rfl) (fun p70 => ?_)
      refine sn_jn (pcj := 80) (La := fun v80 : Unit => [some (aA a), some (aA b1), some (aI x1), some (aI p29.1), some (aI p62.1), none]) (Sa := fun v80 : Unit => []) ?_ ?_
      · intro v80 μ80
        refine sn_aload_n dX8_readRope_80 rfl ?_
        refine sn_iconst dX8_readRope_81 ?_
        refine sn_bipush dX8_readRope_82 (by decide) ?_
        refine sn_callVI (vs := [aI 2, aI 9]) (ci := 8) (cX8_takeNumber_ok n a 2 9 μ80) dX8_readRope_84 cw_X8_68 rfl rfl rfl (by decide) (by decide) (Nat.le_of_ble_eq_true rfl) (fun p84 => ?_)
        refine sn_istore (L' := [some (aA a), some (aA b1), some (aI x1), some (aI p29.1), some (aI p62.1), some (aI p84.1)]) dX8_readRope_87 (by decide) rfl ?_
        refine sn_aload_n dX8_readRope_89 rfl ?_
        refine sn_getI (ci := 8) (j := 1) dX8_readRope_90 fl_X8_22 rfl (fun x90 => ?_)
        refine sn_if_eq (tgt := 97) dX8_readRope_93 (by decide) ?_ ?_
        · refine sn_aload_n dX8_readRope_97 rfl ?_
          refine sn_iload_n dX8_readRope_98 rfl ?_
          refine sn_iload dX8_readRope_99 rfl ?_
          refine sn_iload dX8_readRope_101 rfl ?_
          refine sn_callVV (vs := [aI p29.1, aI p62.1, aI p84.1]) (ci := 1) (cX1_addRope_ok n b1 p29.1 p62.1 p84.1 p84.2) dX8_readRope_103 cw_X8_121 rfl rfl rfl (by decide) (by decide) (Nat.le_of_ble_eq_true rfl) (fun p103 => ?_)
          refine sn_aload_n dX8_readRope_106 rfl ?_
          refine sn_ldcS (k := 6) dX8_readRope_107 (by decide) rfl (fun x107 => ?_)
          refine sn_callVI (vs := [aA x107]) (ci := 8) (cX8_takeWord_ok n a x107 p103.2) dX8_readRope_109 cw_X8_99 rfl rfl rfl (by decide) (by decide) (Nat.le_of_ble_eq_true rfl) (fun p109 => ?_)
          refine sn_jn (pcj := 128) (La := fun v128 : Unit => [some (aA a), some (aA b1), some (aI x1), none, none, none]) (Sa := fun v128 : Unit => []) ?_ ?_
          · intro v128 μ128
            refine sn_aload_n dX8_readRope_128 rfl ?_
            refine sn_ldcS (k := 7) dX8_readRope_129 (by decide) rfl (fun x129 => ?_)
            refine sn_callVI (vs := [aA x129]) (ci := 8) (cX8_takeWord_ok n a x129 μ128) dX8_readRope_131 cw_X8_99 rfl rfl rfl (by decide) (by decide) (Nat.le_of_ble_eq_true rfl) (fun p131 => ?_)
            refine sn_if_eq (tgt := 169) dX8_readRope_134 (by decide) ?_ ?_
            · exact sn_vret dX8_readRope_169
            · refine sn_aload_n dX8_readRope_137 rfl ?_
              refine sn_getA (ci := 1) (j := 16) dX8_readRope_138 fl_X8_132 (by decide) (fun x138 => ?_)
              refine sn_iconst dX8_readRope_141 ?_
              refine sn_iload_n dX8_readRope_142 rfl ?_
              refine sn_imul dX8_readRope_143 ?_
              refine sn_aload_n dX8_readRope_144 rfl ?_
              refine sn_iconst dX8_readRope_145 ?_
              refine sn_bipush dX8_readRope_146 (by decide) ?_
              refine sn_callVI (vs := [aI 0, aI 9]) (ci := 8) (cX8_takeNumber_ok n a 0 9 p131.2) dX8_readRope_148 cw_X8_68 rfl rfl rfl (by decide) (by decide) (Nat.le_of_ble_eq_true rfl) (fun p148 => ?_)
              refine sn_iast dX8_readRope_151 (fun μ151 => ?_)
              refine sn_aload_n dX8_readRope_152 rfl ?_
              refine sn_getA (ci := 1) (j := 16) dX8_readRope_153 fl_X8_132 (by decide) (fun x153 => ?_)
              refine sn_iconst dX8_readRope_156 ?_
              refine sn_iload_n dX8_readRope_157 rfl ?_
              refine sn_imul dX8_readRope_158 ?_
              refine sn_iconst dX8_readRope_159 ?_
              refine sn_iadd dX8_readRope_160 ?_
              refine sn_aload_n dX8_readRope_161 rfl ?_
              refine sn_iconst dX8_readRope_162 ?_
              refine sn_bipush dX8_readRope_163 (by decide) ?_
              refine sn_callVI (vs := [aI 0, aI 9]) (ci := 8) (cX8_takeNumber_ok n a 0 9 μ151) dX8_readRope_165 cw_X8_68 rfl rfl rfl (by decide) (by decide) (Nat.le_of_ble_eq_true rfl) (fun p165 => ?_)
              refine sn_iast dX8_readRope_168 (fun μ168 => ?_)
              exact sn_vret dX8_readRope_169
          intro j128 hj128
          refine sn_if_eq (tgt := 128) dX8_readRope_112 (by decide) ?_ ?_
          · exact sn_mask (L' := [some (aA a), some (aA b1), some (aI x1), none, none, none]) [true, true, true, false, false, false] rfl (hj128 () p109.2)
          · refine sn_aload_n dX8_readRope_115 rfl ?_
            refine sn_getA (ci := 1) (j := 13) dX8_readRope_116 fl_X8_127 (by decide) (fun x116 => ?_)
            refine sn_iload_n dX8_readRope_119 rfl ?_
            refine sn_aload_n dX8_readRope_120 rfl ?_
            refine sn_iconst dX8_readRope_121 ?_
            refine sn_iload dX8_readRope_122 rfl ?_
            refine sn_callVI (vs := [aI 0, aI p84.1]) (ci := 8) (cX8_takeNumber_ok n a 0 p84.1 p109.2) dX8_readRope_124 cw_X8_68 rfl rfl rfl (by decide) (by decide) (Nat.le_of_ble_eq_true rfl) (fun p124 => ?_)
            refine sn_iast dX8_readRope_127 (fun μ127 => ?_)
            exact sn_mask (L' := [some (aA a), some (aA b1), some (aI x1), none, none, none]) [true, true, true, false, false, false] rfl (hj128 () μ127)
        · exact sn_vret dX8_readRope_96
      intro j80 hj80
      refine sn_if_ne (tgt := 80) dX8_readRope_73 (by decide) ?_ ?_
      · exact hj80 () p70.2
      · refine sn_aload_n dX8_readRope_76 rfl ?_
        refine sn_callVV (vs := []) (ci := 8) (cX8_tellWrongToken_ok n a p70.2) dX8_readRope_77 cw_X8_78 rfl rfl rfl (by decide) (by decide) (Nat.le_of_ble_eq_true rfl) (fun p77 => ?_)
        exact hj80 () p77.2
    intro j54 hj54
    refine sn_icmp_ne (tgt := 54) dX8_readRope_38 (by decide) ?_ ?_
    · exact hj54 () p29.2
    · refine sn_aload_n dX8_readRope_41 rfl ?_
      refine sn_getI (ci := 8) (j := 8) dX8_readRope_42 fl_X8_116 rfl (fun x42 => ?_)
      refine sn_iload_n dX8_readRope_45 rfl ?_
      refine sn_icmp_ne (tgt := 54) dX8_readRope_46 (by decide) ?_ ?_
      · exact hj54 () p29.2
      · refine sn_aload_n dX8_readRope_49 rfl ?_
        refine sn_iconst dX8_readRope_50 ?_
        refine sn_callVV (vs := [aI 3]) (ci := 8) (cX8_tellFault_ok n a 3 p29.2) dX8_readRope_51 cw_X8_90 rfl rfl rfl (by decide) (by decide) (Nat.le_of_ble_eq_true rfl) (fun p51 => ?_)
        exact hj54 () p51.2
  · refine sn_aload_n dX8_readRope_11 rfl ?_
    refine sn_iconst dX8_readRope_12 ?_
    refine sn_callVV (vs := [aI 4]) (ci := 8) (cX8_tellFault_ok n a 4 μ) dX8_readRope_13 cw_X8_90 rfl rfl rfl (by decide) (by decide) (Nat.le_of_ble_eq_true rfl) (fun p13 => ?_)
    exact sn_vret dX8_readRope_16
theorem dX8_takeSemicolon_0 : decode cX8_takeSemicolon 0 = .ok (.aload_n 0, 1) := by decide +kernel
theorem dX8_takeSemicolon_1 : decode cX8_takeSemicolon 1 = .ok (.getfield 45, 3) := by decide +kernel
theorem dX8_takeSemicolon_4 : decode cX8_takeSemicolon 4 = .ok (.iconst 3, 1) := by decide +kernel
theorem dX8_takeSemicolon_5 : decode cX8_takeSemicolon 5 = .ok (.if_icmp .eq 8, 3) := by decide +kernel
theorem dX8_takeSemicolon_8 : decode cX8_takeSemicolon 8 = .ok (.aload_n 0, 1) := by decide +kernel
theorem dX8_takeSemicolon_9 : decode cX8_takeSemicolon 9 = .ok (.invokevirtual 78, 3) := by decide +kernel
theorem dX8_takeSemicolon_12 : decode cX8_takeSemicolon 12 = .ok (.return_, 1) := by decide +kernel
theorem dX8_takeSemicolon_13 : decode cX8_takeSemicolon 13 = .ok (.aload_n 0, 1) := by decide +kernel
theorem dX8_takeSemicolon_14 : decode cX8_takeSemicolon 14 = .ok (.invokevirtual 42, 3) := by decide +kernel
theorem dX8_takeSemicolon_17 : decode cX8_takeSemicolon 17 = .ok (.return_, 1) := by decide +kernel
def mX8_takeSemicolon (n : Nat) (a : Nat) (μ : Mem) : Option (Unit × Mem) :=
  (gI μ 9 a 5).bind fun x1 =>
  if eq32 x1 3 then
    (inv μ 9 a (mX8_advance n a μ)).bind fun p14 =>
    some ((), p14.2)
  else
  (inv μ 9 a (mX8_tellWrongToken n a μ)).bind fun p9 =>
  some ((), p9.2)
set_option maxRecDepth 100000 in
set_option maxHeartbeats 4000000 in
theorem cX8_takeSemicolon_ok (n : Nat) (a : Nat) (μ : Mem) : Mc yX8_takeSemicolon cX8_takeSemicolon 1 none 3 61 eV [aA a] μ (mX8_takeSemicolon n a μ) := by
  refine mc_of (L0 := [some (aA a)]) (k := 0) (by decide) rfl rfl (fun X Γ => ?_)
  unfold mX8_takeSemicolon
  refine sn_aload_n dX8_takeSemicolon_0 rfl ?_
  refine sn_getI (ci := 8) (j := 5) dX8_takeSemicolon_1 fl_X8_45 rfl (fun x1 => ?_)
  refine sn_iconst dX8_takeSemicolon_4 ?_
  refine sn_icmp_eq (tgt := 13) dX8_takeSemicolon_5 (by decide) ?_ ?_
  · refine sn_aload_n dX8_takeSemicolon_13 rfl ?_
    refine sn_callVV (vs := []) (ci := 8) (cX8_advance_ok n a μ) dX8_takeSemicolon_14 cw_X8_42 rfl rfl rfl (by decide) (by decide) (Nat.le_of_ble_eq_true rfl) (fun p14 => ?_)
    exact sn_vret dX8_takeSemicolon_17
  · refine sn_aload_n dX8_takeSemicolon_8 rfl ?_
    refine sn_callVV (vs := []) (ci := 8) (cX8_tellWrongToken_ok n a μ) dX8_takeSemicolon_9 cw_X8_78 rfl rfl rfl (by decide) (by decide) (Nat.le_of_ble_eq_true rfl) (fun p9 => ?_)
    exact sn_vret dX8_takeSemicolon_12
theorem dX8_readLine_0 : decode cX8_readLine 0 = .ok (.aload_n 0, 1) := by decide +kernel
theorem dX8_readLine_1 : decode cX8_readLine 1 = .ok (.ldc 52, 2) := by decide +kernel
theorem dX8_readLine_3 : decode cX8_readLine 3 = .ok (.invokevirtual 54, 3) := by decide +kernel
theorem dX8_readLine_6 : decode cX8_readLine 6 = .ok (.ifCond .eq 11, 3) := by decide +kernel
theorem dX8_readLine_9 : decode cX8_readLine 9 = .ok (.aload_n 0, 1) := by decide +kernel
theorem dX8_readLine_10 : decode cX8_readLine 10 = .ok (.aload_n 1, 1) := by decide +kernel
theorem dX8_readLine_11 : decode cX8_readLine 11 = .ok (.invokevirtual 58, 3) := by decide +kernel
theorem dX8_readLine_14 : decode cX8_readLine 14 = .ok (.goto 78, 3) := by decide +kernel
theorem dX8_readLine_17 : decode cX8_readLine 17 = .ok (.aload_n 0, 1) := by decide +kernel
theorem dX8_readLine_18 : decode cX8_readLine 18 = .ok (.ldc 61, 2) := by decide +kernel
theorem dX8_readLine_20 : decode cX8_readLine 20 = .ok (.invokevirtual 54, 3) := by decide +kernel
theorem dX8_readLine_23 : decode cX8_readLine 23 = .ok (.ifCond .eq 11, 3) := by decide +kernel
theorem dX8_readLine_26 : decode cX8_readLine 26 = .ok (.aload_n 0, 1) := by decide +kernel
theorem dX8_readLine_27 : decode cX8_readLine 27 = .ok (.aload_n 1, 1) := by decide +kernel
theorem dX8_readLine_28 : decode cX8_readLine 28 = .ok (.invokevirtual 63, 3) := by decide +kernel
theorem dX8_readLine_31 : decode cX8_readLine 31 = .ok (.goto 61, 3) := by decide +kernel
theorem dX8_readLine_34 : decode cX8_readLine 34 = .ok (.aload_n 0, 1) := by decide +kernel
theorem dX8_readLine_35 : decode cX8_readLine 35 = .ok (.ldc 66, 2) := by decide +kernel
theorem dX8_readLine_37 : decode cX8_readLine 37 = .ok (.invokevirtual 54, 3) := by decide +kernel
theorem dX8_readLine_40 : decode cX8_readLine 40 = .ok (.ifCond .eq 21, 3) := by decide +kernel
theorem dX8_readLine_43 : decode cX8_readLine 43 = .ok (.aload_n 0, 1) := by decide +kernel
theorem dX8_readLine_44 : decode cX8_readLine 44 = .ok (.invokevirtual 42, 3) := by decide +kernel
theorem dX8_readLine_47 : decode cX8_readLine 47 = .ok (.aload_n 1, 1) := by decide +kernel
theorem dX8_readLine_48 : decode cX8_readLine 48 = .ok (.aload_n 0, 1) := by decide +kernel
theorem dX8_readLine_49 : decode cX8_readLine 49 = .ok (.iconst 1, 1) := by decide +kernel
theorem dX8_readLine_50 : decode cX8_readLine 50 = .ok (.bipush 9, 2) := by decide +kernel
theorem dX8_readLine_52 : decode cX8_readLine 52 = .ok (.invokevirtual 68, 3) := by decide +kernel
theorem dX8_readLine_55 : decode cX8_readLine 55 = .ok (.putfield 71, 3) := by decide +kernel
theorem dX8_readLine_58 : decode cX8_readLine 58 = .ok (.goto 34, 3) := by decide +kernel
theorem dX8_readLine_61 : decode cX8_readLine 61 = .ok (.aload_n 0, 1) := by decide +kernel
theorem dX8_readLine_62 : decode cX8_readLine 62 = .ok (.ldc 74, 2) := by decide +kernel
theorem dX8_readLine_64 : decode cX8_readLine 64 = .ok (.invokevirtual 54, 3) := by decide +kernel
theorem dX8_readLine_67 : decode cX8_readLine 67 = .ok (.ifCond .eq 21, 3) := by decide +kernel
theorem dX8_readLine_70 : decode cX8_readLine 70 = .ok (.aload_n 0, 1) := by decide +kernel
theorem dX8_readLine_71 : decode cX8_readLine 71 = .ok (.invokevirtual 42, 3) := by decide +kernel
theorem dX8_readLine_74 : decode cX8_readLine 74 = .ok (.aload_n 1, 1) := by decide +kernel
theorem dX8_readLine_75 : decode cX8_readLine 75 = .ok (.aload_n 0, 1) := by decide +kernel
theorem dX8_readLine_76 : decode cX8_readLine 76 = .ok (.iconst 1, 1) := by decide +kernel
theorem dX8_readLine_77 : decode cX8_readLine 77 = .ok (.bipush 40, 2) := by decide +kernel
theorem dX8_readLine_79 : decode cX8_readLine 79 = .ok (.invokevirtual 68, 3) := by decide +kernel
theorem dX8_readLine_82 : decode cX8_readLine 82 = .ok (.putfield 76, 3) := by decide +kernel
theorem dX8_readLine_85 : decode cX8_readLine 85 = .ok (.goto 7, 3) := by decide +kernel
theorem dX8_readLine_88 : decode cX8_readLine 88 = .ok (.aload_n 0, 1) := by decide +kernel
theorem dX8_readLine_89 : decode cX8_readLine 89 = .ok (.invokevirtual 78, 3) := by decide +kernel
theorem dX8_readLine_92 : decode cX8_readLine 92 = .ok (.aload_n 0, 1) := by decide +kernel
theorem dX8_readLine_93 : decode cX8_readLine 93 = .ok (.invokevirtual 81, 3) := by decide +kernel
theorem dX8_readLine_96 : decode cX8_readLine 96 = .ok (.aload_n 1, 1) := by decide +kernel
theorem dX8_readLine_97 : decode cX8_readLine 97 = .ok (.dup, 1) := by decide +kernel
theorem dX8_readLine_98 : decode cX8_readLine 98 = .ok (.getfield 84, 3) := by decide +kernel
theorem dX8_readLine_101 : decode cX8_readLine 101 = .ok (.iconst 1, 1) := by decide +kernel
theorem dX8_readLine_102 : decode cX8_readLine 102 = .ok (.iadd, 1) := by decide +kernel
theorem dX8_readLine_103 : decode cX8_readLine 103 = .ok (.putfield 84, 3) := by decide +kernel
theorem dX8_readLine_106 : decode cX8_readLine 106 = .ok (.return_, 1) := by decide +kernel
def mX8_readLine (n : Nat) (a : Nat) (b1 : Nat) (μ : Mem) : Option (Unit × Mem) :=
  (txt μ 0).bind fun x1 =>
  (inv μ 9 a (mX8_isWord n a x1 μ)).bind fun p3 =>
  jn (fun (v92 : Unit) (μ92 : Mem) =>
  (inv μ92 9 a (mX8_takeSemicolon n a μ92)).bind fun p93 =>
  (gI p93.2 2 b1 5).bind fun x98 =>
  (pI p93.2 2 b1 5 (x98 + 1)).bind fun μ103 =>
  some ((), μ103)) (fun j92 =>
  if eq32 p3.1 0 then
    (txt p3.2 4).bind fun x18 =>
    (inv p3.2 9 a (mX8_isWord n a x18 p3.2)).bind fun p20 =>
    if eq32 p20.1 0 then
      (txt p20.2 8).bind fun x35 =>
      (inv p20.2 9 a (mX8_isWord n a x35 p20.2)).bind fun p37 =>
      if eq32 p37.1 0 then
        (txt p37.2 9).bind fun x62 =>
        (inv p37.2 9 a (mX8_isWord n a x62 p37.2)).bind fun p64 =>
        if eq32 p64.1 0 then
          (inv p64.2 9 a (mX8_tellWrongToken n a p64.2)).bind fun p89 =>
          j92 () p89.2
        else
        (inv p64.2 9 a (mX8_advance n a p64.2)).bind fun p71 =>
        (inv p71.2 9 a (mX8_takeNumber n a 1 40 p71.2)).bind fun p79 =>
        (pI p79.2 2 b1 4 p79.1).bind fun μ82 =>
        j92 () μ82
      else
      (inv p37.2 9 a (mX8_advance n a p37.2)).bind fun p44 =>
      (inv p44.2 9 a (mX8_takeNumber n a 1 9 p44.2)).bind fun p52 =>
      (pI p52.2 2 b1 3 p52.1).bind fun μ55 =>
      j92 () μ55
    else
    (inv p20.2 9 a (mX8_readRope n a b1 p20.2)).bind fun p28 =>
    j92 () p28.2
  else
  (inv p3.2 9 a (mX8_readHouse n a b1 p3.2)).bind fun p11 =>
  j92 () p11.2)
set_option maxRecDepth 100000 in
set_option maxHeartbeats 4000000 in
theorem cX8_readLine_ok (n : Nat) (a : Nat) (b1 : Nat) (μ : Mem) : Mc yX8_readLine cX8_readLine 2 none 7 153 eV [aA a, aA b1] μ (mX8_readLine n a b1 μ) := by
  refine mc_of (L0 := [some (aA a), some (aA b1)]) (k := 0) (by decide) rfl rfl (fun X Γ => ?_)
  unfold mX8_readLine
  refine sn_aload_n dX8_readLine_0 rfl ?_
  refine sn_ldcS (k := 0) dX8_readLine_1 (by decide) rfl (fun x1 => ?_)
  refine sn_callVI (vs := [aA x1]) (ci := 8) (cX8_isWord_ok n a x1 μ) dX8_readLine_3 cw_X8_54 rfl rfl rfl (by decide) (by decide) (Nat.le_of_ble_eq_true rfl) (fun p3 => ?_)
  refine sn_jn (pcj := 92) (La := fun v92 : Unit => [some (aA a), some (aA b1)]) (Sa := fun v92 : Unit => []) ?_ ?_
  · intro v92 μ92
    refine sn_aload_n dX8_readLine_92 rfl ?_
    refine sn_callVV (vs := []) (ci := 8) (cX8_takeSemicolon_ok n a μ92) dX8_readLine_93 cw_X8_81 rfl rfl rfl (by decide) (by decide) (Nat.le_of_ble_eq_true rfl) (fun p93 => ?_)
    refine sn_aload_n dX8_readLine_96 rfl ?_
    refine sn_dup dX8_readLine_97 rfl ?_
    refine sn_getI (ci := 1) (j := 5) dX8_readLine_98 fl_X8_84 rfl (fun x98 => ?_)
    refine sn_iconst dX8_readLine_101 ?_
    refine sn_iadd dX8_readLine_102 ?_
    refine sn_putI (ci := 1) (j := 5) dX8_readLine_103 fl_X8_84 rfl (fun q h => by cases h; rfl) (fun μ103 => ?_)
    exact sn_vret dX8_readLine_106
  intro j92 hj92
  refine sn_if_eq (tgt := 17) dX8_readLine_6 (by decide) ?_ ?_
  · refine sn_aload_n dX8_readLine_17 rfl ?_
    refine sn_ldcS (k := 4) dX8_readLine_18 (by decide) rfl (fun x18 => ?_)
    refine sn_callVI (vs := [aA x18]) (ci := 8) (cX8_isWord_ok n a x18 p3.2) dX8_readLine_20 cw_X8_54 rfl rfl rfl (by decide) (by decide) (Nat.le_of_ble_eq_true rfl) (fun p20 => ?_)
    refine sn_if_eq (tgt := 34) dX8_readLine_23 (by decide) ?_ ?_
    · refine sn_aload_n dX8_readLine_34 rfl ?_
      refine sn_ldcS (k := 8) dX8_readLine_35 (by decide) rfl (fun x35 => ?_)
      refine sn_callVI (vs := [aA x35]) (ci := 8) (cX8_isWord_ok n a x35 p20.2) dX8_readLine_37 cw_X8_54 rfl rfl rfl (by decide) (by decide) (Nat.le_of_ble_eq_true rfl) (fun p37 => ?_)
      refine sn_if_eq (tgt := 61) dX8_readLine_40 (by decide) ?_ ?_
      · refine sn_aload_n dX8_readLine_61 rfl ?_
        refine sn_ldcS (k := 9) dX8_readLine_62 (by decide) rfl (fun x62 => ?_)
        refine sn_callVI (vs := [aA x62]) (ci := 8) (cX8_isWord_ok n a x62 p37.2) dX8_readLine_64 cw_X8_54 rfl rfl rfl (by decide) (by decide) (Nat.le_of_ble_eq_true rfl) (fun p64 => ?_)
        refine sn_if_eq (tgt := 88) dX8_readLine_67 (by decide) ?_ ?_
        · refine sn_aload_n dX8_readLine_88 rfl ?_
          refine sn_callVV (vs := []) (ci := 8) (cX8_tellWrongToken_ok n a p64.2) dX8_readLine_89 cw_X8_78 rfl rfl rfl (by decide) (by decide) (Nat.le_of_ble_eq_true rfl) (fun p89 => ?_)
          exact hj92 () p89.2
        · refine sn_aload_n dX8_readLine_70 rfl ?_
          refine sn_callVV (vs := []) (ci := 8) (cX8_advance_ok n a p64.2) dX8_readLine_71 cw_X8_42 rfl rfl rfl (by decide) (by decide) (Nat.le_of_ble_eq_true rfl) (fun p71 => ?_)
          refine sn_aload_n dX8_readLine_74 rfl ?_
          refine sn_aload_n dX8_readLine_75 rfl ?_
          refine sn_iconst dX8_readLine_76 ?_
          refine sn_bipush dX8_readLine_77 (by decide) ?_
          refine sn_callVI (vs := [aI 1, aI 40]) (ci := 8) (cX8_takeNumber_ok n a 1 40 p71.2) dX8_readLine_79 cw_X8_68 rfl rfl rfl (by decide) (by decide) (Nat.le_of_ble_eq_true rfl) (fun p79 => ?_)
          refine sn_putI (ci := 1) (j := 4) dX8_readLine_82 fl_X8_76 rfl (fun q h => by cases h; rfl) (fun μ82 => ?_)
          refine sn_goto (tgt := 92) dX8_readLine_85 (by decide) ?_
          exact hj92 () μ82
      · refine sn_aload_n dX8_readLine_43 rfl ?_
        refine sn_callVV (vs := []) (ci := 8) (cX8_advance_ok n a p37.2) dX8_readLine_44 cw_X8_42 rfl rfl rfl (by decide) (by decide) (Nat.le_of_ble_eq_true rfl) (fun p44 => ?_)
        refine sn_aload_n dX8_readLine_47 rfl ?_
        refine sn_aload_n dX8_readLine_48 rfl ?_
        refine sn_iconst dX8_readLine_49 ?_
        refine sn_bipush dX8_readLine_50 (by decide) ?_
        refine sn_callVI (vs := [aI 1, aI 9]) (ci := 8) (cX8_takeNumber_ok n a 1 9 p44.2) dX8_readLine_52 cw_X8_68 rfl rfl rfl (by decide) (by decide) (Nat.le_of_ble_eq_true rfl) (fun p52 => ?_)
        refine sn_putI (ci := 1) (j := 3) dX8_readLine_55 fl_X8_71 rfl (fun q h => by cases h; rfl) (fun μ55 => ?_)
        refine sn_goto (tgt := 92) dX8_readLine_58 (by decide) ?_
        exact hj92 () μ55
    · refine sn_aload_n dX8_readLine_26 rfl ?_
      refine sn_aload_n dX8_readLine_27 rfl ?_
      refine sn_callVV (vs := [aA b1]) (ci := 8) (cX8_readRope_ok n a b1 p20.2) dX8_readLine_28 cw_X8_63 rfl rfl rfl (by decide) (by decide) (Nat.le_of_ble_eq_true rfl) (fun p28 => ?_)
      refine sn_goto (tgt := 92) dX8_readLine_31 (by decide) ?_
      exact hj92 () p28.2
  · refine sn_aload_n dX8_readLine_9 rfl ?_
    refine sn_aload_n dX8_readLine_10 rfl ?_
    refine sn_callVV (vs := [aA b1]) (ci := 8) (cX8_readHouse_ok n a b1 p3.2) dX8_readLine_11 cw_X8_58 rfl rfl rfl (by decide) (by decide) (Nat.le_of_ble_eq_true rfl) (fun p11 => ?_)
    refine sn_goto (tgt := 92) dX8_readLine_14 (by decide) ?_
    exact hj92 () p11.2
theorem dX8_readText_0 : decode cX8_readText 0 = .ok (.aload_n 0, 1) := by decide +kernel
theorem dX8_readText_1 : decode cX8_readText 1 = .ok (.iconst 0, 1) := by decide +kernel
theorem dX8_readText_2 : decode cX8_readText 2 = .ok (.putfield 22, 3) := by decide +kernel
theorem dX8_readText_5 : decode cX8_readText 5 = .ok (.aload_n 0, 1) := by decide +kernel
theorem dX8_readText_6 : decode cX8_readText 6 = .ok (.iconst (-1), 1) := by decide +kernel
theorem dX8_readText_7 : decode cX8_readText 7 = .ok (.putfield 9, 3) := by decide +kernel
theorem dX8_readText_10 : decode cX8_readText 10 = .ok (.aload_n 0, 1) := by decide +kernel
theorem dX8_readText_11 : decode cX8_readText 11 = .ok (.iload_n 1, 1) := by decide +kernel
theorem dX8_readText_12 : decode cX8_readText 12 = .ok (.sipush 900, 3) := by decide +kernel
theorem dX8_readText_15 : decode cX8_readText 15 = .ok (.invokestatic 25, 3) := by decide +kernel
theorem dX8_readText_18 : decode cX8_readText 18 = .ok (.putfield 31, 3) := by decide +kernel
theorem dX8_readText_21 : decode cX8_readText 21 = .ok (.aload_n 0, 1) := by decide +kernel
theorem dX8_readText_22 : decode cX8_readText 22 = .ok (.iconst 0, 1) := by decide +kernel
theorem dX8_readText_23 : decode cX8_readText 23 = .ok (.putfield 19, 3) := by decide +kernel
theorem dX8_readText_26 : decode cX8_readText 26 = .ok (.aload_n 0, 1) := by decide +kernel
theorem dX8_readText_27 : decode cX8_readText 27 = .ok (.iconst 0, 1) := by decide +kernel
theorem dX8_readText_28 : decode cX8_readText 28 = .ok (.putfield 34, 3) := by decide +kernel
theorem dX8_readText_31 : decode cX8_readText 31 = .ok (.aload_n 2, 1) := by decide +kernel
theorem dX8_readText_32 : decode cX8_readText 32 = .ok (.invokevirtual 37, 3) := by decide +kernel
theorem dX8_readText_35 : decode cX8_readText 35 = .ok (.aload_n 0, 1) := by decide +kernel
theorem dX8_readText_36 : decode cX8_readText 36 = .ok (.invokevirtual 42, 3) := by decide +kernel
theorem dX8_readText_39 : decode cX8_readText 39 = .ok (.iconst 0, 1) := by decide +kernel
theorem dX8_readText_40 : decode cX8_readText 40 = .ok (.istore_n 3, 1) := by decide +kernel
theorem dX8_readText_41 : decode cX8_readText 41 = .ok (.iload_n 3, 1) := by decide +kernel
theorem dX8_readText_42 : decode cX8_readText 42 = .ok (.aload_n 0, 1) := by decide +kernel
theorem dX8_readText_43 : decode cX8_readText 43 = .ok (.getfield 31, 3) := by decide +kernel
theorem dX8_readText_46 : decode cX8_readText 46 = .ok (.if_icmp .gt 28, 3) := by decide +kernel
theorem dX8_readText_49 : decode cX8_readText 49 = .ok (.aload_n 0, 1) := by decide +kernel
theorem dX8_readText_50 : decode cX8_readText 50 = .ok (.getfield 45, 3) := by decide +kernel
theorem dX8_readText_53 : decode cX8_readText 53 = .ok (.ifCond .eq 21, 3) := by decide +kernel
theorem dX8_readText_56 : decode cX8_readText 56 = .ok (.aload_n 0, 1) := by decide +kernel
theorem dX8_readText_57 : decode cX8_readText 57 = .ok (.getfield 22, 3) := by decide +kernel
theorem dX8_readText_60 : decode cX8_readText 60 = .ok (.ifCond .ne 14, 3) := by decide +kernel
theorem dX8_readText_63 : decode cX8_readText 63 = .ok (.aload_n 0, 1) := by decide +kernel
theorem dX8_readText_64 : decode cX8_readText 64 = .ok (.aload_n 2, 1) := by decide +kernel
theorem dX8_readText_65 : decode cX8_readText 65 = .ok (.invokevirtual 48, 3) := by decide +kernel
theorem dX8_readText_68 : decode cX8_readText 68 = .ok (.iinc 3 1, 3) := by decide +kernel
theorem dX8_readText_71 : decode cX8_readText 71 = .ok (.goto (-30), 3) := by decide +kernel
theorem dX8_readText_74 : decode cX8_readText 74 = .ok (.return_, 1) := by decide +kernel
def mX8_readText (n : Nat) (a : Nat) (b1 : Int) (b2 : Nat) (μ : Mem) : Option (Unit × Mem) :=
  (pI μ 9 a 1 0).bind fun μ2 =>
  (pI μ2 9 a 2 (-1)).bind fun μ7 =>
  (pI μ7 9 a 4 (mMin b1 900)).bind fun μ18 =>
  (pI μ18 9 a 0 0).bind fun μ23 =>
  (pI μ23 9 a 7 0).bind fun μ28 =>
  (inv μ28 2 b2 (mX1_begin n b2 μ28)).bind fun p32 =>
  (inv p32.2 9 a (mX8_advance n a p32.2)).bind fun p36 =>
  lp (fun nx41 (v41 : Int) (μ41 : Mem) =>
  (gI μ41 9 a 4).bind fun x43 =>
  if lt32 x43 v41 then
    some ((), μ41)
  else
  (gI μ41 9 a 5).bind fun x50 =>
  if eq32 x50 0 then
    some ((), μ41)
  else
  (gI μ41 9 a 1).bind fun x57 =>
  if eq32 x57 0 then
    (inv μ41 9 a (mX8_readLine n a b2 μ41)).bind fun p65 =>
    nx41 (v41 + 1) p65.2
  else
  some ((), μ41)) n 0 p36.2
set_option maxRecDepth 100000 in
set_option maxHeartbeats 4000000 in
theorem cX8_readText_ok (n : Nat) (a : Nat) (b1 : Int) (b2 : Nat) (μ : Mem) : Mc yX8_readText cX8_readText 4 none 8 174 eV [aA a, aI b1, aA b2] μ (mX8_readText n a b1 b2 μ) := by
  refine mc_of (L0 := [some (aA a), some (aI b1), some (aA b2), none]) (k := 1) (by decide) rfl rfl (fun X Γ => ?_)
  unfold mX8_readText
  refine sn_aload_n dX8_readText_0 rfl ?_
  refine sn_iconst dX8_readText_1 ?_
  refine sn_putI (ci := 8) (j := 1) dX8_readText_2 fl_X8_22 rfl (fun q h => by cases h; rfl) (fun μ2 => ?_)
  refine sn_aload_n dX8_readText_5 rfl ?_
  refine sn_iconst dX8_readText_6 ?_
  refine sn_putI (ci := 8) (j := 2) dX8_readText_7 fl_X8_9 rfl (fun q h => by cases h; rfl) (fun μ7 => ?_)
  refine sn_aload_n dX8_readText_10 rfl ?_
  refine sn_iload_n dX8_readText_11 rfl ?_
  refine sn_sipush dX8_readText_12 (by decide) ?_
  refine sn_mMin dX8_readText_15 ml_X8_25 (by decide) (by decide) (Nat.le_of_ble_eq_true rfl) ?_
  refine sn_putI (ci := 8) (j := 4) dX8_readText_18 fl_X8_31 rfl (fun q h => by cases h; rfl) (fun μ18 => ?_)
  refine sn_aload_n dX8_readText_21 rfl ?_
  refine sn_iconst dX8_readText_22 ?_
  refine sn_putI (ci := 8) (j := 0) dX8_readText_23 fl_X8_19 rfl (fun q h => by cases h; rfl) (fun μ23 => ?_)
  refine sn_aload_n dX8_readText_26 rfl ?_
  refine sn_iconst dX8_readText_27 ?_
  refine sn_putI (ci := 8) (j := 7) dX8_readText_28 fl_X8_34 rfl (fun q h => by cases h; rfl) (fun μ28 => ?_)
  refine sn_aload_n dX8_readText_31 rfl ?_
  refine sn_callVV (vs := []) (ci := 1) (cX1_begin_ok n b2 μ28) dX8_readText_32 cw_X8_37 rfl rfl rfl (by decide) (by decide) (Nat.le_of_ble_eq_true rfl) (fun p32 => ?_)
  refine sn_aload_n dX8_readText_35 rfl ?_
  refine sn_callVV (vs := []) (ci := 8) (cX8_advance_ok n a p32.2) dX8_readText_36 cw_X8_42 rfl rfl rfl (by decide) (by decide) (Nat.le_of_ble_eq_true rfl) (fun p36 => ?_)
  refine sn_iconst dX8_readText_39 ?_
  refine sn_istore_n (L' := [some (aA a), some (aI b1), some (aA b2), some (aI 0)]) dX8_readText_40 (by decide) rfl ?_
  refine sn_mask (L' := [some (aA a), none, some (aA b2), some (aI 0)]) [true, false, true, true] rfl ?_
  refine sn_lp (La := fun v41 : Int => [some (aA a), none, some (aA b2), some (aI v41)]) ?_ n 0 p36.2
  intro nx41 hnx41 v41 μ41
  refine sn_iload_n dX8_readText_41 rfl ?_
  refine sn_aload_n dX8_readText_42 rfl ?_
  refine sn_getI (ci := 8) (j := 4) dX8_readText_43 fl_X8_31 rfl (fun x43 => ?_)
  refine sn_icmp_gt (tgt := 74) dX8_readText_46 (by decide) ?_ ?_
  · exact sn_vret dX8_readText_74
  · refine sn_aload_n dX8_readText_49 rfl ?_
    refine sn_getI (ci := 8) (j := 5) dX8_readText_50 fl_X8_45 rfl (fun x50 => ?_)
    refine sn_if_eq (tgt := 74) dX8_readText_53 (by decide) ?_ ?_
    · exact sn_vret dX8_readText_74
    · refine sn_aload_n dX8_readText_56 rfl ?_
      refine sn_getI (ci := 8) (j := 1) dX8_readText_57 fl_X8_22 rfl (fun x57 => ?_)
      refine sn_if_ne (tgt := 74) dX8_readText_60 (by decide) ?_ ?_
      · exact sn_vret dX8_readText_74
      · refine sn_aload_n dX8_readText_63 rfl ?_
        refine sn_aload_n dX8_readText_64 rfl ?_
        refine sn_callVV (vs := [aA b2]) (ci := 8) (cX8_readLine_ok n a b2 μ41) dX8_readText_65 cw_X8_48 rfl rfl rfl (by decide) (by decide) (Nat.le_of_ble_eq_true rfl) (fun p65 => ?_)
        refine sn_iinc (L' := [some (aA a), none, some (aA b2), some (aI (v41 + 1))]) dX8_readText_68 rfl (by decide) rfl ?_
        refine sn_goto (tgt := 41) dX8_readText_71 (by decide) ?_
        exact hnx41 (v41 + 1) p65.2
