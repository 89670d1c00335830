/-! layer 1: row -/
theorem dX3_isMissing_0 : decode cX3_isMissing 0 = .ok (.aload_n 0, 1) := by decide +kernel
theorem dX3_isMissing_1 : decode cX3_isMissing 1 = .ok (.getfield 9, 3) := by decide +kernel
theorem dX3_isMissing_4 : decode cX3_isMissing 4 = .ok (.iconst (-1), 1) := by decide +kernel
theorem dX3_isMissing_5 : decode cX3_isMissing 5 = .ok (.if_icmp .ne 7, 3) := by decide +kernel
theorem dX3_isMissing_8 : decode cX3_isMissing 8 = .ok (.iconst 1, 1) := by decide +kernel
theorem dX3_isMissing_9 : decode cX3_isMissing 9 = .ok (.goto 4, 3) := by decide +kernel
theorem dX3_isMissing_12 : decode cX3_isMissing 12 = .ok (.iconst 0, 1) := by decide +kernel
theorem dX3_isMissing_13 : decode cX3_isMissing 13 = .ok (.ireturn, 1) := by decide +kernel
def mX3_isMissing (n : Nat) (a : Nat) (μ : Mem) : Option (Int × Mem) :=
  (gI μ 4 a 1).bind fun x1 =>
  if eq32 x1 (-1) then
    retZ 1 μ
  else
  retZ 0 μ
set_option maxRecDepth 100000 in
set_option maxHeartbeats 4000000 in
theorem cX3_isMissing_ok (n : Nat) (a : Nat) (μ : Mem) : Mc yX3_isMissing cX3_isMissing 1 (some .boolean) 0 0 eI [aA a] μ (mX3_isMissing n a μ) := by
  refine mc_of (L0 := [some (aA a)]) (k := 0) (by decide) rfl rfl (fun X Γ => ?_)
  unfold mX3_isMissing
  refine sn_aload_n dX3_isMissing_0 rfl ?_
  refine sn_getI (ci := 3) (j := 1) dX3_isMissing_1 fl_X3_9 rfl (fun x1 => ?_)
  refine sn_iconst dX3_isMissing_4 ?_
  refine sn_icmp_ne (tgt := 12) dX3_isMissing_5 (by decide) ?_ ?_
  · refine sn_iconst dX3_isMissing_12 ?_
    exact sn_zret dX3_isMissing_13
  · refine sn_iconst dX3_isMissing_8 ?_
    refine sn_goto (tgt := 13) dX3_isMissing_9 (by decide) ?_
    exact sn_zret dX3_isMissing_13
theorem dX3_cutToSort_0 : decode cX3_cutToSort 0 = .ok (.aload_n 0, 1) := by decide +kernel
theorem dX3_cutToSort_1 : decode cX3_cutToSort 1 = .ok (.getfield 9, 3) := by decide +kernel
theorem dX3_cutToSort_4 : decode cX3_cutToSort 4 = .ok (.tableswitch 42 0 2 #[28, 33, 38], 28) := by decide +kernel
theorem dX3_cutToSort_32 : decode cX3_cutToSort 32 = .ok (.lload_n 1, 1) := by decide +kernel
theorem dX3_cutToSort_33 : decode cX3_cutToSort 33 = .ok (.l2i, 1) := by decide +kernel
theorem dX3_cutToSort_34 : decode cX3_cutToSort 34 = .ok (.i2b, 1) := by decide +kernel
theorem dX3_cutToSort_35 : decode cX3_cutToSort 35 = .ok (.i2l, 1) := by decide +kernel
theorem dX3_cutToSort_36 : decode cX3_cutToSort 36 = .ok (.lreturn, 1) := by decide +kernel
theorem dX3_cutToSort_37 : decode cX3_cutToSort 37 = .ok (.lload_n 1, 1) := by decide +kernel
theorem dX3_cutToSort_38 : decode cX3_cutToSort 38 = .ok (.l2i, 1) := by decide +kernel
theorem dX3_cutToSort_39 : decode cX3_cutToSort 39 = .ok (.i2s, 1) := by decide +kernel
theorem dX3_cutToSort_40 : decode cX3_cutToSort 40 = .ok (.i2l, 1) := by decide +kernel
theorem dX3_cutToSort_41 : decode cX3_cutToSort 41 = .ok (.lreturn, 1) := by decide +kernel
theorem dX3_cutToSort_42 : decode cX3_cutToSort 42 = .ok (.lload_n 1, 1) := by decide +kernel
theorem dX3_cutToSort_43 : decode cX3_cutToSort 43 = .ok (.l2i, 1) := by decide +kernel
theorem dX3_cutToSort_44 : decode cX3_cutToSort 44 = .ok (.i2l, 1) := by decide +kernel
theorem dX3_cutToSort_45 : decode cX3_cutToSort 45 = .ok (.lreturn, 1) := by decide +kernel
theorem dX3_cutToSort_46 : decode cX3_cutToSort 46 = .ok (.lload_n 1, 1) := by decide +kernel
theorem dX3_cutToSort_47 : decode cX3_cutToSort 47 = .ok (.lreturn, 1) := by decide +kernel
def mX3_cutToSort (n : Nat) (a : Nat) (b1 : Int) (μ : Mem) : Option (Int × Mem) :=
  (gI μ 4 a 1).bind fun x1 =>
  if eq32 x1 0 then
    some ((oI2l (oI2b b1)), μ)
  else
  if eq32 x1 1 then
    some ((oI2l (oI2s b1)), μ)
  else
  if eq32 x1 2 then
    some ((oI2l b1), μ)
  else
  some (b1, μ)
set_option maxRecDepth 100000 in
set_option maxHeartbeats 4000000 in
theorem cX3_cutToSort_ok (n : Nat) (a : Nat) (b1 : Int) (μ : Mem) : Mc yX3_cutToSort cX3_cutToSort 3 (some .long) 0 0 eJ [aA a, aJ b1] μ (mX3_cutToSort n a b1 μ) := by
  refine mc_of (L0 := [some (aA a), some (aJ b1), none]) (k := 0) (by decide) rfl rfl (fun X Γ => ?_)
  unfold mX3_cutToSort
  refine sn_aload_n dX3_cutToSort_0 rfl ?_
  refine sn_getI (ci := 3) (j := 1) dX3_cutToSort_1 fl_X3_9 rfl (fun x1 => ?_)
  refine sn_ite (fun c4_0 => ?_) (fun c4_0 => ?_)
  · refine sn_swIn (k := 0) (off := 28) (tgt := 32) dX3_cutToSort_4 c4_0 (by decide) (by decide) rfl (by decide) ?_
    refine sn_lload_n dX3_cutToSort_32 rfl ?_
    refine sn_l2i dX3_cutToSort_33 ?_
    refine sn_i2b dX3_cutToSort_34 ?_
    refine sn_i2l dX3_cutToSort_35 ?_
    exact sn_lret dX3_cutToSort_36
  refine sn_ite (fun c4_1 => ?_) (fun c4_1 => ?_)
  · refine sn_swIn (k := 1) (off := 33) (tgt := 37) dX3_cutToSort_4 c4_1 (by decide) (by decide) rfl (by decide) ?_
    refine sn_lload_n dX3_cutToSort_37 rfl ?_
    refine sn_l2i dX3_cutToSort_38 ?_
    refine sn_i2s dX3_cutToSort_39 ?_
    refine sn_i2l dX3_cutToSort_40 ?_
    exact sn_lret dX3_cutToSort_41
  refine sn_ite (fun c4_2 => ?_) (fun c4_2 => ?_)
  · refine sn_swIn (k := 2) (off := 38) (tgt := 42) dX3_cutToSort_4 c4_2 (by decide) (by decide) rfl (by decide) ?_
    refine sn_lload_n dX3_cutToSort_42 rfl ?_
    refine sn_l2i dX3_cutToSort_43 ?_
    refine sn_i2l dX3_cutToSort_44 ?_
    exact sn_lret dX3_cutToSort_45
  refine sn_swOut (tgt := 46) dX3_cutToSort_4 (by have e0 := sw_ne c4_0 (by decide); have e1 := sw_ne c4_1 (by decide); have e2 := sw_ne c4_2 (by decide); omega) (by decide) ?_
  refine sn_lload_n dX3_cutToSort_46 rfl ?_
  exact sn_lret dX3_cutToSort_47
theorem dX3_put_0 : decode cX3_put 0 = .ok (.iload_n 1, 1) := by decide +kernel
theorem dX3_put_1 : decode cX3_put 1 = .ok (.ifCond .lt 11, 3) := by decide +kernel
theorem dX3_put_4 : decode cX3_put 4 = .ok (.iload_n 1, 1) := by decide +kernel
theorem dX3_put_5 : decode cX3_put 5 = .ok (.aload_n 0, 1) := by decide +kernel
theorem dX3_put_6 : decode cX3_put 6 = .ok (.getfield 28, 3) := by decide +kernel
theorem dX3_put_9 : decode cX3_put 9 = .ok (.if_icmp .lt 5, 3) := by decide +kernel
theorem dX3_put_12 : decode cX3_put 12 = .ok (.lconst 0, 1) := by decide +kernel
theorem dX3_put_13 : decode cX3_put 13 = .ok (.lreturn, 1) := by decide +kernel
theorem dX3_put_14 : decode cX3_put 14 = .ok (.aload_n 0, 1) := by decide +kernel
theorem dX3_put_15 : decode cX3_put 15 = .ok (.getfield 15, 3) := by decide +kernel
theorem dX3_put_18 : decode cX3_put 18 = .ok (.iload_n 1, 1) := by decide +kernel
theorem dX3_put_19 : decode cX3_put 19 = .ok (.aload_n 0, 1) := by decide +kernel
theorem dX3_put_20 : decode cX3_put 20 = .ok (.lload_n 2, 1) := by decide +kernel
theorem dX3_put_21 : decode cX3_put 21 = .ok (.invokevirtual 37, 3) := by decide +kernel
theorem dX3_put_24 : decode cX3_put 24 = .ok (.lastore, 1) := by decide +kernel
theorem dX3_put_25 : decode cX3_put 25 = .ok (.aload_n 0, 1) := by decide +kernel
theorem dX3_put_26 : decode cX3_put 26 = .ok (.getfield 15, 3) := by decide +kernel
theorem dX3_put_29 : decode cX3_put 29 = .ok (.iload_n 1, 1) := by decide +kernel
theorem dX3_put_30 : decode cX3_put 30 = .ok (.laload, 1) := by decide +kernel
theorem dX3_put_31 : decode cX3_put 31 = .ok (.lreturn, 1) := by decide +kernel
def mX3_put (n : Nat) (a : Nat) (b1 : Int) (b2 : Int) (μ : Mem) : Option (Int × Mem) :=
  if lt32 b1 0 then
    some (0, μ)
  else
  (gI μ 4 a 0).bind fun x6 =>
  if lt32 b1 x6 then
    (gA μ 4 a 2).bind fun x15 =>
    (inv μ 4 a (mX3_cutToSort n a b2 μ)).bind fun p21 =>
    (stI p21.2 3 x15 b1 p21.1).bind fun μ24 =>
    (gA μ24 4 a 2).bind fun x26 =>
    (ldI μ24 3 x26 b1).bind fun x30 =>
    some (x30, μ24)
  else
  some (0, μ)
set_option maxRecDepth 100000 in
set_option maxHeartbeats 4000000 in
theorem cX3_put_ok (n : Nat) (a : Nat) (b1 : Int) (b2 : Int) (μ : Mem) : Mc yX3_put cX3_put 4 (some .long) 1 22 eJ [aA a, aI b1, aJ b2] μ (mX3_put n a b1 b2 μ) := by
  refine mc_of (L0 := [some (aA a), some (aI b1), some (aJ b2), none]) (k := 0) (by decide) rfl rfl (fun X Γ => ?_)
  unfold mX3_put
  refine sn_iload_n dX3_put_0 rfl ?_
  refine sn_if_lt (tgt := 12) dX3_put_1 (by decide) ?_ ?_
  · refine sn_lconst (v := 0) dX3_put_12 (by decide) ?_
    exact sn_lret dX3_put_13
  · refine sn_iload_n dX3_put_4 rfl ?_
    refine sn_aload_n dX3_put_5 rfl ?_
    refine sn_getI (ci := 3) (j := 0) dX3_put_6 fl_X3_28 rfl (fun x6 => ?_)
    refine sn_icmp_lt (tgt := 14) dX3_put_9 (by decide) ?_ ?_
    · refine sn_aload_n dX3_put_14 rfl ?_
      refine sn_getA (ci := 3) (j := 2) dX3_put_15 fl_X3_15 (by decide) (fun x15 => ?_)
      refine sn_iload_n dX3_put_18 rfl ?_
      refine sn_aload_n dX3_put_19 rfl ?_
      refine sn_lload_n dX3_put_20 rfl ?_
      refine sn_callVJ (vs := [aJ b2]) (ci := 3) (cX3_cutToSort_ok n a b2 μ) dX3_put_21 cw_X3_37 rfl rfl rfl (by decide) (by decide) (Nat.le_of_ble_eq_true rfl) (fun p21 => ?_)
      refine sn_last dX3_put_24 (fun μ24 => ?_)
      refine sn_aload_n dX3_put_25 rfl ?_
      refine sn_getA (ci := 3) (j := 2) dX3_put_26 fl_X3_15 (by decide) (fun x26 => ?_)
      refine sn_iload_n dX3_put_29 rfl ?_
      refine sn_lald dX3_put_30 (fun x30 => ?_)
      exact sn_lret dX3_put_31
    · refine sn_lconst (v := 0) dX3_put_12 (by decide) ?_
      exact sn_lret dX3_put_13
theorem dX3_init_0 : decode cX3_init 0 = .ok (.aload_n 0, 1) := by decide +kernel
theorem dX3_init_1 : decode cX3_init 1 = .ok (.invokespecial 3, 3) := by decide +kernel
theorem dX3_init_4 : decode cX3_init 4 = .ok (.aload_n 0, 1) := by decide +kernel
theorem dX3_init_5 : decode cX3_init 5 = .ok (.iconst (-1), 1) := by decide +kernel
theorem dX3_init_6 : decode cX3_init 6 = .ok (.putfield 9, 3) := by decide +kernel
theorem dX3_init_9 : decode cX3_init 9 = .ok (.aload_n 0, 1) := by decide +kernel
theorem dX3_init_10 : decode cX3_init 10 = .ok (.bipush 60, 2) := by decide +kernel
theorem dX3_init_12 : decode cX3_init 12 = .ok (.newarray .long, 2) := by decide +kernel
theorem dX3_init_14 : decode cX3_init 14 = .ok (.putfield 15, 3) := by decide +kernel
theorem dX3_init_17 : decode cX3_init 17 = .ok (.return_, 1) := by decide +kernel
def mX3_init (n : Nat) (a : Nat) (μ : Mem) : Option (Unit × Mem) :=
  inv μ 4 a
  ((pI μ 4 a 1 (-1)).bind fun μ6 =>
  (nwA μ6 3 60).bind fun p12 =>
  (pA p12.2 4 a 2 p12.1).bind fun μ14 =>
  some ((), μ14))
set_option maxRecDepth 100000 in
set_option maxHeartbeats 4000000 in
theorem cX3_init_ok (n : Nat) (a : Nat) (μ : Mem) : Mc yX3_init cX3_init 1 none 1 20 eV [aA a] μ (mX3_init n a μ) := by
  refine mc_of (L0 := [some (aA a)]) (k := 0) (by decide) rfl rfl (fun X Γ => ?_)
  unfold mX3_init
  refine sn_aload_n dX3_init_0 rfl ?_
  refine sn_objInit (ci := 3) dX3_init_1 (by decide) ml_X3_3 im_obj co_obj (by decide) (by decide) (Nat.le_of_ble_eq_true rfl) ?_
  refine sn_aload_n dX3_init_4 rfl ?_
  refine sn_iconst dX3_init_5 ?_
  refine sn_putI (ci := 3) (j := 1) dX3_init_6 fl_X3_9 rfl (fun q h => by cases h; rfl) (fun μ6 => ?_)
  refine sn_aload_n dX3_init_9 rfl ?_
  refine sn_bipush dX3_init_10 (by decide) ?_
  refine sn_newa (t := 3) dX3_init_12 (by decide) rfl ac_3 (fun p12 => ?_)
  refine sn_putA (ci := 3) (j := 2) dX3_init_14 fl_X3_15 (Or.inr ⟨_, rfl⟩) (Or.inr ⟨rfl, fun q h => by cases h; exact ⟨rfl, rfl⟩⟩) (fun μ14 => ?_)
  exact sn_vret dX3_init_17
theorem dX3_get_0 : decode cX3_get 0 = .ok (.iload_n 1, 1) := by decide +kernel
theorem dX3_get_1 : decode cX3_get 1 = .ok (.ifCond .lt 20, 3) := by decide +kernel
theorem dX3_get_4 : decode cX3_get 4 = .ok (.iload_n 1, 1) := by decide +kernel
theorem dX3_get_5 : decode cX3_get 5 = .ok (.aload_n 0, 1) := by decide +kernel
theorem dX3_get_6 : decode cX3_get 6 = .ok (.getfield 28, 3) := by decide +kernel
theorem dX3_get_9 : decode cX3_get 9 = .ok (.if_icmp .ge 12, 3) := by decide +kernel
theorem dX3_get_12 : decode cX3_get 12 = .ok (.aload_n 0, 1) := by decide +kernel
theorem dX3_get_13 : decode cX3_get 13 = .ok (.getfield 15, 3) := by decide +kernel
theorem dX3_get_16 : decode cX3_get 16 = .ok (.iload_n 1, 1) := by decide +kernel
theorem dX3_get_17 : decode cX3_get 17 = .ok (.laload, 1) := by decide +kernel
theorem dX3_get_18 : decode cX3_get 18 = .ok (.goto 4, 3) := by decide +kernel
theorem dX3_get_21 : decode cX3_get 21 = .ok (.lconst 0, 1) := by decide +kernel
theorem dX3_get_22 : decode cX3_get 22 = .ok (.lreturn, 1) := by decide +kernel
def mX3_get (n : Nat) (a : Nat) (b1 : Int) (μ : Mem) : Option (Int × Mem) :=
  if lt32 b1 0 then
    some (0, μ)
  else
  (gI μ 4 a 0).bind fun x6 =>
  if lt32 b1 x6 then
    (gA μ 4 a 2).bind fun x13 =>
    (ldI μ 3 x13 b1).bind fun x17 =>
    some (x17, μ)
  else
  some (0, μ)
set_option maxRecDepth 100000 in
set_option maxHeartbeats 4000000 in
theorem cX3_get_ok (n : Nat) (a : Nat) (b1 : Int) (μ : Mem) : Mc yX3_get cX3_get 2 (some .long) 0 0 eJ [aA a, aI b1] μ (mX3_get n a b1 μ) := by
  refine mc_of (L0 := [some (aA a), some (aI b1)]) (k := 0) (by decide) rfl rfl (fun X Γ => ?_)
  unfold mX3_get
  refine sn_iload_n dX3_get_0 rfl ?_
  refine sn_if_lt (tgt := 21) dX3_get_1 (by decide) ?_ ?_
  · refine sn_lconst (v := 0) dX3_get_21 (by decide) ?_
    exact sn_lret dX3_get_22
  · refine sn_iload_n dX3_get_4 rfl ?_
    refine sn_aload_n dX3_get_5 rfl ?_
    refine sn_getI (ci := 3) (j := 0) dX3_get_6 fl_X3_28 rfl (fun x6 => ?_)
    refine sn_icmp_ge (tgt := 21) dX3_get_9 (by decide) ?_ ?_
    · refine sn_lconst (v := 0) dX3_get_21 (by decide) ?_
      exact sn_lret dX3_get_22
    · refine sn_aload_n dX3_get_12 rfl ?_
      refine sn_getA (ci := 3) (j := 2) dX3_get_13 fl_X3_15 (by decide) (fun x13 => ?_)
      refine sn_iload_n dX3_get_16 rfl ?_
      refine sn_lald dX3_get_17 (fun x17 => ?_)
      refine sn_goto (tgt := 22) dX3_get_18 (by decide) ?_
      exact sn_lret dX3_get_22
theorem dX3_begin_0 : decode cX3_begin 0 = .ok (.aload_n 0, 1) := by decide +kernel
theorem dX3_begin_1 : decode cX3_begin 1 = .ok (.iload_n 1, 1) := by decide +kernel
theorem dX3_begin_2 : decode cX3_begin 2 = .ok (.putfield 9, 3) := by decide +kernel
theorem dX3_begin_5 : decode cX3_begin 5 = .ok (.aload_n 0, 1) := by decide +kernel
theorem dX3_begin_6 : decode cX3_begin 6 = .ok (.iconst 0, 1) := by decide +kernel
theorem dX3_begin_7 : decode cX3_begin 7 = .ok (.iload_n 2, 1) := by decide +kernel
theorem dX3_begin_8 : decode cX3_begin 8 = .ok (.bipush 60, 2) := by decide +kernel
theorem dX3_begin_10 : decode cX3_begin 10 = .ok (.invokestatic 19, 3) := by decide +kernel
theorem dX3_begin_13 : decode cX3_begin 13 = .ok (.invokestatic 25, 3) := by decide +kernel
theorem dX3_begin_16 : decode cX3_begin 16 = .ok (.putfield 28, 3) := by decide +kernel
theorem dX3_begin_19 : decode cX3_begin 19 = .ok (.aload_n 0, 1) := by decide +kernel
theorem dX3_begin_20 : decode cX3_begin 20 = .ok (.getfield 15, 3) := by decide +kernel
theorem dX3_begin_23 : decode cX3_begin 23 = .ok (.lconst 0, 1) := by decide +kernel
theorem dX3_begin_24 : decode cX3_begin 24 = .ok (.invokestatic 31, 3) := by decide +kernel
theorem dX3_begin_27 : decode cX3_begin 27 = .ok (.return_, 1) := by decide +kernel
def mX3_begin (n : Nat) (a : Nat) (b1 : Int) (b2 : Int) (μ : Mem) : Option (Unit × Mem) :=
  (pI μ 4 a 1 b1).bind fun μ2 =>
  (pI μ2 4 a 0 (mMax 0 (mMin b2 60))).bind fun μ16 =>
  (gA μ16 4 a 2).bind fun x20 =>
  (mJ7_fill_d0a16 n x20 0 μ16).bind fun p24 =>
  some ((), p24.2)
set_option maxRecDepth 100000 in
set_option maxHeartbeats 4000000 in
theorem cX3_begin_ok (n : Nat) (a : Nat) (b1 : Int) (b2 : Int) (μ : Mem) : Mc yX3_begin cX3_begin 3 none 1 40 eV [aA a, aI b1, aI b2] μ (mX3_begin n a b1 b2 μ) := by
  refine mc_of (L0 := [some (aA a), some (aI b1), some (aI b2)]) (k := 0) (by decide) rfl rfl (fun X Γ => ?_)
  unfold mX3_begin
  refine sn_aload_n dX3_begin_0 rfl ?_
  refine sn_iload_n dX3_begin_1 rfl ?_
  refine sn_putI (ci := 3) (j := 1) dX3_begin_2 fl_X3_9 rfl (fun q h => by cases h; rfl) (fun μ2 => ?_)
  refine sn_aload_n dX3_begin_5 rfl ?_
  refine sn_iconst dX3_begin_6 ?_
  refine sn_iload_n dX3_begin_7 rfl ?_
  refine sn_bipush dX3_begin_8 (by decide) ?_
  refine sn_mMin dX3_begin_10 ml_X3_19 (by decide) (by decide) (Nat.le_of_ble_eq_true rfl) ?_
  refine sn_mMax dX3_begin_13 ml_X3_25 (by decide) (by decide) (Nat.le_of_ble_eq_true rfl) ?_
  refine sn_putI (ci := 3) (j := 0) dX3_begin_16 fl_X3_28 rfl (fun q h => by cases h; rfl) (fun μ16 => ?_)
  refine sn_aload_n dX3_begin_19 rfl ?_
  refine sn_getA (ci := 3) (j := 2) dX3_begin_20 fl_X3_15 (by decide) (fun x20 => ?_)
  refine sn_lconst (v := 0) dX3_begin_23 (by decide) ?_
  refine sn_callSV (vs := [aA x20, aJ 0]) (cJ7_fill_d0a16_ok n x20 0 μ16) dX3_begin_24 cw_X3_31 rfl (by decide) (by decide) (Nat.le_of_ble_eq_true rfl) (fun p24 => ?_)
  exact sn_vret dX3_begin_27
