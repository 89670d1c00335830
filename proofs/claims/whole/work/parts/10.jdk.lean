/-! layer 1: jdk -/
theorem dJ0_isLatin1_aae02_0 : decode cJ0_isLatin1_aae02 0 = .ok (.getstatic 38, 3) := by decide +kernel
theorem dJ0_isLatin1_aae02_3 : decode cJ0_isLatin1_aae02 3 = .ok (.ifCond .eq 14, 3) := by decide +kernel
theorem dJ0_isLatin1_aae02_6 : decode cJ0_isLatin1_aae02 6 = .ok (.aload_n 0, 1) := by decide +kernel
theorem dJ0_isLatin1_aae02_7 : decode cJ0_isLatin1_aae02 7 = .ok (.getfield 15, 3) := by decide +kernel
theorem dJ0_isLatin1_aae02_10 : decode cJ0_isLatin1_aae02 10 = .ok (.ifCond .ne 7, 3) := by decide +kernel
theorem dJ0_isLatin1_aae02_13 : decode cJ0_isLatin1_aae02 13 = .ok (.iconst 1, 1) := by decide +kernel
theorem dJ0_isLatin1_aae02_14 : decode cJ0_isLatin1_aae02 14 = .ok (.goto 4, 3) := by decide +kernel
theorem dJ0_isLatin1_aae02_17 : decode cJ0_isLatin1_aae02 17 = .ok (.iconst 0, 1) := by decide +kernel
theorem dJ0_isLatin1_aae02_18 : decode cJ0_isLatin1_aae02 18 = .ok (.ireturn, 1) := by decide +kernel
def mJ0_isLatin1_aae02 (n : Nat) (a : Nat) (μ : Mem) : Option (Int × Mem) :=
  if eq32 1 0 then
    retZ 0 μ
  else
  (tCod μ a).bind fun x7 =>
  if eq32 x7 0 then
    retZ 1 μ
  else
  retZ 0 μ
set_option maxRecDepth 100000 in
set_option maxHeartbeats 4000000 in
theorem cJ0_isLatin1_aae02_ok (n : Nat) (a : Nat) (μ : Mem) : Mc yJ0_isLatin1_aae02 cJ0_isLatin1_aae02 1 (some .boolean) 0 0 eI [aA a] μ (mJ0_isLatin1_aae02 n a μ) := by
  refine mc_of (L0 := [some (aA a)]) (k := 0) (by decide) rfl rfl (fun X Γ => ?_)
  unfold mJ0_isLatin1_aae02
  refine sn_cs dJ0_isLatin1_aae02_0 tl_J0_38 ?_
  refine sn_if_eq (tgt := 17) dJ0_isLatin1_aae02_3 (by decide) ?_ ?_
  · refine sn_iconst dJ0_isLatin1_aae02_17 ?_
    exact sn_zret dJ0_isLatin1_aae02_18
  · refine sn_aload_n dJ0_isLatin1_aae02_6 rfl ?_
    refine sn_tcod dJ0_isLatin1_aae02_7 tl_J0_15 (fun x7 => ?_)
    refine sn_if_ne (tgt := 17) dJ0_isLatin1_aae02_10 (by decide) ?_ ?_
    · refine sn_iconst dJ0_isLatin1_aae02_17 ?_
      exact sn_zret dJ0_isLatin1_aae02_18
    · refine sn_iconst dJ0_isLatin1_aae02_13 ?_
      refine sn_goto (tgt := 18) dJ0_isLatin1_aae02_14 (by decide) ?_
      exact sn_zret dJ0_isLatin1_aae02_18
theorem dJ3_checkIndex_8e157_0 : decode cJ3_checkIndex_8e157 0 = .ok (.iload_n 0, 1) := by decide +kernel
theorem dJ3_checkIndex_8e157_1 : decode cJ3_checkIndex_8e157 1 = .ok (.ifCond .lt 8, 3) := by decide +kernel
theorem dJ3_checkIndex_8e157_4 : decode cJ3_checkIndex_8e157 4 = .ok (.iload_n 0, 1) := by decide +kernel
theorem dJ3_checkIndex_8e157_5 : decode cJ3_checkIndex_8e157 5 = .ok (.iload_n 1, 1) := by decide +kernel
theorem dJ3_checkIndex_8e157_6 : decode cJ3_checkIndex_8e157 6 = .ok (.if_icmp .lt 10, 3) := by decide +kernel
theorem dJ3_checkIndex_8e157_9 : decode cJ3_checkIndex_8e157 9 = .ok (.aload_n 2, 1) := by decide +kernel
theorem dJ3_checkIndex_8e157_10 : decode cJ3_checkIndex_8e157 10 = .ok (.iload_n 0, 1) := by decide +kernel
theorem dJ3_checkIndex_8e157_11 : decode cJ3_checkIndex_8e157 11 = .ok (.iload_n 1, 1) := by decide +kernel
theorem dJ3_checkIndex_8e157_12 : decode cJ3_checkIndex_8e157 12 = .ok (.invokestatic 95, 3) := by decide +kernel
theorem dJ3_checkIndex_8e157_15 : decode cJ3_checkIndex_8e157 15 = .ok (.athrow, 1) := by decide +kernel
theorem dJ3_checkIndex_8e157_16 : decode cJ3_checkIndex_8e157 16 = .ok (.iload_n 0, 1) := by decide +kernel
theorem dJ3_checkIndex_8e157_17 : decode cJ3_checkIndex_8e157 17 = .ok (.ireturn, 1) := by decide +kernel
def mJ3_checkIndex_8e157 (n : Nat) (b1 : Int) (b2 : Int) (b3 : Nat) (μ : Mem) : Option (Int × Mem) :=
  if lt32 b1 0 then
    none
  else
  if lt32 b1 b2 then
    some (b1, μ)
  else
  none
set_option maxRecDepth 100000 in
set_option maxHeartbeats 4000000 in
theorem cJ3_checkIndex_8e157_ok (n : Nat) (b1 : Int) (b2 : Int) (b3 : Nat) (μ : Mem) : Mc yJ3_checkIndex_8e157 cJ3_checkIndex_8e157 3 (some .int) 0 0 eI [aI b1, aI b2, aA b3] μ (mJ3_checkIndex_8e157 n b1 b2 b3 μ) := by
  refine mc_of (L0 := [some (aI b1), some (aI b2), some (aA b3)]) (k := 0) (by decide) rfl rfl (fun X Γ => ?_)
  unfold mJ3_checkIndex_8e157
  refine sn_iload_n dJ3_checkIndex_8e157_0 rfl ?_
  refine sn_if_lt (tgt := 9) dJ3_checkIndex_8e157_1 (by decide) ?_ ?_
  · exact sn_none
  · refine sn_iload_n dJ3_checkIndex_8e157_4 rfl ?_
    refine sn_iload_n dJ3_checkIndex_8e157_5 rfl ?_
    refine sn_icmp_lt (tgt := 16) dJ3_checkIndex_8e157_6 (by decide) ?_ ?_
    · refine sn_iload_n dJ3_checkIndex_8e157_16 rfl ?_
      exact sn_iret dJ3_checkIndex_8e157_17
    · exact sn_none
theorem dJ0_checkIndex_df160_0 : decode cJ0_checkIndex_df160 0 = .ok (.iload_n 0, 1) := by decide +kernel
theorem dJ0_checkIndex_df160_1 : decode cJ0_checkIndex_df160 1 = .ok (.iload_n 1, 1) := by decide +kernel
theorem dJ0_checkIndex_df160_2 : decode cJ0_checkIndex_df160 2 = .ok (.getstatic 1053, 3) := by decide +kernel
theorem dJ0_checkIndex_df160_5 : decode cJ0_checkIndex_df160 5 = .ok (.invokestatic 1059, 3) := by decide +kernel
theorem dJ0_checkIndex_df160_8 : decode cJ0_checkIndex_df160 8 = .ok (.pop, 1) := by decide +kernel
theorem dJ0_checkIndex_df160_9 : decode cJ0_checkIndex_df160 9 = .ok (.return_, 1) := by decide +kernel
def mJ0_checkIndex_df160 (n : Nat) (b1 : Int) (b2 : Int) (μ : Mem) : Option (Unit × Mem) :=
  (mJ3_checkIndex_8e157 n b1 b2 (mA μ 0 20) μ).bind fun p5 =>
  some ((), p5.2)
set_option maxRecDepth 100000 in
set_option maxHeartbeats 4000000 in
theorem cJ0_checkIndex_df160_ok (n : Nat) (b1 : Int) (b2 : Int) (μ : Mem) : Mc yJ0_checkIndex_df160 cJ0_checkIndex_df160 2 none 1 22 eV [aI b1, aI b2] μ (mJ0_checkIndex_df160 n b1 b2 μ) := by
  refine mc_of (L0 := [some (aI b1), some (aI b2)]) (k := 0) (by decide) rfl rfl (fun X Γ => ?_)
  unfold mJ0_checkIndex_df160
  refine sn_iload_n dJ0_checkIndex_df160_0 rfl ?_
  refine sn_iload_n dJ0_checkIndex_df160_1 rfl ?_
  refine sn_fmt dJ0_checkIndex_df160_2 tl_J0_1053 ?_
  refine sn_callSI (vs := [aI b1, aI b2, aA (mA μ 0 20)]) (cJ3_checkIndex_8e157_ok n b1 b2 (mA μ 0 20) μ) dJ0_checkIndex_df160_5 cw_J0_1059 rfl (by decide) (by decide) (Nat.le_of_ble_eq_true rfl) (fun p5 => ?_)
  refine sn_pop dJ0_checkIndex_df160_8 rfl ?_
  exact sn_vret dJ0_checkIndex_df160_9
theorem dJ1_charAt_3b067_0 : decode cJ1_charAt_3b067 0 = .ok (.iload_n 1, 1) := by decide +kernel
theorem dJ1_charAt_3b067_1 : decode cJ1_charAt_3b067 1 = .ok (.aload_n 0, 1) := by decide +kernel
theorem dJ1_charAt_3b067_2 : decode cJ1_charAt_3b067 2 = .ok (.arraylength, 1) := by decide +kernel
theorem dJ1_charAt_3b067_3 : decode cJ1_charAt_3b067 3 = .ok (.invokestatic 9, 3) := by decide +kernel
theorem dJ1_charAt_3b067_6 : decode cJ1_charAt_3b067 6 = .ok (.aload_n 0, 1) := by decide +kernel
theorem dJ1_charAt_3b067_7 : decode cJ1_charAt_3b067 7 = .ok (.iload_n 1, 1) := by decide +kernel
theorem dJ1_charAt_3b067_8 : decode cJ1_charAt_3b067 8 = .ok (.baload, 1) := by decide +kernel
theorem dJ1_charAt_3b067_9 : decode cJ1_charAt_3b067 9 = .ok (.sipush 255, 3) := by decide +kernel
theorem dJ1_charAt_3b067_12 : decode cJ1_charAt_3b067 12 = .ok (.iand, 1) := by decide +kernel
theorem dJ1_charAt_3b067_13 : decode cJ1_charAt_3b067 13 = .ok (.i2c, 1) := by decide +kernel
theorem dJ1_charAt_3b067_14 : decode cJ1_charAt_3b067 14 = .ok (.ireturn, 1) := by decide +kernel
def mJ1_charAt_3b067 (n : Nat) (b1 : Nat) (b2 : Int) (μ : Mem) : Option (Int × Mem) :=
  (tLen μ b1).bind fun x2 =>
  (mJ0_checkIndex_df160 n b2 x2 μ).bind fun p3 =>
  (tAt p3.2 b1 b2).bind fun x8 =>
  retC (oI2c (oAnd x8 255)) p3.2
set_option maxRecDepth 100000 in
set_option maxHeartbeats 4000000 in
theorem cJ1_charAt_3b067_ok (n : Nat) (b1 : Nat) (b2 : Int) (μ : Mem) : Mc yJ1_charAt_3b067 cJ1_charAt_3b067 2 (some .char) 2 43 eI [aA b1, aI b2] μ (mJ1_charAt_3b067 n b1 b2 μ) := by
  refine mc_of (L0 := [some (aA b1), some (aI b2)]) (k := 0) (by decide) rfl rfl (fun X Γ => ?_)
  unfold mJ1_charAt_3b067
  refine sn_iload_n dJ1_charAt_3b067_0 rfl ?_
  refine sn_aload_n dJ1_charAt_3b067_1 rfl ?_
  refine sn_tlen dJ1_charAt_3b067_2 (fun x2 => ?_)
  refine sn_callSV (vs := [aI b2, aI x2]) (cJ0_checkIndex_df160_ok n b2 x2 μ) dJ1_charAt_3b067_3 cw_J1_9 rfl (by decide) (by decide) (Nat.le_of_ble_eq_true rfl) (fun p3 => ?_)
  refine sn_aload_n dJ1_charAt_3b067_6 rfl ?_
  refine sn_iload_n dJ1_charAt_3b067_7 rfl ?_
  refine sn_tald dJ1_charAt_3b067_8 (fun x8 => ?_)
  refine sn_sipush dJ1_charAt_3b067_9 (by decide) ?_
  refine sn_iand dJ1_charAt_3b067_12 ?_
  refine sn_i2c dJ1_charAt_3b067_13 ?_
  exact sn_cret dJ1_charAt_3b067_14
theorem dJ0_charAt_5068e_0 : decode cJ0_charAt_5068e 0 = .ok (.aload_n 0, 1) := by decide +kernel
theorem dJ0_charAt_5068e_1 : decode cJ0_charAt_5068e 1 = .ok (.invokevirtual 492, 3) := by decide +kernel
theorem dJ0_charAt_5068e_4 : decode cJ0_charAt_5068e 4 = .ok (.ifCond .eq 12, 3) := by decide +kernel
theorem dJ0_charAt_5068e_7 : decode cJ0_charAt_5068e 7 = .ok (.aload_n 0, 1) := by decide +kernel
theorem dJ0_charAt_5068e_8 : decode cJ0_charAt_5068e 8 = .ok (.getfield 9, 3) := by decide +kernel
theorem dJ0_charAt_5068e_11 : decode cJ0_charAt_5068e 11 = .ok (.iload_n 1, 1) := by decide +kernel
theorem dJ0_charAt_5068e_12 : decode cJ0_charAt_5068e 12 = .ok (.invokestatic 495, 3) := by decide +kernel
theorem dJ0_charAt_5068e_15 : decode cJ0_charAt_5068e 15 = .ok (.ireturn, 1) := by decide +kernel
theorem dJ0_charAt_5068e_16 : decode cJ0_charAt_5068e 16 = .ok (.aload_n 0, 1) := by decide +kernel
theorem dJ0_charAt_5068e_17 : decode cJ0_charAt_5068e 17 = .ok (.getfield 9, 3) := by decide +kernel
theorem dJ0_charAt_5068e_20 : decode cJ0_charAt_5068e 20 = .ok (.iload_n 1, 1) := by decide +kernel
theorem dJ0_charAt_5068e_21 : decode cJ0_charAt_5068e 21 = .ok (.invokestatic 498, 3) := by decide +kernel
theorem dJ0_charAt_5068e_24 : decode cJ0_charAt_5068e 24 = .ok (.ireturn, 1) := by decide +kernel
def mJ0_charAt_5068e (n : Nat) (a : Nat) (b1 : Int) (μ : Mem) : Option (Int × Mem) :=
  (tInv μ a (mJ0_isLatin1_aae02 n a μ)).bind fun p1 =>
  if eq32 p1.1 0 then
    none
  else
  (tVal p1.2 a).bind fun x8 =>
  (mJ1_charAt_3b067 n x8 b1 p1.2).bind fun p12 =>
  retC p12.1 p12.2
set_option maxRecDepth 100000 in
set_option maxHeartbeats 4000000 in
theorem cJ0_charAt_5068e_ok (n : Nat) (a : Nat) (b1 : Int) (μ : Mem) : Mc yJ0_charAt_5068e cJ0_charAt_5068e 2 (some .char) 3 64 eI [aA a, aI b1] μ (mJ0_charAt_5068e n a b1 μ) := by
  refine mc_of (L0 := [some (aA a), some (aI b1)]) (k := 0) (by decide) rfl rfl (fun X Γ => ?_)
  unfold mJ0_charAt_5068e
  refine sn_aload_n dJ0_charAt_5068e_0 rfl ?_
  refine sn_callT (vs := []) (cJ0_isLatin1_aae02_ok n a μ) dJ0_charAt_5068e_1 cw_J0_492 rfl rfl (by decide) (by decide) (Nat.le_of_ble_eq_true rfl) (fun p1 => ?_)
  refine sn_if_eq (tgt := 16) dJ0_charAt_5068e_4 (by decide) ?_ ?_
  · exact sn_none
  · refine sn_aload_n dJ0_charAt_5068e_7 rfl ?_
    refine sn_tval dJ0_charAt_5068e_8 tl_J0_9 (fun x8 => ?_)
    refine sn_iload_n dJ0_charAt_5068e_11 rfl ?_
    refine sn_callSI (vs := [aA x8, aI b1]) (cJ1_charAt_3b067_ok n x8 b1 p1.2) dJ0_charAt_5068e_12 cw_J0_495 rfl (by decide) (by decide) (Nat.le_of_ble_eq_true rfl) (fun p12 => ?_)
    exact sn_cret dJ0_charAt_5068e_15
theorem dJ0_coder_7d493_0 : decode cJ0_coder_7d493 0 = .ok (.getstatic 38, 3) := by decide +kernel
theorem dJ0_coder_7d493_3 : decode cJ0_coder_7d493 3 = .ok (.ifCond .eq 10, 3) := by decide +kernel
theorem dJ0_coder_7d493_6 : decode cJ0_coder_7d493 6 = .ok (.aload_n 0, 1) := by decide +kernel
theorem dJ0_coder_7d493_7 : decode cJ0_coder_7d493 7 = .ok (.getfield 15, 3) := by decide +kernel
theorem dJ0_coder_7d493_10 : decode cJ0_coder_7d493 10 = .ok (.goto 4, 3) := by decide +kernel
theorem dJ0_coder_7d493_13 : decode cJ0_coder_7d493 13 = .ok (.iconst 1, 1) := by decide +kernel
theorem dJ0_coder_7d493_14 : decode cJ0_coder_7d493 14 = .ok (.ireturn, 1) := by decide +kernel
def mJ0_coder_7d493 (n : Nat) (a : Nat) (μ : Mem) : Option (Int × Mem) :=
  if eq32 1 0 then
    retB 1 μ
  else
  (tCod μ a).bind fun x7 =>
  retB x7 μ
set_option maxRecDepth 100000 in
set_option maxHeartbeats 4000000 in
theorem cJ0_coder_7d493_ok (n : Nat) (a : Nat) (μ : Mem) : Mc yJ0_coder_7d493 cJ0_coder_7d493 1 (some .byte) 0 0 eI [aA a] μ (mJ0_coder_7d493 n a μ) := by
  refine mc_of (L0 := [some (aA a)]) (k := 0) (by decide) rfl rfl (fun X Γ => ?_)
  unfold mJ0_coder_7d493
  refine sn_cs dJ0_coder_7d493_0 tl_J0_38 ?_
  refine sn_if_eq (tgt := 13) dJ0_coder_7d493_3 (by decide) ?_ ?_
  · refine sn_iconst dJ0_coder_7d493_13 ?_
    exact sn_bret dJ0_coder_7d493_14
  · refine sn_aload_n dJ0_coder_7d493_6 rfl ?_
    refine sn_tcod dJ0_coder_7d493_7 tl_J0_15 (fun x7 => ?_)
    refine sn_goto (tgt := 14) dJ0_coder_7d493_10 (by decide) ?_
    exact sn_bret dJ0_coder_7d493_14
theorem dJ0_length_8abf5_0 : decode cJ0_length_8abf5 0 = .ok (.aload_n 0, 1) := by decide +kernel
theorem dJ0_length_8abf5_1 : decode cJ0_length_8abf5 1 = .ok (.getfield 9, 3) := by decide +kernel
theorem dJ0_length_8abf5_4 : decode cJ0_length_8abf5 4 = .ok (.arraylength, 1) := by decide +kernel
theorem dJ0_length_8abf5_5 : decode cJ0_length_8abf5 5 = .ok (.aload_n 0, 1) := by decide +kernel
theorem dJ0_length_8abf5_6 : decode cJ0_length_8abf5 6 = .ok (.invokevirtual 335, 3) := by decide +kernel
theorem dJ0_length_8abf5_9 : decode cJ0_length_8abf5 9 = .ok (.ishr, 1) := by decide +kernel
theorem dJ0_length_8abf5_10 : decode cJ0_length_8abf5 10 = .ok (.ireturn, 1) := by decide +kernel
def mJ0_length_8abf5 (n : Nat) (a : Nat) (μ : Mem) : Option (Int × Mem) :=
  (tVal μ a).bind fun x1 =>
  (tLen μ x1).bind fun x4 =>
  (tInv μ a (mJ0_coder_7d493 n a μ)).bind fun p6 =>
  some ((oShr x4 p6.1), p6.2)
set_option maxRecDepth 100000 in
set_option maxHeartbeats 4000000 in
theorem cJ0_length_8abf5_ok (n : Nat) (a : Nat) (μ : Mem) : Mc yJ0_length_8abf5 cJ0_length_8abf5 1 (some .int) 1 20 eI [aA a] μ (mJ0_length_8abf5 n a μ) := by
  refine mc_of (L0 := [some (aA a)]) (k := 0) (by decide) rfl rfl (fun X Γ => ?_)
  unfold mJ0_length_8abf5
  refine sn_aload_n dJ0_length_8abf5_0 rfl ?_
  refine sn_tval dJ0_length_8abf5_1 tl_J0_9 (fun x1 => ?_)
  refine sn_tlen dJ0_length_8abf5_4 (fun x4 => ?_)
  refine sn_aload_n dJ0_length_8abf5_5 rfl ?_
  refine sn_callT (vs := []) (cJ0_coder_7d493_ok n a μ) dJ0_length_8abf5_6 cw_J0_335 rfl rfl (by decide) (by decide) (Nat.le_of_ble_eq_true rfl) (fun p6 => ?_)
  refine sn_ishr dJ0_length_8abf5_9 ?_
  exact sn_iret dJ0_length_8abf5_10
theorem dJ6_bitCount_0f7a4_0 : decode cJ6_bitCount_0f7a4 0 = .ok (.iload_n 0, 1) := by decide +kernel
theorem dJ6_bitCount_0f7a4_1 : decode cJ6_bitCount_0f7a4 1 = .ok (.iload_n 0, 1) := by decide +kernel
theorem dJ6_bitCount_0f7a4_2 : decode cJ6_bitCount_0f7a4 2 = .ok (.iconst 1, 1) := by decide +kernel
theorem dJ6_bitCount_0f7a4_3 : decode cJ6_bitCount_0f7a4 3 = .ok (.iushr, 1) := by decide +kernel
theorem dJ6_bitCount_0f7a4_4 : decode cJ6_bitCount_0f7a4 4 = .ok (.ldc_w 265, 3) := by decide +kernel
theorem dJ6_bitCount_0f7a4_7 : decode cJ6_bitCount_0f7a4 7 = .ok (.iand, 1) := by decide +kernel
theorem dJ6_bitCount_0f7a4_8 : decode cJ6_bitCount_0f7a4 8 = .ok (.isub, 1) := by decide +kernel
theorem dJ6_bitCount_0f7a4_9 : decode cJ6_bitCount_0f7a4 9 = .ok (.istore_n 0, 1) := by decide +kernel
theorem dJ6_bitCount_0f7a4_10 : decode cJ6_bitCount_0f7a4 10 = .ok (.iload_n 0, 1) := by decide +kernel
theorem dJ6_bitCount_0f7a4_11 : decode cJ6_bitCount_0f7a4 11 = .ok (.ldc_w 266, 3) := by decide +kernel
theorem dJ6_bitCount_0f7a4_14 : decode cJ6_bitCount_0f7a4 14 = .ok (.iand, 1) := by decide +kernel
theorem dJ6_bitCount_0f7a4_15 : decode cJ6_bitCount_0f7a4 15 = .ok (.iload_n 0, 1) := by decide +kernel
theorem dJ6_bitCount_0f7a4_16 : decode cJ6_bitCount_0f7a4 16 = .ok (.iconst 2, 1) := by decide +kernel
theorem dJ6_bitCount_0f7a4_17 : decode cJ6_bitCount_0f7a4 17 = .ok (.iushr, 1) := by decide +kernel
theorem dJ6_bitCount_0f7a4_18 : decode cJ6_bitCount_0f7a4 18 = .ok (.ldc_w 266, 3) := by decide +kernel
theorem dJ6_bitCount_0f7a4_21 : decode cJ6_bitCount_0f7a4 21 = .ok (.iand, 1) := by decide +kernel
theorem dJ6_bitCount_0f7a4_22 : decode cJ6_bitCount_0f7a4 22 = .ok (.iadd, 1) := by decide +kernel
theorem dJ6_bitCount_0f7a4_23 : decode cJ6_bitCount_0f7a4 23 = .ok (.istore_n 0, 1) := by decide +kernel
theorem dJ6_bitCount_0f7a4_24 : decode cJ6_bitCount_0f7a4 24 = .ok (.iload_n 0, 1) := by decide +kernel
theorem dJ6_bitCount_0f7a4_25 : decode cJ6_bitCount_0f7a4 25 = .ok (.iload_n 0, 1) := by decide +kernel
theorem dJ6_bitCount_0f7a4_26 : decode cJ6_bitCount_0f7a4 26 = .ok (.iconst 4, 1) := by decide +kernel
theorem dJ6_bitCount_0f7a4_27 : decode cJ6_bitCount_0f7a4 27 = .ok (.iushr, 1) := by decide +kernel
theorem dJ6_bitCount_0f7a4_28 : decode cJ6_bitCount_0f7a4 28 = .ok (.iadd, 1) := by decide +kernel
theorem dJ6_bitCount_0f7a4_29 : decode cJ6_bitCount_0f7a4 29 = .ok (.ldc_w 267, 3) := by decide +kernel
theorem dJ6_bitCount_0f7a4_32 : decode cJ6_bitCount_0f7a4 32 = .ok (.iand, 1) := by decide +kernel
theorem dJ6_bitCount_0f7a4_33 : decode cJ6_bitCount_0f7a4 33 = .ok (.istore_n 0, 1) := by decide +kernel
theorem dJ6_bitCount_0f7a4_34 : decode cJ6_bitCount_0f7a4 34 = .ok (.iload_n 0, 1) := by decide +kernel
theorem dJ6_bitCount_0f7a4_35 : decode cJ6_bitCount_0f7a4 35 = .ok (.iload_n 0, 1) := by decide +kernel
theorem dJ6_bitCount_0f7a4_36 : decode cJ6_bitCount_0f7a4 36 = .ok (.bipush 8, 2) := by decide +kernel
theorem dJ6_bitCount_0f7a4_38 : decode cJ6_bitCount_0f7a4 38 = .ok (.iushr, 1) := by decide +kernel
theorem dJ6_bitCount_0f7a4_39 : decode cJ6_bitCount_0f7a4 39 = .ok (.iadd, 1) := by decide +kernel
theorem dJ6_bitCount_0f7a4_40 : decode cJ6_bitCount_0f7a4 40 = .ok (.istore_n 0, 1) := by decide +kernel
theorem dJ6_bitCount_0f7a4_41 : decode cJ6_bitCount_0f7a4 41 = .ok (.iload_n 0, 1) := by decide +kernel
theorem dJ6_bitCount_0f7a4_42 : decode cJ6_bitCount_0f7a4 42 = .ok (.iload_n 0, 1) := by decide +kernel
theorem dJ6_bitCount_0f7a4_43 : decode cJ6_bitCount_0f7a4 43 = .ok (.bipush 16, 2) := by decide +kernel
theorem dJ6_bitCount_0f7a4_45 : decode cJ6_bitCount_0f7a4 45 = .ok (.iushr, 1) := by decide +kernel
theorem dJ6_bitCount_0f7a4_46 : decode cJ6_bitCount_0f7a4 46 = .ok (.iadd, 1) := by decide +kernel
theorem dJ6_bitCount_0f7a4_47 : decode cJ6_bitCount_0f7a4 47 = .ok (.istore_n 0, 1) := by decide +kernel
theorem dJ6_bitCount_0f7a4_48 : decode cJ6_bitCount_0f7a4 48 = .ok (.iload_n 0, 1) := by decide +kernel
theorem dJ6_bitCount_0f7a4_49 : decode cJ6_bitCount_0f7a4 49 = .ok (.bipush 63, 2) := by decide +kernel
theorem dJ6_bitCount_0f7a4_51 : decode cJ6_bitCount_0f7a4 51 = .ok (.iand, 1) := by decide +kernel
theorem dJ6_bitCount_0f7a4_52 : decode cJ6_bitCount_0f7a4 52 = .ok (.ireturn, 1) := by decide +kernel
def mJ6_bitCount_0f7a4 (n : Nat) (b1 : Int) (μ : Mem) : Option (Int × Mem) :=
  some ((oAnd (((oAnd (((oAnd (b1 - (oAnd (oUshr b1 1) 1431655765)) 858993459) + (oAnd (oUshr (b1 - (oAnd (oUshr b1 1) 1431655765)) 2) 858993459)) + (oUshr ((oAnd (b1 - (oAnd (oUshr b1 1) 1431655765)) 858993459) + (oAnd (oUshr (b1 - (oAnd (oUshr b1 1) 1431655765)) 2) 858993459)) 4)) 252645135) + (oUshr (oAnd (((oAnd (b1 - (oAnd (oUshr b1 1) 1431655765)) 858993459) + (oAnd (oUshr (b1 - (oAnd (oUshr b1 1) 1431655765)) 2) 858993459)) + (oUshr ((oAnd (b1 - (oAnd (oUshr b1 1) 1431655765)) 858993459) + (oAnd (oUshr (b1 - (oAnd (oUshr b1 1) 1431655765)) 2) 858993459)) 4)) 252645135) 8)) + (oUshr ((oAnd (((oAnd (b1 - (oAnd (oUshr b1 1) 1431655765)) 858993459) + (oAnd (oUshr (b1 - (oAnd (oUshr b1 1) 1431655765)) 2) 858993459)) + (oUshr ((oAnd (b1 - (oAnd (oUshr b1 1) 1431655765)) 858993459) + (oAnd (oUshr (b1 - (oAnd (oUshr b1 1) 1431655765)) 2) 858993459)) 4)) 252645135) + (oUshr (oAnd (((oAnd (b1 - (oAnd (oUshr b1 1) 1431655765)) 858993459) + (oAnd (oUshr (b1 - (oAnd (oUshr b1 1) 1431655765)) 2) 858993459)) + (oUshr ((oAnd (b1 - (oAnd (oUshr b1 1) 1431655765)) 858993459) + (oAnd (oUshr (b1 - (oAnd (oUshr b1 1) 1431655765)) 2) 858993459)) 4)) 252645135) 8)) 16)) 63), μ)
set_option maxRecDepth 100000 in
set_option maxHeartbeats 4000000 in
theorem cJ6_bitCount_0f7a4_ok (n : Nat) (b1 : Int) (μ : Mem) : Mc yJ6_bitCount_0f7a4 cJ6_bitCount_0f7a4 1 (some .int) 0 0 eI [aI b1] μ (mJ6_bitCount_0f7a4 n b1 μ) := by
  refine mc_of (L0 := [some (aI b1)]) (k := 0) (by decide) rfl rfl (fun X Γ => ?_)
  unfold mJ6_bitCount_0f7a4
  refine sn_iload_n dJ6_bitCount_0f7a4_0 rfl ?_
  refine sn_iload_n dJ6_bitCount_0f7a4_1 rfl ?_
  refine sn_iconst dJ6_bitCount_0f7a4_2 ?_
  refine sn_iushr dJ6_bitCount_0f7a4_3 ?_
  refine sn_ldcw (v := 1431655765) dJ6_bitCount_0f7a4_4 k_J6_265 (by decide) ?_
  refine sn_iand dJ6_bitCount_0f7a4_7 ?_
  refine sn_isub dJ6_bitCount_0f7a4_8 ?_
  refine sn_istore_n (L' := [some (aI (b1 - (oAnd (oUshr b1 1) 1431655765)))]) dJ6_bitCount_0f7a4_9 (by decide) rfl ?_
  refine sn_iload_n dJ6_bitCount_0f7a4_10 rfl ?_
  refine sn_ldcw (v := 858993459) dJ6_bitCount_0f7a4_11 k_J6_266 (by decide) ?_
  refine sn_iand dJ6_bitCount_0f7a4_14 ?_
  refine sn_iload_n dJ6_bitCount_0f7a4_15 rfl ?_
  refine sn_iconst dJ6_bitCount_0f7a4_16 ?_
  refine sn_iushr dJ6_bitCount_0f7a4_17 ?_
  refine sn_ldcw (v := 858993459) dJ6_bitCount_0f7a4_18 k_J6_266 (by decide) ?_
  refine sn_iand dJ6_bitCount_0f7a4_21 ?_
  refine sn_iadd dJ6_bitCount_0f7a4_22 ?_
  refine sn_istore_n (L' := [some (aI ((oAnd (b1 - (oAnd (oUshr b1 1) 1431655765)) 858993459) + (oAnd (oUshr (b1 - (oAnd (oUshr b1 1) 1431655765)) 2) 858993459)))]) dJ6_bitCount_0f7a4_23 (by decide) rfl ?_
  refine sn_iload_n dJ6_bitCount_0f7a4_24 rfl ?_
  refine sn_iload_n dJ6_bitCount_0f7a4_25 rfl ?_
  refine sn_iconst dJ6_bitCount_0f7a4_26 ?_
  refine sn_iushr dJ6_bitCount_0f7a4_27 ?_
  refine sn_iadd dJ6_bitCount_0f7a4_28 ?_
  refine sn_ldcw (v := 252645135) dJ6_bitCount_0f7a4_29 k_J6_267 (by decide) ?_
  refine sn_iand dJ6_bitCount_0f7a4_32 ?_
  refine sn_istore_n (L' := [some (aI (oAnd (((oAnd (b1 - (oAnd (oUshr b1 1) 1431655765)) 858993459) + (oAnd (oUshr (b1 - (oAnd (oUshr b1 1) 1431655765)) 2) 858993459)) + (oUshr ((oAnd (b1 - (oAnd (oUshr b1 1) 1431655765)) 858993459) + (oAnd (oUshr (b1 - (oAnd (oUshr b1 1) 1431655765)) 2) 858993459)) 4)) 252645135))]) dJ6_bitCount_0f7a4_33 (by decide) rfl ?_
  refine sn_iload_n dJ6_bitCount_0f7a4_34 rfl ?_
  refine sn_iload_n dJ6_bitCount_0f7a4_35 rfl ?_
  refine sn_bipush dJ6_bitCount_0f7a4_36 (by decide) ?_
  refine sn_iushr dJ6_bitCount_0f7a4_38 ?_
  refine sn_iadd dJ6_bitCount_0f7a4_39 ?_
  refine sn_istore_n (L' := [some (aI ((oAnd (((oAnd (b1 - (oAnd (oUshr b1 1) 1431655765)) 858993459) + (oAnd (oUshr (b1 - (oAnd (oUshr b1 1) 1431655765)) 2) 858993459)) + (oUshr ((oAnd (b1 - (oAnd (oUshr b1 1) 1431655765)) 858993459) + (oAnd (oUshr (b1 - (oAnd (oUshr b1 1) 1431655765)) 2) 858993459)) 4)) 252645135) + (oUshr (oAnd (((oAnd (b1 - (oAnd (oUshr b1 1) 1431655765)) 858993459) + (oAnd (oUshr (b1 - (oAnd (oUshr b1 1) 1431655765)) 2) 858993459)) + (oUshr ((oAnd (b1 - (oAnd (oUshr b1 1) 1431655765)) 858993459) + (oAnd (oUshr (b1 - (oAnd (oUshr b1 1) 1431655765)) 2) 858993459)) 4)) 252645135) 8)))]) dJ6_bitCount_0f7a4_40 (by decide) rfl ?_
  refine sn_iload_n dJ6_bitCount_0f7a4_41 rfl ?_
  refine sn_iload_n dJ6_bitCount_0f7a4_42 rfl ?_
  refine sn_bipush dJ6_bitCount_0f7a4_43 (by decide) ?_
  refine sn_iushr dJ6_bitCount_0f7a4_45 ?_
  refine sn_iadd dJ6_bitCount_0f7a4_46 ?_
  refine sn_istore_n (L' := [some (aI (((oAnd (((oAnd (b1 - (oAnd (oUshr b1 1) 1431655765)) 858993459) + (oAnd (oUshr (b1 - (oAnd (oUshr b1 1) 1431655765)) 2) 858993459)) + (oUshr ((oAnd (b1 - (oAnd (oUshr b1 1) 1431655765)) 858993459) + (oAnd (oUshr (b1 - (oAnd (oUshr b1 1) 1431655765)) 2) 858993459)) 4)) 252645135) + (oUshr (oAnd (((oAnd (b1 - (oAnd (oUshr b1 1) 1431655765)) 858993459) + (oAnd (oUshr (b1 - (oAnd (oUshr b1 1) 1431655765)) 2) 858993459)) + (oUshr ((oAnd (b1 - (oAnd (oUshr b1 1) 1431655765)) 858993459) + (oAnd (oUshr (b1 - (oAnd (oUshr b1 1) 1431655765)) 2) 858993459)) 4)) 252645135) 8)) + (oUshr ((oAnd (((oAnd (b1 - (oAnd (oUshr b1 1) 1431655765)) 858993459) + (oAnd (oUshr (b1 - (oAnd (oUshr b1 1) 1431655765)) 2) 858993459)) + (oUshr ((oAnd (b1 - (oAnd (oUshr b1 1) 1431655765)) 858993459) + (oAnd (oUshr (b1 - (oAnd (oUshr b1 1) 1431655765)) 2) 858993459)) 4)) 252645135) + (oUshr (oAnd (((oAnd (b1 - (oAnd (oUshr b1 1) 1431655765)) 858993459) + (oAnd (oUshr (b1 - (oAnd (oUshr b1 1) 1431655765)) 2) 858993459)) + (oUshr ((oAnd (b1 - (oAnd (oUshr b1 1) 1431655765)) 858993459) + (oAnd (oUshr (b1 - (oAnd (oUshr b1 1) 1431655765)) 2) 858993459)) 4)) 252645135) 8)) 16)))]) dJ6_bitCount_0f7a4_47 (by decide) rfl ?_
  refine sn_iload_n dJ6_bitCount_0f7a4_48 rfl ?_
  refine sn_bipush dJ6_bitCount_0f7a4_49 (by decide) ?_
  refine sn_iand dJ6_bitCount_0f7a4_51 ?_
  exact sn_iret dJ6_bitCount_0f7a4_52
theorem dJ7_fill_53178_0 : decode cJ7_fill_53178 0 = .ok (.iconst 0, 1) := by decide +kernel
theorem dJ7_fill_53178_1 : decode cJ7_fill_53178 1 = .ok (.istore_n 2, 1) := by decide +kernel
theorem dJ7_fill_53178_2 : decode cJ7_fill_53178 2 = .ok (.aload_n 0, 1) := by decide +kernel
theorem dJ7_fill_53178_3 : decode cJ7_fill_53178 3 = .ok (.arraylength, 1) := by decide +kernel
theorem dJ7_fill_53178_4 : decode cJ7_fill_53178 4 = .ok (.istore_n 3, 1) := by decide +kernel
theorem dJ7_fill_53178_5 : decode cJ7_fill_53178 5 = .ok (.iload_n 2, 1) := by decide +kernel
theorem dJ7_fill_53178_6 : decode cJ7_fill_53178 6 = .ok (.iload_n 3, 1) := by decide +kernel
theorem dJ7_fill_53178_7 : decode cJ7_fill_53178 7 = .ok (.if_icmp .ge 13, 3) := by decide +kernel
theorem dJ7_fill_53178_10 : decode cJ7_fill_53178 10 = .ok (.aload_n 0, 1) := by decide +kernel
theorem dJ7_fill_53178_11 : decode cJ7_fill_53178 11 = .ok (.iload_n 2, 1) := by decide +kernel
theorem dJ7_fill_53178_12 : decode cJ7_fill_53178 12 = .ok (.iload_n 1, 1) := by decide +kernel
theorem dJ7_fill_53178_13 : decode cJ7_fill_53178 13 = .ok (.iastore, 1) := by decide +kernel
theorem dJ7_fill_53178_14 : decode cJ7_fill_53178 14 = .ok (.iinc 2 1, 3) := by decide +kernel
theorem dJ7_fill_53178_17 : decode cJ7_fill_53178 17 = .ok (.goto (-12), 3) := by decide +kernel
theorem dJ7_fill_53178_20 : decode cJ7_fill_53178 20 = .ok (.return_, 1) := by decide +kernel
def mJ7_fill_53178 (n : Nat) (b1 : Nat) (b2 : Int) (μ : Mem) : Option (Unit × Mem) :=
  (alen μ 0 b1).bind fun x3 =>
  lp (fun nx5 (v5 : Int) (μ5 : Mem) =>
  if lt32 v5 x3 then
    (stI μ5 0 b1 v5 b2).bind fun μ13 =>
    nx5 (v5 + 1) μ13
  else
  some ((), μ5)) n 0 μ
set_option maxRecDepth 100000 in
set_option maxHeartbeats 4000000 in
theorem cJ7_fill_53178_ok (n : Nat) (b1 : Nat) (b2 : Int) (μ : Mem) : Mc yJ7_fill_53178 cJ7_fill_53178 4 none 0 0 eV [aA b1, aI b2] μ (mJ7_fill_53178 n b1 b2 μ) := by
  refine mc_of (L0 := [some (aA b1), some (aI b2), none, none]) (k := 2) (by decide) rfl rfl (fun X Γ => ?_)
  unfold mJ7_fill_53178
  refine sn_iconst dJ7_fill_53178_0 ?_
  refine sn_istore_n (L' := [some (aA b1), some (aI b2), some (aI 0), none]) dJ7_fill_53178_1 (by decide) rfl ?_
  refine sn_aload_n dJ7_fill_53178_2 rfl ?_
  refine sn_iale dJ7_fill_53178_3 (fun x3 => ?_)
  refine sn_istore_n (L' := [some (aA b1), some (aI b2), some (aI 0), some (aI x3)]) dJ7_fill_53178_4 (by decide) rfl ?_
  refine sn_lp (La := fun v5 : Int => [some (aA b1), some (aI b2), some (aI v5), some (aI x3)]) ?_ n 0 μ
  intro nx5 hnx5 v5 μ5
  refine sn_iload_n dJ7_fill_53178_5 rfl ?_
  refine sn_iload_n dJ7_fill_53178_6 rfl ?_
  refine sn_icmp_ge (tgt := 20) dJ7_fill_53178_7 (by decide) ?_ ?_
  · exact sn_vret dJ7_fill_53178_20
  · refine sn_aload_n dJ7_fill_53178_10 rfl ?_
    refine sn_iload_n dJ7_fill_53178_11 rfl ?_
    refine sn_iload_n dJ7_fill_53178_12 rfl ?_
    refine sn_iast dJ7_fill_53178_13 (fun μ13 => ?_)
    refine sn_iinc (L' := [some (aA b1), some (aI b2), some (aI (v5 + 1)), some (aI x3)]) dJ7_fill_53178_14 rfl (by decide) rfl ?_
    refine sn_goto (tgt := 5) dJ7_fill_53178_17 (by decide) ?_
    exact hnx5 (v5 + 1) μ13
theorem dJ7_fill_d0a16_0 : decode cJ7_fill_d0a16 0 = .ok (.iconst 0, 1) := by decide +kernel
theorem dJ7_fill_d0a16_1 : decode cJ7_fill_d0a16 1 = .ok (.istore_n 3, 1) := by decide +kernel
theorem dJ7_fill_d0a16_2 : decode cJ7_fill_d0a16 2 = .ok (.aload_n 0, 1) := by decide +kernel
theorem dJ7_fill_d0a16_3 : decode cJ7_fill_d0a16 3 = .ok (.arraylength, 1) := by decide +kernel
theorem dJ7_fill_d0a16_4 : decode cJ7_fill_d0a16 4 = .ok (.istore 4, 2) := by decide +kernel
theorem dJ7_fill_d0a16_6 : decode cJ7_fill_d0a16 6 = .ok (.iload_n 3, 1) := by decide +kernel
theorem dJ7_fill_d0a16_7 : decode cJ7_fill_d0a16 7 = .ok (.iload 4, 2) := by decide +kernel
theorem dJ7_fill_d0a16_9 : decode cJ7_fill_d0a16 9 = .ok (.if_icmp .ge 13, 3) := by decide +kernel
theorem dJ7_fill_d0a16_12 : decode cJ7_fill_d0a16 12 = .ok (.aload_n 0, 1) := by decide +kernel
theorem dJ7_fill_d0a16_13 : decode cJ7_fill_d0a16 13 = .ok (.iload_n 3, 1) := by decide +kernel
theorem dJ7_fill_d0a16_14 : decode cJ7_fill_d0a16 14 = .ok (.lload_n 1, 1) := by decide +kernel
theorem dJ7_fill_d0a16_15 : decode cJ7_fill_d0a16 15 = .ok (.lastore, 1) := by decide +kernel
theorem dJ7_fill_d0a16_16 : decode cJ7_fill_d0a16 16 = .ok (.iinc 3 1, 3) := by decide +kernel
theorem dJ7_fill_d0a16_19 : decode cJ7_fill_d0a16 19 = .ok (.goto (-13), 3) := by decide +kernel
theorem dJ7_fill_d0a16_22 : decode cJ7_fill_d0a16 22 = .ok (.return_, 1) := by decide +kernel
def mJ7_fill_d0a16 (n : Nat) (b1 : Nat) (b2 : Int) (μ : Mem) : Option (Unit × Mem) :=
  (alen μ 3 b1).bind fun x3 =>
  lp (fun nx6 (v6 : Int) (μ6 : Mem) =>
  if lt32 v6 x3 then
    (stI μ6 3 b1 v6 b2).bind fun μ15 =>
    nx6 (v6 + 1) μ15
  else
  some ((), μ6)) n 0 μ
set_option maxRecDepth 100000 in
set_option maxHeartbeats 4000000 in
theorem cJ7_fill_d0a16_ok (n : Nat) (b1 : Nat) (b2 : Int) (μ : Mem) : Mc yJ7_fill_d0a16 cJ7_fill_d0a16 5 none 0 0 eV [aA b1, aJ b2] μ (mJ7_fill_d0a16 n b1 b2 μ) := by
  refine mc_of (L0 := [some (aA b1), some (aJ b2), none, none, none]) (k := 2) (by decide) rfl rfl (fun X Γ => ?_)
  unfold mJ7_fill_d0a16
  refine sn_iconst dJ7_fill_d0a16_0 ?_
  refine sn_istore_n (L' := [some (aA b1), some (aJ b2), none, some (aI 0), none]) dJ7_fill_d0a16_1 (by decide) rfl ?_
  refine sn_aload_n dJ7_fill_d0a16_2 rfl ?_
  refine sn_lale dJ7_fill_d0a16_3 (fun x3 => ?_)
  refine sn_istore (L' := [some (aA b1), some (aJ b2), none, some (aI 0), some (aI x3)]) dJ7_fill_d0a16_4 (by decide) rfl ?_
  refine sn_lp (La := fun v6 : Int => [some (aA b1), some (aJ b2), none, some (aI v6), some (aI x3)]) ?_ n 0 μ
  intro nx6 hnx6 v6 μ6
  refine sn_iload_n dJ7_fill_d0a16_6 rfl ?_
  refine sn_iload dJ7_fill_d0a16_7 rfl ?_
  refine sn_icmp_ge (tgt := 22) dJ7_fill_d0a16_9 (by decide) ?_ ?_
  · exact sn_vret dJ7_fill_d0a16_22
  · refine sn_aload_n dJ7_fill_d0a16_12 rfl ?_
    refine sn_iload_n dJ7_fill_d0a16_13 rfl ?_
    refine sn_lload_n dJ7_fill_d0a16_14 rfl ?_
    refine sn_last dJ7_fill_d0a16_15 (fun μ15 => ?_)
    refine sn_iinc (L' := [some (aA b1), some (aJ b2), none, some (aI (v6 + 1)), some (aI x3)]) dJ7_fill_d0a16_16 rfl (by decide) rfl ?_
    refine sn_goto (tgt := 6) dJ7_fill_d0a16_19 (by decide) ?_
    exact hnx6 (v6 + 1) μ15
