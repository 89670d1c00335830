/-! layer 1: jdk -/
theorem dJ6_bitCount_0f7a4_0 : decode cJ6_bitCount_0f7a4 0 = .ok (.iload_n 0, 1) := by decide +kernel
theorem dJ6_bitCount_0f7a4_1 : decode cJ6_bitCount_0f7a4 1 = .ok (.iload_n 0, 1) := by decide +kernel
theorem dJ6_bitCount_0f7a4_2 : decode cJ6_bitCount_0f7a4 2 = .ok (.iconst 1, 1) := by decide +kernel
theorem dJ6_bitCount_0f7a4_3 : decode cJ6_bitCount_0f7a4 3 = .ok (.iushr, 1) := by decide +kernel
theorem dJ6_bitCount_0f7a4_4 : decode cJ6_bitCount_0f7a4 4 = .ok (.ldc_w 265, 3) := by decide +kernel
theorem dJ6_bitCount_0f7a4_7 : decode cJ6_bitCount_0f7a4 7 = .ok (.iand, 1) := by decide +kernel
theorem dJ6_bitCount_0f7a4_8 : decode cJ6_bitCount_0f7a4 8 = .ok (.isub, 1) := by decide +kernel
theorem dJ6_bitCount_0f7a4_9 : decode cJ6_bitCount_0f7a4 9 = .ok (.istore_n 0, 1) := by decide +kernel
theorem dJ6_bitCount_0f7a4_10 : decode cJ6_bitCount_0f7a4 10 = .ok (.iload_n 0, 1) := by decide +kernel
theorem dJ6_bitCount_0f7a4_11 : decode cJ6_bitCount_0f7a4 11 = .ok (.ldc_w 266, 3) := by decide +kernel
theorem dJ6_bitCount_0f7a4_14 : decode cJ6_bitCount_0f7a4 14 = .ok (.iand, 1) := by decide +kernel
theorem dJ6_bitCount_0f7a4_15 : decode cJ6_bitCount_0f7a4 15 = .ok (.iload_n 0, 1) := by decide +kernel
theorem dJ6_bitCount_0f7a4_16 : decode cJ6_bitCount_0f7a4 16 = .ok (.iconst 2, 1) := by decide +kernel
theorem dJ6_bitCount_0f7a4_17 : decode cJ6_bitCount_0f7a4 17 = .ok (.iushr, 1) := by decide +kernel
theorem dJ6_bitCount_0f7a4_18 : decode cJ6_bitCount_0f7a4 18 = .ok (.ldc_w 266, 3) := by decide +kernel
theorem dJ6_bitCount_0f7a4_21 : decode cJ6_bitCount_0f7a4 21 = .ok (.iand, 1) := by decide +kernel
theorem dJ6_bitCount_0f7a4_22 : decode cJ6_bitCount_0f7a4 22 = .ok (.iadd, 1) := by decide +kernel
theorem dJ6_bitCount_0f7a4_23 : decode cJ6_bitCount_0f7a4 23 = .ok (.istore_n 0, 1) := by decide +kernel
theorem dJ6_bitCount_0f7a4_24 : decode cJ6_bitCount_0f7a4 24 = .ok (.iload_n 0, 1) := by decide +kernel
theorem dJ6_bitCount_0f7a4_25 : decode cJ6_bitCount_0f7a4 25 = .ok (.iload_n 0, 1) := by decide +kernel
theorem dJ6_bitCount_0f7a4_26 : decode cJ6_bitCount_0f7a4 26 = .ok (.iconst 4, 1) := by decide +kernel
theorem dJ6_bitCount_0f7a4_27 : decode cJ6_bitCount_0f7a4 27 = .ok (.iushr, 1) := by decide +kernel
theorem dJ6_bitCount_0f7a4_28 : decode cJ6_bitCount_0f7a4 28 = .ok (.iadd, 1) := by decide +kernel
theorem dJ6_bitCount_0f7a4_29 : decode cJ6_bitCount_0f7a4 29 = .ok (.ldc_w 267, 3) := by decide +kernel
theorem dJ6_bitCount_0f7a4_32 : decode cJ6_bitCount_0f7a4 32 = .ok (.iand, 1) := by decide +kernel
theorem dJ6_bitCount_0f7a4_33 : decode cJ6_bitCount_0f7a4 33 = .ok (.istore_n 0, 1) := by decide +kernel
theorem dJ6_bitCount_0f7a4_34 : decode cJ6_bitCount_0f7a4 34 = .ok (.iload_n 0, 1) := by decide +kernel
theorem dJ6_bitCount_0f7a4_35 : decode cJ6_bitCount_0f7a4 35 = .ok (.iload_n 0, 1) := by decide +kernel
theorem dJ6_bitCount_0f7a4_36 : decode cJ6_bitCount_0f7a4 36 = .ok (.bipush 8, 2) := by decide +kernel
theorem dJ6_bitCount_0f7a4_38 : decode cJ6_bitCount_0f7a4 38 = .ok (.iushr, 1) := by decide +kernel
theorem dJ6_bitCount_0f7a4_39 : decode cJ6_bitCount_0f7a4 39 = .ok (.iadd, 1) := by decide +kernel
theorem dJ6_bitCount_0f7a4_40 : decode cJ6_bitCount_0f7a4 40 = .ok (.istore_n 0, 1) := by decide +kernel
theorem dJ6_bitCount_0f7a4_41 : decode cJ6_bitCount_0f7a4 41 = .ok (.iload_n 0, 1) := by decide +kernel
theorem dJ6_bitCount_0f7a4_42 : decode cJ6_bitCount_0f7a4 42 = .ok (.iload_n 0, 1) := by decide +kernel
theorem dJ6_bitCount_0f7a4_43 : decode cJ6_bitCount_0f7a4 43 = .ok (.bipush 16, 2) := by decide +kernel
theorem dJ6_bitCount_0f7a4_45 : decode cJ6_bitCount_0f7a4 45 = .ok (.iushr, 1) := by decide +kernel
theorem dJ6_bitCount_0f7a4_46 : decode cJ6_bitCount_0f7a4 46 = .ok (.iadd, 1) := by decide +kernel
theorem dJ6_bitCount_0f7a4_47 : decode cJ6_bitCount_0f7a4 47 = .ok (.istore_n 0, 1) := by decide +kernel
theorem dJ6_bitCount_0f7a4_48 : decode cJ6_bitCount_0f7a4 48 = .ok (.iload_n 0, 1) := by decide +kernel
theorem dJ6_bitCount_0f7a4_49 : decode cJ6_bitCount_0f7a4 49 = .ok (.bipush 63, 2) := by decide +kernel
theorem dJ6_bitCount_0f7a4_51 : decode cJ6_bitCount_0f7a4 51 = .ok (.iand, 1) := by decide +kernel
theorem dJ6_bitCount_0f7a4_52 : decode cJ6_bitCount_0f7a4 52 = .ok (.ireturn, 1) := by decide +kernel
def mJ6_bitCount_0f7a4 (n : Nat) (b1 : Int) (μ : Mem) : Option (Int × Mem) :=
  some ((oAnd (((oAnd (((oAnd (b1 - (oAnd (oUshr b1 1) 1431655765)) 858993459) + (oAnd (oUshr (b1 - (oAnd (oUshr b1 1) 1431655765)) 2) 858993459)) + (oUshr ((oAnd (b1 - (oAnd (oUshr b1 1) 1431655765)) 858993459) + (oAnd (oUshr (b1 - (oAnd (oUshr b1 1) 1431655765)) 2) 858993459)) 4)) 252645135) + (oUshr (oAnd (((oAnd (b1 - (oAnd (oUshr b1 1) 1431655765)) 858993459) + (oAnd (oUshr (b1 - (oAnd (oUshr b1 1) 1431655765)) 2) 858993459)) + (oUshr ((oAnd (b1 - (oAnd (oUshr b1 1) 1431655765)) 858993459) + (oAnd (oUshr (b1 - (oAnd (oUshr b1 1) 1431655765)) 2) 858993459)) 4)) 252645135) 8)) + (oUshr ((oAnd (((oAnd (b1 - (oAnd (oUshr b1 1) 1431655765)) 858993459) + (oAnd (oUshr (b1 - (oAnd (oUshr b1 1) 1431655765)) 2) 858993459)) + (oUshr ((oAnd (b1 - (oAnd (oUshr b1 1) 1431655765)) 858993459) + (oAnd (oUshr (b1 - (oAnd (oUshr b1 1) 1431655765)) 2) 858993459)) 4)) 252645135) + (oUshr (oAnd (((oAnd (b1 - (oAnd (oUshr b1 1) 1431655765)) 858993459) + (oAnd (oUshr (b1 - (oAnd (oUshr b1 1) 1431655765)) 2) 858993459)) + (oUshr ((oAnd (b1 - (oAnd (oUshr b1 1) 1431655765)) 858993459) + (oAnd (oUshr (b1 - (oAnd (oUshr b1 1) 1431655765)) 2) 858993459)) 4)) 252645135) 8)) 16)) 63), μ)
set_option maxRecDepth 100000 in
set_option maxHeartbeats 4000000 in
theorem cJ6_bitCount_0f7a4_ok (n : Nat) (b1 : Int) (μ : Mem) : Mc yJ6_bitCount_0f7a4 cJ6_bitCount_0f7a4 1 (some .int) 0 0 eI [aI b1] μ (mJ6_bitCount_0f7a4 n b1 μ) := by
  refine mc_of (L0 := [some (aI b1)]) (k := 0) (by decide) rfl rfl (fun X Γ => ?_)
  unfold mJ6_bitCount_0f7a4
  refine sn_iload_n dJ6_bitCount_0f7a4_0 rfl ?_
  refine sn_iload_n dJ6_bitCount_0f7a4_1 rfl ?_
  refine sn_iconst dJ6_bitCount_0f7a4_2 ?_
  refine sn_iushr dJ6_bitCount_0f7a4_3 ?_
  refine sn_ldcw (v := 1431655765) dJ6_bitCount_0f7a4_4 k_J6_265 (by decide) ?_
  refine sn_iand dJ6_bitCount_0f7a4_7 ?_
  refine sn_isub dJ6_bitCount_0f7a4_8 ?_
  refine sn_istore_n (L' := [some (aI (b1 - (oAnd (oUshr b1 1) 1431655765)))]) dJ6_bitCount_0f7a4_9 (by decide) rfl ?_
  refine sn_iload_n dJ6_bitCount_0f7a4_10 rfl ?_
  refine sn_ldcw (v := 858993459) dJ6_bitCount_0f7a4_11 k_J6_266 (by decide) ?_
  refine sn_iand dJ6_bitCount_0f7a4_14 ?_
  refine sn_iload_n dJ6_bitCount_0f7a4_15 rfl ?_
  refine sn_iconst dJ6_bitCount_0f7a4_16 ?_
  refine sn_iushr dJ6_bitCount_0f7a4_17 ?_
  refine sn_ldcw (v := 858993459) dJ6_bitCount_0f7a4_18 k_J6_266 (by decide) ?_
  refine sn_iand dJ6_bitCount_0f7a4_21 ?_
  refine sn_iadd dJ6_bitCount_0f7a4_22 ?_
  refine sn_istore_n (L' := [some (aI ((oAnd (b1 - (oAnd (oUshr b1 1) 1431655765)) 858993459) + (oAnd (oUshr (b1 - (oAnd (oUshr b1 1) 1431655765)) 2) 858993459)))]) dJ6_bitCount_0f7a4_23 (by decide) rfl ?_
  refine sn_iload_n dJ6_bitCount_0f7a4_24 rfl ?_
  refine sn_iload_n dJ6_bitCount_0f7a4_25 rfl ?_
  refine sn_iconst dJ6_bitCount_0f7a4_26 ?_
  refine sn_iushr dJ6_bitCount_0f7a4_27 ?_
  refine sn_iadd dJ6_bitCount_0f7a4_28 ?_
  refine sn_ldcw (v := 252645135) dJ6_bitCount_0f7a4_29 k_J6_267 (by decide) ?_
  refine sn_iand dJ6_bitCount_0f7a4_32 ?_
  refine sn_istore_n (L' := [some (aI (oAnd (((oAnd (b1 - (oAnd (oUshr b1 1) 1431655765)) 858993459) + (oAnd (oUshr (b1 - (oAnd (oUshr b1 1) 1431655765)) 2) 858993459)) + (oUshr ((oAnd (b1 - (oAnd (oUshr b1 1) 1431655765)) 858993459) + (oAnd (oUshr (b1 - (oAnd (oUshr b1 1) 1431655765)) 2) 858993459)) 4)) 252645135))]) dJ6_bitCount_0f7a4_33 (by decide) rfl ?_
  refine sn_iload_n dJ6_bitCount_0f7a4_34 rfl ?_
  refine sn_iload_n dJ6_bitCount_0f7a4_35 rfl ?_
  refine sn_bipush dJ6_bitCount_0f7a4_36 (by decide) ?_
  refine sn_iushr dJ6_bitCount_0f7a4_38 ?_
  refine sn_iadd dJ6_bitCount_0f7a4_39 ?_
  refine sn_istore_n (L' := [some (aI ((oAnd (((oAnd (b1 - (oAnd (oUshr b1 1) 1431655765)) 858993459) + (oAnd (oUshr (b1 - (oAnd (oUshr b1 1) 1431655765)) 2) 858993459)) + (oUshr ((oAnd (b1 - (oAnd (oUshr b1 1) 1431655765)) 858993459) + (oAnd (oUshr (b1 - (oAnd (oUshr b1 1) 1431655765)) 2) 858993459)) 4)) 252645135) + (oUshr (oAnd (((oAnd (b1 - (oAnd (oUshr b1 1) 1431655765)) 858993459) + (oAnd (oUshr (b1 - (oAnd (oUshr b1 1) 1431655765)) 2) 858993459)) + (oUshr ((oAnd (b1 - (oAnd (oUshr b1 1) 1431655765)) 858993459) + (oAnd (oUshr (b1 - (oAnd (oUshr b1 1) 1431655765)) 2) 858993459)) 4)) 252645135) 8)))]) dJ6_bitCount_0f7a4_40 (by decide) rfl ?_
  refine sn_iload_n dJ6_bitCount_0f7a4_41 rfl ?_
  refine sn_iload_n dJ6_bitCount_0f7a4_42 rfl ?_
  refine sn_bipush dJ6_bitCount_0f7a4_43 (by decide) ?_
  refine sn_iushr dJ6_bitCount_0f7a4_45 ?_
  refine sn_iadd dJ6_bitCount_0f7a4_46 ?_
  refine sn_istore_n (L' := [some (aI (((oAnd (((oAnd (b1 - (oAnd (oUshr b1 1) 1431655765)) 858993459) + (oAnd (oUshr (b1 - (oAnd (oUshr b1 1) 1431655765)) 2) 858993459)) + (oUshr ((oAnd (b1 - (oAnd (oUshr b1 1) 1431655765)) 858993459) + (oAnd (oUshr (b1 - (oAnd (oUshr b1 1) 1431655765)) 2) 858993459)) 4)) 252645135) + (oUshr (oAnd (((oAnd (b1 - (oAnd (oUshr b1 1) 1431655765)) 858993459) + (oAnd (oUshr (b1 - (oAnd (oUshr b1 1) 1431655765)) 2) 858993459)) + (oUshr ((oAnd (b1 - (oAnd (oUshr b1 1) 1431655765)) 858993459) + (oAnd (oUshr (b1 - (oAnd (oUshr b1 1) 1431655765)) 2) 858993459)) 4)) 252645135) 8)) + (oUshr ((oAnd (((oAnd (b1 - (oAnd (oUshr b1 1) 1431655765)) 858993459) + (oAnd (oUshr (b1 - (oAnd (oUshr b1 1) 1431655765)) 2) 858993459)) + (oUshr ((oAnd (b1 - (oAnd (oUshr b1 1) 1431655765)) 858993459) + (oAnd (oUshr (b1 - (oAnd (oUshr b1 1) 1431655765)) 2) 858993459)) 4)) 252645135) + (oUshr (oAnd (((oAnd (b1 - (oAnd (oUshr b1 1) 1431655765)) 858993459) + (oAnd (oUshr (b1 - (oAnd (oUshr b1 1) 1431655765)) 2) 858993459)) + (oUshr ((oAnd (b1 - (oAnd (oUshr b1 1) 1431655765)) 858993459) + (oAnd (oUshr (b1 - (oAnd (oUshr b1 1) 1431655765)) 2) 858993459)) 4)) 252645135) 8)) 16)))]) dJ6_bitCount_0f7a4_47 (by decide) rfl ?_
  refine sn_iload_n dJ6_bitCount_0f7a4_48 rfl ?_
  refine sn_bipush dJ6_bitCount_0f7a4_49 (by decide) ?_
  refine sn_iand dJ6_bitCount_0f7a4_51 ?_
  exact sn_iret dJ6_bitCount_0f7a4_52
theorem dJ7_fill_53178_0 : decode cJ7_fill_53178 0 = .ok (.iconst 0, 1) := by decide +kernel
theorem dJ7_fill_53178_1 : decode cJ7_fill_53178 1 = .ok (.istore_n 2, 1) := by decide +kernel
theorem dJ7_fill_53178_2 : decode cJ7_fill_53178 2 = .ok (.aload_n 0, 1) := by decide +kernel
theorem dJ7_fill_53178_3 : decode cJ7_fill_53178 3 = .ok (.arraylength, 1) := by decide +kernel
theorem dJ7_fill_53178_4 : decode cJ7_fill_53178 4 = .ok (.istore_n 3, 1) := by decide +kernel
theorem dJ7_fill_53178_5 : decode cJ7_fill_53178 5 = .ok (.iload_n 2, 1) := by decide +kernel
theorem dJ7_fill_53178_6 : decode cJ7_fill_53178 6 = .ok (.iload_n 3, 1) := by decide +kernel
theorem dJ7_fill_53178_7 : decode cJ7_fill_53178 7 = .ok (.if_icmp .ge 13, 3) := by decide +kernel
theorem dJ7_fill_53178_10 : decode cJ7_fill_53178 10 = .ok (.aload_n 0, 1) := by decide +kernel
theorem dJ7_fill_53178_11 : decode cJ7_fill_53178 11 = .ok (.iload_n 2, 1) := by decide +kernel
theorem dJ7_fill_53178_12 : decode cJ7_fill_53178 12 = .ok (.iload_n 1, 1) := by decide +kernel
theorem dJ7_fill_53178_13 : decode cJ7_fill_53178 13 = .ok (.iastore, 1) := by decide +kernel
theorem dJ7_fill_53178_14 : decode cJ7_fill_53178 14 = .ok (.iinc 2 1, 3) := by decide +kernel
theorem dJ7_fill_53178_17 : decode cJ7_fill_53178 17 = .ok (.goto (-12), 3) := by decide +kernel
theorem dJ7_fill_53178_20 : decode cJ7_fill_53178 20 = .ok (.return_, 1) := by decide +kernel
def mJ7_fill_53178 (n : Nat) (b1 : Nat) (b2 : Int) (μ : Mem) : Option (Unit × Mem) :=
  (alen μ 0 b1).bind fun x3 =>
  lp (fun nx5 (v5 : Int) (μ5 : Mem) =>
  if lt32 v5 x3 then
    (stI μ5 0 b1 v5 b2).bind fun μ13 =>
    nx5 (v5 + 1) μ13
  else
  some ((), μ5)) n 0 μ
set_option maxRecDepth 100000 in
set_option maxHeartbeats 4000000 in
theorem cJ7_fill_53178_ok (n : Nat) (b1 : Nat) (b2 : Int) (μ : Mem) : Mc yJ7_fill_53178 cJ7_fill_53178 4 none 0 0 eV [aA b1, aI b2] μ (mJ7_fill_53178 n b1 b2 μ) := by
  refine mc_of (L0 := [some (aA b1), some (aI b2), none, none]) (k := 2) (by decide) rfl rfl (fun X Γ => ?_)
  unfold mJ7_fill_53178
  refine sn_iconst dJ7_fill_53178_0 ?_
  refine sn_istore_n (L' := [some (aA b1), some (aI b2), some (aI 0), none]) dJ7_fill_53178_1 (by decide) rfl ?_
  refine sn_aload_n dJ7_fill_53178_2 rfl ?_
  refine sn_iale dJ7_fill_53178_3 (fun x3 => ?_)
  refine sn_istore_n (L' := [some (aA b1), some (aI b2), some (aI 0), some (aI x3)]) dJ7_fill_53178_4 (by decide) rfl ?_
  refine sn_lp (La := fun v5 : Int => [some (aA b1), some (aI b2), some (aI v5), some (aI x3)]) ?_ n 0 μ
  intro nx5 hnx5 v5 μ5
  refine sn_iload_n dJ7_fill_53178_5 rfl ?_
  refine sn_iload_n dJ7_fill_53178_6 rfl ?_
  refine sn_icmp_ge (tgt := 20) dJ7_fill_53178_7 (by decide) ?_ ?_
  · exact sn_vret dJ7_fill_53178_20
  · refine sn_aload_n dJ7_fill_53178_10 rfl ?_
    refine sn_iload_n dJ7_fill_53178_11 rfl ?_
    refine sn_iload_n dJ7_fill_53178_12 rfl ?_
    refine sn_iast dJ7_fill_53178_13 (fun μ13 => ?_)
    refine sn_iinc (L' := [some (aA b1), some (aI b2), some (aI (v5 + 1)), some (aI x3)]) dJ7_fill_53178_14 rfl (by decide) rfl ?_
    refine sn_goto (tgt := 5) dJ7_fill_53178_17 (by decide) ?_
    exact hnx5 (v5 + 1) μ13
theorem dJ7_fill_d0a16_0 : decode cJ7_fill_d0a16 0 = .ok (.iconst 0, 1) := by decide +kernel
theorem dJ7_fill_d0a16_1 : decode cJ7_fill_d0a16 1 = .ok (.istore_n 3, 1) := by decide +kernel
theorem dJ7_fill_d0a16_2 : decode cJ7_fill_d0a16 2 = .ok (.aload_n 0, 1) := by decide +kernel
theorem dJ7_fill_d0a16_3 : decode cJ7_fill_d0a16 3 = .ok (.arraylength, 1) := by decide +kernel
theorem dJ7_fill_d0a16_4 : decode cJ7_fill_d0a16 4 = .ok (.istore 4, 2) := by decide +kernel
theorem dJ7_fill_d0a16_6 : decode cJ7_fill_d0a16 6 = .ok (.iload_n 3, 1) := by decide +kernel
theorem dJ7_fill_d0a16_7 : decode cJ7_fill_d0a16 7 = .ok (.iload 4, 2) := by decide +kernel
theorem dJ7_fill_d0a16_9 : decode cJ7_fill_d0a16 9 = .ok (.if_icmp .ge 13, 3) := by decide +kernel
theorem dJ7_fill_d0a16_12 : decode cJ7_fill_d0a16 12 = .ok (.aload_n 0, 1) := by decide +kernel
theorem dJ7_fill_d0a16_13 : decode cJ7_fill_d0a16 13 = .ok (.iload_n 3, 1) := by decide +kernel
theorem dJ7_fill_d0a16_14 : decode cJ7_fill_d0a16 14 = .ok (.lload_n 1, 1) := by decide +kernel
theorem dJ7_fill_d0a16_15 : decode cJ7_fill_d0a16 15 = .ok (.lastore, 1) := by decide +kernel
theorem dJ7_fill_d0a16_16 : decode cJ7_fill_d0a16 16 = .ok (.iinc 3 1, 3) := by decide +kernel
theorem dJ7_fill_d0a16_19 : decode cJ7_fill_d0a16 19 = .ok (.goto (-13), 3) := by decide +kernel
theorem dJ7_fill_d0a16_22 : decode cJ7_fill_d0a16 22 = .ok (.return_, 1) := by decide +kernel
def mJ7_fill_d0a16 (n : Nat) (b1 : Nat) (b2 : Int) (μ : Mem) : Option (Unit × Mem) :=
  (alen μ 3 b1).bind fun x3 =>
  lp (fun nx6 (v6 : Int) (μ6 : Mem) =>
  if lt32 v6 x3 then
    (stI μ6 3 b1 v6 b2).bind fun μ15 =>
    nx6 (v6 + 1) μ15
  else
  some ((), μ6)) n 0 μ
set_option maxRecDepth 100000 in
set_option maxHeartbeats 4000000 in
theorem cJ7_fill_d0a16_ok (n : Nat) (b1 : Nat) (b2 : Int) (μ : Mem) : Mc yJ7_fill_d0a16 cJ7_fill_d0a16 5 none 0 0 eV [aA b1, aJ b2] μ (mJ7_fill_d0a16 n b1 b2 μ) := by
  refine mc_of (L0 := [some (aA b1), some (aJ b2), none, none, none]) (k := 2) (by decide) rfl rfl (fun X Γ => ?_)
  unfold mJ7_fill_d0a16
  refine sn_iconst dJ7_fill_d0a16_0 ?_
  refine sn_istore_n (L' := [some (aA b1), some (aJ b2), none, some (aI 0), none]) dJ7_fill_d0a16_1 (by decide) rfl ?_
  refine sn_aload_n dJ7_fill_d0a16_2 rfl ?_
  refine sn_lale dJ7_fill_d0a16_3 (fun x3 => ?_)
  refine sn_istore (L' := [some (aA b1), some (aJ b2), none, some (aI 0), some (aI x3)]) dJ7_fill_d0a16_4 (by decide) rfl ?_
  refine sn_lp (La := fun v6 : Int => [some (aA b1), some (aJ b2), none, some (aI v6), some (aI x3)]) ?_ n 0 μ
  intro nx6 hnx6 v6 μ6
  refine sn_iload_n dJ7_fill_d0a16_6 rfl ?_
  refine sn_iload dJ7_fill_d0a16_7 rfl ?_
  refine sn_icmp_ge (tgt := 22) dJ7_fill_d0a16_9 (by decide) ?_ ?_
  · exact sn_vret dJ7_fill_d0a16_22
  · refine sn_aload_n dJ7_fill_d0a16_12 rfl ?_
    refine sn_iload_n dJ7_fill_d0a16_13 rfl ?_
    refine sn_lload_n dJ7_fill_d0a16_14 rfl ?_
    refine sn_last dJ7_fill_d0a16_15 (fun μ15 => ?_)
    refine sn_iinc (L' := [some (aA b1), some (aJ b2), none, some (aI (v6 + 1)), some (aI x3)]) dJ7_fill_d0a16_16 rfl (by decide) rfl ?_
    refine sn_goto (tgt := 6) dJ7_fill_d0a16_19 (by decide) ?_
    exact hnx6 (v6 + 1) μ15
