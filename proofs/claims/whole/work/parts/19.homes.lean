/-! layer 1: homes -/
theorem dX0_clashWithPlaced_0 : decode cX0_clashWithPlaced 0 = .ok (.iconst 0, 1) := by decide +kernel
theorem dX0_clashWithPlaced_1 : decode cX0_clashWithPlaced 1 = .ok (.istore_n 3, 1) := by decide +kernel
theorem dX0_clashWithPlaced_2 : decode cX0_clashWithPlaced 2 = .ok (.aload_n 1, 1) := by decide +kernel
theorem dX0_clashWithPlaced_3 : decode cX0_clashWithPlaced 3 = .ok (.getfield 76, 3) := by decide +kernel
theorem dX0_clashWithPlaced_6 : decode cX0_clashWithPlaced 6 = .ok (.aload_n 0, 1) := by decide +kernel
theorem dX0_clashWithPlaced_7 : decode cX0_clashWithPlaced 7 = .ok (.getfield 15, 3) := by decide +kernel
theorem dX0_clashWithPlaced_10 : decode cX0_clashWithPlaced 10 = .ok (.iload_n 2, 1) := by decide +kernel
theorem dX0_clashWithPlaced_11 : decode cX0_clashWithPlaced 11 = .ok (.iaload, 1) := by decide +kernel
theorem dX0_clashWithPlaced_12 : decode cX0_clashWithPlaced 12 = .ok (.iaload, 1) := by decide +kernel
theorem dX0_clashWithPlaced_13 : decode cX0_clashWithPlaced 13 = .ok (.istore 4, 2) := by decide +kernel
theorem dX0_clashWithPlaced_15 : decode cX0_clashWithPlaced 15 = .ok (.iconst 0, 1) := by decide +kernel
theorem dX0_clashWithPlaced_16 : decode cX0_clashWithPlaced 16 = .ok (.istore 5, 2) := by decide +kernel
theorem dX0_clashWithPlaced_18 : decode cX0_clashWithPlaced 18 = .ok (.iload 5, 2) := by decide +kernel
theorem dX0_clashWithPlaced_20 : decode cX0_clashWithPlaced 20 = .ok (.iload_n 2, 1) := by decide +kernel
theorem dX0_clashWithPlaced_21 : decode cX0_clashWithPlaced 21 = .ok (.if_icmp .ge 52, 3) := by decide +kernel
theorem dX0_clashWithPlaced_24 : decode cX0_clashWithPlaced 24 = .ok (.aload_n 0, 1) := by decide +kernel
theorem dX0_clashWithPlaced_25 : decode cX0_clashWithPlaced 25 = .ok (.getfield 20, 3) := by decide +kernel
theorem dX0_clashWithPlaced_28 : decode cX0_clashWithPlaced 28 = .ok (.iload_n 2, 1) := by decide +kernel
theorem dX0_clashWithPlaced_29 : decode cX0_clashWithPlaced 29 = .ok (.aaload, 1) := by decide +kernel
theorem dX0_clashWithPlaced_30 : decode cX0_clashWithPlaced 30 = .ok (.iload 5, 2) := by decide +kernel
theorem dX0_clashWithPlaced_32 : decode cX0_clashWithPlaced 32 = .ok (.iaload, 1) := by decide +kernel
theorem dX0_clashWithPlaced_33 : decode cX0_clashWithPlaced 33 = .ok (.ifCond .le 34, 3) := by decide +kernel
theorem dX0_clashWithPlaced_36 : decode cX0_clashWithPlaced 36 = .ok (.iload_n 3, 1) := by decide +kernel
theorem dX0_clashWithPlaced_37 : decode cX0_clashWithPlaced 37 = .ok (.aload_n 0, 1) := by decide +kernel
theorem dX0_clashWithPlaced_38 : decode cX0_clashWithPlaced 38 = .ok (.getfield 20, 3) := by decide +kernel
theorem dX0_clashWithPlaced_41 : decode cX0_clashWithPlaced 41 = .ok (.iload_n 2, 1) := by decide +kernel
theorem dX0_clashWithPlaced_42 : decode cX0_clashWithPlaced 42 = .ok (.aaload, 1) := by decide +kernel
theorem dX0_clashWithPlaced_43 : decode cX0_clashWithPlaced 43 = .ok (.iload 5, 2) := by decide +kernel
theorem dX0_clashWithPlaced_45 : decode cX0_clashWithPlaced 45 = .ok (.iaload, 1) := by decide +kernel
theorem dX0_clashWithPlaced_46 : decode cX0_clashWithPlaced 46 = .ok (.iload 4, 2) := by decide +kernel
theorem dX0_clashWithPlaced_48 : decode cX0_clashWithPlaced 48 = .ok (.aload_n 1, 1) := by decide +kernel
theorem dX0_clashWithPlaced_49 : decode cX0_clashWithPlaced 49 = .ok (.getfield 76, 3) := by decide +kernel
theorem dX0_clashWithPlaced_52 : decode cX0_clashWithPlaced 52 = .ok (.aload_n 0, 1) := by decide +kernel
theorem dX0_clashWithPlaced_53 : decode cX0_clashWithPlaced 53 = .ok (.getfield 15, 3) := by decide +kernel
theorem dX0_clashWithPlaced_56 : decode cX0_clashWithPlaced 56 = .ok (.iload 5, 2) := by decide +kernel
theorem dX0_clashWithPlaced_58 : decode cX0_clashWithPlaced 58 = .ok (.iaload, 1) := by decide +kernel
theorem dX0_clashWithPlaced_59 : decode cX0_clashWithPlaced 59 = .ok (.iaload, 1) := by decide +kernel
theorem dX0_clashWithPlaced_60 : decode cX0_clashWithPlaced 60 = .ok (.iand, 1) := by decide +kernel
theorem dX0_clashWithPlaced_61 : decode cX0_clashWithPlaced 61 = .ok (.invokestatic 79, 3) := by decide +kernel
theorem dX0_clashWithPlaced_64 : decode cX0_clashWithPlaced 64 = .ok (.imul, 1) := by decide +kernel
theorem dX0_clashWithPlaced_65 : decode cX0_clashWithPlaced 65 = .ok (.iadd, 1) := by decide +kernel
theorem dX0_clashWithPlaced_66 : decode cX0_clashWithPlaced 66 = .ok (.istore_n 3, 1) := by decide +kernel
theorem dX0_clashWithPlaced_67 : decode cX0_clashWithPlaced 67 = .ok (.iinc 5 1, 3) := by decide +kernel
theorem dX0_clashWithPlaced_70 : decode cX0_clashWithPlaced 70 = .ok (.goto (-52), 3) := by decide +kernel
theorem dX0_clashWithPlaced_73 : decode cX0_clashWithPlaced 73 = .ok (.iload_n 3, 1) := by decide +kernel
theorem dX0_clashWithPlaced_74 : decode cX0_clashWithPlaced 74 = .ok (.ireturn, 1) := by decide +kernel
def mX0_clashWithPlaced (n : Nat) (a : Nat) (b1 : Nat) (b2 : Int) (μ : Mem) : Option (Int × Mem) :=
  (gA μ 2 b1 9).bind fun x3 =>
  (gA μ 1 a 3).bind fun x7 =>
  (ldI μ 0 x7 b2).bind fun x11 =>
  (ldI μ 0 x3 x11).bind fun x12 =>
  lp (fun nx18 (v18 : Int × Int) (μ18 : Mem) =>
  if lt32 v18.2 b2 then
    (gA μ18 1 a 4).bind fun x25 =>
    (ldA μ18 6 x25 b2).bind fun x29 =>
    (ldI μ18 0 x29 v18.2).bind fun x32 =>
    if lt32 0 x32 then
      (gA μ18 1 a 4).bind fun x38 =>
      (ldA μ18 6 x38 b2).bind fun x42 =>
      (ldI μ18 0 x42 v18.2).bind fun x45 =>
      (gA μ18 2 b1 9).bind fun x49 =>
      (gA μ18 1 a 3).bind fun x53 =>
      (ldI μ18 0 x53 v18.2).bind fun x58 =>
      (ldI μ18 0 x49 x58).bind fun x59 =>
      (mJ6_bitCount_0f7a4 n (oAnd x12 x59) μ18).bind fun p61 =>
      nx18 ((v18.1 + (x45 * p61.1)), (v18.2 + 1)) p61.2
    else
    nx18 (v18.1, (v18.2 + 1)) μ18
  else
  some (v18.1, μ18)) n (0, 0) μ
set_option maxRecDepth 100000 in
set_option maxHeartbeats 4000000 in
theorem cX0_clashWithPlaced_ok (n : Nat) (a : Nat) (b1 : Nat) (b2 : Int) (μ : Mem) : Mc yX0_clashWithPlaced cX0_clashWithPlaced 6 (some .int) 1 20 eI [aA a, aA b1, aI b2] μ (mX0_clashWithPlaced n a b1 b2 μ) := by
  refine mc_of (L0 := [some (aA a), some (aA b1), some (aI b2), none, none, none]) (k := 3) (by decide) rfl rfl (fun X Γ => ?_)
  unfold mX0_clashWithPlaced
  refine sn_iconst dX0_clashWithPlaced_0 ?_
  refine sn_istore_n (L' := [some (aA a), some (aA b1), some (aI b2), some (aI 0), none, none]) dX0_clashWithPlaced_1 (by decide) rfl ?_
  refine sn_aload_n dX0_clashWithPlaced_2 rfl ?_
  refine sn_getA (ci := 1) (j := 9) dX0_clashWithPlaced_3 fl_X0_76 (by decide) (fun x3 => ?_)
  refine sn_aload_n dX0_clashWithPlaced_6 rfl ?_
  refine sn_getA (ci := 0) (j := 3) dX0_clashWithPlaced_7 fl_X0_15 (by decide) (fun x7 => ?_)
  refine sn_iload_n dX0_clashWithPlaced_10 rfl ?_
  refine sn_iald dX0_clashWithPlaced_11 (fun x11 => ?_)
  refine sn_iald dX0_clashWithPlaced_12 (fun x12 => ?_)
  refine sn_istore (L' := [some (aA a), some (aA b1), some (aI b2), some (aI 0), some (aI x12), none]) dX0_clashWithPlaced_13 (by decide) rfl ?_
  refine sn_iconst dX0_clashWithPlaced_15 ?_
  refine sn_istore (L' := [some (aA a), some (aA b1), some (aI b2), some (aI 0), some (aI x12), some (aI 0)]) dX0_clashWithPlaced_16 (by decide) rfl ?_
  refine sn_lp (La := fun v18 : Int × Int => [some (aA a), some (aA b1), some (aI b2), some (aI v18.1), some (aI x12), some (aI v18.2)]) ?_ n (0, 0) μ
  intro nx18 hnx18 v18 μ18
  refine sn_iload dX0_clashWithPlaced_18 rfl ?_
  refine sn_iload_n dX0_clashWithPlaced_20 rfl ?_
  refine sn_icmp_ge (tgt := 73) dX0_clashWithPlaced_21 (by decide) ?_ ?_
  · refine sn_iload_n dX0_clashWithPlaced_73 rfl ?_
    exact sn_iret dX0_clashWithPlaced_74
  · refine sn_aload_n dX0_clashWithPlaced_24 rfl ?_
    refine sn_getA (ci := 0) (j := 4) dX0_clashWithPlaced_25 fl_X0_20 (by decide) (fun x25 => ?_)
    refine sn_iload_n dX0_clashWithPlaced_28 rfl ?_
    refine sn_aald6 dX0_clashWithPlaced_29 (fun x29 => ?_)
    refine sn_iload dX0_clashWithPlaced_30 rfl ?_
    refine sn_iald dX0_clashWithPlaced_32 (fun x32 => ?_)
    refine sn_if_le (tgt := 67) dX0_clashWithPlaced_33 (by decide) ?_ ?_
    · refine sn_iinc (L' := [some (aA a), some (aA b1), some (aI b2), some (aI v18.1), some (aI x12), some (aI (v18.2 + 1))]) dX0_clashWithPlaced_67 rfl (by decide) rfl ?_
      refine sn_goto (tgt := 18) dX0_clashWithPlaced_70 (by decide) ?_
      exact hnx18 (v18.1, (v18.2 + 1)) μ18
    · refine sn_iload_n dX0_clashWithPlaced_36 rfl ?_
      refine sn_aload_n dX0_clashWithPlaced_37 rfl ?_
      refine sn_getA (ci := 0) (j := 4) dX0_clashWithPlaced_38 fl_X0_20 (by decide) (fun x38 => ?_)
      refine sn_iload_n dX0_clashWithPlaced_41 rfl ?_
      refine sn_aald6 dX0_clashWithPlaced_42 (fun x42 => ?_)
      refine sn_iload dX0_clashWithPlaced_43 rfl ?_
      refine sn_iald dX0_clashWithPlaced_45 (fun x45 => ?_)
      refine sn_iload dX0_clashWithPlaced_46 rfl ?_
      refine sn_aload_n dX0_clashWithPlaced_48 rfl ?_
      refine sn_getA (ci := 1) (j := 9) dX0_clashWithPlaced_49 fl_X0_76 (by decide) (fun x49 => ?_)
      refine sn_aload_n dX0_clashWithPlaced_52 rfl ?_
      refine sn_getA (ci := 0) (j := 3) dX0_clashWithPlaced_53 fl_X0_15 (by decide) (fun x53 => ?_)
      refine sn_iload dX0_clashWithPlaced_56 rfl ?_
      refine sn_iald dX0_clashWithPlaced_58 (fun x58 => ?_)
      refine sn_iald dX0_clashWithPlaced_59 (fun x59 => ?_)
      refine sn_iand dX0_clashWithPlaced_60 ?_
      refine sn_callSI (vs := [aI (oAnd x12 x59)]) (cJ6_bitCount_0f7a4_ok n (oAnd x12 x59) μ18) dX0_clashWithPlaced_61 cw_X0_79 rfl (by decide) (by decide) (Nat.le_of_ble_eq_true rfl) (fun p61 => ?_)
      refine sn_imul dX0_clashWithPlaced_64 ?_
      refine sn_iadd dX0_clashWithPlaced_65 ?_
      refine sn_istore_n (L' := [some (aA a), some (aA b1), some (aI b2), some (aI (v18.1 + (x45 * p61.1))), some (aI x12), some (aI v18.2)]) dX0_clashWithPlaced_66 (by decide) rfl ?_
      refine sn_iinc (L' := [some (aA a), some (aA b1), some (aI b2), some (aI (v18.1 + (x45 * p61.1))), some (aI x12), some (aI (v18.2 + 1))]) dX0_clashWithPlaced_67 rfl (by decide) rfl ?_
      refine sn_goto (tgt := 18) dX0_clashWithPlaced_70 (by decide) ?_
      exact hnx18 ((v18.1 + (x45 * p61.1)), (v18.2 + 1)) p61.2
theorem dX0_countRopes_0 : decode cX0_countRopes 0 = .ok (.iconst 0, 1) := by decide +kernel
theorem dX0_countRopes_1 : decode cX0_countRopes 1 = .ok (.istore_n 2, 1) := by decide +kernel
theorem dX0_countRopes_2 : decode cX0_countRopes 2 = .ok (.iload_n 2, 1) := by decide +kernel
theorem dX0_countRopes_3 : decode cX0_countRopes 3 = .ok (.aload_n 0, 1) := by decide +kernel
theorem dX0_countRopes_4 : decode cX0_countRopes 4 = .ok (.getfield 35, 3) := by decide +kernel
theorem dX0_countRopes_7 : decode cX0_countRopes 7 = .ok (.if_icmp .ge 19, 3) := by decide +kernel
theorem dX0_countRopes_10 : decode cX0_countRopes 10 = .ok (.aload_n 0, 1) := by decide +kernel
theorem dX0_countRopes_11 : decode cX0_countRopes 11 = .ok (.getfield 20, 3) := by decide +kernel
theorem dX0_countRopes_14 : decode cX0_countRopes 14 = .ok (.iload_n 2, 1) := by decide +kernel
theorem dX0_countRopes_15 : decode cX0_countRopes 15 = .ok (.aaload, 1) := by decide +kernel
theorem dX0_countRopes_16 : decode cX0_countRopes 16 = .ok (.iconst 0, 1) := by decide +kernel
theorem dX0_countRopes_17 : decode cX0_countRopes 17 = .ok (.invokestatic 50, 3) := by decide +kernel
theorem dX0_countRopes_20 : decode cX0_countRopes 20 = .ok (.iinc 2 1, 3) := by decide +kernel
theorem dX0_countRopes_23 : decode cX0_countRopes 23 = .ok (.goto (-21), 3) := by decide +kernel
theorem dX0_countRopes_26 : decode cX0_countRopes 26 = .ok (.iconst 0, 1) := by decide +kernel
theorem dX0_countRopes_27 : decode cX0_countRopes 27 = .ok (.istore_n 2, 1) := by decide +kernel
theorem dX0_countRopes_28 : decode cX0_countRopes 28 = .ok (.iload_n 2, 1) := by decide +kernel
theorem dX0_countRopes_29 : decode cX0_countRopes 29 = .ok (.aload_n 1, 1) := by decide +kernel
theorem dX0_countRopes_30 : decode cX0_countRopes 30 = .ok (.getfield 56, 3) := by decide +kernel
theorem dX0_countRopes_33 : decode cX0_countRopes 33 = .ok (.if_icmp .ge 82, 3) := by decide +kernel
theorem dX0_countRopes_36 : decode cX0_countRopes 36 = .ok (.aload_n 1, 1) := by decide +kernel
theorem dX0_countRopes_37 : decode cX0_countRopes 37 = .ok (.getfield 59, 3) := by decide +kernel
theorem dX0_countRopes_40 : decode cX0_countRopes 40 = .ok (.iconst 2, 1) := by decide +kernel
theorem dX0_countRopes_41 : decode cX0_countRopes 41 = .ok (.iload_n 2, 1) := by decide +kernel
theorem dX0_countRopes_42 : decode cX0_countRopes 42 = .ok (.imul, 1) := by decide +kernel
theorem dX0_countRopes_43 : decode cX0_countRopes 43 = .ok (.iaload, 1) := by decide +kernel
theorem dX0_countRopes_44 : decode cX0_countRopes 44 = .ok (.istore_n 3, 1) := by decide +kernel
theorem dX0_countRopes_45 : decode cX0_countRopes 45 = .ok (.aload_n 1, 1) := by decide +kernel
theorem dX0_countRopes_46 : decode cX0_countRopes 46 = .ok (.getfield 59, 3) := by decide +kernel
theorem dX0_countRopes_49 : decode cX0_countRopes 49 = .ok (.iconst 2, 1) := by decide +kernel
theorem dX0_countRopes_50 : decode cX0_countRopes 50 = .ok (.iload_n 2, 1) := by decide +kernel
theorem dX0_countRopes_51 : decode cX0_countRopes 51 = .ok (.imul, 1) := by decide +kernel
theorem dX0_countRopes_52 : decode cX0_countRopes 52 = .ok (.iconst 1, 1) := by decide +kernel
theorem dX0_countRopes_53 : decode cX0_countRopes 53 = .ok (.iadd, 1) := by decide +kernel
theorem dX0_countRopes_54 : decode cX0_countRopes 54 = .ok (.iaload, 1) := by decide +kernel
theorem dX0_countRopes_55 : decode cX0_countRopes 55 = .ok (.istore 4, 2) := by decide +kernel
theorem dX0_countRopes_57 : decode cX0_countRopes 57 = .ok (.aload_n 1, 1) := by decide +kernel
theorem dX0_countRopes_58 : decode cX0_countRopes 58 = .ok (.getfield 62, 3) := by decide +kernel
theorem dX0_countRopes_61 : decode cX0_countRopes 61 = .ok (.iload_n 2, 1) := by decide +kernel
theorem dX0_countRopes_62 : decode cX0_countRopes 62 = .ok (.baload, 1) := by decide +kernel
theorem dX0_countRopes_63 : decode cX0_countRopes 63 = .ok (.ifCond .ne 46, 3) := by decide +kernel
theorem dX0_countRopes_66 : decode cX0_countRopes 66 = .ok (.iload_n 3, 1) := by decide +kernel
theorem dX0_countRopes_67 : decode cX0_countRopes 67 = .ok (.aload_n 0, 1) := by decide +kernel
theorem dX0_countRopes_68 : decode cX0_countRopes 68 = .ok (.getfield 35, 3) := by decide +kernel
theorem dX0_countRopes_71 : decode cX0_countRopes 71 = .ok (.if_icmp .ge 38, 3) := by decide +kernel
theorem dX0_countRopes_74 : decode cX0_countRopes 74 = .ok (.iload 4, 2) := by decide +kernel
theorem dX0_countRopes_76 : decode cX0_countRopes 76 = .ok (.aload_n 0, 1) := by decide +kernel
theorem dX0_countRopes_77 : decode cX0_countRopes 77 = .ok (.getfield 35, 3) := by decide +kernel
theorem dX0_countRopes_80 : decode cX0_countRopes 80 = .ok (.if_icmp .ge 29, 3) := by decide +kernel
theorem dX0_countRopes_83 : decode cX0_countRopes 83 = .ok (.aload_n 0, 1) := by decide +kernel
theorem dX0_countRopes_84 : decode cX0_countRopes 84 = .ok (.getfield 20, 3) := by decide +kernel
theorem dX0_countRopes_87 : decode cX0_countRopes 87 = .ok (.iload_n 3, 1) := by decide +kernel
theorem dX0_countRopes_88 : decode cX0_countRopes 88 = .ok (.aaload, 1) := by decide +kernel
theorem dX0_countRopes_89 : decode cX0_countRopes 89 = .ok (.iload 4, 2) := by decide +kernel
theorem dX0_countRopes_91 : decode cX0_countRopes 91 = .ok (.dup2, 1) := by decide +kernel
theorem dX0_countRopes_92 : decode cX0_countRopes 92 = .ok (.iaload, 1) := by decide +kernel
theorem dX0_countRopes_93 : decode cX0_countRopes 93 = .ok (.iconst 1, 1) := by decide +kernel
theorem dX0_countRopes_94 : decode cX0_countRopes 94 = .ok (.iadd, 1) := by decide +kernel
theorem dX0_countRopes_95 : decode cX0_countRopes 95 = .ok (.iastore, 1) := by decide +kernel
theorem dX0_countRopes_96 : decode cX0_countRopes 96 = .ok (.aload_n 0, 1) := by decide +kernel
theorem dX0_countRopes_97 : decode cX0_countRopes 97 = .ok (.getfield 20, 3) := by decide +kernel
theorem dX0_countRopes_100 : decode cX0_countRopes 100 = .ok (.iload 4, 2) := by decide +kernel
theorem dX0_countRopes_102 : decode cX0_countRopes 102 = .ok (.aaload, 1) := by decide +kernel
theorem dX0_countRopes_103 : decode cX0_countRopes 103 = .ok (.iload_n 3, 1) := by decide +kernel
theorem dX0_countRopes_104 : decode cX0_countRopes 104 = .ok (.dup2, 1) := by decide +kernel
theorem dX0_countRopes_105 : decode cX0_countRopes 105 = .ok (.iaload, 1) := by decide +kernel
theorem dX0_countRopes_106 : decode cX0_countRopes 106 = .ok (.iconst 1, 1) := by decide +kernel
theorem dX0_countRopes_107 : decode cX0_countRopes 107 = .ok (.iadd, 1) := by decide +kernel
theorem dX0_countRopes_108 : decode cX0_countRopes 108 = .ok (.iastore, 1) := by decide +kernel
theorem dX0_countRopes_109 : decode cX0_countRopes 109 = .ok (.iinc 2 1, 3) := by decide +kernel
theorem dX0_countRopes_112 : decode cX0_countRopes 112 = .ok (.goto (-84), 3) := by decide +kernel
theorem dX0_countRopes_115 : decode cX0_countRopes 115 = .ok (.return_, 1) := by decide +kernel
def mX0_countRopes (n : Nat) (a : Nat) (b1 : Nat) (μ : Mem) : Option (Unit × Mem) :=
  lp (fun nx2 (v2 : Int) (μ2 : Mem) =>
  (gI μ2 1 a 5).bind fun x4 =>
  if lt32 v2 x4 then
    (gA μ2 1 a 4).bind fun x11 =>
    (ldA μ2 6 x11 v2).bind fun x15 =>
    (mJ7_fill_53178 n x15 0 μ2).bind fun p17 =>
    nx2 (v2 + 1) p17.2
  else
  lp (fun nx28 (v28 : Int) (μ28 : Mem) =>
  (gI μ28 2 b1 1).bind fun x30 =>
  if lt32 v28 x30 then
    (gA μ28 2 b1 15).bind fun x37 =>
    (ldI μ28 0 x37 (2 * v28)).bind fun x43 =>
    (gA μ28 2 b1 15).bind fun x46 =>
    (ldI μ28 0 x46 ((2 * v28) + 1)).bind fun x54 =>
    (gA μ28 2 b1 14).bind fun x58 =>
    (ldI μ28 2 x58 v28).bind fun x62 =>
    if eq32 x62 0 then
      (gI μ28 1 a 5).bind fun x68 =>
      if lt32 x43 x68 then
        (gI μ28 1 a 5).bind fun x77 =>
        if lt32 x54 x77 then
          (gA μ28 1 a 4).bind fun x84 =>
          (ldA μ28 6 x84 x43).bind fun x88 =>
          (ldI μ28 0 x88 x54).bind fun x92 =>
          (stI μ28 0 x88 x54 (x92 + 1)).bind fun μ95 =>
          (gA μ95 1 a 4).bind fun x97 =>
          (ldA μ95 6 x97 x54).bind fun x102 =>
          (ldI μ95 0 x102 x43).bind fun x105 =>
          (stI μ95 0 x102 x43 (x105 + 1)).bind fun μ108 =>
          nx28 (v28 + 1) μ108
        else
        nx28 (v28 + 1) μ28
      else
      nx28 (v28 + 1) μ28
    else
    nx28 (v28 + 1) μ28
  else
  some ((), μ28)) n 0 μ2) n 0 μ
set_option maxRecDepth 100000 in
set_option maxHeartbeats 4000000 in
theorem cX0_countRopes_ok (n : Nat) (a : Nat) (b1 : Nat) (μ : Mem) : Mc yX0_countRopes cX0_countRopes 5 none 1 23 eV [aA a, aA b1] μ (mX0_countRopes n a b1 μ) := by
  refine mc_of (L0 := [some (aA a), some (aA b1), none, none, none]) (k := 3) (by decide) rfl rfl (fun X Γ => ?_)
  unfold mX0_countRopes
  refine sn_iconst dX0_countRopes_0 ?_
  refine sn_istore_n (L' := [some (aA a), some (aA b1), some (aI 0), none, none]) dX0_countRopes_1 (by decide) rfl ?_
  refine sn_lp (La := fun v2 : Int => [some (aA a), some (aA b1), some (aI v2), none, none]) ?_ n 0 μ
  intro nx2 hnx2 v2 μ2
  refine sn_iload_n dX0_countRopes_2 rfl ?_
  refine sn_aload_n dX0_countRopes_3 rfl ?_
  refine sn_getI (ci := 0) (j := 5) dX0_countRopes_4 fl_X0_35 rfl (fun x4 => ?_)
  refine sn_icmp_ge (tgt := 26) dX0_countRopes_7 (by decide) ?_ ?_
  · refine sn_iconst dX0_countRopes_26 ?_
    refine sn_istore_n (L' := [some (aA a), some (aA b1), some (aI 0), none, none]) dX0_countRopes_27 (by decide) rfl ?_
    refine sn_lp (La := fun v28 : Int => [some (aA a), some (aA b1), some (aI v28), none, none]) ?_ n 0 μ2
    intro nx28 hnx28 v28 μ28
    refine sn_iload_n dX0_countRopes_28 rfl ?_
    refine sn_aload_n dX0_countRopes_29 rfl ?_
    refine sn_getI (ci := 1) (j := 1) dX0_countRopes_30 fl_X0_56 rfl (fun x30 => ?_)
    refine sn_icmp_ge (tgt := 115) dX0_countRopes_33 (by decide) ?_ ?_
    · exact sn_vret dX0_countRopes_115
    · refine sn_aload_n dX0_countRopes_36 rfl ?_
      refine sn_getA (ci := 1) (j := 15) dX0_countRopes_37 fl_X0_59 (by decide) (fun x37 => ?_)
      refine sn_iconst dX0_countRopes_40 ?_
      refine sn_iload_n dX0_countRopes_41 rfl ?_
      refine sn_imul dX0_countRopes_42 ?_
      refine sn_iald dX0_countRopes_43 (fun x43 => ?_)
      refine sn_istore_n (L' := [some (aA a), some (aA b1), some (aI v28), some (aI x43), none]) dX0_countRopes_44 (by decide) rfl ?_
      refine sn_aload_n dX0_countRopes_45 rfl ?_
      refine sn_getA (ci := 1) (j := 15) dX0_countRopes_46 fl_X0_59 (by decide) (fun x46 => ?_)
      refine sn_iconst dX0_countRopes_49 ?_
      refine sn_iload_n dX0_countRopes_50 rfl ?_
      refine sn_imul dX0_countRopes_51 ?_
      refine sn_iconst dX0_countRopes_52 ?_
      refine sn_iadd dX0_countRopes_53 ?_
      refine sn_iald dX0_countRopes_54 (fun x54 => ?_)
      refine sn_istore (L' := [some (aA a), some (aA b1), some (aI v28), some (aI x43), some (aI x54)]) dX0_countRopes_55 (by decide) rfl ?_
      refine sn_aload_n dX0_countRopes_57 rfl ?_
      refine sn_getA (ci := 1) (j := 14) dX0_countRopes_58 fl_X0_62 (by decide) (fun x58 => ?_)
      refine sn_iload_n dX0_countRopes_61 rfl ?_
      refine sn_zald dX0_countRopes_62 (fun x62 => ?_)
      refine sn_if_ne (tgt := 109) dX0_countRopes_63 (by decide) ?_ ?_
      · refine sn_iinc (L' := [some (aA a), some (aA b1), some (aI (v28 + 1)), some (aI x43), some (aI x54)]) dX0_countRopes_109 rfl (by decide) rfl ?_
        refine sn_goto (tgt := 28) dX0_countRopes_112 (by decide) ?_
        exact sn_mask (L' := [some (aA a), some (aA b1), some (aI (v28 + 1)), none, none]) [true, true, true, false, false] rfl (hnx28 (v28 + 1) μ28)
      · refine sn_iload_n dX0_countRopes_66 rfl ?_
        refine sn_aload_n dX0_countRopes_67 rfl ?_
        refine sn_getI (ci := 0) (j := 5) dX0_countRopes_68 fl_X0_35 rfl (fun x68 => ?_)
        refine sn_icmp_ge (tgt := 109) dX0_countRopes_71 (by decide) ?_ ?_
        · refine sn_iinc (L' := [some (aA a), some (aA b1), some (aI (v28 + 1)), some (aI x43), some (aI x54)]) dX0_countRopes_109 rfl (by decide) rfl ?_
          refine sn_goto (tgt := 28) dX0_countRopes_112 (by decide) ?_
          exact sn_mask (L' := [some (aA a), some (aA b1), some (aI (v28 + 1)), none, none]) [true, true, true, false, false] rfl (hnx28 (v28 + 1) μ28)
        · refine sn_iload dX0_countRopes_74 rfl ?_
          refine sn_aload_n dX0_countRopes_76 rfl ?_
          refine sn_getI (ci := 0) (j := 5) dX0_countRopes_77 fl_X0_35 rfl (fun x77 => ?_)
          refine sn_icmp_ge (tgt := 109) dX0_countRopes_80 (by decide) ?_ ?_
          · refine sn_iinc (L' := [some (aA a), some (aA b1), some (aI (v28 + 1)), some (aI x43), some (aI x54)]) dX0_countRopes_109 rfl (by decide) rfl ?_
            refine sn_goto (tgt := 28) dX0_countRopes_112 (by decide) ?_
            exact sn_mask (L' := [some (aA a), some (aA b1), some (aI (v28 + 1)), none, none]) [true, true, true, false, false] rfl (hnx28 (v28 + 1) μ28)
          · refine sn_aload_n dX0_countRopes_83 rfl ?_
            refine sn_getA (ci := 0) (j := 4) dX0_countRopes_84 fl_X0_20 (by decide) (fun x84 => ?_)
            refine sn_iload_n dX0_countRopes_87 rfl ?_
            refine sn_aald6 dX0_countRopes_88 (fun x88 => ?_)
            refine sn_iload dX0_countRopes_89 rfl ?_
            refine sn_dup2 dX0_countRopes_91 rfl rfl ?_
            refine sn_iald dX0_countRopes_92 (fun x92 => ?_)
            refine sn_iconst dX0_countRopes_93 ?_
            refine sn_iadd dX0_countRopes_94 ?_
            refine sn_iast dX0_countRopes_95 (fun μ95 => ?_)
            refine sn_aload_n dX0_countRopes_96 rfl ?_
            refine sn_getA (ci := 0) (j := 4) dX0_countRopes_97 fl_X0_20 (by decide) (fun x97 => ?_)
            refine sn_iload dX0_countRopes_100 rfl ?_
            refine sn_aald6 dX0_countRopes_102 (fun x102 => ?_)
            refine sn_iload_n dX0_countRopes_103 rfl ?_
            refine sn_dup2 dX0_countRopes_104 rfl rfl ?_
            refine sn_iald dX0_countRopes_105 (fun x105 => ?_)
            refine sn_iconst dX0_countRopes_106 ?_
            refine sn_iadd dX0_countRopes_107 ?_
            refine sn_iast dX0_countRopes_108 (fun μ108 => ?_)
            refine sn_iinc (L' := [some (aA a), some (aA b1), some (aI (v28 + 1)), some (aI x43), some (aI x54)]) dX0_countRopes_109 rfl (by decide) rfl ?_
            refine sn_goto (tgt := 28) dX0_countRopes_112 (by decide) ?_
            exact sn_mask (L' := [some (aA a), some (aA b1), some (aI (v28 + 1)), none, none]) [true, true, true, false, false] rfl (hnx28 (v28 + 1) μ108)
  · refine sn_aload_n dX0_countRopes_10 rfl ?_
    refine sn_getA (ci := 0) (j := 4) dX0_countRopes_11 fl_X0_20 (by decide) (fun x11 => ?_)
    refine sn_iload_n dX0_countRopes_14 rfl ?_
    refine sn_aald6 dX0_countRopes_15 (fun x15 => ?_)
    refine sn_iconst dX0_countRopes_16 ?_
    refine sn_callSV (vs := [aA x15, aI 0]) (cJ7_fill_53178_ok n x15 0 μ2) dX0_countRopes_17 cw_X0_50 rfl (by decide) (by decide) (Nat.le_of_ble_eq_true rfl) (fun p17 => ?_)
    refine sn_iinc (L' := [some (aA a), some (aA b1), some (aI (v2 + 1)), none, none]) dX0_countRopes_20 rfl (by decide) rfl ?_
    refine sn_goto (tgt := 2) dX0_countRopes_23 (by decide) ?_
    exact hnx2 (v2 + 1) p17.2
theorem dX0_init_0 : decode cX0_init 0 = .ok (.aload_n 0, 1) := by decide +kernel
theorem dX0_init_1 : decode cX0_init 1 = .ok (.invokespecial 3, 3) := by decide +kernel
theorem dX0_init_4 : decode cX0_init 4 = .ok (.aload_n 0, 1) := by decide +kernel
theorem dX0_init_5 : decode cX0_init 5 = .ok (.bipush 7, 2) := by decide +kernel
theorem dX0_init_7 : decode cX0_init 7 = .ok (.newarray .int, 2) := by decide +kernel
theorem dX0_init_9 : decode cX0_init 9 = .ok (.putfield 9, 3) := by decide +kernel
theorem dX0_init_12 : decode cX0_init 12 = .ok (.aload_n 0, 1) := by decide +kernel
theorem dX0_init_13 : decode cX0_init 13 = .ok (.bipush 7, 2) := by decide +kernel
theorem dX0_init_15 : decode cX0_init 15 = .ok (.newarray .int, 2) := by decide +kernel
theorem dX0_init_17 : decode cX0_init 17 = .ok (.putfield 15, 3) := by decide +kernel
theorem dX0_init_20 : decode cX0_init 20 = .ok (.aload_n 0, 1) := by decide +kernel
theorem dX0_init_21 : decode cX0_init 21 = .ok (.bipush 7, 2) := by decide +kernel
theorem dX0_init_23 : decode cX0_init 23 = .ok (.bipush 7, 2) := by decide +kernel
theorem dX0_init_25 : decode cX0_init 25 = .ok (.multianewarray 18 2, 4) := by decide +kernel
theorem dX0_init_29 : decode cX0_init 29 = .ok (.putfield 20, 3) := by decide +kernel
theorem dX0_init_32 : decode cX0_init 32 = .ok (.return_, 1) := by decide +kernel
def mX0_init (n : Nat) (a : Nat) (μ : Mem) : Option (Unit × Mem) :=
  inv μ 1 a
  ((nwA μ 0 7).bind fun p7 =>
  (pA p7.2 1 a 2 p7.1).bind fun μ9 =>
  (nwA μ9 0 7).bind fun p15 =>
  (pA p15.2 1 a 3 p15.1).bind fun μ17 =>
  (nwM μ17 7 7).bind fun p25 =>
  (pA p25.2 1 a 4 p25.1).bind fun μ29 =>
  some ((), μ29))
set_option maxRecDepth 100000 in
set_option maxHeartbeats 4000000 in
theorem cX0_init_ok (n : Nat) (a : Nat) (μ : Mem) : Mc yX0_init cX0_init 1 none 1 20 eV [aA a] μ (mX0_init n a μ) := by
  refine mc_of (L0 := [some (aA a)]) (k := 0) (by decide) rfl rfl (fun X Γ => ?_)
  unfold mX0_init
  refine sn_aload_n dX0_init_0 rfl ?_
  refine sn_objInit (ci := 0) dX0_init_1 (by decide) ml_X0_3 im_obj co_obj (by decide) (by decide) (Nat.le_of_ble_eq_true rfl) ?_
  refine sn_aload_n dX0_init_4 rfl ?_
  refine sn_bipush dX0_init_5 (by decide) ?_
  refine sn_newa (t := 0) dX0_init_7 (by decide) rfl ac_0 (fun p7 => ?_)
  refine sn_putA (ci := 0) (j := 2) dX0_init_9 fl_X0_9 (Or.inr ⟨_, rfl⟩) (Or.inr ⟨rfl, fun q h => by cases h; exact ⟨rfl, rfl⟩⟩) (fun μ9 => ?_)
  refine sn_aload_n dX0_init_12 rfl ?_
  refine sn_bipush dX0_init_13 (by decide) ?_
  refine sn_newa (t := 0) dX0_init_15 (by decide) rfl ac_0 (fun p15 => ?_)
  refine sn_putA (ci := 0) (j := 3) dX0_init_17 fl_X0_15 (Or.inr ⟨_, rfl⟩) (Or.inr ⟨rfl, fun q h => by cases h; exact ⟨rfl, rfl⟩⟩) (fun μ17 => ?_)
  refine sn_aload_n dX0_init_20 rfl ?_
  refine sn_bipush dX0_init_21 (by decide) ?_
  refine sn_bipush dX0_init_23 (by decide) ?_
  refine sn_multi dX0_init_25 cl_X0_18 (fun p25 => ?_)
  refine sn_putA (ci := 0) (j := 4) dX0_init_29 fl_X0_20 (Or.inr ⟨_, rfl⟩) (Or.inr ⟨rfl, fun q h => by cases h; exact ⟨rfl, rfl⟩⟩) (fun μ29 => ?_)
  exact sn_vret dX0_init_32
theorem dX0_place_0 : decode cX0_place 0 = .ok (.iload 4, 2) := by decide +kernel
theorem dX0_place_2 : decode cX0_place 2 = .ok (.aload_n 0, 1) := by decide +kernel
theorem dX0_place_3 : decode cX0_place 3 = .ok (.getfield 40, 3) := by decide +kernel
theorem dX0_place_6 : decode cX0_place 6 = .ok (.if_icmp .gt 21, 3) := by decide +kernel
theorem dX0_place_9 : decode cX0_place 9 = .ok (.iload 4, 2) := by decide +kernel
theorem dX0_place_11 : decode cX0_place 11 = .ok (.aload_n 0, 1) := by decide +kernel
theorem dX0_place_12 : decode cX0_place 12 = .ok (.getfield 40, 3) := by decide +kernel
theorem dX0_place_15 : decode cX0_place 15 = .ok (.if_icmp .ne 13, 3) := by decide +kernel
theorem dX0_place_18 : decode cX0_place 18 = .ok (.iload 5, 2) := by decide +kernel
theorem dX0_place_20 : decode cX0_place 20 = .ok (.aload_n 0, 1) := by decide +kernel
theorem dX0_place_21 : decode cX0_place 21 = .ok (.getfield 43, 3) := by decide +kernel
theorem dX0_place_24 : decode cX0_place 24 = .ok (.if_icmp .lt 4, 3) := by decide +kernel
theorem dX0_place_27 : decode cX0_place 27 = .ok (.return_, 1) := by decide +kernel
theorem dX0_place_28 : decode cX0_place 28 = .ok (.iload_n 2, 1) := by decide +kernel
theorem dX0_place_29 : decode cX0_place 29 = .ok (.aload_n 0, 1) := by decide +kernel
theorem dX0_place_30 : decode cX0_place 30 = .ok (.getfield 35, 3) := by decide +kernel
theorem dX0_place_33 : decode cX0_place 33 = .ok (.if_icmp .lt 31, 3) := by decide +kernel
theorem dX0_place_36 : decode cX0_place 36 = .ok (.aload_n 0, 1) := by decide +kernel
theorem dX0_place_37 : decode cX0_place 37 = .ok (.iload 4, 2) := by decide +kernel
theorem dX0_place_39 : decode cX0_place 39 = .ok (.putfield 40, 3) := by decide +kernel
theorem dX0_place_42 : decode cX0_place 42 = .ok (.aload_n 0, 1) := by decide +kernel
theorem dX0_place_43 : decode cX0_place 43 = .ok (.iload 5, 2) := by decide +kernel
theorem dX0_place_45 : decode cX0_place 45 = .ok (.putfield 43, 3) := by decide +kernel
theorem dX0_place_48 : decode cX0_place 48 = .ok (.aload_n 0, 1) := by decide +kernel
theorem dX0_place_49 : decode cX0_place 49 = .ok (.getfield 15, 3) := by decide +kernel
theorem dX0_place_52 : decode cX0_place 52 = .ok (.iconst 0, 1) := by decide +kernel
theorem dX0_place_53 : decode cX0_place 53 = .ok (.aload_n 0, 1) := by decide +kernel
theorem dX0_place_54 : decode cX0_place 54 = .ok (.getfield 9, 3) := by decide +kernel
theorem dX0_place_57 : decode cX0_place 57 = .ok (.iconst 0, 1) := by decide +kernel
theorem dX0_place_58 : decode cX0_place 58 = .ok (.bipush 7, 2) := by decide +kernel
theorem dX0_place_60 : decode cX0_place 60 = .ok (.invokestatic 66, 3) := by decide +kernel
theorem dX0_place_63 : decode cX0_place 63 = .ok (.return_, 1) := by decide +kernel
theorem dX0_place_64 : decode cX0_place 64 = .ok (.iconst 0, 1) := by decide +kernel
theorem dX0_place_65 : decode cX0_place 65 = .ok (.istore 6, 2) := by decide +kernel
theorem dX0_place_67 : decode cX0_place 67 = .ok (.iload 6, 2) := by decide +kernel
theorem dX0_place_69 : decode cX0_place 69 = .ok (.aload_n 0, 1) := by decide +kernel
theorem dX0_place_70 : decode cX0_place 70 = .ok (.getfield 35, 3) := by decide +kernel
theorem dX0_place_73 : decode cX0_place 73 = .ok (.if_icmp .ge 68, 3) := by decide +kernel
theorem dX0_place_76 : decode cX0_place 76 = .ok (.iload_n 3, 1) := by decide +kernel
theorem dX0_place_77 : decode cX0_place 77 = .ok (.iload 6, 2) := by decide +kernel
theorem dX0_place_79 : decode cX0_place 79 = .ok (.ishr, 1) := by decide +kernel
theorem dX0_place_80 : decode cX0_place 80 = .ok (.iconst 1, 1) := by decide +kernel
theorem dX0_place_81 : decode cX0_place 81 = .ok (.iand, 1) := by decide +kernel
theorem dX0_place_82 : decode cX0_place 82 = .ok (.ifCond .ne 53, 3) := by decide +kernel
theorem dX0_place_85 : decode cX0_place 85 = .ok (.aload_n 0, 1) := by decide +kernel
theorem dX0_place_86 : decode cX0_place 86 = .ok (.getfield 15, 3) := by decide +kernel
theorem dX0_place_89 : decode cX0_place 89 = .ok (.iload_n 2, 1) := by decide +kernel
theorem dX0_place_90 : decode cX0_place 90 = .ok (.iload 6, 2) := by decide +kernel
theorem dX0_place_92 : decode cX0_place 92 = .ok (.iastore, 1) := by decide +kernel
theorem dX0_place_93 : decode cX0_place 93 = .ok (.iload 4, 2) := by decide +kernel
theorem dX0_place_95 : decode cX0_place 95 = .ok (.aload_n 0, 1) := by decide +kernel
theorem dX0_place_96 : decode cX0_place 96 = .ok (.aload_n 1, 1) := by decide +kernel
theorem dX0_place_97 : decode cX0_place 97 = .ok (.iload_n 2, 1) := by decide +kernel
theorem dX0_place_98 : decode cX0_place 98 = .ok (.invokevirtual 72, 3) := by decide +kernel
theorem dX0_place_101 : decode cX0_place 101 = .ok (.iadd, 1) := by decide +kernel
theorem dX0_place_102 : decode cX0_place 102 = .ok (.istore 7, 2) := by decide +kernel
theorem dX0_place_104 : decode cX0_place 104 = .ok (.aload_n 0, 1) := by decide +kernel
theorem dX0_place_105 : decode cX0_place 105 = .ok (.aload_n 1, 1) := by decide +kernel
theorem dX0_place_106 : decode cX0_place 106 = .ok (.iload_n 2, 1) := by decide +kernel
theorem dX0_place_107 : decode cX0_place 107 = .ok (.iconst 1, 1) := by decide +kernel
theorem dX0_place_108 : decode cX0_place 108 = .ok (.iadd, 1) := by decide +kernel
theorem dX0_place_109 : decode cX0_place 109 = .ok (.iload_n 3, 1) := by decide +kernel
theorem dX0_place_110 : decode cX0_place 110 = .ok (.iconst 1, 1) := by decide +kernel
theorem dX0_place_111 : decode cX0_place 111 = .ok (.iload 6, 2) := by decide +kernel
theorem dX0_place_113 : decode cX0_place 113 = .ok (.ishl, 1) := by decide +kernel
theorem dX0_place_114 : decode cX0_place 114 = .ok (.ior, 1) := by decide +kernel
theorem dX0_place_115 : decode cX0_place 115 = .ok (.iload 7, 2) := by decide +kernel
theorem dX0_place_117 : decode cX0_place 117 = .ok (.iload 6, 2) := by decide +kernel
theorem dX0_place_119 : decode cX0_place 119 = .ok (.iload_n 2, 1) := by decide +kernel
theorem dX0_place_120 : decode cX0_place 120 = .ok (.if_icmp .ne 8, 3) := by decide +kernel
theorem dX0_place_123 : decode cX0_place 123 = .ok (.iload 5, 2) := by decide +kernel
theorem dX0_place_125 : decode cX0_place 125 = .ok (.goto 7, 3) := by decide +kernel
theorem dX0_place_128 : decode cX0_place 128 = .ok (.iload 5, 2) := by decide +kernel
theorem dX0_place_130 : decode cX0_place 130 = .ok (.iconst 1, 1) := by decide +kernel
theorem dX0_place_131 : decode cX0_place 131 = .ok (.iadd, 1) := by decide +kernel
theorem dX0_place_132 : decode cX0_place 132 = .ok (.invokevirtual 46, 3) := by decide +kernel
theorem dX0_place_135 : decode cX0_place 135 = .ok (.iinc 6 1, 3) := by decide +kernel
theorem dX0_place_138 : decode cX0_place 138 = .ok (.goto (-71), 3) := by decide +kernel
theorem dX0_place_141 : decode cX0_place 141 = .ok (.return_, 1) := by decide +kernel
def bX0_place (n : Nat) (self : Nat × Nat × Int × Int × Int × Int → Mem → Option (Unit × Mem)) (v : Nat × Nat × Int × Int × Int × Int) (μ : Mem) : Option (Unit × Mem) :=
  (gI μ 1 v.1 0).bind fun x3 =>
  if lt32 x3 v.2.2.2.2.1 then
    some ((), μ)
  else
  (gI μ 1 v.1 0).bind fun x12 =>
  jn (fun (v28 : Unit) (μ28 : Mem) =>
  (gI μ28 1 v.1 5).bind fun x30 =>
  if lt32 v.2.2.1 x30 then
    lp (fun nx67 (v67 : Int) (μ67 : Mem) =>
    (gI μ67 1 v.1 5).bind fun x70 =>
    if lt32 v67 x70 then
      if eq32 (oAnd (oShr v.2.2.2.1 v67) 1) 0 then
        (gA μ67 1 v.1 3).bind fun x86 =>
        (stI μ67 0 x86 v.2.2.1 v67).bind fun μ92 =>
        (inv μ92 1 v.1 (mX0_clashWithPlaced n v.1 v.2.1 v.2.2.1 μ92)).bind fun p98 =>
        jn (fun (v132 : Int) (μ132 : Mem) =>
        (inv μ132 1 v.1 (self (v.1, v.2.1, (v.2.2.1 + 1), (oOr v.2.2.2.1 (oShl 1 v67)), (v.2.2.2.2.1 + p98.1), v132) μ132)).bind fun p132 =>
        nx67 (v67 + 1) p132.2) (fun j132 =>
        if eq32 v67 v.2.2.1 then
          j132 v.2.2.2.2.2 p98.2
        else
        j132 (v.2.2.2.2.2 + 1) p98.2)
      else
      nx67 (v67 + 1) μ67
    else
    some ((), μ67)) n 0 μ28
  else
  (pI μ28 1 v.1 0 v.2.2.2.2.1).bind fun μ39 =>
  (pI μ39 1 v.1 1 v.2.2.2.2.2).bind fun μ45 =>
  (gA μ45 1 v.1 3).bind fun x49 =>
  (gA μ45 1 v.1 2).bind fun x54 =>
  (cpI μ45 0 x49 0 x54 0 7).bind fun μ60 =>
  some ((), μ60)) (fun j28 =>
  if eq32 v.2.2.2.2.1 x12 then
    (gI μ 1 v.1 1).bind fun x21 =>
    if lt32 v.2.2.2.2.2 x21 then
      j28 () μ
    else
    some ((), μ)
  else
  j28 () μ)
set_option maxRecDepth 100000 in
set_option maxHeartbeats 4000000 in
theorem bX0_place_ok (n : Nat) (self : Nat × Nat × Int × Int × Int × Int → Mem → Option (Unit × Mem)) (fs ls : Nat) (hs : ∀ (v : Nat × Nat × Int × Int × Int × Int) (μ : Mem), Mc yX0_place cX0_place 8 none fs ls eV [aA v.1, aA v.2.1, aI v.2.2.1, aI v.2.2.2.1, aI v.2.2.2.2.1, aI v.2.2.2.2.2] μ (self v μ)) (v : Nat × Nat × Int × Int × Int × Int) (μ : Mem) : Mc yX0_place cX0_place 8 none (fs + 2) (ls + 80) eV [aA v.1, aA v.2.1, aI v.2.2.1, aI v.2.2.2.1, aI v.2.2.2.2.1, aI v.2.2.2.2.2] μ (bX0_place n self v μ) := by
  refine mc_of (L0 := [some (aA v.1), some (aA v.2.1), some (aI v.2.2.1), some (aI v.2.2.2.1), some (aI v.2.2.2.2.1), some (aI v.2.2.2.2.2), none, none]) (k := 2) (by decide) rfl rfl (fun X Γ => ?_)
  unfold bX0_place
  refine sn_iload dX0_place_0 rfl ?_
  refine sn_aload_n dX0_place_2 rfl ?_
  refine sn_getI (ci := 0) (j := 0) dX0_place_3 fl_X0_40 rfl (fun x3 => ?_)
  refine sn_icmp_gt (tgt := 27) dX0_place_6 (by decide) ?_ ?_
  · exact sn_vret dX0_place_27
  · refine sn_iload dX0_place_9 rfl ?_
    refine sn_aload_n dX0_place_11 rfl ?_
    refine sn_getI (ci := 0) (j := 0) dX0_place_12 fl_X0_40 rfl (fun x12 => ?_)
    refine sn_jn (pcj := 28) (La := fun v28 : Unit => [some (aA v.1), some (aA v.2.1), some (aI v.2.2.1), some (aI v.2.2.2.1), some (aI v.2.2.2.2.1), some (aI v.2.2.2.2.2), none, none]) (Sa := fun v28 : Unit => []) ?_ ?_
    · intro v28 μ28
      refine sn_iload_n dX0_place_28 rfl ?_
      refine sn_aload_n dX0_place_29 rfl ?_
      refine sn_getI (ci := 0) (j := 5) dX0_place_30 fl_X0_35 rfl (fun x30 => ?_)
      refine sn_icmp_lt (tgt := 64) dX0_place_33 (by decide) ?_ ?_
      · refine sn_iconst dX0_place_64 ?_
        refine sn_istore (L' := [some (aA v.1), some (aA v.2.1), some (aI v.2.2.1), some (aI v.2.2.2.1), some (aI v.2.2.2.2.1), some (aI v.2.2.2.2.2), some (aI 0), none]) dX0_place_65 (by decide) rfl ?_
        refine sn_lp (La := fun v67 : Int => [some (aA v.1), some (aA v.2.1), some (aI v.2.2.1), some (aI v.2.2.2.1), some (aI v.2.2.2.2.1), some (aI v.2.2.2.2.2), some (aI v67), none]) ?_ n 0 μ28
        intro nx67 hnx67 v67 μ67
        refine sn_iload dX0_place_67 rfl ?_
        refine sn_aload_n dX0_place_69 rfl ?_
        refine sn_getI (ci := 0) (j := 5) dX0_place_70 fl_X0_35 rfl (fun x70 => ?_)
        refine sn_icmp_ge (tgt := 141) dX0_place_73 (by decide) ?_ ?_
        · exact sn_vret dX0_place_141
        · refine sn_iload_n dX0_place_76 rfl ?_
          refine sn_iload dX0_place_77 rfl ?_
          refine sn_ishr dX0_place_79 ?_
          refine sn_iconst dX0_place_80 ?_
          refine sn_iand dX0_place_81 ?_
          refine sn_if_ne (tgt := 135) dX0_place_82 (by decide) ?_ ?_
          · refine sn_iinc (L' := [some (aA v.1), some (aA v.2.1), some (aI v.2.2.1), some (aI v.2.2.2.1), some (aI v.2.2.2.2.1), some (aI v.2.2.2.2.2), some (aI (v67 + 1)), none]) dX0_place_135 rfl (by decide) rfl ?_
            refine sn_goto (tgt := 67) dX0_place_138 (by decide) ?_
            exact hnx67 (v67 + 1) μ67
          · refine sn_aload_n dX0_place_85 rfl ?_
            refine sn_getA (ci := 0) (j := 3) dX0_place_86 fl_X0_15 (by decide) (fun x86 => ?_)
            refine sn_iload_n dX0_place_89 rfl ?_
            refine sn_iload dX0_place_90 rfl ?_
            refine sn_iast dX0_place_92 (fun μ92 => ?_)
            refine sn_iload dX0_place_93 rfl ?_
            refine sn_aload_n dX0_place_95 rfl ?_
            refine sn_aload_n dX0_place_96 rfl ?_
            refine sn_iload_n dX0_place_97 rfl ?_
            refine sn_callVI (vs := [aA v.2.1, aI v.2.2.1]) (ci := 0) (cX0_clashWithPlaced_ok n v.1 v.2.1 v.2.2.1 μ92) dX0_place_98 cw_X0_72 rfl rfl rfl (by omega) (by omega) (Nat.le_of_ble_eq_true rfl) (fun p98 => ?_)
            refine sn_iadd dX0_place_101 ?_
            refine sn_istore (L' := [some (aA v.1), some (aA v.2.1), some (aI v.2.2.1), some (aI v.2.2.2.1), some (aI v.2.2.2.2.1), some (aI v.2.2.2.2.2), some (aI v67), some (aI (v.2.2.2.2.1 + p98.1))]) dX0_place_102 (by decide) rfl ?_
            refine sn_aload_n dX0_place_104 rfl ?_
            refine sn_aload_n dX0_place_105 rfl ?_
            refine sn_iload_n dX0_place_106 rfl ?_
            refine sn_iconst dX0_place_107 ?_
            refine sn_iadd dX0_place_108 ?_
            refine sn_iload_n dX0_place_109 rfl ?_
            refine sn_iconst dX0_place_110 ?_
            refine sn_iload dX0_place_111 rfl ?_
            refine sn_ishl dX0_place_113 ?_
            refine sn_ior dX0_place_114 ?_
            refine sn_iload dX0_place_115 rfl ?_
            refine sn_iload dX0_place_117 rfl ?_
            refine sn_iload_n dX0_place_119 rfl ?_
            refine sn_jn (pcj := 132) (La := fun v132 : Int => [some (aA v.1), some (aA v.2.1), some (aI v.2.2.1), some (aI v.2.2.2.1), some (aI v.2.2.2.2.1), some (aI v.2.2.2.2.2), some (aI v67), none]) (Sa := fun v132 : Int => [aI v132, aI (v.2.2.2.2.1 + p98.1), aI (oOr v.2.2.2.1 (oShl 1 v67)), aI (v.2.2.1 + 1), aA v.2.1, aA v.1]) ?_ ?_
            · intro v132 μ132
              refine sn_callVV (vs := [aA v.2.1, aI (v.2.2.1 + 1), aI (oOr v.2.2.2.1 (oShl 1 v67)), aI (v.2.2.2.2.1 + p98.1), aI v132]) (ci := 0) (hs (v.1, v.2.1, (v.2.2.1 + 1), (oOr v.2.2.2.1 (oShl 1 v67)), (v.2.2.2.2.1 + p98.1), v132) μ132) dX0_place_132 cw_X0_46 rfl rfl rfl (by omega) (by omega) (Nat.le_of_ble_eq_true rfl) (fun p132 => ?_)
              refine sn_iinc (L' := [some (aA v.1), some (aA v.2.1), some (aI v.2.2.1), some (aI v.2.2.2.1), some (aI v.2.2.2.2.1), some (aI v.2.2.2.2.2), some (aI (v67 + 1)), none]) dX0_place_135 rfl (by decide) rfl ?_
              refine sn_goto (tgt := 67) dX0_place_138 (by decide) ?_
              exact hnx67 (v67 + 1) p132.2
            intro j132 hj132
            refine sn_icmp_ne (tgt := 128) dX0_place_120 (by decide) ?_ ?_
            · refine sn_iload dX0_place_128 rfl ?_
              refine sn_iconst dX0_place_130 ?_
              refine sn_iadd dX0_place_131 ?_
              exact sn_mask (L' := [some (aA v.1), some (aA v.2.1), some (aI v.2.2.1), some (aI v.2.2.2.1), some (aI v.2.2.2.2.1), some (aI v.2.2.2.2.2), some (aI v67), none]) [true, true, true, true, true, true, true, false] rfl (hj132 (v.2.2.2.2.2 + 1) p98.2)
            · refine sn_iload dX0_place_123 rfl ?_
              refine sn_goto (tgt := 132) dX0_place_125 (by decide) ?_
              exact sn_mask (L' := [some (aA v.1), some (aA v.2.1), some (aI v.2.2.1), some (aI v.2.2.2.1), some (aI v.2.2.2.2.1), some (aI v.2.2.2.2.2), some (aI v67), none]) [true, true, true, true, true, true, true, false] rfl (hj132 v.2.2.2.2.2 p98.2)
      · refine sn_aload_n dX0_place_36 rfl ?_
        refine sn_iload dX0_place_37 rfl ?_
        refine sn_putI (ci := 0) (j := 0) dX0_place_39 fl_X0_40 rfl (fun q h => by cases h; rfl) (fun μ39 => ?_)
        refine sn_aload_n dX0_place_42 rfl ?_
        refine sn_iload dX0_place_43 rfl ?_
        refine sn_putI (ci := 0) (j := 1) dX0_place_45 fl_X0_43 rfl (fun q h => by cases h; rfl) (fun μ45 => ?_)
        refine sn_aload_n dX0_place_48 rfl ?_
        refine sn_getA (ci := 0) (j := 3) dX0_place_49 fl_X0_15 (by decide) (fun x49 => ?_)
        refine sn_iconst dX0_place_52 ?_
        refine sn_aload_n dX0_place_53 rfl ?_
        refine sn_getA (ci := 0) (j := 2) dX0_place_54 fl_X0_9 (by decide) (fun x54 => ?_)
        refine sn_iconst dX0_place_57 ?_
        refine sn_bipush dX0_place_58 (by decide) ?_
        refine sn_copy (t := 0) dX0_place_60 ml_X0_66 (by decide) (by omega) (by omega) (Nat.le_of_ble_eq_true rfl) (fun μ60 => ?_)
        exact sn_vret dX0_place_63
    intro j28 hj28
    refine sn_icmp_ne (tgt := 28) dX0_place_15 (by decide) ?_ ?_
    · exact hj28 () μ
    · refine sn_iload dX0_place_18 rfl ?_
      refine sn_aload_n dX0_place_20 rfl ?_
      refine sn_getI (ci := 0) (j := 1) dX0_place_21 fl_X0_43 rfl (fun x21 => ?_)
      refine sn_icmp_lt (tgt := 28) dX0_place_24 (by decide) ?_ ?_
      · exact hj28 () μ
      · exact sn_vret dX0_place_27
def rX0_place (n : Nat) : Nat → Nat × Nat × Int × Int × Int × Int → Mem → Option (Unit × Mem) := lp (bX0_place n)
theorem rX0_place_ok (n : Nat) : ∀ (d : Nat) (v : Nat × Nat × Int × Int × Int × Int) (μ : Mem), Mc yX0_place cX0_place 8 none (2 * d) (80 * d) eV [aA v.1, aA v.2.1, aI v.2.2.1, aI v.2.2.2.1, aI v.2.2.2.2.1, aI v.2.2.2.2.2] μ (rX0_place n d v μ)
  | 0, v, μ => fun r μ' h => by cases h
  | d + 1, v, μ => bX0_place_ok n (rX0_place n d) (2 * d) (80 * d) (rX0_place_ok n d) v μ
def mX0_place (n : Nat) (a : Nat) (b1 : Nat) (b2 : Int) (b3 : Int) (b4 : Int) (b5 : Int) (μ : Mem) : Option (Unit × Mem) := rX0_place n 12 (a, b1, b2, b3, b4, b5) μ
theorem cX0_place_ok (n : Nat) (a : Nat) (b1 : Nat) (b2 : Int) (b3 : Int) (b4 : Int) (b5 : Int) (μ : Mem) : Mc yX0_place cX0_place 8 none 24 960 eV [aA a, aA b1, aI b2, aI b3, aI b4, aI b5] μ (mX0_place n a b1 b2 b3 b4 b5 μ) := rX0_place_ok n 12 (a, b1, b2, b3, b4, b5) μ
theorem dX0_settle_0 : decode cX0_settle 0 = .ok (.aload_n 0, 1) := by decide +kernel
theorem dX0_settle_1 : decode cX0_settle 1 = .ok (.aload_n 1, 1) := by decide +kernel
theorem dX0_settle_2 : decode cX0_settle 2 = .ok (.getfield 23, 3) := by decide +kernel
theorem dX0_settle_5 : decode cX0_settle 5 = .ok (.bipush 7, 2) := by decide +kernel
theorem dX0_settle_7 : decode cX0_settle 7 = .ok (.invokestatic 29, 3) := by decide +kernel
theorem dX0_settle_10 : decode cX0_settle 10 = .ok (.putfield 35, 3) := by decide +kernel
theorem dX0_settle_13 : decode cX0_settle 13 = .ok (.aload_n 0, 1) := by decide +kernel
theorem dX0_settle_14 : decode cX0_settle 14 = .ok (.aload_n 1, 1) := by decide +kernel
theorem dX0_settle_15 : decode cX0_settle 15 = .ok (.invokevirtual 36, 3) := by decide +kernel
theorem dX0_settle_18 : decode cX0_settle 18 = .ok (.aload_n 0, 1) := by decide +kernel
theorem dX0_settle_19 : decode cX0_settle 19 = .ok (.sipush 193, 3) := by decide +kernel
theorem dX0_settle_22 : decode cX0_settle 22 = .ok (.putfield 40, 3) := by decide +kernel
theorem dX0_settle_25 : decode cX0_settle 25 = .ok (.aload_n 0, 1) := by decide +kernel
theorem dX0_settle_26 : decode cX0_settle 26 = .ok (.iconst 0, 1) := by decide +kernel
theorem dX0_settle_27 : decode cX0_settle 27 = .ok (.putfield 43, 3) := by decide +kernel
theorem dX0_settle_30 : decode cX0_settle 30 = .ok (.aload_n 0, 1) := by decide +kernel
theorem dX0_settle_31 : decode cX0_settle 31 = .ok (.aload_n 1, 1) := by decide +kernel
theorem dX0_settle_32 : decode cX0_settle 32 = .ok (.iconst 0, 1) := by decide +kernel
theorem dX0_settle_33 : decode cX0_settle 33 = .ok (.iconst 0, 1) := by decide +kernel
theorem dX0_settle_34 : decode cX0_settle 34 = .ok (.iconst 0, 1) := by decide +kernel
theorem dX0_settle_35 : decode cX0_settle 35 = .ok (.iconst 0, 1) := by decide +kernel
theorem dX0_settle_36 : decode cX0_settle 36 = .ok (.invokevirtual 46, 3) := by decide +kernel
theorem dX0_settle_39 : decode cX0_settle 39 = .ok (.return_, 1) := by decide +kernel
def mX0_settle (n : Nat) (a : Nat) (b1 : Nat) (μ : Mem) : Option (Unit × Mem) :=
  (gI μ 2 b1 0).bind fun x2 =>
  (pI μ 1 a 5 (mMin x2 7)).bind fun μ10 =>
  (inv μ10 1 a (mX0_countRopes n a b1 μ10)).bind fun p15 =>
  (pI p15.2 1 a 0 193).bind fun μ22 =>
  (pI μ22 1 a 1 0).bind fun μ27 =>
  (inv μ27 1 a (mX0_place n a b1 0 0 0 0 μ27)).bind fun p36 =>
  some ((), p36.2)
set_option maxRecDepth 100000 in
set_option maxHeartbeats 4000000 in
theorem cX0_settle_ok (n : Nat) (a : Nat) (b1 : Nat) (μ : Mem) : Mc yX0_settle cX0_settle 2 none 25 987 eV [aA a, aA b1] μ (mX0_settle n a b1 μ) := by
  refine mc_of (L0 := [some (aA a), some (aA b1)]) (k := 0) (by decide) rfl rfl (fun X Γ => ?_)
  unfold mX0_settle
  refine sn_aload_n dX0_settle_0 rfl ?_
  refine sn_aload_n dX0_settle_1 rfl ?_
  refine sn_getI (ci := 1) (j := 0) dX0_settle_2 fl_X0_23 rfl (fun x2 => ?_)
  refine sn_bipush dX0_settle_5 (by decide) ?_
  refine sn_mMin dX0_settle_7 ml_X0_29 (by decide) (by decide) (Nat.le_of_ble_eq_true rfl) ?_
  refine sn_putI (ci := 0) (j := 5) dX0_settle_10 fl_X0_35 rfl (fun q h => by cases h; rfl) (fun μ10 => ?_)
  refine sn_aload_n dX0_settle_13 rfl ?_
  refine sn_aload_n dX0_settle_14 rfl ?_
  refine sn_callVV (vs := [aA b1]) (ci := 0) (cX0_countRopes_ok n a b1 μ10) dX0_settle_15 cw_X0_36 rfl rfl rfl (by decide) (by decide) (Nat.le_of_ble_eq_true rfl) (fun p15 => ?_)
  refine sn_aload_n dX0_settle_18 rfl ?_
  refine sn_sipush dX0_settle_19 (by decide) ?_
  refine sn_putI (ci := 0) (j := 0) dX0_settle_22 fl_X0_40 rfl (fun q h => by cases h; rfl) (fun μ22 => ?_)
  refine sn_aload_n dX0_settle_25 rfl ?_
  refine sn_iconst dX0_settle_26 ?_
  refine sn_putI (ci := 0) (j := 1) dX0_settle_27 fl_X0_43 rfl (fun q h => by cases h; rfl) (fun μ27 => ?_)
  refine sn_aload_n dX0_settle_30 rfl ?_
  refine sn_aload_n dX0_settle_31 rfl ?_
  refine sn_iconst dX0_settle_32 ?_
  refine sn_iconst dX0_settle_33 ?_
  refine sn_iconst dX0_settle_34 ?_
  refine sn_iconst dX0_settle_35 ?_
  refine sn_callVV (vs := [aA b1, aI 0, aI 0, aI 0, aI 0]) (ci := 0) (cX0_place_ok n a b1 0 0 0 0 μ27) dX0_settle_36 cw_X0_46 rfl rfl rfl (by decide) (by decide) (Nat.le_of_ble_eq_true rfl) (fun p36 => ?_)
  exact sn_vret dX0_settle_39
