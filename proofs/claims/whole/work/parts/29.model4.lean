/-! layer 1: model4 -/
theorem dX11_hangingAt_0 : decode cX11_hangingAt 0 = .ok (.iload_n 2, 1) := by decide +kernel
theorem dX11_hangingAt_1 : decode cX11_hangingAt 1 = .ok (.istore_n 3, 1) := by decide +kernel
theorem dX11_hangingAt_2 : decode cX11_hangingAt 2 = .ok (.iconst 0, 1) := by decide +kernel
theorem dX11_hangingAt_3 : decode cX11_hangingAt 3 = .ok (.istore 4, 2) := by decide +kernel
theorem dX11_hangingAt_5 : decode cX11_hangingAt 5 = .ok (.iload 4, 2) := by decide +kernel
theorem dX11_hangingAt_7 : decode cX11_hangingAt 7 = .ok (.aload_n 0, 1) := by decide +kernel
theorem dX11_hangingAt_8 : decode cX11_hangingAt 8 = .ok (.getfield 13, 3) := by decide +kernel
theorem dX11_hangingAt_11 : decode cX11_hangingAt 11 = .ok (.iconst 1, 1) := by decide +kernel
theorem dX11_hangingAt_12 : decode cX11_hangingAt 12 = .ok (.iaload, 1) := by decide +kernel
theorem dX11_hangingAt_13 : decode cX11_hangingAt 13 = .ok (.if_icmp .ge 41, 3) := by decide +kernel
theorem dX11_hangingAt_16 : decode cX11_hangingAt 16 = .ok (.aload_n 0, 1) := by decide +kernel
theorem dX11_hangingAt_17 : decode cX11_hangingAt 17 = .ok (.iload_n 1, 1) := by decide +kernel
theorem dX11_hangingAt_18 : decode cX11_hangingAt 18 = .ok (.iload 4, 2) := by decide +kernel
theorem dX11_hangingAt_20 : decode cX11_hangingAt 20 = .ok (.invokevirtual 166, 3) := by decide +kernel
theorem dX11_hangingAt_23 : decode cX11_hangingAt 23 = .ok (.ifCond .eq 25, 3) := by decide +kernel
theorem dX11_hangingAt_26 : decode cX11_hangingAt 26 = .ok (.aload_n 0, 1) := by decide +kernel
theorem dX11_hangingAt_27 : decode cX11_hangingAt 27 = .ok (.iload 4, 2) := by decide +kernel
theorem dX11_hangingAt_29 : decode cX11_hangingAt 29 = .ok (.invokevirtual 191, 3) := by decide +kernel
theorem dX11_hangingAt_32 : decode cX11_hangingAt 32 = .ok (.ifCond .ne 6, 3) := by decide +kernel
theorem dX11_hangingAt_35 : decode cX11_hangingAt 35 = .ok (.goto 13, 3) := by decide +kernel
theorem dX11_hangingAt_38 : decode cX11_hangingAt 38 = .ok (.iinc 3 (-1), 3) := by decide +kernel
theorem dX11_hangingAt_41 : decode cX11_hangingAt 41 = .ok (.iload_n 3, 1) := by decide +kernel
theorem dX11_hangingAt_42 : decode cX11_hangingAt 42 = .ok (.ifCond .ne 6, 3) := by decide +kernel
theorem dX11_hangingAt_45 : decode cX11_hangingAt 45 = .ok (.iload 4, 2) := by decide +kernel
theorem dX11_hangingAt_47 : decode cX11_hangingAt 47 = .ok (.ireturn, 1) := by decide +kernel
theorem dX11_hangingAt_48 : decode cX11_hangingAt 48 = .ok (.iinc 4 1, 3) := by decide +kernel
theorem dX11_hangingAt_51 : decode cX11_hangingAt 51 = .ok (.goto (-46), 3) := by decide +kernel
theorem dX11_hangingAt_54 : decode cX11_hangingAt 54 = .ok (.iconst (-1), 1) := by decide +kernel
theorem dX11_hangingAt_55 : decode cX11_hangingAt 55 = .ok (.ireturn, 1) := by decide +kernel
def mX11_hangingAt (n : Nat) (a : Nat) (b1 : Int) (b2 : Int) (μ : Mem) : Option (Int × Mem) :=
  lp (fun nx5 (v5 : Int × Int) (μ5 : Mem) =>
  (gA μ5 12 a 1).bind fun x8 =>
  (ldI μ5 0 x8 1).bind fun x12 =>
  if lt32 v5.2 x12 then
    (inv μ5 12 a (mX11_isEnd n a b1 v5.2 μ5)).bind fun p20 =>
    if eq32 p20.1 0 then
      nx5 (v5.1, (v5.2 + 1)) p20.2
    else
    (inv p20.2 12 a (mX11_hangs n a v5.2 p20.2)).bind fun p29 =>
    if eq32 p29.1 0 then
      nx5 (v5.1, (v5.2 + 1)) p29.2
    else
    if eq32 (v5.1 + (-1)) 0 then
      some (v5.2, p29.2)
    else
    nx5 ((v5.1 + (-1)), (v5.2 + 1)) p29.2
  else
  some ((-1), μ5)) n (b2, 0) μ
set_option maxRecDepth 100000 in
set_option maxHeartbeats 4000000 in
theorem cX11_hangingAt_ok (n : Nat) (a : Nat) (b1 : Int) (b2 : Int) (μ : Mem) : Mc yX11_hangingAt cX11_hangingAt 5 (some .int) 1 22 eI [aA a, aI b1, aI b2] μ (mX11_hangingAt n a b1 b2 μ) := by
  refine mc_of (L0 := [some (aA a), some (aI b1), some (aI b2), none, none]) (k := 2) (by decide) rfl rfl (fun X Γ => ?_)
  unfold mX11_hangingAt
  refine sn_iload_n dX11_hangingAt_0 rfl ?_
  refine sn_istore_n (L' := [some (aA a), some (aI b1), some (aI b2), some (aI b2), none]) dX11_hangingAt_1 (by decide) rfl ?_
  refine sn_iconst dX11_hangingAt_2 ?_
  refine sn_istore (L' := [some (aA a), some (aI b1), some (aI b2), some (aI b2), some (aI 0)]) dX11_hangingAt_3 (by decide) rfl ?_
  refine sn_mask (L' := [some (aA a), some (aI b1), none, some (aI b2), some (aI 0)]) [true, true, false, true, true] rfl ?_
  refine sn_lp (La := fun v5 : Int × Int => [some (aA a), some (aI b1), none, some (aI v5.1), some (aI v5.2)]) ?_ n (b2, 0) μ
  intro nx5 hnx5 v5 μ5
  refine sn_iload dX11_hangingAt_5 rfl ?_
  refine sn_aload_n dX11_hangingAt_7 rfl ?_
  refine sn_getA (ci := 11) (j := 1) dX11_hangingAt_8 fl_X11_13 (by decide) (fun x8 => ?_)
  refine sn_iconst dX11_hangingAt_11 ?_
  refine sn_iald dX11_hangingAt_12 (fun x12 => ?_)
  refine sn_icmp_ge (tgt := 54) dX11_hangingAt_13 (by decide) ?_ ?_
  · refine sn_iconst dX11_hangingAt_54 ?_
    exact sn_iret dX11_hangingAt_55
  · refine sn_aload_n dX11_hangingAt_16 rfl ?_
    refine sn_iload_n dX11_hangingAt_17 rfl ?_
    refine sn_iload dX11_hangingAt_18 rfl ?_
    refine sn_callVI (vs := [aI b1, aI v5.2]) (ci := 11) (cX11_isEnd_ok n a b1 v5.2 μ5) dX11_hangingAt_20 cw_X11_166 rfl rfl rfl (by decide) (by decide) (Nat.le_of_ble_eq_true rfl) (fun p20 => ?_)
    refine sn_if_eq (tgt := 48) dX11_hangingAt_23 (by decide) ?_ ?_
    · refine sn_iinc (L' := [some (aA a), some (aI b1), none, some (aI v5.1), some (aI (v5.2 + 1))]) dX11_hangingAt_48 rfl (by decide) rfl ?_
      refine sn_goto (tgt := 5) dX11_hangingAt_51 (by decide) ?_
      exact hnx5 (v5.1, (v5.2 + 1)) p20.2
    · refine sn_aload_n dX11_hangingAt_26 rfl ?_
      refine sn_iload dX11_hangingAt_27 rfl ?_
      refine sn_callVI (vs := [aI v5.2]) (ci := 11) (cX11_hangs_ok n a v5.2 p20.2) dX11_hangingAt_29 cw_X11_191 rfl rfl rfl (by decide) (by decide) (Nat.le_of_ble_eq_true rfl) (fun p29 => ?_)
      refine sn_if_ne (tgt := 38) dX11_hangingAt_32 (by decide) ?_ ?_
      · refine sn_iinc (L' := [some (aA a), some (aI b1), none, some (aI (v5.1 + (-1))), some (aI v5.2)]) dX11_hangingAt_38 rfl (by decide) rfl ?_
        refine sn_iload_n dX11_hangingAt_41 rfl ?_
        refine sn_if_ne (tgt := 48) dX11_hangingAt_42 (by decide) ?_ ?_
        · refine sn_iinc (L' := [some (aA a), some (aI b1), none, some (aI (v5.1 + (-1))), some (aI (v5.2 + 1))]) dX11_hangingAt_48 rfl (by decide) rfl ?_
          refine sn_goto (tgt := 5) dX11_hangingAt_51 (by decide) ?_
          exact hnx5 ((v5.1 + (-1)), (v5.2 + 1)) p29.2
        · refine sn_iload dX11_hangingAt_45 rfl ?_
          exact sn_iret dX11_hangingAt_47
      · refine sn_goto (tgt := 48) dX11_hangingAt_35 (by decide) ?_
        refine sn_iinc (L' := [some (aA a), some (aI b1), none, some (aI v5.1), some (aI (v5.2 + 1))]) dX11_hangingAt_48 rfl (by decide) rfl ?_
        refine sn_goto (tgt := 5) dX11_hangingAt_51 (by decide) ?_
        exact hnx5 (v5.1, (v5.2 + 1)) p29.2
theorem dX11_drought_0 : decode cX11_drought 0 = .ok (.aload_n 0, 1) := by decide +kernel
theorem dX11_drought_1 : decode cX11_drought 1 = .ok (.iconst 0, 1) := by decide +kernel
theorem dX11_drought_2 : decode cX11_drought 2 = .ok (.putfield 1, 3) := by decide +kernel
theorem dX11_drought_5 : decode cX11_drought 5 = .ok (.iload_n 2, 1) := by decide +kernel
theorem dX11_drought_6 : decode cX11_drought 6 = .ok (.i2l, 1) := by decide +kernel
theorem dX11_drought_7 : decode cX11_drought 7 = .ok (.lconst 1, 1) := by decide +kernel
theorem dX11_drought_8 : decode cX11_drought 8 = .ok (.ldc2_w 255, 3) := by decide +kernel
theorem dX11_drought_11 : decode cX11_drought 11 = .ok (.invokestatic 146, 3) := by decide +kernel
theorem dX11_drought_14 : decode cX11_drought 14 = .ok (.ifCond .ne 6, 3) := by decide +kernel
theorem dX11_drought_17 : decode cX11_drought 17 = .ok (.bipush (-3), 2) := by decide +kernel
theorem dX11_drought_19 : decode cX11_drought 19 = .ok (.ireturn, 1) := by decide +kernel
theorem dX11_drought_20 : decode cX11_drought 20 = .ok (.aload_n 0, 1) := by decide +kernel
theorem dX11_drought_21 : decode cX11_drought 21 = .ok (.getfield 13, 3) := by decide +kernel
theorem dX11_drought_24 : decode cX11_drought 24 = .ok (.iconst 2, 1) := by decide +kernel
theorem dX11_drought_25 : decode cX11_drought 25 = .ok (.iaload, 1) := by decide +kernel
theorem dX11_drought_26 : decode cX11_drought 26 = .ok (.iload_n 2, 1) := by decide +kernel
theorem dX11_drought_27 : decode cX11_drought 27 = .ok (.iadd, 1) := by decide +kernel
theorem dX11_drought_28 : decode cX11_drought 28 = .ok (.sipush 9999, 3) := by decide +kernel
theorem dX11_drought_31 : decode cX11_drought 31 = .ok (.if_icmp .le 6, 3) := by decide +kernel
theorem dX11_drought_34 : decode cX11_drought 34 = .ok (.bipush (-5), 2) := by decide +kernel
theorem dX11_drought_36 : decode cX11_drought 36 = .ok (.ireturn, 1) := by decide +kernel
theorem dX11_drought_37 : decode cX11_drought 37 = .ok (.iload_n 1, 1) := by decide +kernel
theorem dX11_drought_38 : decode cX11_drought 38 = .ok (.istore_n 3, 1) := by decide +kernel
theorem dX11_drought_39 : decode cX11_drought 39 = .ok (.iconst 0, 1) := by decide +kernel
theorem dX11_drought_40 : decode cX11_drought 40 = .ok (.istore 4, 2) := by decide +kernel
theorem dX11_drought_42 : decode cX11_drought 42 = .ok (.iconst 0, 1) := by decide +kernel
theorem dX11_drought_43 : decode cX11_drought 43 = .ok (.istore 5, 2) := by decide +kernel
theorem dX11_drought_45 : decode cX11_drought 45 = .ok (.iload 5, 2) := by decide +kernel
theorem dX11_drought_47 : decode cX11_drought 47 = .ok (.iload_n 2, 1) := by decide +kernel
theorem dX11_drought_48 : decode cX11_drought 48 = .ok (.if_icmp .ge 74, 3) := by decide +kernel
theorem dX11_drought_51 : decode cX11_drought 51 = .ok (.iconst 0, 1) := by decide +kernel
theorem dX11_drought_52 : decode cX11_drought 52 = .ok (.istore 6, 2) := by decide +kernel
theorem dX11_drought_54 : decode cX11_drought 54 = .ok (.iload 6, 2) := by decide +kernel
theorem dX11_drought_56 : decode cX11_drought 56 = .ok (.aload_n 0, 1) := by decide +kernel
theorem dX11_drought_57 : decode cX11_drought 57 = .ok (.getfield 13, 3) := by decide +kernel
theorem dX11_drought_60 : decode cX11_drought 60 = .ok (.iconst 0, 1) := by decide +kernel
theorem dX11_drought_61 : decode cX11_drought 61 = .ok (.iaload, 1) := by decide +kernel
theorem dX11_drought_62 : decode cX11_drought 62 = .ok (.if_icmp .ge 45, 3) := by decide +kernel
theorem dX11_drought_65 : decode cX11_drought 65 = .ok (.ldc_w 257, 3) := by decide +kernel
theorem dX11_drought_68 : decode cX11_drought 68 = .ok (.iload_n 3, 1) := by decide +kernel
theorem dX11_drought_69 : decode cX11_drought 69 = .ok (.imul, 1) := by decide +kernel
theorem dX11_drought_70 : decode cX11_drought 70 = .ok (.sipush 12345, 3) := by decide +kernel
theorem dX11_drought_73 : decode cX11_drought 73 = .ok (.iadd, 1) := by decide +kernel
theorem dX11_drought_74 : decode cX11_drought 74 = .ok (.istore_n 3, 1) := by decide +kernel
theorem dX11_drought_75 : decode cX11_drought 75 = .ok (.aload_n 0, 1) := by decide +kernel
theorem dX11_drought_76 : decode cX11_drought 76 = .ok (.getfield 30, 3) := by decide +kernel
theorem dX11_drought_79 : decode cX11_drought 79 = .ok (.iload 6, 2) := by decide +kernel
theorem dX11_drought_81 : decode cX11_drought 81 = .ok (.aload_n 0, 1) := by decide +kernel
theorem dX11_drought_82 : decode cX11_drought 82 = .ok (.iload 6, 2) := by decide +kernel
theorem dX11_drought_84 : decode cX11_drought 84 = .ok (.iload_n 3, 1) := by decide +kernel
theorem dX11_drought_85 : decode cX11_drought 85 = .ok (.bipush 16, 2) := by decide +kernel
theorem dX11_drought_87 : decode cX11_drought 87 = .ok (.iushr, 1) := by decide +kernel
theorem dX11_drought_88 : decode cX11_drought 88 = .ok (.aload_n 0, 1) := by decide +kernel
theorem dX11_drought_89 : decode cX11_drought 89 = .ok (.iload 6, 2) := by decide +kernel
theorem dX11_drought_91 : decode cX11_drought 91 = .ok (.invokevirtual 258, 3) := by decide +kernel
theorem dX11_drought_94 : decode cX11_drought 94 = .ok (.iconst 1, 1) := by decide +kernel
theorem dX11_drought_95 : decode cX11_drought 95 = .ok (.iadd, 1) := by decide +kernel
theorem dX11_drought_96 : decode cX11_drought 96 = .ok (.irem, 1) := by decide +kernel
theorem dX11_drought_97 : decode cX11_drought 97 = .ok (.invokevirtual 261, 3) := by decide +kernel
theorem dX11_drought_100 : decode cX11_drought 100 = .ok (.iastore, 1) := by decide +kernel
theorem dX11_drought_101 : decode cX11_drought 101 = .ok (.iinc 6 1, 3) := by decide +kernel
theorem dX11_drought_104 : decode cX11_drought 104 = .ok (.goto (-50), 3) := by decide +kernel
theorem dX11_drought_107 : decode cX11_drought 107 = .ok (.iload 4, 2) := by decide +kernel
theorem dX11_drought_109 : decode cX11_drought 109 = .ok (.aload_n 0, 1) := by decide +kernel
theorem dX11_drought_110 : decode cX11_drought 110 = .ok (.invokevirtual 203, 3) := by decide +kernel
theorem dX11_drought_113 : decode cX11_drought 113 = .ok (.iadd, 1) := by decide +kernel
theorem dX11_drought_114 : decode cX11_drought 114 = .ok (.istore 4, 2) := by decide +kernel
theorem dX11_drought_116 : decode cX11_drought 116 = .ok (.iinc 5 1, 3) := by decide +kernel
theorem dX11_drought_119 : decode cX11_drought 119 = .ok (.goto (-74), 3) := by decide +kernel
theorem dX11_drought_122 : decode cX11_drought 122 = .ok (.iload 4, 2) := by decide +kernel
theorem dX11_drought_124 : decode cX11_drought 124 = .ok (.ireturn, 1) := by decide +kernel
def mX11_drought (n : Nat) (a : Nat) (b1 : Int) (b2 : Int) (μ : Mem) : Option (Int × Mem) :=
  (pI μ 12 a 0 0).bind fun μ2 =>
  (mX11_within n (oI2l b2) 1 60 μ2).bind fun p11 =>
  if eq32 p11.1 0 then
    some ((-3), p11.2)
  else
  (gA p11.2 12 a 1).bind fun x21 =>
  (ldI p11.2 0 x21 2).bind fun x25 =>
  if lt32 9999 (x25 + b2) then
    some ((-5), p11.2)
  else
  lp (fun nx45 (v45 : Int × Int × Int) (μ45 : Mem) =>
  if lt32 v45.2.2 b2 then
    lp (fun nx54 (v54 : Int × Int) (μ54 : Mem) =>
    (gA μ54 12 a 1).bind fun x57 =>
    (ldI μ54 0 x57 0).bind fun x61 =>
    if lt32 v54.2 x61 then
      (gA μ54 12 a 15).bind fun x76 =>
      (inv μ54 12 a (mX11_hanging n a v54.2 μ54)).bind fun p91 =>
      if Int32.ofInt (p91.1 + 1) = 0 then none else
      (inv p91.2 12 a (mX11_hangingAt n a v54.2 (oRem (oUshr ((1103515245 * v54.1) + 12345) 16) (p91.1 + 1)) p91.2)).bind fun p97 =>
      (stI p97.2 0 x76 v54.2 p97.1).bind fun μ100 =>
      nx54 (((1103515245 * v54.1) + 12345), (v54.2 + 1)) μ100
    else
    (inv μ54 12 a (mX11_goes n a μ54)).bind fun p110 =>
    nx45 (v54.1, (v45.2.1 + p110.1), (v45.2.2 + 1)) p110.2) n (v45.1, 0) μ45
  else
  some (v45.2.1, μ45)) n (b1, 0, 0) p11.2
set_option maxRecDepth 100000 in
set_option maxHeartbeats 4000000 in
theorem cX11_drought_ok (n : Nat) (a : Nat) (b1 : Int) (b2 : Int) (μ : Mem) : Mc yX11_drought cX11_drought 7 (some .int) 3 72 eI [aA a, aI b1, aI b2] μ (mX11_drought n a b1 b2 μ) := by
  refine mc_of (L0 := [some (aA a), some (aI b1), some (aI b2), none, none, none, none]) (k := 4) (by decide) rfl rfl (fun X Γ => ?_)
  unfold mX11_drought
  refine sn_aload_n dX11_drought_0 rfl ?_
  refine sn_iconst dX11_drought_1 ?_
  refine sn_putI (ci := 11) (j := 0) dX11_drought_2 fl_X11_1 rfl (fun q h => by cases h; rfl) (fun μ2 => ?_)
  refine sn_iload_n dX11_drought_5 rfl ?_
  refine sn_i2l dX11_drought_6 ?_
  refine sn_lconst (v := 1) dX11_drought_7 (by decide) ?_
  refine sn_ldc2 (v := 60) dX11_drought_8 k_X11_255 (by decide) ?_
  refine sn_callSI (vs := [aJ (oI2l b2), aJ 1, aJ 60]) (cX11_within_ok n (oI2l b2) 1 60 μ2) dX11_drought_11 cw_X11_146 rfl (by decide) (by decide) (Nat.le_of_ble_eq_true rfl) (fun p11 => ?_)
  refine sn_if_ne (tgt := 20) dX11_drought_14 (by decide) ?_ ?_
  · refine sn_aload_n dX11_drought_20 rfl ?_
    refine sn_getA (ci := 11) (j := 1) dX11_drought_21 fl_X11_13 (by decide) (fun x21 => ?_)
    refine sn_iconst dX11_drought_24 ?_
    refine sn_iald dX11_drought_25 (fun x25 => ?_)
    refine sn_iload_n dX11_drought_26 rfl ?_
    refine sn_iadd dX11_drought_27 ?_
    refine sn_sipush dX11_drought_28 (by decide) ?_
    refine sn_icmp_le (tgt := 37) dX11_drought_31 (by decide) ?_ ?_
    · refine sn_iload_n dX11_drought_37 rfl ?_
      refine sn_istore_n (L' := [some (aA a), some (aI b1), some (aI b2), some (aI b1), none, none, none]) dX11_drought_38 (by decide) rfl ?_
      refine sn_iconst dX11_drought_39 ?_
      refine sn_istore (L' := [some (aA a), some (aI b1), some (aI b2), some (aI b1), some (aI 0), none, none]) dX11_drought_40 (by decide) rfl ?_
      refine sn_iconst dX11_drought_42 ?_
      refine sn_istore (L' := [some (aA a), some (aI b1), some (aI b2), some (aI b1), some (aI 0), some (aI 0), none]) dX11_drought_43 (by decide) rfl ?_
      refine sn_mask (L' := [some (aA a), none, some (aI b2), some (aI b1), some (aI 0), some (aI 0), none]) [true, false, true, true, true, true, false] rfl ?_
      refine sn_lp (La := fun v45 : Int × Int × Int => [some (aA a), none, some (aI b2), some (aI v45.1), some (aI v45.2.1), some (aI v45.2.2), none]) ?_ n (b1, 0, 0) p11.2
      intro nx45 hnx45 v45 μ45
      refine sn_iload dX11_drought_45 rfl ?_
      refine sn_iload_n dX11_drought_47 rfl ?_
      refine sn_icmp_ge (tgt := 122) dX11_drought_48 (by decide) ?_ ?_
      · refine sn_iload dX11_drought_122 rfl ?_
        exact sn_iret dX11_drought_124
      · refine sn_iconst dX11_drought_51 ?_
        refine sn_istore (L' := [some (aA a), none, some (aI b2), some (aI v45.1), some (aI v45.2.1), some (aI v45.2.2), some (aI 0)]) dX11_drought_52 (by decide) rfl ?_
        refine sn_lp (La := fun v54 : Int × Int => [some (aA a), none, some (aI b2), some (aI v54.1), some (aI v45.2.1), some (aI v45.2.2), some (aI v54.2)]) ?_ n (v45.1, 0) μ45
        intro nx54 hnx54 v54 μ54
        refine sn_iload dX11_drought_54 rfl ?_
        refine sn_aload_n dX11_drought_56 rfl ?_
        refine sn_getA (ci := 11) (j := 1) dX11_drought_57 fl_X11_13 (by decide) (fun x57 => ?_)
        refine sn_iconst dX11_drought_60 ?_
        refine sn_iald dX11_drought_61 (fun x61 => ?_)
        refine sn_icmp_ge (tgt := 107) dX11_drought_62 (by decide) ?_ ?_
        · refine sn_iload dX11_drought_107 rfl ?_
          refine sn_aload_n dX11_drought_109 rfl ?_
          refine sn_callVI (vs := []) (ci := 11) (cX11_goes_ok n a μ54) dX11_drought_110 cw_X11_203 rfl rfl rfl (by decide) (by decide) (Nat.le_of_ble_eq_true rfl) (fun p110 => ?_)
          refine sn_iadd dX11_drought_113 ?_
          refine sn_istore (L' := [some (aA a), none, some (aI b2), some (aI v54.1), some (aI (v45.2.1 + p110.1)), some (aI v45.2.2), some (aI v54.2)]) dX11_drought_114 (by decide) rfl ?_
          refine sn_iinc (L' := [some (aA a), none, some (aI b2), some (aI v54.1), some (aI (v45.2.1 + p110.1)), some (aI (v45.2.2 + 1)), some (aI v54.2)]) dX11_drought_116 rfl (by decide) rfl ?_
          refine sn_goto (tgt := 45) dX11_drought_119 (by decide) ?_
          exact sn_mask (L' := [some (aA a), none, some (aI b2), some (aI v54.1), some (aI (v45.2.1 + p110.1)), some (aI (v45.2.2 + 1)), none]) [true, false, true, true, true, true, false] rfl (hnx45 (v54.1, (v45.2.1 + p110.1), (v45.2.2 + 1)) p110.2)
        · refine sn_ldcw (v := 1103515245) dX11_drought_65 k_X11_257 (by decide) ?_
          refine sn_iload_n dX11_drought_68 rfl ?_
          refine sn_imul dX11_drought_69 ?_
          refine sn_sipush dX11_drought_70 (by decide) ?_
          refine sn_iadd dX11_drought_73 ?_
          refine sn_istore_n (L' := [some (aA a), none, some (aI b2), some (aI ((1103515245 * v54.1) + 12345)), some (aI v45.2.1), some (aI v45.2.2), some (aI v54.2)]) dX11_drought_74 (by decide) rfl ?_
          refine sn_aload_n dX11_drought_75 rfl ?_
          refine sn_getA (ci := 11) (j := 15) dX11_drought_76 fl_X11_30 (by decide) (fun x76 => ?_)
          refine sn_iload dX11_drought_79 rfl ?_
          refine sn_aload_n dX11_drought_81 rfl ?_
          refine sn_iload dX11_drought_82 rfl ?_
          refine sn_iload_n dX11_drought_84 rfl ?_
          refine sn_bipush dX11_drought_85 (by decide) ?_
          refine sn_iushr dX11_drought_87 ?_
          refine sn_aload_n dX11_drought_88 rfl ?_
          refine sn_iload dX11_drought_89 rfl ?_
          refine sn_callVI (vs := [aI v54.2]) (ci := 11) (cX11_hanging_ok n a v54.2 μ54) dX11_drought_91 cw_X11_258 rfl rfl rfl (by decide) (by decide) (Nat.le_of_ble_eq_true rfl) (fun p91 => ?_)
          refine sn_iconst dX11_drought_94 ?_
          refine sn_iadd dX11_drought_95 ?_
          refine sn_irem dX11_drought_96 ?_
          refine sn_callVI (vs := [aI v54.2, aI (oRem (oUshr ((1103515245 * v54.1) + 12345) 16) (p91.1 + 1))]) (ci := 11) (cX11_hangingAt_ok n a v54.2 (oRem (oUshr ((1103515245 * v54.1) + 12345) 16) (p91.1 + 1)) p91.2) dX11_drought_97 cw_X11_261 rfl rfl rfl (by decide) (by decide) (Nat.le_of_ble_eq_true rfl) (fun p97 => ?_)
          refine sn_iast dX11_drought_100 (fun μ100 => ?_)
          refine sn_iinc (L' := [some (aA a), none, some (aI b2), some (aI ((1103515245 * v54.1) + 12345)), some (aI v45.2.1), some (aI v45.2.2), some (aI (v54.2 + 1))]) dX11_drought_101 rfl (by decide) rfl ?_
          refine sn_goto (tgt := 54) dX11_drought_104 (by decide) ?_
          exact hnx54 (((1103515245 * v54.1) + 12345), (v54.2 + 1)) μ100
    · refine sn_bipush dX11_drought_34 (by decide) ?_
      exact sn_iret dX11_drought_36
  · refine sn_bipush dX11_drought_17 (by decide) ?_
    exact sn_iret dX11_drought_19
theorem dX11_isIn_0 : decode cX11_isIn 0 = .ok (.iload_n 1, 1) := by decide +kernel
theorem dX11_isIn_1 : decode cX11_isIn 1 = .ok (.iload_n 2, 1) := by decide +kernel
theorem dX11_isIn_2 : decode cX11_isIn 2 = .ok (.ishr, 1) := by decide +kernel
theorem dX11_isIn_3 : decode cX11_isIn 3 = .ok (.iconst 1, 1) := by decide +kernel
theorem dX11_isIn_4 : decode cX11_isIn 4 = .ok (.iand, 1) := by decide +kernel
theorem dX11_isIn_5 : decode cX11_isIn 5 = .ok (.iconst 1, 1) := by decide +kernel
theorem dX11_isIn_6 : decode cX11_isIn 6 = .ok (.if_icmp .ne 7, 3) := by decide +kernel
theorem dX11_isIn_9 : decode cX11_isIn 9 = .ok (.iconst 1, 1) := by decide +kernel
theorem dX11_isIn_10 : decode cX11_isIn 10 = .ok (.goto 4, 3) := by decide +kernel
theorem dX11_isIn_13 : decode cX11_isIn 13 = .ok (.iconst 0, 1) := by decide +kernel
theorem dX11_isIn_14 : decode cX11_isIn 14 = .ok (.ireturn, 1) := by decide +kernel
def mX11_isIn (n : Nat) (a : Nat) (b1 : Int) (b2 : Int) (μ : Mem) : Option (Int × Mem) :=
  if eq32 (oAnd (oShr b1 b2) 1) 1 then
    retZ 1 μ
  else
  retZ 0 μ
set_option maxRecDepth 100000 in
set_option maxHeartbeats 4000000 in
theorem cX11_isIn_ok (n : Nat) (a : Nat) (b1 : Int) (b2 : Int) (μ : Mem) : Mc yX11_isIn cX11_isIn 3 (some .boolean) 0 0 eI [aA a, aI b1, aI b2] μ (mX11_isIn n a b1 b2 μ) := by
  refine mc_of (L0 := [some (aA a), some (aI b1), some (aI b2)]) (k := 0) (by decide) rfl rfl (fun X Γ => ?_)
  unfold mX11_isIn
  refine sn_iload_n dX11_isIn_0 rfl ?_
  refine sn_iload_n dX11_isIn_1 rfl ?_
  refine sn_ishr dX11_isIn_2 ?_
  refine sn_iconst dX11_isIn_3 ?_
  refine sn_iand dX11_isIn_4 ?_
  refine sn_iconst dX11_isIn_5 ?_
  refine sn_icmp_ne (tgt := 13) dX11_isIn_6 (by decide) ?_ ?_
  · refine sn_iconst dX11_isIn_13 ?_
    exact sn_zret dX11_isIn_14
  · refine sn_iconst dX11_isIn_9 ?_
    refine sn_goto (tgt := 14) dX11_isIn_10 (by decide) ?_
    exact sn_zret dX11_isIn_14
theorem dX11_orders_0 : decode cX11_orders 0 = .ok (.iload_n 1, 1) := by decide +kernel
theorem dX11_orders_1 : decode cX11_orders 1 = .ok (.aload_n 0, 1) := by decide +kernel
theorem dX11_orders_2 : decode cX11_orders 2 = .ok (.getfield 13, 3) := by decide +kernel
theorem dX11_orders_5 : decode cX11_orders 5 = .ok (.iconst 0, 1) := by decide +kernel
theorem dX11_orders_6 : decode cX11_orders 6 = .ok (.iaload, 1) := by decide +kernel
theorem dX11_orders_7 : decode cX11_orders 7 = .ok (.if_icmp .ne 86, 3) := by decide +kernel
theorem dX11_orders_10 : decode cX11_orders 10 = .ok (.aload_n 0, 1) := by decide +kernel
theorem dX11_orders_11 : decode cX11_orders 11 = .ok (.iconst 1, 1) := by decide +kernel
theorem dX11_orders_12 : decode cX11_orders 12 = .ok (.invokevirtual 347, 3) := by decide +kernel
theorem dX11_orders_15 : decode cX11_orders 15 = .ok (.istore 4, 2) := by decide +kernel
theorem dX11_orders_17 : decode cX11_orders 17 = .ok (.aload_n 0, 1) := by decide +kernel
theorem dX11_orders_18 : decode cX11_orders 18 = .ok (.getfield 351, 3) := by decide +kernel
theorem dX11_orders_21 : decode cX11_orders 21 = .ok (.iconst (-1), 1) := by decide +kernel
theorem dX11_orders_22 : decode cX11_orders 22 = .ok (.if_icmp .eq 30, 3) := by decide +kernel
theorem dX11_orders_25 : decode cX11_orders 25 = .ok (.iload 4, 2) := by decide +kernel
theorem dX11_orders_27 : decode cX11_orders 27 = .ok (.aload_n 0, 1) := by decide +kernel
theorem dX11_orders_28 : decode cX11_orders 28 = .ok (.getfield 351, 3) := by decide +kernel
theorem dX11_orders_31 : decode cX11_orders 31 = .ok (.if_icmp .gt 20, 3) := by decide +kernel
theorem dX11_orders_34 : decode cX11_orders 34 = .ok (.iload 4, 2) := by decide +kernel
theorem dX11_orders_36 : decode cX11_orders 36 = .ok (.aload_n 0, 1) := by decide +kernel
theorem dX11_orders_37 : decode cX11_orders 37 = .ok (.getfield 351, 3) := by decide +kernel
theorem dX11_orders_40 : decode cX11_orders 40 = .ok (.if_icmp .ne 12, 3) := by decide +kernel
theorem dX11_orders_43 : decode cX11_orders 43 = .ok (.iload_n 3, 1) := by decide +kernel
theorem dX11_orders_44 : decode cX11_orders 44 = .ok (.aload_n 0, 1) := by decide +kernel
theorem dX11_orders_45 : decode cX11_orders 45 = .ok (.getfield 354, 3) := by decide +kernel
theorem dX11_orders_48 : decode cX11_orders 48 = .ok (.if_icmp .lt 4, 3) := by decide +kernel
theorem dX11_orders_51 : decode cX11_orders 51 = .ok (.return_, 1) := by decide +kernel
theorem dX11_orders_52 : decode cX11_orders 52 = .ok (.aload_n 0, 1) := by decide +kernel
theorem dX11_orders_53 : decode cX11_orders 53 = .ok (.iload 4, 2) := by decide +kernel
theorem dX11_orders_55 : decode cX11_orders 55 = .ok (.putfield 351, 3) := by decide +kernel
theorem dX11_orders_58 : decode cX11_orders 58 = .ok (.aload_n 0, 1) := by decide +kernel
theorem dX11_orders_59 : decode cX11_orders 59 = .ok (.iload_n 3, 1) := by decide +kernel
theorem dX11_orders_60 : decode cX11_orders 60 = .ok (.putfield 354, 3) := by decide +kernel
theorem dX11_orders_63 : decode cX11_orders 63 = .ok (.iconst 0, 1) := by decide +kernel
theorem dX11_orders_64 : decode cX11_orders 64 = .ok (.istore 5, 2) := by decide +kernel
theorem dX11_orders_66 : decode cX11_orders 66 = .ok (.iload 5, 2) := by decide +kernel
theorem dX11_orders_68 : decode cX11_orders 68 = .ok (.iload_n 1, 1) := by decide +kernel
theorem dX11_orders_69 : decode cX11_orders 69 = .ok (.if_icmp .ge 23, 3) := by decide +kernel
theorem dX11_orders_72 : decode cX11_orders 72 = .ok (.aload_n 0, 1) := by decide +kernel
theorem dX11_orders_73 : decode cX11_orders 73 = .ok (.getfield 70, 3) := by decide +kernel
theorem dX11_orders_76 : decode cX11_orders 76 = .ok (.iload 5, 2) := by decide +kernel
theorem dX11_orders_78 : decode cX11_orders 78 = .ok (.aload_n 0, 1) := by decide +kernel
theorem dX11_orders_79 : decode cX11_orders 79 = .ok (.getfield 67, 3) := by decide +kernel
theorem dX11_orders_82 : decode cX11_orders 82 = .ok (.iload 5, 2) := by decide +kernel
theorem dX11_orders_84 : decode cX11_orders 84 = .ok (.iaload, 1) := by decide +kernel
theorem dX11_orders_85 : decode cX11_orders 85 = .ok (.iastore, 1) := by decide +kernel
theorem dX11_orders_86 : decode cX11_orders 86 = .ok (.iinc 5 1, 3) := by decide +kernel
theorem dX11_orders_89 : decode cX11_orders 89 = .ok (.goto (-23), 3) := by decide +kernel
theorem dX11_orders_92 : decode cX11_orders 92 = .ok (.return_, 1) := by decide +kernel
theorem dX11_orders_93 : decode cX11_orders 93 = .ok (.iconst 0, 1) := by decide +kernel
theorem dX11_orders_94 : decode cX11_orders 94 = .ok (.istore 4, 2) := by decide +kernel
theorem dX11_orders_96 : decode cX11_orders 96 = .ok (.iload 4, 2) := by decide +kernel
theorem dX11_orders_98 : decode cX11_orders 98 = .ok (.aload_n 0, 1) := by decide +kernel
theorem dX11_orders_99 : decode cX11_orders 99 = .ok (.getfield 13, 3) := by decide +kernel
theorem dX11_orders_102 : decode cX11_orders 102 = .ok (.iconst 0, 1) := by decide +kernel
theorem dX11_orders_103 : decode cX11_orders 103 = .ok (.iaload, 1) := by decide +kernel
theorem dX11_orders_104 : decode cX11_orders 104 = .ok (.if_icmp .ge 56, 3) := by decide +kernel
theorem dX11_orders_107 : decode cX11_orders 107 = .ok (.aload_n 0, 1) := by decide +kernel
theorem dX11_orders_108 : decode cX11_orders 108 = .ok (.iload_n 2, 1) := by decide +kernel
theorem dX11_orders_109 : decode cX11_orders 109 = .ok (.iload 4, 2) := by decide +kernel
theorem dX11_orders_111 : decode cX11_orders 111 = .ok (.invokevirtual 272, 3) := by decide +kernel
theorem dX11_orders_114 : decode cX11_orders 114 = .ok (.ifCond .eq 6, 3) := by decide +kernel
theorem dX11_orders_117 : decode cX11_orders 117 = .ok (.goto 37, 3) := by decide +kernel
theorem dX11_orders_120 : decode cX11_orders 120 = .ok (.aload_n 0, 1) := by decide +kernel
theorem dX11_orders_121 : decode cX11_orders 121 = .ok (.getfield 67, 3) := by decide +kernel
theorem dX11_orders_124 : decode cX11_orders 124 = .ok (.iload_n 1, 1) := by decide +kernel
theorem dX11_orders_125 : decode cX11_orders 125 = .ok (.iload 4, 2) := by decide +kernel
theorem dX11_orders_127 : decode cX11_orders 127 = .ok (.iastore, 1) := by decide +kernel
theorem dX11_orders_128 : decode cX11_orders 128 = .ok (.aload_n 0, 1) := by decide +kernel
theorem dX11_orders_129 : decode cX11_orders 129 = .ok (.iload_n 1, 1) := by decide +kernel
theorem dX11_orders_130 : decode cX11_orders 130 = .ok (.iconst 1, 1) := by decide +kernel
theorem dX11_orders_131 : decode cX11_orders 131 = .ok (.iadd, 1) := by decide +kernel
theorem dX11_orders_132 : decode cX11_orders 132 = .ok (.iload_n 2, 1) := by decide +kernel
theorem dX11_orders_133 : decode cX11_orders 133 = .ok (.iconst 1, 1) := by decide +kernel
theorem dX11_orders_134 : decode cX11_orders 134 = .ok (.iload 4, 2) := by decide +kernel
theorem dX11_orders_136 : decode cX11_orders 136 = .ok (.ishl, 1) := by decide +kernel
theorem dX11_orders_137 : decode cX11_orders 137 = .ok (.ior, 1) := by decide +kernel
theorem dX11_orders_138 : decode cX11_orders 138 = .ok (.iload_n 3, 1) := by decide +kernel
theorem dX11_orders_139 : decode cX11_orders 139 = .ok (.iload 4, 2) := by decide +kernel
theorem dX11_orders_141 : decode cX11_orders 141 = .ok (.iload_n 1, 1) := by decide +kernel
theorem dX11_orders_142 : decode cX11_orders 142 = .ok (.if_icmp .ne 7, 3) := by decide +kernel
theorem dX11_orders_145 : decode cX11_orders 145 = .ok (.iconst 0, 1) := by decide +kernel
theorem dX11_orders_146 : decode cX11_orders 146 = .ok (.goto 4, 3) := by decide +kernel
theorem dX11_orders_149 : decode cX11_orders 149 = .ok (.iconst 1, 1) := by decide +kernel
theorem dX11_orders_150 : decode cX11_orders 150 = .ok (.iadd, 1) := by decide +kernel
theorem dX11_orders_151 : decode cX11_orders 151 = .ok (.invokevirtual 357, 3) := by decide +kernel
theorem dX11_orders_154 : decode cX11_orders 154 = .ok (.iinc 4 1, 3) := by decide +kernel
theorem dX11_orders_157 : decode cX11_orders 157 = .ok (.goto (-61), 3) := by decide +kernel
theorem dX11_orders_160 : decode cX11_orders 160 = .ok (.return_, 1) := by decide +kernel
def bX11_orders (n : Nat) (self : Nat × Int × Int × Int → Mem → Option (Unit × Mem)) (v : Nat × Int × Int × Int) (μ : Mem) : Option (Unit × Mem) :=
  (gA μ 12 v.1 1).bind fun x2 =>
  (ldI μ 0 x2 0).bind fun x6 =>
  if eq32 v.2.1 x6 then
    (inv μ 12 v.1 (mX11_clashes n v.1 1 μ)).bind fun p12 =>
    (gI p12.2 12 v.1 38).bind fun x18 =>
    jn (fun (v52 : Unit) (μ52 : Mem) =>
    (pI μ52 12 v.1 38 p12.1).bind fun μ55 =>
    (pI μ55 12 v.1 39 v.2.2.2).bind fun μ60 =>
    lp (fun nx66 (v66 : Int) (μ66 : Mem) =>
    if lt32 v66 v.2.1 then
      (gA μ66 12 v.1 37).bind fun x73 =>
      (gA μ66 12 v.1 36).bind fun x79 =>
      (ldI μ66 0 x79 v66).bind fun x84 =>
      (stI μ66 0 x73 v66 x84).bind fun μ85 =>
      nx66 (v66 + 1) μ85
    else
    some ((), μ66)) n 0 μ60) (fun j52 =>
    if eq32 x18 (-1) then
      j52 () p12.2
    else
    (gI p12.2 12 v.1 38).bind fun x28 =>
    if lt32 x28 p12.1 then
      some ((), p12.2)
    else
    (gI p12.2 12 v.1 38).bind fun x37 =>
    if eq32 p12.1 x37 then
      (gI p12.2 12 v.1 39).bind fun x45 =>
      if lt32 v.2.2.2 x45 then
        j52 () p12.2
      else
      some ((), p12.2)
    else
    j52 () p12.2)
  else
  lp (fun nx96 (v96 : Int) (μ96 : Mem) =>
  (gA μ96 12 v.1 1).bind fun x99 =>
  (ldI μ96 0 x99 0).bind fun x103 =>
  if lt32 v96 x103 then
    (inv μ96 12 v.1 (mX11_isIn n v.1 v.2.2.1 v96 μ96)).bind fun p111 =>
    if eq32 p111.1 0 then
      (gA p111.2 12 v.1 36).bind fun x121 =>
      (stI p111.2 0 x121 v.2.1 v96).bind fun μ127 =>
      jn (fun (v150 : Int) (μ150 : Mem) =>
      (inv μ150 12 v.1 (self (v.1, (v.2.1 + 1), (oOr v.2.2.1 (oShl 1 v96)), (v.2.2.2 + v150)) μ150)).bind fun p151 =>
      nx96 (v96 + 1) p151.2) (fun j150 =>
      if eq32 v96 v.2.1 then
        j150 0 μ127
      else
      j150 1 μ127)
    else
    nx96 (v96 + 1) p111.2
  else
  some ((), μ96)) n 0 μ
set_option maxRecDepth 100000 in
set_option maxHeartbeats 4000000 in
theorem bX11_orders_ok (n : Nat) (self : Nat × Int × Int × Int → Mem → Option (Unit × Mem)) (fs ls : Nat) (hs : ∀ (v : Nat × Int × Int × Int) (μ : Mem), Mc yX11_orders cX11_orders 6 none fs ls eV [aA v.1, aI v.2.1, aI v.2.2.1, aI v.2.2.2] μ (self v μ)) (v : Nat × Int × Int × Int) (μ : Mem) : Mc yX11_orders cX11_orders 6 none (fs + 3) (ls + 70) eV [aA v.1, aI v.2.1, aI v.2.2.1, aI v.2.2.2] μ (bX11_orders n self v μ) := by
  refine mc_of (L0 := [some (aA v.1), some (aI v.2.1), some (aI v.2.2.1), some (aI v.2.2.2), none, none]) (k := 2) (by decide) rfl rfl (fun X Γ => ?_)
  unfold bX11_orders
  refine sn_iload_n dX11_orders_0 rfl ?_
  refine sn_aload_n dX11_orders_1 rfl ?_
  refine sn_getA (ci := 11) (j := 1) dX11_orders_2 fl_X11_13 (by decide) (fun x2 => ?_)
  refine sn_iconst dX11_orders_5 ?_
  refine sn_iald dX11_orders_6 (fun x6 => ?_)
  refine sn_icmp_ne (tgt := 93) dX11_orders_7 (by decide) ?_ ?_
  · refine sn_iconst dX11_orders_93 ?_
    refine sn_istore (L' := [some (aA v.1), some (aI v.2.1), some (aI v.2.2.1), some (aI v.2.2.2), some (aI 0), none]) dX11_orders_94 (by decide) rfl ?_
    refine sn_lp (La := fun v96 : Int => [some (aA v.1), some (aI v.2.1), some (aI v.2.2.1), some (aI v.2.2.2), some (aI v96), none]) ?_ n 0 μ
    intro nx96 hnx96 v96 μ96
    refine sn_iload dX11_orders_96 rfl ?_
    refine sn_aload_n dX11_orders_98 rfl ?_
    refine sn_getA (ci := 11) (j := 1) dX11_orders_99 fl_X11_13 (by decide) (fun x99 => ?_)
    refine sn_iconst dX11_orders_102 ?_
    refine sn_iald dX11_orders_103 (fun x103 => ?_)
    refine sn_icmp_ge (tgt := 160) dX11_orders_104 (by decide) ?_ ?_
    · exact sn_vret dX11_orders_160
    · refine sn_aload_n dX11_orders_107 rfl ?_
      refine sn_iload_n dX11_orders_108 rfl ?_
      refine sn_iload dX11_orders_109 rfl ?_
      refine sn_callVI (vs := [aI v.2.2.1, aI v96]) (ci := 11) (cX11_isIn_ok n v.1 v.2.2.1 v96 μ96) dX11_orders_111 cw_X11_272 rfl rfl rfl (by omega) (by omega) (Nat.le_of_ble_eq_true rfl) (fun p111 => ?_)
      refine sn_if_eq (tgt := 120) dX11_orders_114 (by decide) ?_ ?_
      · refine sn_aload_n dX11_orders_120 rfl ?_
        refine sn_getA (ci := 11) (j := 36) dX11_orders_121 fl_X11_67 (by decide) (fun x121 => ?_)
        refine sn_iload_n dX11_orders_124 rfl ?_
        refine sn_iload dX11_orders_125 rfl ?_
        refine sn_iast dX11_orders_127 (fun μ127 => ?_)
        refine sn_aload_n dX11_orders_128 rfl ?_
        refine sn_iload_n dX11_orders_129 rfl ?_
        refine sn_iconst dX11_orders_130 ?_
        refine sn_iadd dX11_orders_131 ?_
        refine sn_iload_n dX11_orders_132 rfl ?_
        refine sn_iconst dX11_orders_133 ?_
        refine sn_iload dX11_orders_134 rfl ?_
        refine sn_ishl dX11_orders_136 ?_
        refine sn_ior dX11_orders_137 ?_
        refine sn_iload_n dX11_orders_138 rfl ?_
        refine sn_iload dX11_orders_139 rfl ?_
        refine sn_iload_n dX11_orders_141 rfl ?_
        refine sn_jn (pcj := 150) (La := fun v150 : Int => [some (aA v.1), some (aI v.2.1), some (aI v.2.2.1), some (aI v.2.2.2), some (aI v96), none]) (Sa := fun v150 : Int => [aI v150, aI v.2.2.2, aI (oOr v.2.2.1 (oShl 1 v96)), aI (v.2.1 + 1), aA v.1]) ?_ ?_
        · intro v150 μ150
          refine sn_iadd dX11_orders_150 ?_
          refine sn_callVV (vs := [aI (v.2.1 + 1), aI (oOr v.2.2.1 (oShl 1 v96)), aI (v.2.2.2 + v150)]) (ci := 11) (hs (v.1, (v.2.1 + 1), (oOr v.2.2.1 (oShl 1 v96)), (v.2.2.2 + v150)) μ150) dX11_orders_151 cw_X11_357 rfl rfl rfl (by omega) (by omega) (Nat.le_of_ble_eq_true rfl) (fun p151 => ?_)
          refine sn_iinc (L' := [some (aA v.1), some (aI v.2.1), some (aI v.2.2.1), some (aI v.2.2.2), some (aI (v96 + 1)), none]) dX11_orders_154 rfl (by decide) rfl ?_
          refine sn_goto (tgt := 96) dX11_orders_157 (by decide) ?_
          exact hnx96 (v96 + 1) p151.2
        intro j150 hj150
        refine sn_icmp_ne (tgt := 149) dX11_orders_142 (by decide) ?_ ?_
        · refine sn_iconst dX11_orders_149 ?_
          exact hj150 1 μ127
        · refine sn_iconst dX11_orders_145 ?_
          refine sn_goto (tgt := 150) dX11_orders_146 (by decide) ?_
          exact hj150 0 μ127
      · refine sn_goto (tgt := 154) dX11_orders_117 (by decide) ?_
        refine sn_iinc (L' := [some (aA v.1), some (aI v.2.1), some (aI v.2.2.1), some (aI v.2.2.2), some (aI (v96 + 1)), none]) dX11_orders_154 rfl (by decide) rfl ?_
        refine sn_goto (tgt := 96) dX11_orders_157 (by decide) ?_
        exact hnx96 (v96 + 1) p111.2
  · refine sn_aload_n dX11_orders_10 rfl ?_
    refine sn_iconst dX11_orders_11 ?_
    refine sn_callVI (vs := [aI 1]) (ci := 11) (cX11_clashes_ok n v.1 1 μ) dX11_orders_12 cw_X11_347 rfl rfl rfl (by omega) (by omega) (Nat.le_of_ble_eq_true rfl) (fun p12 => ?_)
    refine sn_istore (L' := [some (aA v.1), some (aI v.2.1), some (aI v.2.2.1), some (aI v.2.2.2), some (aI p12.1), none]) dX11_orders_15 (by decide) rfl ?_
    refine sn_aload_n dX11_orders_17 rfl ?_
    refine sn_getI (ci := 11) (j := 38) dX11_orders_18 fl_X11_351 rfl (fun x18 => ?_)
    refine sn_iconst dX11_orders_21 ?_
    refine sn_jn (pcj := 52) (La := fun v52 : Unit => [some (aA v.1), some (aI v.2.1), none, some (aI v.2.2.2), some (aI p12.1), none]) (Sa := fun v52 : Unit => []) ?_ ?_
    · intro v52 μ52
      refine sn_aload_n dX11_orders_52 rfl ?_
      refine sn_iload dX11_orders_53 rfl ?_
      refine sn_putI (ci := 11) (j := 38) dX11_orders_55 fl_X11_351 rfl (fun q h => by cases h; rfl) (fun μ55 => ?_)
      refine sn_aload_n dX11_orders_58 rfl ?_
      refine sn_iload_n dX11_orders_59 rfl ?_
      refine sn_putI (ci := 11) (j := 39) dX11_orders_60 fl_X11_354 rfl (fun q h => by cases h; rfl) (fun μ60 => ?_)
      refine sn_iconst dX11_orders_63 ?_
      refine sn_istore (L' := [some (aA v.1), some (aI v.2.1), none, some (aI v.2.2.2), some (aI p12.1), some (aI 0)]) dX11_orders_64 (by decide) rfl ?_
      refine sn_mask (L' := [some (aA v.1), some (aI v.2.1), none, none, none, some (aI 0)]) [true, true, false, false, false, true] rfl ?_
      refine sn_lp (La := fun v66 : Int => [some (aA v.1), some (aI v.2.1), none, none, none, some (aI v66)]) ?_ n 0 μ60
      intro nx66 hnx66 v66 μ66
      refine sn_iload dX11_orders_66 rfl ?_
      refine sn_iload_n dX11_orders_68 rfl ?_
      refine sn_icmp_ge (tgt := 92) dX11_orders_69 (by decide) ?_ ?_
      · exact sn_vret dX11_orders_92
      · refine sn_aload_n dX11_orders_72 rfl ?_
        refine sn_getA (ci := 11) (j := 37) dX11_orders_73 fl_X11_70 (by decide) (fun x73 => ?_)
        refine sn_iload dX11_orders_76 rfl ?_
        refine sn_aload_n dX11_orders_78 rfl ?_
        refine sn_getA (ci := 11) (j := 36) dX11_orders_79 fl_X11_67 (by decide) (fun x79 => ?_)
        refine sn_iload dX11_orders_82 rfl ?_
        refine sn_iald dX11_orders_84 (fun x84 => ?_)
        refine sn_iast dX11_orders_85 (fun μ85 => ?_)
        refine sn_iinc (L' := [some (aA v.1), some (aI v.2.1), none, none, none, some (aI (v66 + 1))]) dX11_orders_86 rfl (by decide) rfl ?_
        refine sn_goto (tgt := 66) dX11_orders_89 (by decide) ?_
        exact hnx66 (v66 + 1) μ85
    intro j52 hj52
    refine sn_icmp_eq (tgt := 52) dX11_orders_22 (by decide) ?_ ?_
    · exact sn_mask (L' := [some (aA v.1), some (aI v.2.1), none, some (aI v.2.2.2), some (aI p12.1), none]) [true, true, false, true, true, false] rfl (hj52 () p12.2)
    · refine sn_iload dX11_orders_25 rfl ?_
      refine sn_aload_n dX11_orders_27 rfl ?_
      refine sn_getI (ci := 11) (j := 38) dX11_orders_28 fl_X11_351 rfl (fun x28 => ?_)
      refine sn_icmp_gt (tgt := 51) dX11_orders_31 (by decide) ?_ ?_
      · exact sn_vret dX11_orders_51
      · refine sn_iload dX11_orders_34 rfl ?_
        refine sn_aload_n dX11_orders_36 rfl ?_
        refine sn_getI (ci := 11) (j := 38) dX11_orders_37 fl_X11_351 rfl (fun x37 => ?_)
        refine sn_icmp_ne (tgt := 52) dX11_orders_40 (by decide) ?_ ?_
        · exact sn_mask (L' := [some (aA v.1), some (aI v.2.1), none, some (aI v.2.2.2), some (aI p12.1), none]) [true, true, false, true, true, false] rfl (hj52 () p12.2)
        · refine sn_iload_n dX11_orders_43 rfl ?_
          refine sn_aload_n dX11_orders_44 rfl ?_
          refine sn_getI (ci := 11) (j := 39) dX11_orders_45 fl_X11_354 rfl (fun x45 => ?_)
          refine sn_icmp_lt (tgt := 52) dX11_orders_48 (by decide) ?_ ?_
          · exact sn_mask (L' := [some (aA v.1), some (aI v.2.1), none, some (aI v.2.2.2), some (aI p12.1), none]) [true, true, false, true, true, false] rfl (hj52 () p12.2)
          · exact sn_vret dX11_orders_51
def rX11_orders (n : Nat) : Nat → Nat × Int × Int × Int → Mem → Option (Unit × Mem) := lp (bX11_orders n)
theorem rX11_orders_ok (n : Nat) : ∀ (d : Nat) (v : Nat × Int × Int × Int) (μ : Mem), Mc yX11_orders cX11_orders 6 none (3 * d) (70 * d) eV [aA v.1, aI v.2.1, aI v.2.2.1, aI v.2.2.2] μ (rX11_orders n d v μ)
  | 0, v, μ => fun r μ' h => by cases h
  | d + 1, v, μ => bX11_orders_ok n (rX11_orders n d) (3 * d) (70 * d) (rX11_orders_ok n d) v μ
def mX11_orders (n : Nat) (a : Nat) (b1 : Int) (b2 : Int) (b3 : Int) (μ : Mem) : Option (Unit × Mem) := rX11_orders n 12 (a, b1, b2, b3) μ
theorem cX11_orders_ok (n : Nat) (a : Nat) (b1 : Int) (b2 : Int) (b3 : Int) (μ : Mem) : Mc yX11_orders cX11_orders 6 none 36 840 eV [aA a, aI b1, aI b2, aI b3] μ (mX11_orders n a b1 b2 b3 μ) := rX11_orders_ok n 12 (a, b1, b2, b3) μ
theorem dX11_dwellings_0 : decode cX11_dwellings 0 = .ok (.aload_n 0, 1) := by decide +kernel
theorem dX11_dwellings_1 : decode cX11_dwellings 1 = .ok (.iconst 0, 1) := by decide +kernel
theorem dX11_dwellings_2 : decode cX11_dwellings 2 = .ok (.putfield 1, 3) := by decide +kernel
theorem dX11_dwellings_5 : decode cX11_dwellings 5 = .ok (.iload_n 1, 1) := by decide +kernel
theorem dX11_dwellings_6 : decode cX11_dwellings 6 = .ok (.i2l, 1) := by decide +kernel
theorem dX11_dwellings_7 : decode cX11_dwellings 7 = .ok (.lconst 0, 1) := by decide +kernel
theorem dX11_dwellings_8 : decode cX11_dwellings 8 = .ok (.lconst 1, 1) := by decide +kernel
theorem dX11_dwellings_9 : decode cX11_dwellings 9 = .ok (.invokestatic 146, 3) := by decide +kernel
theorem dX11_dwellings_12 : decode cX11_dwellings 12 = .ok (.ifCond .ne 27, 3) := by decide +kernel
theorem dX11_dwellings_15 : decode cX11_dwellings 15 = .ok (.iload_n 1, 1) := by decide +kernel
theorem dX11_dwellings_16 : decode cX11_dwellings 16 = .ok (.i2l, 1) := by decide +kernel
theorem dX11_dwellings_17 : decode cX11_dwellings 17 = .ok (.ldc2_w 245, 3) := by decide +kernel
theorem dX11_dwellings_20 : decode cX11_dwellings 20 = .ok (.bipush 9, 2) := by decide +kernel
theorem dX11_dwellings_22 : decode cX11_dwellings 22 = .ok (.aload_n 0, 1) := by decide +kernel
theorem dX11_dwellings_23 : decode cX11_dwellings 23 = .ok (.getfield 13, 3) := by decide +kernel
theorem dX11_dwellings_26 : decode cX11_dwellings 26 = .ok (.iconst 0, 1) := by decide +kernel
theorem dX11_dwellings_27 : decode cX11_dwellings 27 = .ok (.iaload, 1) := by decide +kernel
theorem dX11_dwellings_28 : decode cX11_dwellings 28 = .ok (.iadd, 1) := by decide +kernel
theorem dX11_dwellings_29 : decode cX11_dwellings 29 = .ok (.i2l, 1) := by decide +kernel
theorem dX11_dwellings_30 : decode cX11_dwellings 30 = .ok (.invokestatic 146, 3) := by decide +kernel
theorem dX11_dwellings_33 : decode cX11_dwellings 33 = .ok (.ifCond .ne 6, 3) := by decide +kernel
theorem dX11_dwellings_36 : decode cX11_dwellings 36 = .ok (.bipush (-2), 2) := by decide +kernel
theorem dX11_dwellings_38 : decode cX11_dwellings 38 = .ok (.ireturn, 1) := by decide +kernel
theorem dX11_dwellings_39 : decode cX11_dwellings 39 = .ok (.aload_n 0, 1) := by decide +kernel
theorem dX11_dwellings_40 : decode cX11_dwellings 40 = .ok (.getfield 13, 3) := by decide +kernel
theorem dX11_dwellings_43 : decode cX11_dwellings 43 = .ok (.iconst 0, 1) := by decide +kernel
theorem dX11_dwellings_44 : decode cX11_dwellings 44 = .ok (.iaload, 1) := by decide +kernel
theorem dX11_dwellings_45 : decode cX11_dwellings 45 = .ok (.bipush 7, 2) := by decide +kernel
theorem dX11_dwellings_47 : decode cX11_dwellings 47 = .ok (.if_icmp .le 6, 3) := by decide +kernel
theorem dX11_dwellings_50 : decode cX11_dwellings 50 = .ok (.bipush (-4), 2) := by decide +kernel
theorem dX11_dwellings_52 : decode cX11_dwellings 52 = .ok (.ireturn, 1) := by decide +kernel
theorem dX11_dwellings_53 : decode cX11_dwellings 53 = .ok (.aload_n 0, 1) := by decide +kernel
theorem dX11_dwellings_54 : decode cX11_dwellings 54 = .ok (.iconst (-1), 1) := by decide +kernel
theorem dX11_dwellings_55 : decode cX11_dwellings 55 = .ok (.putfield 351, 3) := by decide +kernel
theorem dX11_dwellings_58 : decode cX11_dwellings 58 = .ok (.aload_n 0, 1) := by decide +kernel
theorem dX11_dwellings_59 : decode cX11_dwellings 59 = .ok (.iconst 0, 1) := by decide +kernel
theorem dX11_dwellings_60 : decode cX11_dwellings 60 = .ok (.iconst 0, 1) := by decide +kernel
theorem dX11_dwellings_61 : decode cX11_dwellings 61 = .ok (.iconst 0, 1) := by decide +kernel
theorem dX11_dwellings_62 : decode cX11_dwellings 62 = .ok (.invokevirtual 357, 3) := by decide +kernel
theorem dX11_dwellings_65 : decode cX11_dwellings 65 = .ok (.iload_n 1, 1) := by decide +kernel
theorem dX11_dwellings_66 : decode cX11_dwellings 66 = .ok (.ifCond .ne 10, 3) := by decide +kernel
theorem dX11_dwellings_69 : decode cX11_dwellings 69 = .ok (.aload_n 0, 1) := by decide +kernel
theorem dX11_dwellings_70 : decode cX11_dwellings 70 = .ok (.getfield 351, 3) := by decide +kernel
theorem dX11_dwellings_73 : decode cX11_dwellings 73 = .ok (.goto 24, 3) := by decide +kernel
theorem dX11_dwellings_76 : decode cX11_dwellings 76 = .ok (.iload_n 1, 1) := by decide +kernel
theorem dX11_dwellings_77 : decode cX11_dwellings 77 = .ok (.iconst 1, 1) := by decide +kernel
theorem dX11_dwellings_78 : decode cX11_dwellings 78 = .ok (.if_icmp .ne 10, 3) := by decide +kernel
theorem dX11_dwellings_81 : decode cX11_dwellings 81 = .ok (.aload_n 0, 1) := by decide +kernel
theorem dX11_dwellings_82 : decode cX11_dwellings 82 = .ok (.getfield 354, 3) := by decide +kernel
theorem dX11_dwellings_85 : decode cX11_dwellings 85 = .ok (.goto 12, 3) := by decide +kernel
theorem dX11_dwellings_88 : decode cX11_dwellings 88 = .ok (.aload_n 0, 1) := by decide +kernel
theorem dX11_dwellings_89 : decode cX11_dwellings 89 = .ok (.getfield 70, 3) := by decide +kernel
theorem dX11_dwellings_92 : decode cX11_dwellings 92 = .ok (.iload_n 1, 1) := by decide +kernel
theorem dX11_dwellings_93 : decode cX11_dwellings 93 = .ok (.bipush 10, 2) := by decide +kernel
theorem dX11_dwellings_95 : decode cX11_dwellings 95 = .ok (.isub, 1) := by decide +kernel
theorem dX11_dwellings_96 : decode cX11_dwellings 96 = .ok (.iaload, 1) := by decide +kernel
theorem dX11_dwellings_97 : decode cX11_dwellings 97 = .ok (.ireturn, 1) := by decide +kernel
def mX11_dwellings (n : Nat) (a : Nat) (b1 : Int) (μ : Mem) : Option (Int × Mem) :=
  (pI μ 12 a 0 0).bind fun μ2 =>
  (mX11_within n (oI2l b1) 0 1 μ2).bind fun p9 =>
  jn (fun (v39 : Unit) (μ39 : Mem) =>
  (gA μ39 12 a 1).bind fun x40 =>
  (ldI μ39 0 x40 0).bind fun x44 =>
  if lt32 7 x44 then
    some ((-4), μ39)
  else
  (pI μ39 12 a 38 (-1)).bind fun μ55 =>
  (inv μ55 12 a (mX11_orders n a 0 0 0 μ55)).bind fun p62 =>
  if eq32 b1 0 then
    (gI p62.2 12 a 38).bind fun x70 =>
    some (x70, p62.2)
  else
  if eq32 b1 1 then
    (gI p62.2 12 a 39).bind fun x82 =>
    some (x82, p62.2)
  else
  (gA p62.2 12 a 37).bind fun x89 =>
  (ldI p62.2 0 x89 (b1 - 10)).bind fun x96 =>
  some (x96, p62.2)) (fun j39 =>
  if eq32 p9.1 0 then
    (gA p9.2 12 a 1).bind fun x23 =>
    (ldI p9.2 0 x23 0).bind fun x27 =>
    (mX11_within n (oI2l b1) 10 (oI2l (9 + x27)) p9.2).bind fun p30 =>
    if eq32 p30.1 0 then
      some ((-2), p30.2)
    else
    j39 () p30.2
  else
  j39 () p9.2)
set_option maxRecDepth 100000 in
set_option maxHeartbeats 4000000 in
theorem cX11_dwellings_ok (n : Nat) (a : Nat) (b1 : Int) (μ : Mem) : Mc yX11_dwellings cX11_dwellings 2 (some .int) 37 865 eI [aA a, aI b1] μ (mX11_dwellings n a b1 μ) := by
  refine mc_of (L0 := [some (aA a), some (aI b1)]) (k := 0) (by decide) rfl rfl (fun X Γ => ?_)
  unfold mX11_dwellings
  refine sn_aload_n dX11_dwellings_0 rfl ?_
  refine sn_iconst dX11_dwellings_1 ?_
  refine sn_putI (ci := 11) (j := 0) dX11_dwellings_2 fl_X11_1 rfl (fun q h => by cases h; rfl) (fun μ2 => ?_)
  refine sn_iload_n dX11_dwellings_5 rfl ?_
  refine sn_i2l dX11_dwellings_6 ?_
  refine sn_lconst (v := 0) dX11_dwellings_7 (by decide) ?_
  refine sn_lconst (v := 1) dX11_dwellings_8 (by decide) ?_
  refine sn_callSI (vs := [aJ (oI2l b1), aJ 0, aJ 1]) (cX11_within_ok n (oI2l b1) 0 1 μ2) dX11_dwellings_9 cw_X11_146 rfl (by decide) (by decide) (Nat.le_of_ble_eq_true rfl) (fun p9 => ?_)
  refine sn_jn (pcj := 39) (La := fun v39 : Unit => [some (aA a), some (aI b1)]) (Sa := fun v39 : Unit => []) ?_ ?_
  · intro v39 μ39
    refine sn_aload_n dX11_dwellings_39 rfl ?_
    refine sn_getA (ci := 11) (j := 1) dX11_dwellings_40 fl_X11_13 (by decide) (fun x40 => ?_)
    refine sn_iconst dX11_dwellings_43 ?_
    refine sn_iald dX11_dwellings_44 (fun x44 => ?_)
    refine sn_bipush dX11_dwellings_45 (by decide) ?_
    refine sn_icmp_le (tgt := 53) dX11_dwellings_47 (by decide) ?_ ?_
    · refine sn_aload_n dX11_dwellings_53 rfl ?_
      refine sn_iconst dX11_dwellings_54 ?_
      refine sn_putI (ci := 11) (j := 38) dX11_dwellings_55 fl_X11_351 rfl (fun q h => by cases h; rfl) (fun μ55 => ?_)
      refine sn_aload_n dX11_dwellings_58 rfl ?_
      refine sn_iconst dX11_dwellings_59 ?_
      refine sn_iconst dX11_dwellings_60 ?_
      refine sn_iconst dX11_dwellings_61 ?_
      refine sn_callVV (vs := [aI 0, aI 0, aI 0]) (ci := 11) (cX11_orders_ok n a 0 0 0 μ55) dX11_dwellings_62 cw_X11_357 rfl rfl rfl (by decide) (by decide) (Nat.le_of_ble_eq_true rfl) (fun p62 => ?_)
      refine sn_iload_n dX11_dwellings_65 rfl ?_
      refine sn_if_ne (tgt := 76) dX11_dwellings_66 (by decide) ?_ ?_
      · refine sn_iload_n dX11_dwellings_76 rfl ?_
        refine sn_iconst dX11_dwellings_77 ?_
        refine sn_icmp_ne (tgt := 88) dX11_dwellings_78 (by decide) ?_ ?_
        · refine sn_aload_n dX11_dwellings_88 rfl ?_
          refine sn_getA (ci := 11) (j := 37) dX11_dwellings_89 fl_X11_70 (by decide) (fun x89 => ?_)
          refine sn_iload_n dX11_dwellings_92 rfl ?_
          refine sn_bipush dX11_dwellings_93 (by decide) ?_
          refine sn_isub dX11_dwellings_95 ?_
          refine sn_iald dX11_dwellings_96 (fun x96 => ?_)
          exact sn_iret dX11_dwellings_97
        · refine sn_aload_n dX11_dwellings_81 rfl ?_
          refine sn_getI (ci := 11) (j := 39) dX11_dwellings_82 fl_X11_354 rfl (fun x82 => ?_)
          refine sn_goto (tgt := 97) dX11_dwellings_85 (by decide) ?_
          exact sn_iret dX11_dwellings_97
      · refine sn_aload_n dX11_dwellings_69 rfl ?_
        refine sn_getI (ci := 11) (j := 38) dX11_dwellings_70 fl_X11_351 rfl (fun x70 => ?_)
        refine sn_goto (tgt := 97) dX11_dwellings_73 (by decide) ?_
        exact sn_iret dX11_dwellings_97
    · refine sn_bipush dX11_dwellings_50 (by decide) ?_
      exact sn_iret dX11_dwellings_52
  intro j39 hj39
  refine sn_if_ne (tgt := 39) dX11_dwellings_12 (by decide) ?_ ?_
  · exact hj39 () p9.2
  · refine sn_iload_n dX11_dwellings_15 rfl ?_
    refine sn_i2l dX11_dwellings_16 ?_
    refine sn_ldc2 (v := 10) dX11_dwellings_17 k_X11_245 (by decide) ?_
    refine sn_bipush dX11_dwellings_20 (by decide) ?_
    refine sn_aload_n dX11_dwellings_22 rfl ?_
    refine sn_getA (ci := 11) (j := 1) dX11_dwellings_23 fl_X11_13 (by decide) (fun x23 => ?_)
    refine sn_iconst dX11_dwellings_26 ?_
    refine sn_iald dX11_dwellings_27 (fun x27 => ?_)
    refine sn_iadd dX11_dwellings_28 ?_
    refine sn_i2l dX11_dwellings_29 ?_
    refine sn_callSI (vs := [aJ (oI2l b1), aJ 10, aJ (oI2l (9 + x27))]) (cX11_within_ok n (oI2l b1) 10 (oI2l (9 + x27)) p9.2) dX11_dwellings_30 cw_X11_146 rfl (by decide) (by decide) (Nat.le_of_ble_eq_true rfl) (fun p30 => ?_)
    refine sn_if_ne (tgt := 39) dX11_dwellings_33 (by decide) ?_ ?_
    · exact hj39 () p30.2
    · refine sn_bipush dX11_dwellings_36 (by decide) ?_
      exact sn_iret dX11_dwellings_38
theorem dX11_is_0 : decode cX11_is 0 = .ok (.aload_n 0, 1) := by decide +kernel
theorem dX11_is_1 : decode cX11_is 1 = .ok (.getfield 130, 3) := by decide +kernel
theorem dX11_is_4 : decode cX11_is 4 = .ok (.ifCond .ne 15, 3) := by decide +kernel
theorem dX11_is_7 : decode cX11_is 7 = .ok (.aload_n 0, 1) := by decide +kernel
theorem dX11_is_8 : decode cX11_is 8 = .ok (.getfield 114, 3) := by decide +kernel
theorem dX11_is_11 : decode cX11_is 11 = .ok (.iload_n 1, 1) := by decide +kernel
theorem dX11_is_12 : decode cX11_is 12 = .ok (.if_icmp .ne 7, 3) := by decide +kernel
theorem dX11_is_15 : decode cX11_is 15 = .ok (.iconst 1, 1) := by decide +kernel
theorem dX11_is_16 : decode cX11_is 16 = .ok (.goto 4, 3) := by decide +kernel
theorem dX11_is_19 : decode cX11_is 19 = .ok (.iconst 0, 1) := by decide +kernel
theorem dX11_is_20 : decode cX11_is 20 = .ok (.ireturn, 1) := by decide +kernel
def mX11_is (n : Nat) (a : Nat) (b1 : Int) (μ : Mem) : Option (Int × Mem) :=
  (gI μ 12 a 11).bind fun x1 =>
  if eq32 x1 0 then
    (gI μ 12 a 9).bind fun x8 =>
    if eq32 x8 b1 then
      retZ 1 μ
    else
    retZ 0 μ
  else
  retZ 0 μ
set_option maxRecDepth 100000 in
set_option maxHeartbeats 4000000 in
theorem cX11_is_ok (n : Nat) (a : Nat) (b1 : Int) (μ : Mem) : Mc yX11_is cX11_is 2 (some .boolean) 0 0 eI [aA a, aI b1] μ (mX11_is n a b1 μ) := by
  refine mc_of (L0 := [some (aA a), some (aI b1)]) (k := 0) (by decide) rfl rfl (fun X Γ => ?_)
  unfold mX11_is
  refine sn_aload_n dX11_is_0 rfl ?_
  refine sn_getI (ci := 11) (j := 11) dX11_is_1 fl_X11_130 rfl (fun x1 => ?_)
  refine sn_if_ne (tgt := 19) dX11_is_4 (by decide) ?_ ?_
  · refine sn_iconst dX11_is_19 ?_
    exact sn_zret dX11_is_20
  · refine sn_aload_n dX11_is_7 rfl ?_
    refine sn_getI (ci := 11) (j := 9) dX11_is_8 fl_X11_114 rfl (fun x8 => ?_)
    refine sn_iload_n dX11_is_11 rfl ?_
    refine sn_icmp_ne (tgt := 19) dX11_is_12 (by decide) ?_ ?_
    · refine sn_iconst dX11_is_19 ?_
      exact sn_zret dX11_is_20
    · refine sn_iconst dX11_is_15 ?_
      refine sn_goto (tgt := 20) dX11_is_16 (by decide) ?_
      exact sn_zret dX11_is_20
theorem dX11_see_0 : decode cX11_see 0 = .ok (.iload_n 1, 1) := by decide +kernel
theorem dX11_see_1 : decode cX11_see 1 = .ok (.aload_n 0, 1) := by decide +kernel
theorem dX11_see_2 : decode cX11_see 2 = .ok (.getfield 89, 3) := by decide +kernel
theorem dX11_see_5 : decode cX11_see 5 = .ok (.if_icmp .ge 12, 3) := by decide +kernel
theorem dX11_see_8 : decode cX11_see 8 = .ok (.aload_n 0, 1) := by decide +kernel
theorem dX11_see_9 : decode cX11_see 9 = .ok (.getfield 21, 3) := by decide +kernel
theorem dX11_see_12 : decode cX11_see 12 = .ok (.iload_n 1, 1) := by decide +kernel
theorem dX11_see_13 : decode cX11_see 13 = .ok (.iaload, 1) := by decide +kernel
theorem dX11_see_14 : decode cX11_see 14 = .ok (.goto 4, 3) := by decide +kernel
theorem dX11_see_17 : decode cX11_see 17 = .ok (.iconst (-1), 1) := by decide +kernel
theorem dX11_see_18 : decode cX11_see 18 = .ok (.ireturn, 1) := by decide +kernel
def mX11_see (n : Nat) (a : Nat) (b1 : Int) (μ : Mem) : Option (Int × Mem) :=
  (gI μ 12 a 8).bind fun x2 =>
  if lt32 b1 x2 then
    (gA μ 12 a 3).bind fun x9 =>
    (ldI μ 0 x9 b1).bind fun x13 =>
    some (x13, μ)
  else
  some ((-1), μ)
set_option maxRecDepth 100000 in
set_option maxHeartbeats 4000000 in
theorem cX11_see_ok (n : Nat) (a : Nat) (b1 : Int) (μ : Mem) : Mc yX11_see cX11_see 2 (some .int) 0 0 eI [aA a, aI b1] μ (mX11_see n a b1 μ) := by
  refine mc_of (L0 := [some (aA a), some (aI b1)]) (k := 0) (by decide) rfl rfl (fun X Γ => ?_)
  unfold mX11_see
  refine sn_iload_n dX11_see_0 rfl ?_
  refine sn_aload_n dX11_see_1 rfl ?_
  refine sn_getI (ci := 11) (j := 8) dX11_see_2 fl_X11_89 rfl (fun x2 => ?_)
  refine sn_icmp_ge (tgt := 17) dX11_see_5 (by decide) ?_ ?_
  · refine sn_iconst dX11_see_17 ?_
    exact sn_iret dX11_see_18
  · refine sn_aload_n dX11_see_8 rfl ?_
    refine sn_getA (ci := 11) (j := 3) dX11_see_9 fl_X11_21 (by decide) (fun x9 => ?_)
    refine sn_iload_n dX11_see_12 rfl ?_
    refine sn_iald dX11_see_13 (fun x13 => ?_)
    refine sn_goto (tgt := 18) dX11_see_14 (by decide) ?_
    exact sn_iret dX11_see_18
theorem dX11_isSmall_0 : decode cX11_isSmall 0 = .ok (.iload_n 0, 1) := by decide +kernel
theorem dX11_isSmall_1 : decode cX11_isSmall 1 = .ok (.bipush 97, 2) := by decide +kernel
theorem dX11_isSmall_3 : decode cX11_isSmall 3 = .ok (.if_icmp .lt 13, 3) := by decide +kernel
theorem dX11_isSmall_6 : decode cX11_isSmall 6 = .ok (.iload_n 0, 1) := by decide +kernel
theorem dX11_isSmall_7 : decode cX11_isSmall 7 = .ok (.bipush 122, 2) := by decide +kernel
theorem dX11_isSmall_9 : decode cX11_isSmall 9 = .ok (.if_icmp .gt 7, 3) := by decide +kernel
theorem dX11_isSmall_12 : decode cX11_isSmall 12 = .ok (.iconst 1, 1) := by decide +kernel
theorem dX11_isSmall_13 : decode cX11_isSmall 13 = .ok (.goto 4, 3) := by decide +kernel
theorem dX11_isSmall_16 : decode cX11_isSmall 16 = .ok (.iconst 0, 1) := by decide +kernel
theorem dX11_isSmall_17 : decode cX11_isSmall 17 = .ok (.ireturn, 1) := by decide +kernel
def mX11_isSmall (n : Nat) (b1 : Int) (μ : Mem) : Option (Int × Mem) :=
  if lt32 b1 97 then
    retZ 0 μ
  else
  if lt32 122 b1 then
    retZ 0 μ
  else
  retZ 1 μ
set_option maxRecDepth 100000 in
set_option maxHeartbeats 4000000 in
theorem cX11_isSmall_ok (n : Nat) (b1 : Int) (μ : Mem) : Mc yX11_isSmall cX11_isSmall 1 (some .boolean) 0 0 eI [aI b1] μ (mX11_isSmall n b1 μ) := by
  refine mc_of (L0 := [some (aI b1)]) (k := 0) (by decide) rfl rfl (fun X Γ => ?_)
  unfold mX11_isSmall
  refine sn_iload_n dX11_isSmall_0 rfl ?_
  refine sn_bipush dX11_isSmall_1 (by decide) ?_
  refine sn_icmp_lt (tgt := 16) dX11_isSmall_3 (by decide) ?_ ?_
  · refine sn_iconst dX11_isSmall_16 ?_
    exact sn_zret dX11_isSmall_17
  · refine sn_iload_n dX11_isSmall_6 rfl ?_
    refine sn_bipush dX11_isSmall_7 (by decide) ?_
    refine sn_icmp_gt (tgt := 16) dX11_isSmall_9 (by decide) ?_ ?_
    · refine sn_iconst dX11_isSmall_16 ?_
      exact sn_zret dX11_isSmall_17
    · refine sn_iconst dX11_isSmall_12 ?_
      refine sn_goto (tgt := 17) dX11_isSmall_13 (by decide) ?_
      exact sn_zret dX11_isSmall_17
theorem dX11_keyAt_0 : decode cX11_keyAt 0 = .ok (.iconst 0, 1) := by decide +kernel
theorem dX11_keyAt_1 : decode cX11_keyAt 1 = .ok (.istore_n 1, 1) := by decide +kernel
theorem dX11_keyAt_2 : decode cX11_keyAt 2 = .ok (.iconst 1, 1) := by decide +kernel
theorem dX11_keyAt_3 : decode cX11_keyAt 3 = .ok (.istore_n 2, 1) := by decide +kernel
theorem dX11_keyAt_4 : decode cX11_keyAt 4 = .ok (.iload_n 2, 1) := by decide +kernel
theorem dX11_keyAt_5 : decode cX11_keyAt 5 = .ok (.ldc 92, 2) := by decide +kernel
theorem dX11_keyAt_7 : decode cX11_keyAt 7 = .ok (.invokevirtual 94, 3) := by decide +kernel
theorem dX11_keyAt_10 : decode cX11_keyAt 10 = .ok (.if_icmp .ge 113, 3) := by decide +kernel
theorem dX11_keyAt_13 : decode cX11_keyAt 13 = .ok (.iconst 0, 1) := by decide +kernel
theorem dX11_keyAt_14 : decode cX11_keyAt 14 = .ok (.istore_n 3, 1) := by decide +kernel
theorem dX11_keyAt_15 : decode cX11_keyAt 15 = .ok (.ldc 92, 2) := by decide +kernel
theorem dX11_keyAt_17 : decode cX11_keyAt 17 = .ok (.iload_n 2, 1) := by decide +kernel
theorem dX11_keyAt_18 : decode cX11_keyAt 18 = .ok (.iload_n 3, 1) := by decide +kernel
theorem dX11_keyAt_19 : decode cX11_keyAt 19 = .ok (.iadd, 1) := by decide +kernel
theorem dX11_keyAt_20 : decode cX11_keyAt 20 = .ok (.invokevirtual 100, 3) := by decide +kernel
theorem dX11_keyAt_23 : decode cX11_keyAt 23 = .ok (.bipush 32, 2) := by decide +kernel
theorem dX11_keyAt_25 : decode cX11_keyAt 25 = .ok (.if_icmp .eq 44, 3) := by decide +kernel
theorem dX11_keyAt_28 : decode cX11_keyAt 28 = .ok (.aload_n 0, 1) := by decide +kernel
theorem dX11_keyAt_29 : decode cX11_keyAt 29 = .ok (.getfield 104, 3) := by decide +kernel
theorem dX11_keyAt_32 : decode cX11_keyAt 32 = .ok (.iload_n 3, 1) := by decide +kernel
theorem dX11_keyAt_33 : decode cX11_keyAt 33 = .ok (.iadd, 1) := by decide +kernel
theorem dX11_keyAt_34 : decode cX11_keyAt 34 = .ok (.aload_n 0, 1) := by decide +kernel
theorem dX11_keyAt_35 : decode cX11_keyAt 35 = .ok (.getfield 107, 3) := by decide +kernel
theorem dX11_keyAt_38 : decode cX11_keyAt 38 = .ok (.if_icmp .ge 31, 3) := by decide +kernel
theorem dX11_keyAt_41 : decode cX11_keyAt 41 = .ok (.aload_n 0, 1) := by decide +kernel
theorem dX11_keyAt_42 : decode cX11_keyAt 42 = .ok (.getfield 21, 3) := by decide +kernel
theorem dX11_keyAt_45 : decode cX11_keyAt 45 = .ok (.aload_n 0, 1) := by decide +kernel
theorem dX11_keyAt_46 : decode cX11_keyAt 46 = .ok (.getfield 104, 3) := by decide +kernel
theorem dX11_keyAt_49 : decode cX11_keyAt 49 = .ok (.iload_n 3, 1) := by decide +kernel
theorem dX11_keyAt_50 : decode cX11_keyAt 50 = .ok (.iadd, 1) := by decide +kernel
theorem dX11_keyAt_51 : decode cX11_keyAt 51 = .ok (.iaload, 1) := by decide +kernel
theorem dX11_keyAt_52 : decode cX11_keyAt 52 = .ok (.ldc 92, 2) := by decide +kernel
theorem dX11_keyAt_54 : decode cX11_keyAt 54 = .ok (.iload_n 2, 1) := by decide +kernel
theorem dX11_keyAt_55 : decode cX11_keyAt 55 = .ok (.iload_n 3, 1) := by decide +kernel
theorem dX11_keyAt_56 : decode cX11_keyAt 56 = .ok (.iadd, 1) := by decide +kernel
theorem dX11_keyAt_57 : decode cX11_keyAt 57 = .ok (.invokevirtual 100, 3) := by decide +kernel
theorem dX11_keyAt_60 : decode cX11_keyAt 60 = .ok (.if_icmp .ne 9, 3) := by decide +kernel
theorem dX11_keyAt_63 : decode cX11_keyAt 63 = .ok (.iinc 3 1, 3) := by decide +kernel
theorem dX11_keyAt_66 : decode cX11_keyAt 66 = .ok (.goto (-51), 3) := by decide +kernel
theorem dX11_keyAt_69 : decode cX11_keyAt 69 = .ok (.ldc 92, 2) := by decide +kernel
theorem dX11_keyAt_71 : decode cX11_keyAt 71 = .ok (.iload_n 2, 1) := by decide +kernel
theorem dX11_keyAt_72 : decode cX11_keyAt 72 = .ok (.iload_n 3, 1) := by decide +kernel
theorem dX11_keyAt_73 : decode cX11_keyAt 73 = .ok (.iadd, 1) := by decide +kernel
theorem dX11_keyAt_74 : decode cX11_keyAt 74 = .ok (.invokevirtual 100, 3) := by decide +kernel
theorem dX11_keyAt_77 : decode cX11_keyAt 77 = .ok (.bipush 32, 2) := by decide +kernel
theorem dX11_keyAt_79 : decode cX11_keyAt 79 = .ok (.if_icmp .ne 18, 3) := by decide +kernel
theorem dX11_keyAt_82 : decode cX11_keyAt 82 = .ok (.aload_n 0, 1) := by decide +kernel
theorem dX11_keyAt_83 : decode cX11_keyAt 83 = .ok (.getfield 104, 3) := by decide +kernel
theorem dX11_keyAt_86 : decode cX11_keyAt 86 = .ok (.iload_n 3, 1) := by decide +kernel
theorem dX11_keyAt_87 : decode cX11_keyAt 87 = .ok (.iadd, 1) := by decide +kernel
theorem dX11_keyAt_88 : decode cX11_keyAt 88 = .ok (.aload_n 0, 1) := by decide +kernel
theorem dX11_keyAt_89 : decode cX11_keyAt 89 = .ok (.getfield 107, 3) := by decide +kernel
theorem dX11_keyAt_92 : decode cX11_keyAt 92 = .ok (.if_icmp .ne 5, 3) := by decide +kernel
theorem dX11_keyAt_95 : decode cX11_keyAt 95 = .ok (.iload_n 1, 1) := by decide +kernel
theorem dX11_keyAt_96 : decode cX11_keyAt 96 = .ok (.ireturn, 1) := by decide +kernel
theorem dX11_keyAt_97 : decode cX11_keyAt 97 = .ok (.ldc 92, 2) := by decide +kernel
theorem dX11_keyAt_99 : decode cX11_keyAt 99 = .ok (.iload_n 2, 1) := by decide +kernel
theorem dX11_keyAt_100 : decode cX11_keyAt 100 = .ok (.invokevirtual 100, 3) := by decide +kernel
theorem dX11_keyAt_103 : decode cX11_keyAt 103 = .ok (.bipush 32, 2) := by decide +kernel
theorem dX11_keyAt_105 : decode cX11_keyAt 105 = .ok (.if_icmp .eq 9, 3) := by decide +kernel
theorem dX11_keyAt_108 : decode cX11_keyAt 108 = .ok (.iinc 2 1, 3) := by decide +kernel
theorem dX11_keyAt_111 : decode cX11_keyAt 111 = .ok (.goto (-14), 3) := by decide +kernel
theorem dX11_keyAt_114 : decode cX11_keyAt 114 = .ok (.iinc 2 1, 3) := by decide +kernel
theorem dX11_keyAt_117 : decode cX11_keyAt 117 = .ok (.iinc 1 1, 3) := by decide +kernel
theorem dX11_keyAt_120 : decode cX11_keyAt 120 = .ok (.goto (-116), 3) := by decide +kernel
theorem dX11_keyAt_123 : decode cX11_keyAt 123 = .ok (.bipush 10, 2) := by decide +kernel
theorem dX11_keyAt_125 : decode cX11_keyAt 125 = .ok (.ireturn, 1) := by decide +kernel
def mX11_keyAt (n : Nat) (a : Nat) (μ : Mem) : Option (Int × Mem) :=
  lp (fun nx4 (v4 : Int × Int) (μ4 : Mem) =>
  (txt μ4 10).bind fun x5 =>
  (tInv μ4 x5 (mJ0_length_8abf5 n x5 μ4)).bind fun p7 =>
  if lt32 v4.2 p7.1 then
    lp (fun nx15 (v15 : Int) (μ15 : Mem) =>
    (txt μ15 10).bind fun x15 =>
    (tInv μ15 x15 (mJ0_charAt_5068e n x15 (v4.2 + v15) μ15)).bind fun p20 =>
    jn (fun (v69 : Int) (μ69 : Mem) =>
    (txt μ69 10).bind fun x69 =>
    (tInv μ69 x69 (mJ0_charAt_5068e n x69 (v4.2 + v69) μ69)).bind fun p74 =>
    jn (fun (v97 : Unit) (μ97 : Mem) =>
    lp (fun nx97 (v97 : Int) (μ97 : Mem) =>
    (txt μ97 10).bind fun x97 =>
    (tInv μ97 x97 (mJ0_charAt_5068e n x97 v97 μ97)).bind fun p100 =>
    if eq32 p100.1 32 then
      nx4 ((v4.1 + 1), (v97 + 1)) p100.2
    else
    nx97 (v97 + 1) p100.2) n v4.2 μ97) (fun j97 =>
    if eq32 p74.1 32 then
      (gI p74.2 12 a 6).bind fun x83 =>
      (gI p74.2 12 a 7).bind fun x89 =>
      if eq32 (x83 + v69) x89 then
        some (v4.1, p74.2)
      else
      j97 () p74.2
    else
    j97 () p74.2)) (fun j69 =>
    if eq32 p20.1 32 then
      j69 v15 p20.2
    else
    (gI p20.2 12 a 6).bind fun x29 =>
    (gI p20.2 12 a 7).bind fun x35 =>
    if lt32 (x29 + v15) x35 then
      (gA p20.2 12 a 3).bind fun x42 =>
      (gI p20.2 12 a 6).bind fun x46 =>
      (ldI p20.2 0 x42 (x46 + v15)).bind fun x51 =>
      (txt p20.2 10).bind fun x52 =>
      (tInv p20.2 x52 (mJ0_charAt_5068e n x52 (v4.2 + v15) p20.2)).bind fun p57 =>
      if eq32 x51 p57.1 then
        nx15 (v15 + 1) p57.2
      else
      j69 v15 p57.2
    else
    j69 v15 p20.2)) n 0 p7.2
  else
  some (10, p7.2)) n (0, 1) μ
set_option maxRecDepth 100000 in
set_option maxHeartbeats 4000000 in
theorem cX11_keyAt_ok (n : Nat) (a : Nat) (μ : Mem) : Mc yX11_keyAt cX11_keyAt 4 (some .int) 4 85 eI [aA a] μ (mX11_keyAt n a μ) := by
  refine mc_of (L0 := [some (aA a), none, none, none]) (k := 3) (by decide) rfl rfl (fun X Γ => ?_)
  unfold mX11_keyAt
  refine sn_iconst dX11_keyAt_0 ?_
  refine sn_istore_n (L' := [some (aA a), some (aI 0), none, none]) dX11_keyAt_1 (by decide) rfl ?_
  refine sn_iconst dX11_keyAt_2 ?_
  refine sn_istore_n (L' := [some (aA a), some (aI 0), some (aI 1), none]) dX11_keyAt_3 (by decide) rfl ?_
  refine sn_lp (La := fun v4 : Int × Int => [some (aA a), some (aI v4.1), some (aI v4.2), none]) ?_ n (0, 1) μ
  intro nx4 hnx4 v4 μ4
  refine sn_iload_n dX11_keyAt_4 rfl ?_
  refine sn_ldcS (k := 10) dX11_keyAt_5 (by decide) rfl (fun x5 => ?_)
  refine sn_callT (vs := []) (cJ0_length_8abf5_ok n x5 μ4) dX11_keyAt_7 cw_X11_94 rfl rfl (by decide) (by decide) (Nat.le_of_ble_eq_true rfl) (fun p7 => ?_)
  refine sn_icmp_ge (tgt := 123) dX11_keyAt_10 (by decide) ?_ ?_
  · refine sn_bipush dX11_keyAt_123 (by decide) ?_
    exact sn_iret dX11_keyAt_125
  · refine sn_iconst dX11_keyAt_13 ?_
    refine sn_istore_n (L' := [some (aA a), some (aI v4.1), some (aI v4.2), some (aI 0)]) dX11_keyAt_14 (by decide) rfl ?_
    refine sn_lp (La := fun v15 : Int => [some (aA a), some (aI v4.1), some (aI v4.2), some (aI v15)]) ?_ n 0 p7.2
    intro nx15 hnx15 v15 μ15
    refine sn_ldcS (k := 10) dX11_keyAt_15 (by decide) rfl (fun x15 => ?_)
    refine sn_iload_n dX11_keyAt_17 rfl ?_
    refine sn_iload_n dX11_keyAt_18 rfl ?_
    refine sn_iadd dX11_keyAt_19 ?_
    refine sn_callT (vs := [aI (v4.2 + v15)]) (cJ0_charAt_5068e_ok n x15 (v4.2 + v15) μ15) dX11_keyAt_20 cw_X11_100 rfl rfl (by decide) (by decide) (Nat.le_of_ble_eq_true rfl) (fun p20 => ?_)
    refine sn_bipush dX11_keyAt_23 (by decide) ?_
    refine sn_jn (pcj := 69) (La := fun v69 : Int => [some (aA a), some (aI v4.1), some (aI v4.2), some (aI v69)]) (Sa := fun v69 : Int => []) ?_ ?_
    · intro v69 μ69
      refine sn_ldcS (k := 10) dX11_keyAt_69 (by decide) rfl (fun x69 => ?_)
      refine sn_iload_n dX11_keyAt_71 rfl ?_
      refine sn_iload_n dX11_keyAt_72 rfl ?_
      refine sn_iadd dX11_keyAt_73 ?_
      refine sn_callT (vs := [aI (v4.2 + v69)]) (cJ0_charAt_5068e_ok n x69 (v4.2 + v69) μ69) dX11_keyAt_74 cw_X11_100 rfl rfl (by decide) (by decide) (Nat.le_of_ble_eq_true rfl) (fun p74 => ?_)
      refine sn_bipush dX11_keyAt_77 (by decide) ?_
      refine sn_jn (pcj := 97) (La := fun v97 : Unit => [some (aA a), some (aI v4.1), some (aI v4.2), none]) (Sa := fun v97 : Unit => []) ?_ ?_
      · intro v97 μ97
        refine sn_lp (La := fun v97 : Int => [some (aA a), some (aI v4.1), some (aI v97), none]) ?_ n v4.2 μ97
        intro nx97 hnx97 v97 μ97
        refine sn_ldcS (k := 10) dX11_keyAt_97 (by decide) rfl (fun x97 => ?_)
        refine sn_iload_n dX11_keyAt_99 rfl ?_
        refine sn_callT (vs := [aI v97]) (cJ0_charAt_5068e_ok n x97 v97 μ97) dX11_keyAt_100 cw_X11_100 rfl rfl (by decide) (by decide) (Nat.le_of_ble_eq_true rfl) (fun p100 => ?_)
        refine sn_bipush dX11_keyAt_103 (by decide) ?_
        refine sn_icmp_eq (tgt := 114) dX11_keyAt_105 (by decide) ?_ ?_
        · refine sn_iinc (L' := [some (aA a), some (aI v4.1), some (aI (v97 + 1)), none]) dX11_keyAt_114 rfl (by decide) rfl ?_
          refine sn_iinc (L' := [some (aA a), some (aI (v4.1 + 1)), some (aI (v97 + 1)), none]) dX11_keyAt_117 rfl (by decide) rfl ?_
          refine sn_goto (tgt := 4) dX11_keyAt_120 (by decide) ?_
          exact hnx4 ((v4.1 + 1), (v97 + 1)) p100.2
        · refine sn_iinc (L' := [some (aA a), some (aI v4.1), some (aI (v97 + 1)), none]) dX11_keyAt_108 rfl (by decide) rfl ?_
          refine sn_goto (tgt := 97) dX11_keyAt_111 (by decide) ?_
          exact hnx97 (v97 + 1) p100.2
      intro j97 hj97
      refine sn_icmp_ne (tgt := 97) dX11_keyAt_79 (by decide) ?_ ?_
      · exact sn_mask (L' := [some (aA a), some (aI v4.1), some (aI v4.2), none]) [true, true, true, false] rfl (hj97 () p74.2)
      · refine sn_aload_n dX11_keyAt_82 rfl ?_
        refine sn_getI (ci := 11) (j := 6) dX11_keyAt_83 fl_X11_104 rfl (fun x83 => ?_)
        refine sn_iload_n dX11_keyAt_86 rfl ?_
        refine sn_iadd dX11_keyAt_87 ?_
        refine sn_aload_n dX11_keyAt_88 rfl ?_
        refine sn_getI (ci := 11) (j := 7) dX11_keyAt_89 fl_X11_107 rfl (fun x89 => ?_)
        refine sn_icmp_ne (tgt := 97) dX11_keyAt_92 (by decide) ?_ ?_
        · exact sn_mask (L' := [some (aA a), some (aI v4.1), some (aI v4.2), none]) [true, true, true, false] rfl (hj97 () p74.2)
        · refine sn_iload_n dX11_keyAt_95 rfl ?_
          exact sn_iret dX11_keyAt_96
    intro j69 hj69
    refine sn_icmp_eq (tgt := 69) dX11_keyAt_25 (by decide) ?_ ?_
    · exact hj69 v15 p20.2
    · refine sn_aload_n dX11_keyAt_28 rfl ?_
      refine sn_getI (ci := 11) (j := 6) dX11_keyAt_29 fl_X11_104 rfl (fun x29 => ?_)
      refine sn_iload_n dX11_keyAt_32 rfl ?_
      refine sn_iadd dX11_keyAt_33 ?_
      refine sn_aload_n dX11_keyAt_34 rfl ?_
      refine sn_getI (ci := 11) (j := 7) dX11_keyAt_35 fl_X11_107 rfl (fun x35 => ?_)
      refine sn_icmp_ge (tgt := 69) dX11_keyAt_38 (by decide) ?_ ?_
      · exact hj69 v15 p20.2
      · refine sn_aload_n dX11_keyAt_41 rfl ?_
        refine sn_getA (ci := 11) (j := 3) dX11_keyAt_42 fl_X11_21 (by decide) (fun x42 => ?_)
        refine sn_aload_n dX11_keyAt_45 rfl ?_
        refine sn_getI (ci := 11) (j := 6) dX11_keyAt_46 fl_X11_104 rfl (fun x46 => ?_)
        refine sn_iload_n dX11_keyAt_49 rfl ?_
        refine sn_iadd dX11_keyAt_50 ?_
        refine sn_iald dX11_keyAt_51 (fun x51 => ?_)
        refine sn_ldcS (k := 10) dX11_keyAt_52 (by decide) rfl (fun x52 => ?_)
        refine sn_iload_n dX11_keyAt_54 rfl ?_
        refine sn_iload_n dX11_keyAt_55 rfl ?_
        refine sn_iadd dX11_keyAt_56 ?_
        refine sn_callT (vs := [aI (v4.2 + v15)]) (cJ0_charAt_5068e_ok n x52 (v4.2 + v15) p20.2) dX11_keyAt_57 cw_X11_100 rfl rfl (by decide) (by decide) (Nat.le_of_ble_eq_true rfl) (fun p57 => ?_)
        refine sn_icmp_ne (tgt := 69) dX11_keyAt_60 (by decide) ?_ ?_
        · exact hj69 v15 p57.2
        · refine sn_iinc (L' := [some (aA a), some (aI v4.1), some (aI v4.2), some (aI (v15 + 1))]) dX11_keyAt_63 rfl (by decide) rfl ?_
          refine sn_goto (tgt := 15) dX11_keyAt_66 (by decide) ?_
          exact hnx15 (v15 + 1) p57.2
theorem dX11_isDigit_0 : decode cX11_isDigit 0 = .ok (.iload_n 0, 1) := by decide +kernel
theorem dX11_isDigit_1 : decode cX11_isDigit 1 = .ok (.bipush 48, 2) := by decide +kernel
theorem dX11_isDigit_3 : decode cX11_isDigit 3 = .ok (.if_icmp .lt 13, 3) := by decide +kernel
theorem dX11_isDigit_6 : decode cX11_isDigit 6 = .ok (.iload_n 0, 1) := by decide +kernel
theorem dX11_isDigit_7 : decode cX11_isDigit 7 = .ok (.bipush 57, 2) := by decide +kernel
theorem dX11_isDigit_9 : decode cX11_isDigit 9 = .ok (.if_icmp .gt 7, 3) := by decide +kernel
theorem dX11_isDigit_12 : decode cX11_isDigit 12 = .ok (.iconst 1, 1) := by decide +kernel
theorem dX11_isDigit_13 : decode cX11_isDigit 13 = .ok (.goto 4, 3) := by decide +kernel
theorem dX11_isDigit_16 : decode cX11_isDigit 16 = .ok (.iconst 0, 1) := by decide +kernel
theorem dX11_isDigit_17 : decode cX11_isDigit 17 = .ok (.ireturn, 1) := by decide +kernel
def mX11_isDigit (n : Nat) (b1 : Int) (μ : Mem) : Option (Int × Mem) :=
  if lt32 b1 48 then
    retZ 0 μ
  else
  if lt32 57 b1 then
    retZ 0 μ
  else
  retZ 1 μ
set_option maxRecDepth 100000 in
set_option maxHeartbeats 4000000 in
theorem cX11_isDigit_ok (n : Nat) (b1 : Int) (μ : Mem) : Mc yX11_isDigit cX11_isDigit 1 (some .boolean) 0 0 eI [aI b1] μ (mX11_isDigit n b1 μ) := by
  refine mc_of (L0 := [some (aI b1)]) (k := 0) (by decide) rfl rfl (fun X Γ => ?_)
  unfold mX11_isDigit
  refine sn_iload_n dX11_isDigit_0 rfl ?_
  refine sn_bipush dX11_isDigit_1 (by decide) ?_
  refine sn_icmp_lt (tgt := 16) dX11_isDigit_3 (by decide) ?_ ?_
  · refine sn_iconst dX11_isDigit_16 ?_
    exact sn_zret dX11_isDigit_17
  · refine sn_iload_n dX11_isDigit_6 rfl ?_
    refine sn_bipush dX11_isDigit_7 (by decide) ?_
    refine sn_icmp_gt (tgt := 16) dX11_isDigit_9 (by decide) ?_ ?_
    · refine sn_iconst dX11_isDigit_16 ?_
      exact sn_zret dX11_isDigit_17
    · refine sn_iconst dX11_isDigit_12 ?_
      refine sn_goto (tgt := 17) dX11_isDigit_13 (by decide) ?_
      exact sn_zret dX11_isDigit_17
theorem dX11_next_0 : decode cX11_next 0 = .ok (.aload_n 0, 1) := by decide +kernel
theorem dX11_next_1 : decode cX11_next 1 = .ok (.aload_n 0, 1) := by decide +kernel
theorem dX11_next_2 : decode cX11_next 2 = .ok (.getfield 107, 3) := by decide +kernel
theorem dX11_next_5 : decode cX11_next 5 = .ok (.putfield 104, 3) := by decide +kernel
theorem dX11_next_8 : decode cX11_next 8 = .ok (.aload_n 0, 1) := by decide +kernel
theorem dX11_next_9 : decode cX11_next 9 = .ok (.aload_n 0, 1) := by decide +kernel
theorem dX11_next_10 : decode cX11_next 10 = .ok (.getfield 104, 3) := by decide +kernel
theorem dX11_next_13 : decode cX11_next 13 = .ok (.invokevirtual 110, 3) := by decide +kernel
theorem dX11_next_16 : decode cX11_next 16 = .ok (.bipush 10, 2) := by decide +kernel
theorem dX11_next_18 : decode cX11_next 18 = .ok (.if_icmp .eq 16, 3) := by decide +kernel
theorem dX11_next_21 : decode cX11_next 21 = .ok (.aload_n 0, 1) := by decide +kernel
theorem dX11_next_22 : decode cX11_next 22 = .ok (.aload_n 0, 1) := by decide +kernel
theorem dX11_next_23 : decode cX11_next 23 = .ok (.getfield 104, 3) := by decide +kernel
theorem dX11_next_26 : decode cX11_next 26 = .ok (.invokevirtual 110, 3) := by decide +kernel
theorem dX11_next_29 : decode cX11_next 29 = .ok (.bipush 32, 2) := by decide +kernel
theorem dX11_next_31 : decode cX11_next 31 = .ok (.if_icmp .ne 16, 3) := by decide +kernel
theorem dX11_next_34 : decode cX11_next 34 = .ok (.aload_n 0, 1) := by decide +kernel
theorem dX11_next_35 : decode cX11_next 35 = .ok (.dup, 1) := by decide +kernel
theorem dX11_next_36 : decode cX11_next 36 = .ok (.getfield 104, 3) := by decide +kernel
theorem dX11_next_39 : decode cX11_next 39 = .ok (.iconst 1, 1) := by decide +kernel
theorem dX11_next_40 : decode cX11_next 40 = .ok (.iadd, 1) := by decide +kernel
theorem dX11_next_41 : decode cX11_next 41 = .ok (.putfield 104, 3) := by decide +kernel
theorem dX11_next_44 : decode cX11_next 44 = .ok (.goto (-36), 3) := by decide +kernel
theorem dX11_next_47 : decode cX11_next 47 = .ok (.aload_n 0, 1) := by decide +kernel
theorem dX11_next_48 : decode cX11_next 48 = .ok (.aload_n 0, 1) := by decide +kernel
theorem dX11_next_49 : decode cX11_next 49 = .ok (.getfield 104, 3) := by decide +kernel
theorem dX11_next_52 : decode cX11_next 52 = .ok (.putfield 107, 3) := by decide +kernel
theorem dX11_next_55 : decode cX11_next 55 = .ok (.aload_n 0, 1) := by decide +kernel
theorem dX11_next_56 : decode cX11_next 56 = .ok (.getfield 104, 3) := by decide +kernel
theorem dX11_next_59 : decode cX11_next 59 = .ok (.aload_n 0, 1) := by decide +kernel
theorem dX11_next_60 : decode cX11_next 60 = .ok (.getfield 89, 3) := by decide +kernel
theorem dX11_next_63 : decode cX11_next 63 = .ok (.if_icmp .lt 12, 3) := by decide +kernel
theorem dX11_next_66 : decode cX11_next 66 = .ok (.aload_n 0, 1) := by decide +kernel
theorem dX11_next_67 : decode cX11_next 67 = .ok (.bipush 13, 2) := by decide +kernel
theorem dX11_next_69 : decode cX11_next 69 = .ok (.putfield 114, 3) := by decide +kernel
theorem dX11_next_72 : decode cX11_next 72 = .ok (.goto 198, 3) := by decide +kernel
theorem dX11_next_75 : decode cX11_next 75 = .ok (.aload_n 0, 1) := by decide +kernel
theorem dX11_next_76 : decode cX11_next 76 = .ok (.aload_n 0, 1) := by decide +kernel
theorem dX11_next_77 : decode cX11_next 77 = .ok (.getfield 104, 3) := by decide +kernel
theorem dX11_next_80 : decode cX11_next 80 = .ok (.invokevirtual 110, 3) := by decide +kernel
theorem dX11_next_83 : decode cX11_next 83 = .ok (.invokestatic 117, 3) := by decide +kernel
theorem dX11_next_86 : decode cX11_next 86 = .ok (.ifCond .eq 41, 3) := by decide +kernel
theorem dX11_next_89 : decode cX11_next 89 = .ok (.aload_n 0, 1) := by decide +kernel
theorem dX11_next_90 : decode cX11_next 90 = .ok (.aload_n 0, 1) := by decide +kernel
theorem dX11_next_91 : decode cX11_next 91 = .ok (.getfield 107, 3) := by decide +kernel
theorem dX11_next_94 : decode cX11_next 94 = .ok (.invokevirtual 110, 3) := by decide +kernel
theorem dX11_next_97 : decode cX11_next 97 = .ok (.invokestatic 117, 3) := by decide +kernel
theorem dX11_next_100 : decode cX11_next 100 = .ok (.ifCond .eq 16, 3) := by decide +kernel
theorem dX11_next_103 : decode cX11_next 103 = .ok (.aload_n 0, 1) := by decide +kernel
theorem dX11_next_104 : decode cX11_next 104 = .ok (.dup, 1) := by decide +kernel
theorem dX11_next_105 : decode cX11_next 105 = .ok (.getfield 107, 3) := by decide +kernel
theorem dX11_next_108 : decode cX11_next 108 = .ok (.iconst 1, 1) := by decide +kernel
theorem dX11_next_109 : decode cX11_next 109 = .ok (.iadd, 1) := by decide +kernel
theorem dX11_next_110 : decode cX11_next 110 = .ok (.putfield 107, 3) := by decide +kernel
theorem dX11_next_113 : decode cX11_next 113 = .ok (.goto (-24), 3) := by decide +kernel
theorem dX11_next_116 : decode cX11_next 116 = .ok (.aload_n 0, 1) := by decide +kernel
theorem dX11_next_117 : decode cX11_next 117 = .ok (.aload_n 0, 1) := by decide +kernel
theorem dX11_next_118 : decode cX11_next 118 = .ok (.invokevirtual 121, 3) := by decide +kernel
theorem dX11_next_121 : decode cX11_next 121 = .ok (.putfield 114, 3) := by decide +kernel
theorem dX11_next_124 : decode cX11_next 124 = .ok (.goto 146, 3) := by decide +kernel
theorem dX11_next_127 : decode cX11_next 127 = .ok (.aload_n 0, 1) := by decide +kernel
theorem dX11_next_128 : decode cX11_next 128 = .ok (.aload_n 0, 1) := by decide +kernel
theorem dX11_next_129 : decode cX11_next 129 = .ok (.getfield 104, 3) := by decide +kernel
theorem dX11_next_132 : decode cX11_next 132 = .ok (.invokevirtual 110, 3) := by decide +kernel
theorem dX11_next_135 : decode cX11_next 135 = .ok (.invokestatic 124, 3) := by decide +kernel
theorem dX11_next_138 : decode cX11_next 138 = .ok (.ifCond .eq 98, 3) := by decide +kernel
theorem dX11_next_141 : decode cX11_next 141 = .ok (.aload_n 0, 1) := by decide +kernel
theorem dX11_next_142 : decode cX11_next 142 = .ok (.iconst 0, 1) := by decide +kernel
theorem dX11_next_143 : decode cX11_next 143 = .ok (.putfield 127, 3) := by decide +kernel
theorem dX11_next_146 : decode cX11_next 146 = .ok (.aload_n 0, 1) := by decide +kernel
theorem dX11_next_147 : decode cX11_next 147 = .ok (.aload_n 0, 1) := by decide +kernel
theorem dX11_next_148 : decode cX11_next 148 = .ok (.getfield 107, 3) := by decide +kernel
theorem dX11_next_151 : decode cX11_next 151 = .ok (.invokevirtual 110, 3) := by decide +kernel
theorem dX11_next_154 : decode cX11_next 154 = .ok (.invokestatic 124, 3) := by decide +kernel
theorem dX11_next_157 : decode cX11_next 157 = .ok (.ifCond .eq 52, 3) := by decide +kernel
theorem dX11_next_160 : decode cX11_next 160 = .ok (.aload_n 0, 1) := by decide +kernel
theorem dX11_next_161 : decode cX11_next 161 = .ok (.getfield 107, 3) := by decide +kernel
theorem dX11_next_164 : decode cX11_next 164 = .ok (.aload_n 0, 1) := by decide +kernel
theorem dX11_next_165 : decode cX11_next 165 = .ok (.getfield 104, 3) := by decide +kernel
theorem dX11_next_168 : decode cX11_next 168 = .ok (.isub, 1) := by decide +kernel
theorem dX11_next_169 : decode cX11_next 169 = .ok (.iconst 4, 1) := by decide +kernel
theorem dX11_next_170 : decode cX11_next 170 = .ok (.if_icmp .ge 26, 3) := by decide +kernel
theorem dX11_next_173 : decode cX11_next 173 = .ok (.aload_n 0, 1) := by decide +kernel
theorem dX11_next_174 : decode cX11_next 174 = .ok (.bipush 10, 2) := by decide +kernel
theorem dX11_next_176 : decode cX11_next 176 = .ok (.aload_n 0, 1) := by decide +kernel
theorem dX11_next_177 : decode cX11_next 177 = .ok (.getfield 127, 3) := by decide +kernel
theorem dX11_next_180 : decode cX11_next 180 = .ok (.imul, 1) := by decide +kernel
theorem dX11_next_181 : decode cX11_next 181 = .ok (.aload_n 0, 1) := by decide +kernel
theorem dX11_next_182 : decode cX11_next 182 = .ok (.aload_n 0, 1) := by decide +kernel
theorem dX11_next_183 : decode cX11_next 183 = .ok (.getfield 107, 3) := by decide +kernel
theorem dX11_next_186 : decode cX11_next 186 = .ok (.invokevirtual 110, 3) := by decide +kernel
theorem dX11_next_189 : decode cX11_next 189 = .ok (.iadd, 1) := by decide +kernel
theorem dX11_next_190 : decode cX11_next 190 = .ok (.bipush 48, 2) := by decide +kernel
theorem dX11_next_192 : decode cX11_next 192 = .ok (.isub, 1) := by decide +kernel
theorem dX11_next_193 : decode cX11_next 193 = .ok (.putfield 127, 3) := by decide +kernel
theorem dX11_next_196 : decode cX11_next 196 = .ok (.aload_n 0, 1) := by decide +kernel
theorem dX11_next_197 : decode cX11_next 197 = .ok (.dup, 1) := by decide +kernel
theorem dX11_next_198 : decode cX11_next 198 = .ok (.getfield 107, 3) := by decide +kernel
theorem dX11_next_201 : decode cX11_next 201 = .ok (.iconst 1, 1) := by decide +kernel
theorem dX11_next_202 : decode cX11_next 202 = .ok (.iadd, 1) := by decide +kernel
theorem dX11_next_203 : decode cX11_next 203 = .ok (.putfield 107, 3) := by decide +kernel
theorem dX11_next_206 : decode cX11_next 206 = .ok (.goto (-60), 3) := by decide +kernel
theorem dX11_next_209 : decode cX11_next 209 = .ok (.aload_n 0, 1) := by decide +kernel
theorem dX11_next_210 : decode cX11_next 210 = .ok (.aload_n 0, 1) := by decide +kernel
theorem dX11_next_211 : decode cX11_next 211 = .ok (.getfield 107, 3) := by decide +kernel
theorem dX11_next_214 : decode cX11_next 214 = .ok (.aload_n 0, 1) := by decide +kernel
theorem dX11_next_215 : decode cX11_next 215 = .ok (.getfield 104, 3) := by decide +kernel
theorem dX11_next_218 : decode cX11_next 218 = .ok (.isub, 1) := by decide +kernel
theorem dX11_next_219 : decode cX11_next 219 = .ok (.iconst 4, 1) := by decide +kernel
theorem dX11_next_220 : decode cX11_next 220 = .ok (.if_icmp .le 8, 3) := by decide +kernel
theorem dX11_next_223 : decode cX11_next 223 = .ok (.bipush 14, 2) := by decide +kernel
theorem dX11_next_225 : decode cX11_next 225 = .ok (.goto 5, 3) := by decide +kernel
theorem dX11_next_228 : decode cX11_next 228 = .ok (.bipush 11, 2) := by decide +kernel
theorem dX11_next_230 : decode cX11_next 230 = .ok (.putfield 114, 3) := by decide +kernel
theorem dX11_next_233 : decode cX11_next 233 = .ok (.goto 37, 3) := by decide +kernel
theorem dX11_next_236 : decode cX11_next 236 = .ok (.aload_n 0, 1) := by decide +kernel
theorem dX11_next_237 : decode cX11_next 237 = .ok (.dup, 1) := by decide +kernel
theorem dX11_next_238 : decode cX11_next 238 = .ok (.getfield 107, 3) := by decide +kernel
theorem dX11_next_241 : decode cX11_next 241 = .ok (.iconst 1, 1) := by decide +kernel
theorem dX11_next_242 : decode cX11_next 242 = .ok (.iadd, 1) := by decide +kernel
theorem dX11_next_243 : decode cX11_next 243 = .ok (.putfield 107, 3) := by decide +kernel
theorem dX11_next_246 : decode cX11_next 246 = .ok (.aload_n 0, 1) := by decide +kernel
theorem dX11_next_247 : decode cX11_next 247 = .ok (.aload_n 0, 1) := by decide +kernel
theorem dX11_next_248 : decode cX11_next 248 = .ok (.aload_n 0, 1) := by decide +kernel
theorem dX11_next_249 : decode cX11_next 249 = .ok (.getfield 104, 3) := by decide +kernel
theorem dX11_next_252 : decode cX11_next 252 = .ok (.invokevirtual 110, 3) := by decide +kernel
theorem dX11_next_255 : decode cX11_next 255 = .ok (.bipush 59, 2) := by decide +kernel
theorem dX11_next_257 : decode cX11_next 257 = .ok (.if_icmp .ne 8, 3) := by decide +kernel
theorem dX11_next_260 : decode cX11_next 260 = .ok (.bipush 12, 2) := by decide +kernel
theorem dX11_next_262 : decode cX11_next 262 = .ok (.goto 5, 3) := by decide +kernel
theorem dX11_next_265 : decode cX11_next 265 = .ok (.bipush 14, 2) := by decide +kernel
theorem dX11_next_267 : decode cX11_next 267 = .ok (.putfield 114, 3) := by decide +kernel
theorem dX11_next_270 : decode cX11_next 270 = .ok (.return_, 1) := by decide +kernel
def mX11_next (n : Nat) (a : Nat) (μ : Mem) : Option (Unit × Mem) :=
  (gI μ 12 a 7).bind fun x2 =>
  (pI μ 12 a 6 x2).bind fun μ5 =>
  lp (fun nx8 (v8 : Unit) (μ8 : Mem) =>
  (gI μ8 12 a 6).bind fun x10 =>
  (inv μ8 12 a (mX11_see n a x10 μ8)).bind fun p13 =>
  jn (fun (v34 : Unit) (μ34 : Mem) =>
  (gI μ34 12 a 6).bind fun x36 =>
  (pI μ34 12 a 6 (x36 + 1)).bind fun μ41 =>
  nx8 () μ41) (fun j34 =>
  if eq32 p13.1 10 then
    j34 () p13.2
  else
  (gI p13.2 12 a 6).bind fun x23 =>
  (inv p13.2 12 a (mX11_see n a x23 p13.2)).bind fun p26 =>
  if eq32 p26.1 32 then
    j34 () p26.2
  else
  (gI p26.2 12 a 6).bind fun x49 =>
  (pI p26.2 12 a 7 x49).bind fun μ52 =>
  (gI μ52 12 a 6).bind fun x56 =>
  (gI μ52 12 a 8).bind fun x60 =>
  if lt32 x56 x60 then
    (gI μ52 12 a 6).bind fun x77 =>
    (inv μ52 12 a (mX11_see n a x77 μ52)).bind fun p80 =>
    (mX11_isSmall n p80.1 p80.2).bind fun p83 =>
    if eq32 p83.1 0 then
      (gI p83.2 12 a 6).bind fun x129 =>
      (inv p83.2 12 a (mX11_see n a x129 p83.2)).bind fun p132 =>
      (mX11_isDigit n p132.1 p132.2).bind fun p135 =>
      if eq32 p135.1 0 then
        (gI p135.2 12 a 7).bind fun x238 =>
        (pI p135.2 12 a 7 (x238 + 1)).bind fun μ243 =>
        (gI μ243 12 a 6).bind fun x249 =>
        (inv μ243 12 a (mX11_see n a x249 μ243)).bind fun p252 =>
        jn (fun (v267 : Int) (μ267 : Mem) =>
        (pI μ267 12 a 9 v267).bind fun μ267 =>
        some ((), μ267)) (fun j267 =>
        if eq32 p252.1 59 then
          j267 12 p252.2
        else
        j267 14 p252.2)
      else
      (pI p135.2 12 a 10 0).bind fun μ143 =>
      lp (fun nx146 (v146 : Unit) (μ146 : Mem) =>
      (gI μ146 12 a 7).bind fun x148 =>
      (inv μ146 12 a (mX11_see n a x148 μ146)).bind fun p151 =>
      (mX11_isDigit n p151.1 p151.2).bind fun p154 =>
      if eq32 p154.1 0 then
        (gI p154.2 12 a 7).bind fun x211 =>
        (gI p154.2 12 a 6).bind fun x215 =>
        jn (fun (v230 : Int) (μ230 : Mem) =>
        (pI μ230 12 a 9 v230).bind fun μ230 =>
        some ((), μ230)) (fun j230 =>
        if lt32 4 (x211 - x215) then
          j230 14 p154.2
        else
        j230 11 p154.2)
      else
      (gI p154.2 12 a 7).bind fun x161 =>
      (gI p154.2 12 a 6).bind fun x165 =>
      jn (fun (v196 : Unit) (μ196 : Mem) =>
      (gI μ196 12 a 7).bind fun x198 =>
      (pI μ196 12 a 7 (x198 + 1)).bind fun μ203 =>
      nx146 () μ203) (fun j196 =>
      if lt32 (x161 - x165) 4 then
        (gI p154.2 12 a 10).bind fun x177 =>
        (gI p154.2 12 a 7).bind fun x183 =>
        (inv p154.2 12 a (mX11_see n a x183 p154.2)).bind fun p186 =>
        (pI p186.2 12 a 10 (((10 * x177) + p186.1) - 48)).bind fun μ193 =>
        j196 () μ193
      else
      j196 () p154.2)) n () μ143
    else
    lp (fun nx89 (v89 : Unit) (μ89 : Mem) =>
    (gI μ89 12 a 7).bind fun x91 =>
    (inv μ89 12 a (mX11_see n a x91 μ89)).bind fun p94 =>
    (mX11_isSmall n p94.1 p94.2).bind fun p97 =>
    if eq32 p97.1 0 then
      (inv p97.2 12 a (mX11_keyAt n a p97.2)).bind fun p118 =>
      (pI p118.2 12 a 9 p118.1).bind fun μ121 =>
      some ((), μ121)
    else
    (gI p97.2 12 a 7).bind fun x105 =>
    (pI p97.2 12 a 7 (x105 + 1)).bind fun μ110 =>
    nx89 () μ110) n () p83.2
  else
  (pI μ52 12 a 9 13).bind fun μ69 =>
  some ((), μ69))) n () μ5
set_option maxRecDepth 100000 in
set_option maxHeartbeats 4000000 in
theorem cX11_next_ok (n : Nat) (a : Nat) (μ : Mem) : Mc yX11_next cX11_next 1 none 5 108 eV [aA a] μ (mX11_next n a μ) := by
  refine mc_of (L0 := [some (aA a)]) (k := 0) (by decide) rfl rfl (fun X Γ => ?_)
  unfold mX11_next
  refine sn_aload_n dX11_next_0 rfl ?_
  refine sn_aload_n dX11_next_1 rfl ?_
  refine sn_getI (ci := 11) (j := 7) dX11_next_2 fl_X11_107 rfl (fun x2 => ?_)
  refine sn_putI (ci := 11) (j := 6) dX11_next_5 fl_X11_104 rfl (fun q h => by cases h; rfl) (fun μ5 => ?_)
  refine sn_lp (La := fun v8 : Unit => [some (aA a)]) ?_ n () μ5
  intro nx8 hnx8 v8 μ8
  refine sn_aload_n dX11_next_8 rfl ?_
  refine sn_aload_n dX11_next_9 rfl ?_
  refine sn_getI (ci := 11) (j := 6) dX11_next_10 fl_X11_104 rfl (fun x10 => ?_)
  refine sn_callVI (vs := [aI x10]) (ci := 11) (cX11_see_ok n a x10 μ8) dX11_next_13 cw_X11_110 rfl rfl rfl (by decide) (by decide) (Nat.le_of_ble_eq_true rfl) (fun p13 => ?_)
  refine sn_bipush dX11_next_16 (by decide) ?_
  refine sn_jn (pcj := 34) (La := fun v34 : Unit => [some (aA a)]) (Sa := fun v34 : Unit => []) ?_ ?_
  · intro v34 μ34
    refine sn_aload_n dX11_next_34 rfl ?_
    refine sn_dup dX11_next_35 rfl ?_
    refine sn_getI (ci := 11) (j := 6) dX11_next_36 fl_X11_104 rfl (fun x36 => ?_)
    refine sn_iconst dX11_next_39 ?_
    refine sn_iadd dX11_next_40 ?_
    refine sn_putI (ci := 11) (j := 6) dX11_next_41 fl_X11_104 rfl (fun q h => by cases h; rfl) (fun μ41 => ?_)
    refine sn_goto (tgt := 8) dX11_next_44 (by decide) ?_
    exact hnx8 () μ41
  intro j34 hj34
  refine sn_icmp_eq (tgt := 34) dX11_next_18 (by decide) ?_ ?_
  · exact hj34 () p13.2
  · refine sn_aload_n dX11_next_21 rfl ?_
    refine sn_aload_n dX11_next_22 rfl ?_
    refine sn_getI (ci := 11) (j := 6) dX11_next_23 fl_X11_104 rfl (fun x23 => ?_)
    refine sn_callVI (vs := [aI x23]) (ci := 11) (cX11_see_ok n a x23 p13.2) dX11_next_26 cw_X11_110 rfl rfl rfl (by decide) (by decide) (Nat.le_of_ble_eq_true rfl) (fun p26 => ?_)
    refine sn_bipush dX11_next_29 (by decide) ?_
    refine sn_icmp_ne (tgt := 47) dX11_next_31 (by decide) ?_ ?_
    · refine sn_aload_n dX11_next_47 rfl ?_
      refine sn_aload_n dX11_next_48 rfl ?_
      refine sn_getI (ci := 11) (j := 6) dX11_next_49 fl_X11_104 rfl (fun x49 => ?_)
      refine sn_putI (ci := 11) (j := 7) dX11_next_52 fl_X11_107 rfl (fun q h => by cases h; rfl) (fun μ52 => ?_)
      refine sn_aload_n dX11_next_55 rfl ?_
      refine sn_getI (ci := 11) (j := 6) dX11_next_56 fl_X11_104 rfl (fun x56 => ?_)
      refine sn_aload_n dX11_next_59 rfl ?_
      refine sn_getI (ci := 11) (j := 8) dX11_next_60 fl_X11_89 rfl (fun x60 => ?_)
      refine sn_icmp_lt (tgt := 75) dX11_next_63 (by decide) ?_ ?_
      · refine sn_aload_n dX11_next_75 rfl ?_
        refine sn_aload_n dX11_next_76 rfl ?_
        refine sn_getI (ci := 11) (j := 6) dX11_next_77 fl_X11_104 rfl (fun x77 => ?_)
        refine sn_callVI (vs := [aI x77]) (ci := 11) (cX11_see_ok n a x77 μ52) dX11_next_80 cw_X11_110 rfl rfl rfl (by decide) (by decide) (Nat.le_of_ble_eq_true rfl) (fun p80 => ?_)
        refine sn_callSI (vs := [aI p80.1]) (cX11_isSmall_ok n p80.1 p80.2) dX11_next_83 cw_X11_117 rfl (by decide) (by decide) (Nat.le_of_ble_eq_true rfl) (fun p83 => ?_)
        refine sn_if_eq (tgt := 127) dX11_next_86 (by decide) ?_ ?_
        · refine sn_aload_n dX11_next_127 rfl ?_
          refine sn_aload_n dX11_next_128 rfl ?_
          refine sn_getI (ci := 11) (j := 6) dX11_next_129 fl_X11_104 rfl (fun x129 => ?_)
          refine sn_callVI (vs := [aI x129]) (ci := 11) (cX11_see_ok n a x129 p83.2) dX11_next_132 cw_X11_110 rfl rfl rfl (by decide) (by decide) (Nat.le_of_ble_eq_true rfl) (fun p132 => ?_)
          refine sn_callSI (vs := [aI p132.1]) (cX11_isDigit_ok n p132.1 p132.2) dX11_next_135 cw_X11_124 rfl (by decide) (by decide) (Nat.le_of_ble_eq_true rfl) (fun p135 => ?_)
          refine sn_if_eq (tgt := 236) dX11_next_138 (by decide) ?_ ?_
          · refine sn_aload_n dX11_next_236 rfl ?_
            refine sn_dup dX11_next_237 rfl ?_
            refine sn_getI (ci := 11) (j := 7) dX11_next_238 fl_X11_107 rfl (fun x238 => ?_)
            refine sn_iconst dX11_next_241 ?_
            refine sn_iadd dX11_next_242 ?_
            refine sn_putI (ci := 11) (j := 7) dX11_next_243 fl_X11_107 rfl (fun q h => by cases h; rfl) (fun μ243 => ?_)
            refine sn_aload_n dX11_next_246 rfl ?_
            refine sn_aload_n dX11_next_247 rfl ?_
            refine sn_aload_n dX11_next_248 rfl ?_
            refine sn_getI (ci := 11) (j := 6) dX11_next_249 fl_X11_104 rfl (fun x249 => ?_)
            refine sn_callVI (vs := [aI x249]) (ci := 11) (cX11_see_ok n a x249 μ243) dX11_next_252 cw_X11_110 rfl rfl rfl (by decide) (by decide) (Nat.le_of_ble_eq_true rfl) (fun p252 => ?_)
            refine sn_bipush dX11_next_255 (by decide) ?_
            refine sn_jn (pcj := 267) (La := fun v267 : Int => [none]) (Sa := fun v267 : Int => [aI v267, aA a]) ?_ ?_
            · intro v267 μ267
              refine sn_putI (ci := 11) (j := 9) dX11_next_267 fl_X11_114 rfl (fun q h => by cases h; rfl) (fun μ267 => ?_)
              exact sn_vret dX11_next_270
            intro j267 hj267
            refine sn_icmp_ne (tgt := 265) dX11_next_257 (by decide) ?_ ?_
            · refine sn_bipush dX11_next_265 (by decide) ?_
              exact sn_mask (L' := [none]) [false] rfl (hj267 14 p252.2)
            · refine sn_bipush dX11_next_260 (by decide) ?_
              refine sn_goto (tgt := 267) dX11_next_262 (by decide) ?_
              exact sn_mask (L' := [none]) [false] rfl (hj267 12 p252.2)
          · refine sn_aload_n dX11_next_141 rfl ?_
            refine sn_iconst dX11_next_142 ?_
            refine sn_putI (ci := 11) (j := 10) dX11_next_143 fl_X11_127 rfl (fun q h => by cases h; rfl) (fun μ143 => ?_)
            refine sn_lp (La := fun v146 : Unit => [some (aA a)]) ?_ n () μ143
            intro nx146 hnx146 v146 μ146
            refine sn_aload_n dX11_next_146 rfl ?_
            refine sn_aload_n dX11_next_147 rfl ?_
            refine sn_getI (ci := 11) (j := 7) dX11_next_148 fl_X11_107 rfl (fun x148 => ?_)
            refine sn_callVI (vs := [aI x148]) (ci := 11) (cX11_see_ok n a x148 μ146) dX11_next_151 cw_X11_110 rfl rfl rfl (by decide) (by decide) (Nat.le_of_ble_eq_true rfl) (fun p151 => ?_)
            refine sn_callSI (vs := [aI p151.1]) (cX11_isDigit_ok n p151.1 p151.2) dX11_next_154 cw_X11_124 rfl (by decide) (by decide) (Nat.le_of_ble_eq_true rfl) (fun p154 => ?_)
            refine sn_if_eq (tgt := 209) dX11_next_157 (by decide) ?_ ?_
            · refine sn_aload_n dX11_next_209 rfl ?_
              refine sn_aload_n dX11_next_210 rfl ?_
              refine sn_getI (ci := 11) (j := 7) dX11_next_211 fl_X11_107 rfl (fun x211 => ?_)
              refine sn_aload_n dX11_next_214 rfl ?_
              refine sn_getI (ci := 11) (j := 6) dX11_next_215 fl_X11_104 rfl (fun x215 => ?_)
              refine sn_isub dX11_next_218 ?_
              refine sn_iconst dX11_next_219 ?_
              refine sn_jn (pcj := 230) (La := fun v230 : Int => [none]) (Sa := fun v230 : Int => [aI v230, aA a]) ?_ ?_
              · intro v230 μ230
                refine sn_putI (ci := 11) (j := 9) dX11_next_230 fl_X11_114 rfl (fun q h => by cases h; rfl) (fun μ230 => ?_)
                refine sn_goto (tgt := 270) dX11_next_233 (by decide) ?_
                exact sn_vret dX11_next_270
              intro j230 hj230
              refine sn_icmp_le (tgt := 228) dX11_next_220 (by decide) ?_ ?_
              · refine sn_bipush dX11_next_228 (by decide) ?_
                exact sn_mask (L' := [none]) [false] rfl (hj230 11 p154.2)
              · refine sn_bipush dX11_next_223 (by decide) ?_
                refine sn_goto (tgt := 230) dX11_next_225 (by decide) ?_
                exact sn_mask (L' := [none]) [false] rfl (hj230 14 p154.2)
            · refine sn_aload_n dX11_next_160 rfl ?_
              refine sn_getI (ci := 11) (j := 7) dX11_next_161 fl_X11_107 rfl (fun x161 => ?_)
              refine sn_aload_n dX11_next_164 rfl ?_
              refine sn_getI (ci := 11) (j := 6) dX11_next_165 fl_X11_104 rfl (fun x165 => ?_)
              refine sn_isub dX11_next_168 ?_
              refine sn_iconst dX11_next_169 ?_
              refine sn_jn (pcj := 196) (La := fun v196 : Unit => [some (aA a)]) (Sa := fun v196 : Unit => []) ?_ ?_
              · intro v196 μ196
                refine sn_aload_n dX11_next_196 rfl ?_
                refine sn_dup dX11_next_197 rfl ?_
                refine sn_getI (ci := 11) (j := 7) dX11_next_198 fl_X11_107 rfl (fun x198 => ?_)
                refine sn_iconst dX11_next_201 ?_
                refine sn_iadd dX11_next_202 ?_
                refine sn_putI (ci := 11) (j := 7) dX11_next_203 fl_X11_107 rfl (fun q h => by cases h; rfl) (fun μ203 => ?_)
                refine sn_goto (tgt := 146) dX11_next_206 (by decide) ?_
                exact hnx146 () μ203
              intro j196 hj196
              refine sn_icmp_ge (tgt := 196) dX11_next_170 (by decide) ?_ ?_
              · exact hj196 () p154.2
              · refine sn_aload_n dX11_next_173 rfl ?_
                refine sn_bipush dX11_next_174 (by decide) ?_
                refine sn_aload_n dX11_next_176 rfl ?_
                refine sn_getI (ci := 11) (j := 10) dX11_next_177 fl_X11_127 rfl (fun x177 => ?_)
                refine sn_imul dX11_next_180 ?_
                refine sn_aload_n dX11_next_181 rfl ?_
                refine sn_aload_n dX11_next_182 rfl ?_
                refine sn_getI (ci := 11) (j := 7) dX11_next_183 fl_X11_107 rfl (fun x183 => ?_)
                refine sn_callVI (vs := [aI x183]) (ci := 11) (cX11_see_ok n a x183 p154.2) dX11_next_186 cw_X11_110 rfl rfl rfl (by decide) (by decide) (Nat.le_of_ble_eq_true rfl) (fun p186 => ?_)
                refine sn_iadd dX11_next_189 ?_
                refine sn_bipush dX11_next_190 (by decide) ?_
                refine sn_isub dX11_next_192 ?_
                refine sn_putI (ci := 11) (j := 10) dX11_next_193 fl_X11_127 rfl (fun q h => by cases h; rfl) (fun μ193 => ?_)
                exact hj196 () μ193
        · refine sn_lp (La := fun v89 : Unit => [some (aA a)]) ?_ n () p83.2
          intro nx89 hnx89 v89 μ89
          refine sn_aload_n dX11_next_89 rfl ?_
          refine sn_aload_n dX11_next_90 rfl ?_
          refine sn_getI (ci := 11) (j := 7) dX11_next_91 fl_X11_107 rfl (fun x91 => ?_)
          refine sn_callVI (vs := [aI x91]) (ci := 11) (cX11_see_ok n a x91 μ89) dX11_next_94 cw_X11_110 rfl rfl rfl (by decide) (by decide) (Nat.le_of_ble_eq_true rfl) (fun p94 => ?_)
          refine sn_callSI (vs := [aI p94.1]) (cX11_isSmall_ok n p94.1 p94.2) dX11_next_97 cw_X11_117 rfl (by decide) (by decide) (Nat.le_of_ble_eq_true rfl) (fun p97 => ?_)
          refine sn_if_eq (tgt := 116) dX11_next_100 (by decide) ?_ ?_
          · refine sn_aload_n dX11_next_116 rfl ?_
            refine sn_aload_n dX11_next_117 rfl ?_
            refine sn_callVI (vs := []) (ci := 11) (cX11_keyAt_ok n a p97.2) dX11_next_118 cw_X11_121 rfl rfl rfl (by decide) (by decide) (Nat.le_of_ble_eq_true rfl) (fun p118 => ?_)
            refine sn_putI (ci := 11) (j := 9) dX11_next_121 fl_X11_114 rfl (fun q h => by cases h; rfl) (fun μ121 => ?_)
            refine sn_goto (tgt := 270) dX11_next_124 (by decide) ?_
            exact sn_vret dX11_next_270
          · refine sn_aload_n dX11_next_103 rfl ?_
            refine sn_dup dX11_next_104 rfl ?_
            refine sn_getI (ci := 11) (j := 7) dX11_next_105 fl_X11_107 rfl (fun x105 => ?_)
            refine sn_iconst dX11_next_108 ?_
            refine sn_iadd dX11_next_109 ?_
            refine sn_putI (ci := 11) (j := 7) dX11_next_110 fl_X11_107 rfl (fun q h => by cases h; rfl) (fun μ110 => ?_)
            refine sn_goto (tgt := 89) dX11_next_113 (by decide) ?_
            exact hnx89 () μ110
      · refine sn_aload_n dX11_next_66 rfl ?_
        refine sn_bipush dX11_next_67 (by decide) ?_
        refine sn_putI (ci := 11) (j := 9) dX11_next_69 fl_X11_114 rfl (fun q h => by cases h; rfl) (fun μ69 => ?_)
        refine sn_goto (tgt := 270) dX11_next_72 (by decide) ?_
        exact sn_vret dX11_next_270
    · exact hj34 () p26.2
theorem dX11_eats_0 : decode cX11_eats 0 = .ok (.aload_n 0, 1) := by decide +kernel
theorem dX11_eats_1 : decode cX11_eats 1 = .ok (.iload_n 1, 1) := by decide +kernel
theorem dX11_eats_2 : decode cX11_eats 2 = .ok (.invokevirtual 136, 3) := by decide +kernel
theorem dX11_eats_5 : decode cX11_eats 5 = .ok (.ifCond .ne 5, 3) := by decide +kernel
theorem dX11_eats_8 : decode cX11_eats 8 = .ok (.iconst 0, 1) := by decide +kernel
theorem dX11_eats_9 : decode cX11_eats 9 = .ok (.ireturn, 1) := by decide +kernel
theorem dX11_eats_10 : decode cX11_eats 10 = .ok (.aload_n 0, 1) := by decide +kernel
theorem dX11_eats_11 : decode cX11_eats 11 = .ok (.invokevirtual 139, 3) := by decide +kernel
theorem dX11_eats_14 : decode cX11_eats 14 = .ok (.iconst 1, 1) := by decide +kernel
theorem dX11_eats_15 : decode cX11_eats 15 = .ok (.ireturn, 1) := by decide +kernel
def mX11_eats (n : Nat) (a : Nat) (b1 : Int) (μ : Mem) : Option (Int × Mem) :=
  (inv μ 12 a (mX11_is n a b1 μ)).bind fun p2 =>
  if eq32 p2.1 0 then
    retZ 0 p2.2
  else
  (inv p2.2 12 a (mX11_next n a p2.2)).bind fun p11 =>
  retZ 1 p11.2
set_option maxRecDepth 100000 in
set_option maxHeartbeats 4000000 in
theorem cX11_eats_ok (n : Nat) (a : Nat) (b1 : Int) (μ : Mem) : Mc yX11_eats cX11_eats 2 (some .boolean) 6 128 eI [aA a, aI b1] μ (mX11_eats n a b1 μ) := by
  refine mc_of (L0 := [some (aA a), some (aI b1)]) (k := 0) (by decide) rfl rfl (fun X Γ => ?_)
  unfold mX11_eats
  refine sn_aload_n dX11_eats_0 rfl ?_
  refine sn_iload_n dX11_eats_1 rfl ?_
  refine sn_callVI (vs := [aI b1]) (ci := 11) (cX11_is_ok n a b1 μ) dX11_eats_2 cw_X11_136 rfl rfl rfl (by decide) (by decide) (Nat.le_of_ble_eq_true rfl) (fun p2 => ?_)
  refine sn_if_ne (tgt := 10) dX11_eats_5 (by decide) ?_ ?_
  · refine sn_aload_n dX11_eats_10 rfl ?_
    refine sn_callVV (vs := []) (ci := 11) (cX11_next_ok n a p2.2) dX11_eats_11 cw_X11_139 rfl rfl rfl (by decide) (by decide) (Nat.le_of_ble_eq_true rfl) (fun p11 => ?_)
    refine sn_iconst dX11_eats_14 ?_
    exact sn_zret dX11_eats_15
  · refine sn_iconst dX11_eats_8 ?_
    exact sn_zret dX11_eats_9
theorem dX11_even_0 : decode cX11_even 0 = .ok (.aload_n 0, 1) := by decide +kernel
theorem dX11_even_1 : decode cX11_even 1 = .ok (.iconst 0, 1) := by decide +kernel
theorem dX11_even_2 : decode cX11_even 2 = .ok (.putfield 1, 3) := by decide +kernel
theorem dX11_even_5 : decode cX11_even 5 = .ok (.iconst 0, 1) := by decide +kernel
theorem dX11_even_6 : decode cX11_even 6 = .ok (.istore_n 1, 1) := by decide +kernel
theorem dX11_even_7 : decode cX11_even 7 = .ok (.iconst 0, 1) := by decide +kernel
theorem dX11_even_8 : decode cX11_even 8 = .ok (.istore_n 2, 1) := by decide +kernel
theorem dX11_even_9 : decode cX11_even 9 = .ok (.iload_n 2, 1) := by decide +kernel
theorem dX11_even_10 : decode cX11_even 10 = .ok (.aload_n 0, 1) := by decide +kernel
theorem dX11_even_11 : decode cX11_even 11 = .ok (.getfield 13, 3) := by decide +kernel
theorem dX11_even_14 : decode cX11_even 14 = .ok (.iconst 1, 1) := by decide +kernel
theorem dX11_even_15 : decode cX11_even 15 = .ok (.iaload, 1) := by decide +kernel
theorem dX11_even_16 : decode cX11_even 16 = .ok (.if_icmp .ge 44, 3) := by decide +kernel
theorem dX11_even_19 : decode cX11_even 19 = .ok (.aload_n 0, 1) := by decide +kernel
theorem dX11_even_20 : decode cX11_even 20 = .ok (.iload_n 2, 1) := by decide +kernel
theorem dX11_even_21 : decode cX11_even 21 = .ok (.iconst 0, 1) := by decide +kernel
theorem dX11_even_22 : decode cX11_even 22 = .ok (.invokevirtual 185, 3) := by decide +kernel
theorem dX11_even_25 : decode cX11_even 25 = .ok (.aload_n 0, 1) := by decide +kernel
theorem dX11_even_26 : decode cX11_even 26 = .ok (.iload_n 2, 1) := by decide +kernel
theorem dX11_even_27 : decode cX11_even 27 = .ok (.iconst 1, 1) := by decide +kernel
theorem dX11_even_28 : decode cX11_even 28 = .ok (.invokevirtual 185, 3) := by decide +kernel
theorem dX11_even_31 : decode cX11_even 31 = .ok (.isub, 1) := by decide +kernel
theorem dX11_even_32 : decode cX11_even 32 = .ok (.istore_n 3, 1) := by decide +kernel
theorem dX11_even_33 : decode cX11_even 33 = .ok (.aload_n 0, 1) := by decide +kernel
theorem dX11_even_34 : decode cX11_even 34 = .ok (.iload_n 2, 1) := by decide +kernel
theorem dX11_even_35 : decode cX11_even 35 = .ok (.invokevirtual 191, 3) := by decide +kernel
theorem dX11_even_38 : decode cX11_even 38 = .ok (.ifCond .eq 16, 3) := by decide +kernel
theorem dX11_even_41 : decode cX11_even 41 = .ok (.iload_n 1, 1) := by decide +kernel
theorem dX11_even_42 : decode cX11_even 42 = .ok (.iload_n 3, 1) := by decide +kernel
theorem dX11_even_43 : decode cX11_even 43 = .ok (.ifCond .ge 8, 3) := by decide +kernel
theorem dX11_even_46 : decode cX11_even 46 = .ok (.iload_n 3, 1) := by decide +kernel
theorem dX11_even_47 : decode cX11_even 47 = .ok (.ineg, 1) := by decide +kernel
theorem dX11_even_48 : decode cX11_even 48 = .ok (.goto 4, 3) := by decide +kernel
theorem dX11_even_51 : decode cX11_even 51 = .ok (.iload_n 3, 1) := by decide +kernel
theorem dX11_even_52 : decode cX11_even 52 = .ok (.iadd, 1) := by decide +kernel
theorem dX11_even_53 : decode cX11_even 53 = .ok (.istore_n 1, 1) := by decide +kernel
theorem dX11_even_54 : decode cX11_even 54 = .ok (.iinc 2 1, 3) := by decide +kernel
theorem dX11_even_57 : decode cX11_even 57 = .ok (.goto (-48), 3) := by decide +kernel
theorem dX11_even_60 : decode cX11_even 60 = .ok (.iload_n 1, 1) := by decide +kernel
theorem dX11_even_61 : decode cX11_even 61 = .ok (.ireturn, 1) := by decide +kernel
def mX11_even (n : Nat) (a : Nat) (μ : Mem) : Option (Int × Mem) :=
  (pI μ 12 a 0 0).bind fun μ2 =>
  lp (fun nx9 (v9 : Int × Int) (μ9 : Mem) =>
  (gA μ9 12 a 1).bind fun x11 =>
  (ldI μ9 0 x11 1).bind fun x15 =>
  if lt32 v9.2 x15 then
    (inv μ9 12 a (mX11_weight n a v9.2 0 μ9)).bind fun p22 =>
    (inv p22.2 12 a (mX11_weight n a v9.2 1 p22.2)).bind fun p28 =>
    (inv p28.2 12 a (mX11_hangs n a v9.2 p28.2)).bind fun p35 =>
    if eq32 p35.1 0 then
      nx9 (v9.1, (v9.2 + 1)) p35.2
    else
    if lt32 (p22.1 - p28.1) 0 then
      nx9 ((v9.1 + (-(p22.1 - p28.1))), (v9.2 + 1)) p35.2
    else
    nx9 ((v9.1 + (p22.1 - p28.1)), (v9.2 + 1)) p35.2
  else
  some (v9.1, μ9)) n (0, 0) μ2
set_option maxRecDepth 100000 in
set_option maxHeartbeats 4000000 in
theorem cX11_even_ok (n : Nat) (a : Nat) (μ : Mem) : Mc yX11_even cX11_even 4 (some .int) 1 22 eI [aA a] μ (mX11_even n a μ) := by
  refine mc_of (L0 := [some (aA a), none, none, none]) (k := 3) (by decide) rfl rfl (fun X Γ => ?_)
  unfold mX11_even
  refine sn_aload_n dX11_even_0 rfl ?_
  refine sn_iconst dX11_even_1 ?_
  refine sn_putI (ci := 11) (j := 0) dX11_even_2 fl_X11_1 rfl (fun q h => by cases h; rfl) (fun μ2 => ?_)
  refine sn_iconst dX11_even_5 ?_
  refine sn_istore_n (L' := [some (aA a), some (aI 0), none, none]) dX11_even_6 (by decide) rfl ?_
  refine sn_iconst dX11_even_7 ?_
  refine sn_istore_n (L' := [some (aA a), some (aI 0), some (aI 0), none]) dX11_even_8 (by decide) rfl ?_
  refine sn_lp (La := fun v9 : Int × Int => [some (aA a), some (aI v9.1), some (aI v9.2), none]) ?_ n (0, 0) μ2
  intro nx9 hnx9 v9 μ9
  refine sn_iload_n dX11_even_9 rfl ?_
  refine sn_aload_n dX11_even_10 rfl ?_
  refine sn_getA (ci := 11) (j := 1) dX11_even_11 fl_X11_13 (by decide) (fun x11 => ?_)
  refine sn_iconst dX11_even_14 ?_
  refine sn_iald dX11_even_15 (fun x15 => ?_)
  refine sn_icmp_ge (tgt := 60) dX11_even_16 (by decide) ?_ ?_
  · refine sn_iload_n dX11_even_60 rfl ?_
    exact sn_iret dX11_even_61
  · refine sn_aload_n dX11_even_19 rfl ?_
    refine sn_iload_n dX11_even_20 rfl ?_
    refine sn_iconst dX11_even_21 ?_
    refine sn_callVI (vs := [aI v9.2, aI 0]) (ci := 11) (cX11_weight_ok n a v9.2 0 μ9) dX11_even_22 cw_X11_185 rfl rfl rfl (by decide) (by decide) (Nat.le_of_ble_eq_true rfl) (fun p22 => ?_)
    refine sn_aload_n dX11_even_25 rfl ?_
    refine sn_iload_n dX11_even_26 rfl ?_
    refine sn_iconst dX11_even_27 ?_
    refine sn_callVI (vs := [aI v9.2, aI 1]) (ci := 11) (cX11_weight_ok n a v9.2 1 p22.2) dX11_even_28 cw_X11_185 rfl rfl rfl (by decide) (by decide) (Nat.le_of_ble_eq_true rfl) (fun p28 => ?_)
    refine sn_isub dX11_even_31 ?_
    refine sn_istore_n (L' := [some (aA a), some (aI v9.1), some (aI v9.2), some (aI (p22.1 - p28.1))]) dX11_even_32 (by decide) rfl ?_
    refine sn_aload_n dX11_even_33 rfl ?_
    refine sn_iload_n dX11_even_34 rfl ?_
    refine sn_callVI (vs := [aI v9.2]) (ci := 11) (cX11_hangs_ok n a v9.2 p28.2) dX11_even_35 cw_X11_191 rfl rfl rfl (by decide) (by decide) (Nat.le_of_ble_eq_true rfl) (fun p35 => ?_)
    refine sn_if_eq (tgt := 54) dX11_even_38 (by decide) ?_ ?_
    · refine sn_iinc (L' := [some (aA a), some (aI v9.1), some (aI (v9.2 + 1)), some (aI (p22.1 - p28.1))]) dX11_even_54 rfl (by decide) rfl ?_
      refine sn_goto (tgt := 9) dX11_even_57 (by decide) ?_
      exact sn_mask (L' := [some (aA a), some (aI v9.1), some (aI (v9.2 + 1)), none]) [true, true, true, false] rfl (hnx9 (v9.1, (v9.2 + 1)) p35.2)
    · refine sn_iload_n dX11_even_41 rfl ?_
      refine sn_iload_n dX11_even_42 rfl ?_
      refine sn_if_ge (tgt := 51) dX11_even_43 (by decide) ?_ ?_
      · refine sn_iload_n dX11_even_51 rfl ?_
        refine sn_iadd dX11_even_52 ?_
        refine sn_istore_n (L' := [some (aA a), some (aI (v9.1 + (p22.1 - p28.1))), some (aI v9.2), some (aI (p22.1 - p28.1))]) dX11_even_53 (by decide) rfl ?_
        refine sn_iinc (L' := [some (aA a), some (aI (v9.1 + (p22.1 - p28.1))), some (aI (v9.2 + 1)), some (aI (p22.1 - p28.1))]) dX11_even_54 rfl (by decide) rfl ?_
        refine sn_goto (tgt := 9) dX11_even_57 (by decide) ?_
        exact sn_mask (L' := [some (aA a), some (aI (v9.1 + (p22.1 - p28.1))), some (aI (v9.2 + 1)), none]) [true, true, true, false] rfl (hnx9 ((v9.1 + (p22.1 - p28.1)), (v9.2 + 1)) p35.2)
      · refine sn_iload_n dX11_even_46 rfl ?_
        refine sn_ineg dX11_even_47 ?_
        refine sn_goto (tgt := 52) dX11_even_48 (by decide) ?_
        refine sn_iadd dX11_even_52 ?_
        refine sn_istore_n (L' := [some (aA a), some (aI (v9.1 + (-(p22.1 - p28.1)))), some (aI v9.2), some (aI (p22.1 - p28.1))]) dX11_even_53 (by decide) rfl ?_
        refine sn_iinc (L' := [some (aA a), some (aI (v9.1 + (-(p22.1 - p28.1)))), some (aI (v9.2 + 1)), some (aI (p22.1 - p28.1))]) dX11_even_54 rfl (by decide) rfl ?_
        refine sn_goto (tgt := 9) dX11_even_57 (by decide) ?_
        exact sn_mask (L' := [some (aA a), some (aI (v9.1 + (-(p22.1 - p28.1)))), some (aI (v9.2 + 1)), none]) [true, true, true, false] rfl (hnx9 ((v9.1 + (-(p22.1 - p28.1))), (v9.2 + 1)) p35.2)
theorem dX11_fails_0 : decode cX11_fails 0 = .ok (.aload_n 0, 1) := by decide +kernel
theorem dX11_fails_1 : decode cX11_fails 1 = .ok (.getfield 130, 3) := by decide +kernel
theorem dX11_fails_4 : decode cX11_fails 4 = .ok (.ifCond .eq 4, 3) := by decide +kernel
theorem dX11_fails_7 : decode cX11_fails 7 = .ok (.return_, 1) := by decide +kernel
theorem dX11_fails_8 : decode cX11_fails 8 = .ok (.aload_n 0, 1) := by decide +kernel
theorem dX11_fails_9 : decode cX11_fails 9 = .ok (.aload_n 0, 1) := by decide +kernel
theorem dX11_fails_10 : decode cX11_fails 10 = .ok (.getfield 114, 3) := by decide +kernel
theorem dX11_fails_13 : decode cX11_fails 13 = .ok (.bipush 14, 2) := by decide +kernel
theorem dX11_fails_15 : decode cX11_fails 15 = .ok (.if_icmp .ne 7, 3) := by decide +kernel
theorem dX11_fails_18 : decode cX11_fails 18 = .ok (.iconst 1, 1) := by decide +kernel
theorem dX11_fails_19 : decode cX11_fails 19 = .ok (.goto 4, 3) := by decide +kernel
theorem dX11_fails_22 : decode cX11_fails 22 = .ok (.iload_n 1, 1) := by decide +kernel
theorem dX11_fails_23 : decode cX11_fails 23 = .ok (.putfield 130, 3) := by decide +kernel
theorem dX11_fails_26 : decode cX11_fails 26 = .ok (.aload_n 0, 1) := by decide +kernel
theorem dX11_fails_27 : decode cX11_fails 27 = .ok (.aload_n 0, 1) := by decide +kernel
theorem dX11_fails_28 : decode cX11_fails 28 = .ok (.getfield 104, 3) := by decide +kernel
theorem dX11_fails_31 : decode cX11_fails 31 = .ok (.putfield 133, 3) := by decide +kernel
theorem dX11_fails_34 : decode cX11_fails 34 = .ok (.return_, 1) := by decide +kernel
def mX11_fails (n : Nat) (a : Nat) (b1 : Int) (μ : Mem) : Option (Unit × Mem) :=
  (gI μ 12 a 11).bind fun x1 =>
  if eq32 x1 0 then
    (gI μ 12 a 9).bind fun x10 =>
    jn (fun (v23 : Int) (μ23 : Mem) =>
    (pI μ23 12 a 11 v23).bind fun μ23 =>
    (gI μ23 12 a 6).bind fun x28 =>
    (pI μ23 12 a 12 x28).bind fun μ31 =>
    some ((), μ31)) (fun j23 =>
    if eq32 x10 14 then
      j23 1 μ
    else
    j23 b1 μ)
  else
  some ((), μ)
set_option maxRecDepth 100000 in
set_option maxHeartbeats 4000000 in
theorem cX11_fails_ok (n : Nat) (a : Nat) (b1 : Int) (μ : Mem) : Mc yX11_fails cX11_fails 2 none 0 0 eV [aA a, aI b1] μ (mX11_fails n a b1 μ) := by
  refine mc_of (L0 := [some (aA a), some (aI b1)]) (k := 0) (by decide) rfl rfl (fun X Γ => ?_)
  unfold mX11_fails
  refine sn_aload_n dX11_fails_0 rfl ?_
  refine sn_getI (ci := 11) (j := 11) dX11_fails_1 fl_X11_130 rfl (fun x1 => ?_)
  refine sn_if_eq (tgt := 8) dX11_fails_4 (by decide) ?_ ?_
  · refine sn_aload_n dX11_fails_8 rfl ?_
    refine sn_aload_n dX11_fails_9 rfl ?_
    refine sn_getI (ci := 11) (j := 9) dX11_fails_10 fl_X11_114 rfl (fun x10 => ?_)
    refine sn_bipush dX11_fails_13 (by decide) ?_
    refine sn_jn (pcj := 23) (La := fun v23 : Int => [some (aA a), none]) (Sa := fun v23 : Int => [aI v23, aA a]) ?_ ?_
    · intro v23 μ23
      refine sn_putI (ci := 11) (j := 11) dX11_fails_23 fl_X11_130 rfl (fun q h => by cases h; rfl) (fun μ23 => ?_)
      refine sn_aload_n dX11_fails_26 rfl ?_
      refine sn_aload_n dX11_fails_27 rfl ?_
      refine sn_getI (ci := 11) (j := 6) dX11_fails_28 fl_X11_104 rfl (fun x28 => ?_)
      refine sn_putI (ci := 11) (j := 12) dX11_fails_31 fl_X11_133 rfl (fun q h => by cases h; rfl) (fun μ31 => ?_)
      exact sn_vret dX11_fails_34
    intro j23 hj23
    refine sn_icmp_ne (tgt := 22) dX11_fails_15 (by decide) ?_ ?_
    · refine sn_iload_n dX11_fails_22 rfl ?_
      exact sn_mask (L' := [some (aA a), none]) [true, false] rfl (hj23 b1 μ)
    · refine sn_iconst dX11_fails_18 ?_
      refine sn_goto (tgt := 23) dX11_fails_19 (by decide) ?_
      exact sn_mask (L' := [some (aA a), none]) [true, false] rfl (hj23 1 μ)
  · exact sn_vret dX11_fails_7
theorem dX11_fault_0 : decode cX11_fault 0 = .ok (.aload_n 0, 1) := by decide +kernel
theorem dX11_fault_1 : decode cX11_fault 1 = .ok (.iconst 0, 1) := by decide +kernel
theorem dX11_fault_2 : decode cX11_fault 2 = .ok (.putfield 1, 3) := by decide +kernel
theorem dX11_fault_5 : decode cX11_fault 5 = .ok (.iload_n 1, 1) := by decide +kernel
theorem dX11_fault_6 : decode cX11_fault 6 = .ok (.ifCond .ne 10, 3) := by decide +kernel
theorem dX11_fault_9 : decode cX11_fault 9 = .ok (.aload_n 0, 1) := by decide +kernel
theorem dX11_fault_10 : decode cX11_fault 10 = .ok (.getfield 163, 3) := by decide +kernel
theorem dX11_fault_13 : decode cX11_fault 13 = .ok (.goto 16, 3) := by decide +kernel
theorem dX11_fault_16 : decode cX11_fault 16 = .ok (.iload_n 1, 1) := by decide +kernel
theorem dX11_fault_17 : decode cX11_fault 17 = .ok (.iconst 1, 1) := by decide +kernel
theorem dX11_fault_18 : decode cX11_fault 18 = .ok (.if_icmp .ne 10, 3) := by decide +kernel
theorem dX11_fault_21 : decode cX11_fault 21 = .ok (.aload_n 0, 1) := by decide +kernel
theorem dX11_fault_22 : decode cX11_fault 22 = .ok (.getfield 27, 3) := by decide +kernel
theorem dX11_fault_25 : decode cX11_fault 25 = .ok (.goto 4, 3) := by decide +kernel
theorem dX11_fault_28 : decode cX11_fault 28 = .ok (.iconst (-1), 1) := by decide +kernel
theorem dX11_fault_29 : decode cX11_fault 29 = .ok (.ireturn, 1) := by decide +kernel
def mX11_fault (n : Nat) (a : Nat) (b1 : Int) (μ : Mem) : Option (Int × Mem) :=
  (pI μ 12 a 0 0).bind fun μ2 =>
  if eq32 b1 0 then
    (gI μ2 12 a 13).bind fun x10 =>
    some (x10, μ2)
  else
  if eq32 b1 1 then
    (gI μ2 12 a 14).bind fun x22 =>
    some (x22, μ2)
  else
  some ((-1), μ2)
set_option maxRecDepth 100000 in
set_option maxHeartbeats 4000000 in
theorem cX11_fault_ok (n : Nat) (a : Nat) (b1 : Int) (μ : Mem) : Mc yX11_fault cX11_fault 2 (some .int) 0 0 eI [aA a, aI b1] μ (mX11_fault n a b1 μ) := by
  refine mc_of (L0 := [some (aA a), some (aI b1)]) (k := 0) (by decide) rfl rfl (fun X Γ => ?_)
  unfold mX11_fault
  refine sn_aload_n dX11_fault_0 rfl ?_
  refine sn_iconst dX11_fault_1 ?_
  refine sn_putI (ci := 11) (j := 0) dX11_fault_2 fl_X11_1 rfl (fun q h => by cases h; rfl) (fun μ2 => ?_)
  refine sn_iload_n dX11_fault_5 rfl ?_
  refine sn_if_ne (tgt := 16) dX11_fault_6 (by decide) ?_ ?_
  · refine sn_iload_n dX11_fault_16 rfl ?_
    refine sn_iconst dX11_fault_17 ?_
    refine sn_icmp_ne (tgt := 28) dX11_fault_18 (by decide) ?_ ?_
    · refine sn_iconst dX11_fault_28 ?_
      exact sn_iret dX11_fault_29
    · refine sn_aload_n dX11_fault_21 rfl ?_
      refine sn_getI (ci := 11) (j := 14) dX11_fault_22 fl_X11_27 rfl (fun x22 => ?_)
      refine sn_goto (tgt := 29) dX11_fault_25 (by decide) ?_
      exact sn_iret dX11_fault_29
  · refine sn_aload_n dX11_fault_9 rfl ?_
    refine sn_getI (ci := 11) (j := 13) dX11_fault_10 fl_X11_163 rfl (fun x10 => ?_)
    refine sn_goto (tgt := 29) dX11_fault_13 (by decide) ?_
    exact sn_iret dX11_fault_29
theorem dX11_feed_0 : decode cX11_feed 0 = .ok (.aload_n 0, 1) := by decide +kernel
theorem dX11_feed_1 : decode cX11_feed 1 = .ok (.iconst 0, 1) := by decide +kernel
theorem dX11_feed_2 : decode cX11_feed 2 = .ok (.putfield 1, 3) := by decide +kernel
theorem dX11_feed_5 : decode cX11_feed 5 = .ok (.aload_n 0, 1) := by decide +kernel
theorem dX11_feed_6 : decode cX11_feed 6 = .ok (.getfield 86, 3) := by decide +kernel
theorem dX11_feed_9 : decode cX11_feed 9 = .ok (.bipush 20, 2) := by decide +kernel
theorem dX11_feed_11 : decode cX11_feed 11 = .ok (.iadd, 1) := by decide +kernel
theorem dX11_feed_12 : decode cX11_feed 12 = .ok (.sipush 900, 3) := by decide +kernel
theorem dX11_feed_15 : decode cX11_feed 15 = .ok (.if_icmp .le 6, 3) := by decide +kernel
theorem dX11_feed_18 : decode cX11_feed 18 = .ok (.bipush (-5), 2) := by decide +kernel
theorem dX11_feed_20 : decode cX11_feed 20 = .ok (.ireturn, 1) := by decide +kernel
theorem dX11_feed_21 : decode cX11_feed 21 = .ok (.iconst 0, 1) := by decide +kernel
theorem dX11_feed_22 : decode cX11_feed 22 = .ok (.istore 6, 2) := by decide +kernel
theorem dX11_feed_24 : decode cX11_feed 24 = .ok (.iload 6, 2) := by decide +kernel
theorem dX11_feed_26 : decode cX11_feed 26 = .ok (.bipush 20, 2) := by decide +kernel
theorem dX11_feed_28 : decode cX11_feed 28 = .ok (.if_icmp .ge 93, 3) := by decide +kernel
theorem dX11_feed_31 : decode cX11_feed 31 = .ok (.iload 6, 2) := by decide +kernel
theorem dX11_feed_33 : decode cX11_feed 33 = .ok (.iconst 4, 1) := by decide +kernel
theorem dX11_feed_34 : decode cX11_feed 34 = .ok (.if_icmp .ge 7, 3) := by decide +kernel
theorem dX11_feed_37 : decode cX11_feed 37 = .ok (.iload_n 1, 1) := by decide +kernel
theorem dX11_feed_38 : decode cX11_feed 38 = .ok (.goto 39, 3) := by decide +kernel
theorem dX11_feed_41 : decode cX11_feed 41 = .ok (.iload 6, 2) := by decide +kernel
theorem dX11_feed_43 : decode cX11_feed 43 = .ok (.bipush 8, 2) := by decide +kernel
theorem dX11_feed_45 : decode cX11_feed 45 = .ok (.if_icmp .ge 7, 3) := by decide +kernel
theorem dX11_feed_48 : decode cX11_feed 48 = .ok (.iload_n 2, 1) := by decide +kernel
theorem dX11_feed_49 : decode cX11_feed 49 = .ok (.goto 28, 3) := by decide +kernel
theorem dX11_feed_52 : decode cX11_feed 52 = .ok (.iload 6, 2) := by decide +kernel
theorem dX11_feed_54 : decode cX11_feed 54 = .ok (.bipush 12, 2) := by decide +kernel
theorem dX11_feed_56 : decode cX11_feed 56 = .ok (.if_icmp .ge 7, 3) := by decide +kernel
theorem dX11_feed_59 : decode cX11_feed 59 = .ok (.iload_n 3, 1) := by decide +kernel
theorem dX11_feed_60 : decode cX11_feed 60 = .ok (.goto 17, 3) := by decide +kernel
theorem dX11_feed_63 : decode cX11_feed 63 = .ok (.iload 6, 2) := by decide +kernel
theorem dX11_feed_65 : decode cX11_feed 65 = .ok (.bipush 16, 2) := by decide +kernel
theorem dX11_feed_67 : decode cX11_feed 67 = .ok (.if_icmp .ge 8, 3) := by decide +kernel
theorem dX11_feed_70 : decode cX11_feed 70 = .ok (.iload 4, 2) := by decide +kernel
theorem dX11_feed_72 : decode cX11_feed 72 = .ok (.goto 5, 3) := by decide +kernel
theorem dX11_feed_75 : decode cX11_feed 75 = .ok (.iload 5, 2) := by decide +kernel
theorem dX11_feed_77 : decode cX11_feed 77 = .ok (.istore 7, 2) := by decide +kernel
theorem dX11_feed_79 : decode cX11_feed 79 = .ok (.aload_n 0, 1) := by decide +kernel
theorem dX11_feed_80 : decode cX11_feed 80 = .ok (.getfield 21, 3) := by decide +kernel
theorem dX11_feed_83 : decode cX11_feed 83 = .ok (.aload_n 0, 1) := by decide +kernel
theorem dX11_feed_84 : decode cX11_feed 84 = .ok (.getfield 86, 3) := by decide +kernel
theorem dX11_feed_87 : decode cX11_feed 87 = .ok (.iload 7, 2) := by decide +kernel
theorem dX11_feed_89 : decode cX11_feed 89 = .ok (.bipush 24, 2) := by decide +kernel
theorem dX11_feed_91 : decode cX11_feed 91 = .ok (.bipush 8, 2) := by decide +kernel
theorem dX11_feed_93 : decode cX11_feed 93 = .ok (.iload 6, 2) := by decide +kernel
theorem dX11_feed_95 : decode cX11_feed 95 = .ok (.iconst 4, 1) := by decide +kernel
theorem dX11_feed_96 : decode cX11_feed 96 = .ok (.irem, 1) := by decide +kernel
theorem dX11_feed_97 : decode cX11_feed 97 = .ok (.imul, 1) := by decide +kernel
theorem dX11_feed_98 : decode cX11_feed 98 = .ok (.isub, 1) := by decide +kernel
theorem dX11_feed_99 : decode cX11_feed 99 = .ok (.ishr, 1) := by decide +kernel
theorem dX11_feed_100 : decode cX11_feed 100 = .ok (.sipush 255, 3) := by decide +kernel
theorem dX11_feed_103 : decode cX11_feed 103 = .ok (.iand, 1) := by decide +kernel
theorem dX11_feed_104 : decode cX11_feed 104 = .ok (.iastore, 1) := by decide +kernel
theorem dX11_feed_105 : decode cX11_feed 105 = .ok (.aload_n 0, 1) := by decide +kernel
theorem dX11_feed_106 : decode cX11_feed 106 = .ok (.dup, 1) := by decide +kernel
theorem dX11_feed_107 : decode cX11_feed 107 = .ok (.getfield 86, 3) := by decide +kernel
theorem dX11_feed_110 : decode cX11_feed 110 = .ok (.iconst 1, 1) := by decide +kernel
theorem dX11_feed_111 : decode cX11_feed 111 = .ok (.iadd, 1) := by decide +kernel
theorem dX11_feed_112 : decode cX11_feed 112 = .ok (.putfield 86, 3) := by decide +kernel
theorem dX11_feed_115 : decode cX11_feed 115 = .ok (.iinc 6 1, 3) := by decide +kernel
theorem dX11_feed_118 : decode cX11_feed 118 = .ok (.goto (-94), 3) := by decide +kernel
theorem dX11_feed_121 : decode cX11_feed 121 = .ok (.aload_n 0, 1) := by decide +kernel
theorem dX11_feed_122 : decode cX11_feed 122 = .ok (.getfield 86, 3) := by decide +kernel
theorem dX11_feed_125 : decode cX11_feed 125 = .ok (.ireturn, 1) := by decide +kernel
def mX11_feed (n : Nat) (a : Nat) (b1 : Int) (b2 : Int) (b3 : Int) (b4 : Int) (b5 : Int) (μ : Mem) : Option (Int × Mem) :=
  (pI μ 12 a 0 0).bind fun μ2 =>
  (gI μ2 12 a 5).bind fun x6 =>
  if lt32 900 (x6 + 20) then
    some ((-5), μ2)
  else
  lp (fun nx24 (v24 : Int) (μ24 : Mem) =>
  if lt32 v24 20 then
    jn (fun (v77 : Int) (μ77 : Mem) =>
    (gA μ77 12 a 3).bind fun x80 =>
    (gI μ77 12 a 5).bind fun x84 =>
    (stI μ77 0 x80 x84 (oAnd (oShr v77 (24 - (8 * (oRem v24 4)))) 255)).bind fun μ104 =>
    (gI μ104 12 a 5).bind fun x107 =>
    (pI μ104 12 a 5 (x107 + 1)).bind fun μ112 =>
    nx24 (v24 + 1) μ112) (fun j77 =>
    if lt32 v24 4 then
      j77 b1 μ24
    else
    if lt32 v24 8 then
      j77 b2 μ24
    else
    if lt32 v24 12 then
      j77 b3 μ24
    else
    if lt32 v24 16 then
      j77 b4 μ24
    else
    j77 b5 μ24)
  else
  (gI μ24 12 a 5).bind fun x122 =>
  some (x122, μ24)) n 0 μ2
set_option maxRecDepth 100000 in
set_option maxHeartbeats 4000000 in
theorem cX11_feed_ok (n : Nat) (a : Nat) (b1 : Int) (b2 : Int) (b3 : Int) (b4 : Int) (b5 : Int) (μ : Mem) : Mc yX11_feed cX11_feed 8 (some .int) 0 0 eI [aA a, aI b1, aI b2, aI b3, aI b4, aI b5] μ (mX11_feed n a b1 b2 b3 b4 b5 μ) := by
  refine mc_of (L0 := [some (aA a), some (aI b1), some (aI b2), some (aI b3), some (aI b4), some (aI b5), none, none]) (k := 2) (by decide) rfl rfl (fun X Γ => ?_)
  unfold mX11_feed
  refine sn_aload_n dX11_feed_0 rfl ?_
  refine sn_iconst dX11_feed_1 ?_
  refine sn_putI (ci := 11) (j := 0) dX11_feed_2 fl_X11_1 rfl (fun q h => by cases h; rfl) (fun μ2 => ?_)
  refine sn_aload_n dX11_feed_5 rfl ?_
  refine sn_getI (ci := 11) (j := 5) dX11_feed_6 fl_X11_86 rfl (fun x6 => ?_)
  refine sn_bipush dX11_feed_9 (by decide) ?_
  refine sn_iadd dX11_feed_11 ?_
  refine sn_sipush dX11_feed_12 (by decide) ?_
  refine sn_icmp_le (tgt := 21) dX11_feed_15 (by decide) ?_ ?_
  · refine sn_iconst dX11_feed_21 ?_
    refine sn_istore (L' := [some (aA a), some (aI b1), some (aI b2), some (aI b3), some (aI b4), some (aI b5), some (aI 0), none]) dX11_feed_22 (by decide) rfl ?_
    refine sn_lp (La := fun v24 : Int => [some (aA a), some (aI b1), some (aI b2), some (aI b3), some (aI b4), some (aI b5), some (aI v24), none]) ?_ n 0 μ2
    intro nx24 hnx24 v24 μ24
    refine sn_iload dX11_feed_24 rfl ?_
    refine sn_bipush dX11_feed_26 (by decide) ?_
    refine sn_icmp_ge (tgt := 121) dX11_feed_28 (by decide) ?_ ?_
    · refine sn_aload_n dX11_feed_121 rfl ?_
      refine sn_getI (ci := 11) (j := 5) dX11_feed_122 fl_X11_86 rfl (fun x122 => ?_)
      exact sn_iret dX11_feed_125
    · refine sn_iload dX11_feed_31 rfl ?_
      refine sn_iconst dX11_feed_33 ?_
      refine sn_jn (pcj := 77) (La := fun v77 : Int => [some (aA a), some (aI b1), some (aI b2), some (aI b3), some (aI b4), some (aI b5), some (aI v24), none]) (Sa := fun v77 : Int => [aI v77]) ?_ ?_
      · intro v77 μ77
        refine sn_istore (L' := [some (aA a), some (aI b1), some (aI b2), some (aI b3), some (aI b4), some (aI b5), some (aI v24), some (aI v77)]) dX11_feed_77 (by decide) rfl ?_
        refine sn_aload_n dX11_feed_79 rfl ?_
        refine sn_getA (ci := 11) (j := 3) dX11_feed_80 fl_X11_21 (by decide) (fun x80 => ?_)
        refine sn_aload_n dX11_feed_83 rfl ?_
        refine sn_getI (ci := 11) (j := 5) dX11_feed_84 fl_X11_86 rfl (fun x84 => ?_)
        refine sn_iload dX11_feed_87 rfl ?_
        refine sn_bipush dX11_feed_89 (by decide) ?_
        refine sn_bipush dX11_feed_91 (by decide) ?_
        refine sn_iload dX11_feed_93 rfl ?_
        refine sn_iconst dX11_feed_95 ?_
        refine sn_iremK dX11_feed_96 (by decide) ?_
        refine sn_imul dX11_feed_97 ?_
        refine sn_isub dX11_feed_98 ?_
        refine sn_ishr dX11_feed_99 ?_
        refine sn_sipush dX11_feed_100 (by decide) ?_
        refine sn_iand dX11_feed_103 ?_
        refine sn_iast dX11_feed_104 (fun μ104 => ?_)
        refine sn_aload_n dX11_feed_105 rfl ?_
        refine sn_dup dX11_feed_106 rfl ?_
        refine sn_getI (ci := 11) (j := 5) dX11_feed_107 fl_X11_86 rfl (fun x107 => ?_)
        refine sn_iconst dX11_feed_110 ?_
        refine sn_iadd dX11_feed_111 ?_
        refine sn_putI (ci := 11) (j := 5) dX11_feed_112 fl_X11_86 rfl (fun q h => by cases h; rfl) (fun μ112 => ?_)
        refine sn_iinc (L' := [some (aA a), some (aI b1), some (aI b2), some (aI b3), some (aI b4), some (aI b5), some (aI (v24 + 1)), some (aI v77)]) dX11_feed_115 rfl (by decide) rfl ?_
        refine sn_goto (tgt := 24) dX11_feed_118 (by decide) ?_
        exact sn_mask (L' := [some (aA a), some (aI b1), some (aI b2), some (aI b3), some (aI b4), some (aI b5), some (aI (v24 + 1)), none]) [true, true, true, true, true, true, true, false] rfl (hnx24 (v24 + 1) μ112)
      intro j77 hj77
      refine sn_icmp_ge (tgt := 41) dX11_feed_34 (by decide) ?_ ?_
      · refine sn_iload dX11_feed_41 rfl ?_
        refine sn_bipush dX11_feed_43 (by decide) ?_
        refine sn_icmp_ge (tgt := 52) dX11_feed_45 (by decide) ?_ ?_
        · refine sn_iload dX11_feed_52 rfl ?_
          refine sn_bipush dX11_feed_54 (by decide) ?_
          refine sn_icmp_ge (tgt := 63) dX11_feed_56 (by decide) ?_ ?_
          · refine sn_iload dX11_feed_63 rfl ?_
            refine sn_bipush dX11_feed_65 (by decide) ?_
            refine sn_icmp_ge (tgt := 75) dX11_feed_67 (by decide) ?_ ?_
            · refine sn_iload dX11_feed_75 rfl ?_
              exact hj77 b5 μ24
            · refine sn_iload dX11_feed_70 rfl ?_
              refine sn_goto (tgt := 77) dX11_feed_72 (by decide) ?_
              exact hj77 b4 μ24
          · refine sn_iload_n dX11_feed_59 rfl ?_
            refine sn_goto (tgt := 77) dX11_feed_60 (by decide) ?_
            exact hj77 b3 μ24
        · refine sn_iload_n dX11_feed_48 rfl ?_
          refine sn_goto (tgt := 77) dX11_feed_49 (by decide) ?_
          exact hj77 b2 μ24
      · refine sn_iload_n dX11_feed_37 rfl ?_
        refine sn_goto (tgt := 77) dX11_feed_38 (by decide) ?_
        exact hj77 b1 μ24
  · refine sn_bipush dX11_feed_18 (by decide) ?_
    exact sn_iret dX11_feed_20
theorem dX11_haveRope_0 : decode cX11_haveRope 0 = .ok (.iconst 0, 1) := by decide +kernel
theorem dX11_haveRope_1 : decode cX11_haveRope 1 = .ok (.istore_n 3, 1) := by decide +kernel
theorem dX11_haveRope_2 : decode cX11_haveRope 2 = .ok (.iload_n 3, 1) := by decide +kernel
theorem dX11_haveRope_3 : decode cX11_haveRope 3 = .ok (.aload_n 0, 1) := by decide +kernel
theorem dX11_haveRope_4 : decode cX11_haveRope 4 = .ok (.getfield 13, 3) := by decide +kernel
theorem dX11_haveRope_7 : decode cX11_haveRope 7 = .ok (.iconst 1, 1) := by decide +kernel
theorem dX11_haveRope_8 : decode cX11_haveRope 8 = .ok (.iaload, 1) := by decide +kernel
theorem dX11_haveRope_9 : decode cX11_haveRope 9 = .ok (.if_icmp .ge 37, 3) := by decide +kernel
theorem dX11_haveRope_12 : decode cX11_haveRope 12 = .ok (.aload_n 0, 1) := by decide +kernel
theorem dX11_haveRope_13 : decode cX11_haveRope 13 = .ok (.iload_n 3, 1) := by decide +kernel
theorem dX11_haveRope_14 : decode cX11_haveRope 14 = .ok (.invokevirtual 191, 3) := by decide +kernel
theorem dX11_haveRope_17 : decode cX11_haveRope 17 = .ok (.ifCond .eq 23, 3) := by decide +kernel
theorem dX11_haveRope_20 : decode cX11_haveRope 20 = .ok (.aload_n 0, 1) := by decide +kernel
theorem dX11_haveRope_21 : decode cX11_haveRope 21 = .ok (.iload_n 1, 1) := by decide +kernel
theorem dX11_haveRope_22 : decode cX11_haveRope 22 = .ok (.iload_n 3, 1) := by decide +kernel
theorem dX11_haveRope_23 : decode cX11_haveRope 23 = .ok (.invokevirtual 166, 3) := by decide +kernel
theorem dX11_haveRope_26 : decode cX11_haveRope 26 = .ok (.ifCond .eq 14, 3) := by decide +kernel
theorem dX11_haveRope_29 : decode cX11_haveRope 29 = .ok (.aload_n 0, 1) := by decide +kernel
theorem dX11_haveRope_30 : decode cX11_haveRope 30 = .ok (.iload_n 2, 1) := by decide +kernel
theorem dX11_haveRope_31 : decode cX11_haveRope 31 = .ok (.iload_n 3, 1) := by decide +kernel
theorem dX11_haveRope_32 : decode cX11_haveRope 32 = .ok (.invokevirtual 166, 3) := by decide +kernel
theorem dX11_haveRope_35 : decode cX11_haveRope 35 = .ok (.ifCond .eq 5, 3) := by decide +kernel
theorem dX11_haveRope_38 : decode cX11_haveRope 38 = .ok (.iconst 1, 1) := by decide +kernel
theorem dX11_haveRope_39 : decode cX11_haveRope 39 = .ok (.ireturn, 1) := by decide +kernel
theorem dX11_haveRope_40 : decode cX11_haveRope 40 = .ok (.iinc 3 1, 3) := by decide +kernel
theorem dX11_haveRope_43 : decode cX11_haveRope 43 = .ok (.goto (-41), 3) := by decide +kernel
theorem dX11_haveRope_46 : decode cX11_haveRope 46 = .ok (.iconst 0, 1) := by decide +kernel
theorem dX11_haveRope_47 : decode cX11_haveRope 47 = .ok (.ireturn, 1) := by decide +kernel
def mX11_haveRope (n : Nat) (a : Nat) (b1 : Int) (b2 : Int) (μ : Mem) : Option (Int × Mem) :=
  lp (fun nx2 (v2 : Int) (μ2 : Mem) =>
  (gA μ2 12 a 1).bind fun x4 =>
  (ldI μ2 0 x4 1).bind fun x8 =>
  if lt32 v2 x8 then
    (inv μ2 12 a (mX11_hangs n a v2 μ2)).bind fun p14 =>
    if eq32 p14.1 0 then
      nx2 (v2 + 1) p14.2
    else
    (inv p14.2 12 a (mX11_isEnd n a b1 v2 p14.2)).bind fun p23 =>
    if eq32 p23.1 0 then
      nx2 (v2 + 1) p23.2
    else
    (inv p23.2 12 a (mX11_isEnd n a b2 v2 p23.2)).bind fun p32 =>
    if eq32 p32.1 0 then
      nx2 (v2 + 1) p32.2
    else
    retZ 1 p32.2
  else
  retZ 0 μ2) n 0 μ
set_option maxRecDepth 100000 in
set_option maxHeartbeats 4000000 in
theorem cX11_haveRope_ok (n : Nat) (a : Nat) (b1 : Int) (b2 : Int) (μ : Mem) : Mc yX11_haveRope cX11_haveRope 4 (some .boolean) 1 22 eI [aA a, aI b1, aI b2] μ (mX11_haveRope n a b1 b2 μ) := by
  refine mc_of (L0 := [some (aA a), some (aI b1), some (aI b2), none]) (k := 1) (by decide) rfl rfl (fun X Γ => ?_)
  unfold mX11_haveRope
  refine sn_iconst dX11_haveRope_0 ?_
  refine sn_istore_n (L' := [some (aA a), some (aI b1), some (aI b2), some (aI 0)]) dX11_haveRope_1 (by decide) rfl ?_
  refine sn_lp (La := fun v2 : Int => [some (aA a), some (aI b1), some (aI b2), some (aI v2)]) ?_ n 0 μ
  intro nx2 hnx2 v2 μ2
  refine sn_iload_n dX11_haveRope_2 rfl ?_
  refine sn_aload_n dX11_haveRope_3 rfl ?_
  refine sn_getA (ci := 11) (j := 1) dX11_haveRope_4 fl_X11_13 (by decide) (fun x4 => ?_)
  refine sn_iconst dX11_haveRope_7 ?_
  refine sn_iald dX11_haveRope_8 (fun x8 => ?_)
  refine sn_icmp_ge (tgt := 46) dX11_haveRope_9 (by decide) ?_ ?_
  · refine sn_iconst dX11_haveRope_46 ?_
    exact sn_zret dX11_haveRope_47
  · refine sn_aload_n dX11_haveRope_12 rfl ?_
    refine sn_iload_n dX11_haveRope_13 rfl ?_
    refine sn_callVI (vs := [aI v2]) (ci := 11) (cX11_hangs_ok n a v2 μ2) dX11_haveRope_14 cw_X11_191 rfl rfl rfl (by decide) (by decide) (Nat.le_of_ble_eq_true rfl) (fun p14 => ?_)
    refine sn_if_eq (tgt := 40) dX11_haveRope_17 (by decide) ?_ ?_
    · refine sn_iinc (L' := [some (aA a), some (aI b1), some (aI b2), some (aI (v2 + 1))]) dX11_haveRope_40 rfl (by decide) rfl ?_
      refine sn_goto (tgt := 2) dX11_haveRope_43 (by decide) ?_
      exact hnx2 (v2 + 1) p14.2
    · refine sn_aload_n dX11_haveRope_20 rfl ?_
      refine sn_iload_n dX11_haveRope_21 rfl ?_
      refine sn_iload_n dX11_haveRope_22 rfl ?_
      refine sn_callVI (vs := [aI b1, aI v2]) (ci := 11) (cX11_isEnd_ok n a b1 v2 p14.2) dX11_haveRope_23 cw_X11_166 rfl rfl rfl (by decide) (by decide) (Nat.le_of_ble_eq_true rfl) (fun p23 => ?_)
      refine sn_if_eq (tgt := 40) dX11_haveRope_26 (by decide) ?_ ?_
      · refine sn_iinc (L' := [some (aA a), some (aI b1), some (aI b2), some (aI (v2 + 1))]) dX11_haveRope_40 rfl (by decide) rfl ?_
        refine sn_goto (tgt := 2) dX11_haveRope_43 (by decide) ?_
        exact hnx2 (v2 + 1) p23.2
      · refine sn_aload_n dX11_haveRope_29 rfl ?_
        refine sn_iload_n dX11_haveRope_30 rfl ?_
        refine sn_iload_n dX11_haveRope_31 rfl ?_
        refine sn_callVI (vs := [aI b2, aI v2]) (ci := 11) (cX11_isEnd_ok n a b2 v2 p23.2) dX11_haveRope_32 cw_X11_166 rfl rfl rfl (by decide) (by decide) (Nat.le_of_ble_eq_true rfl) (fun p32 => ?_)
        refine sn_if_eq (tgt := 40) dX11_haveRope_35 (by decide) ?_ ?_
        · refine sn_iinc (L' := [some (aA a), some (aI b1), some (aI b2), some (aI (v2 + 1))]) dX11_haveRope_40 rfl (by decide) rfl ?_
          refine sn_goto (tgt := 2) dX11_haveRope_43 (by decide) ?_
          exact hnx2 (v2 + 1) p32.2
        · refine sn_iconst dX11_haveRope_38 ?_
          exact sn_zret dX11_haveRope_39
