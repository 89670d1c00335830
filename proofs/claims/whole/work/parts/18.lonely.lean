/-! layer 1: lonely -/
theorem dX2_keepIfMore_0 : decode cX2_keepIfMore 0 = .ok (.iload_n 1, 1) := by decide +kernel
theorem dX2_keepIfMore_1 : decode cX2_keepIfMore 1 = .ok (.aload_n 0, 1) := by decide +kernel
theorem dX2_keepIfMore_2 : decode cX2_keepIfMore 2 = .ok (.getfield 45, 3) := by decide +kernel
theorem dX2_keepIfMore_5 : decode cX2_keepIfMore 5 = .ok (.if_icmp .le 23, 3) := by decide +kernel
theorem dX2_keepIfMore_8 : decode cX2_keepIfMore 8 = .ok (.aload_n 0, 1) := by decide +kernel
theorem dX2_keepIfMore_9 : decode cX2_keepIfMore 9 = .ok (.iload_n 1, 1) := by decide +kernel
theorem dX2_keepIfMore_10 : decode cX2_keepIfMore 10 = .ok (.putfield 45, 3) := by decide +kernel
theorem dX2_keepIfMore_13 : decode cX2_keepIfMore 13 = .ok (.aload_n 0, 1) := by decide +kernel
theorem dX2_keepIfMore_14 : decode cX2_keepIfMore 14 = .ok (.getfield 15, 3) := by decide +kernel
theorem dX2_keepIfMore_17 : decode cX2_keepIfMore 17 = .ok (.iconst 0, 1) := by decide +kernel
theorem dX2_keepIfMore_18 : decode cX2_keepIfMore 18 = .ok (.aload_n 0, 1) := by decide +kernel
theorem dX2_keepIfMore_19 : decode cX2_keepIfMore 19 = .ok (.getfield 9, 3) := by decide +kernel
theorem dX2_keepIfMore_22 : decode cX2_keepIfMore 22 = .ok (.iconst 0, 1) := by decide +kernel
theorem dX2_keepIfMore_23 : decode cX2_keepIfMore 23 = .ok (.bipush 7, 2) := by decide +kernel
theorem dX2_keepIfMore_25 : decode cX2_keepIfMore 25 = .ok (.invokestatic 85, 3) := by decide +kernel
theorem dX2_keepIfMore_28 : decode cX2_keepIfMore 28 = .ok (.return_, 1) := by decide +kernel
def mX2_keepIfMore (n : Nat) (a : Nat) (b1 : Int) (μ : Mem) : Option (Unit × Mem) :=
  (gI μ 3 a 0).bind fun x2 =>
  if lt32 x2 b1 then
    (pI μ 3 a 0 b1).bind fun μ10 =>
    (gA μ10 3 a 2).bind fun x14 =>
    (gA μ10 3 a 1).bind fun x19 =>
    (cpI μ10 0 x14 0 x19 0 7).bind fun μ25 =>
    some ((), μ25)
  else
  some ((), μ)
set_option maxRecDepth 100000 in
set_option maxHeartbeats 4000000 in
theorem cX2_keepIfMore_ok (n : Nat) (a : Nat) (b1 : Int) (μ : Mem) : Mc yX2_keepIfMore cX2_keepIfMore 2 none 1 80 eV [aA a, aI b1] μ (mX2_keepIfMore n a b1 μ) := by
  refine mc_of (L0 := [some (aA a), some (aI b1)]) (k := 0) (by decide) rfl rfl (fun X Γ => ?_)
  unfold mX2_keepIfMore
  refine sn_iload_n dX2_keepIfMore_0 rfl ?_
  refine sn_aload_n dX2_keepIfMore_1 rfl ?_
  refine sn_getI (ci := 2) (j := 0) dX2_keepIfMore_2 fl_X2_45 rfl (fun x2 => ?_)
  refine sn_icmp_le (tgt := 28) dX2_keepIfMore_5 (by decide) ?_ ?_
  · exact sn_vret dX2_keepIfMore_28
  · refine sn_aload_n dX2_keepIfMore_8 rfl ?_
    refine sn_iload_n dX2_keepIfMore_9 rfl ?_
    refine sn_putI (ci := 2) (j := 0) dX2_keepIfMore_10 fl_X2_45 rfl (fun q h => by cases h; rfl) (fun μ10 => ?_)
    refine sn_aload_n dX2_keepIfMore_13 rfl ?_
    refine sn_getA (ci := 2) (j := 2) dX2_keepIfMore_14 fl_X2_15 (by decide) (fun x14 => ?_)
    refine sn_iconst dX2_keepIfMore_17 ?_
    refine sn_aload_n dX2_keepIfMore_18 rfl ?_
    refine sn_getA (ci := 2) (j := 1) dX2_keepIfMore_19 fl_X2_9 (by decide) (fun x19 => ?_)
    refine sn_iconst dX2_keepIfMore_22 ?_
    refine sn_bipush dX2_keepIfMore_23 (by decide) ?_
    refine sn_copy (t := 0) dX2_keepIfMore_25 ml_X2_85 (by decide) (by decide) (by decide) (Nat.le_of_ble_eq_true rfl) (fun μ25 => ?_)
    exact sn_vret dX2_keepIfMore_28
theorem dX2_mostToCome_0 : decode cX2_mostToCome 0 = .ok (.iconst 0, 1) := by decide +kernel
theorem dX2_mostToCome_1 : decode cX2_mostToCome 1 = .ok (.istore_n 3, 1) := by decide +kernel
theorem dX2_mostToCome_2 : decode cX2_mostToCome 2 = .ok (.aload_n 1, 1) := by decide +kernel
theorem dX2_mostToCome_3 : decode cX2_mostToCome 3 = .ok (.getfield 98, 3) := by decide +kernel
theorem dX2_mostToCome_6 : decode cX2_mostToCome 6 = .ok (.aload_n 0, 1) := by decide +kernel
theorem dX2_mostToCome_7 : decode cX2_mostToCome 7 = .ok (.getfield 38, 3) := by decide +kernel
theorem dX2_mostToCome_10 : decode cX2_mostToCome 10 = .ok (.iaload, 1) := by decide +kernel
theorem dX2_mostToCome_11 : decode cX2_mostToCome 11 = .ok (.istore 4, 2) := by decide +kernel
theorem dX2_mostToCome_13 : decode cX2_mostToCome 13 = .ok (.iconst 0, 1) := by decide +kernel
theorem dX2_mostToCome_14 : decode cX2_mostToCome 14 = .ok (.istore 5, 2) := by decide +kernel
theorem dX2_mostToCome_16 : decode cX2_mostToCome 16 = .ok (.iload 5, 2) := by decide +kernel
theorem dX2_mostToCome_18 : decode cX2_mostToCome 18 = .ok (.iconst 2, 1) := by decide +kernel
theorem dX2_mostToCome_19 : decode cX2_mostToCome 19 = .ok (.aload_n 1, 1) := by decide +kernel
theorem dX2_mostToCome_20 : decode cX2_mostToCome 20 = .ok (.getfield 67, 3) := by decide +kernel
theorem dX2_mostToCome_23 : decode cX2_mostToCome 23 = .ok (.imul, 1) := by decide +kernel
theorem dX2_mostToCome_24 : decode cX2_mostToCome 24 = .ok (.if_icmp .ge 68, 3) := by decide +kernel
theorem dX2_mostToCome_27 : decode cX2_mostToCome 27 = .ok (.aload_n 1, 1) := by decide +kernel
theorem dX2_mostToCome_28 : decode cX2_mostToCome 28 = .ok (.getfield 91, 3) := by decide +kernel
theorem dX2_mostToCome_31 : decode cX2_mostToCome 31 = .ok (.iload 5, 2) := by decide +kernel
theorem dX2_mostToCome_33 : decode cX2_mostToCome 33 = .ok (.iaload, 1) := by decide +kernel
theorem dX2_mostToCome_34 : decode cX2_mostToCome 34 = .ok (.aload_n 0, 1) := by decide +kernel
theorem dX2_mostToCome_35 : decode cX2_mostToCome 35 = .ok (.getfield 38, 3) := by decide +kernel
theorem dX2_mostToCome_38 : decode cX2_mostToCome 38 = .ok (.if_icmp .ne 48, 3) := by decide +kernel
theorem dX2_mostToCome_41 : decode cX2_mostToCome 41 = .ok (.aload_n 1, 1) := by decide +kernel
theorem dX2_mostToCome_42 : decode cX2_mostToCome 42 = .ok (.getfield 101, 3) := by decide +kernel
theorem dX2_mostToCome_45 : decode cX2_mostToCome 45 = .ok (.iload 5, 2) := by decide +kernel
theorem dX2_mostToCome_47 : decode cX2_mostToCome 47 = .ok (.iconst 2, 1) := by decide +kernel
theorem dX2_mostToCome_48 : decode cX2_mostToCome 48 = .ok (.idiv, 1) := by decide +kernel
theorem dX2_mostToCome_49 : decode cX2_mostToCome 49 = .ok (.baload, 1) := by decide +kernel
theorem dX2_mostToCome_50 : decode cX2_mostToCome 50 = .ok (.ifCond .ne 36, 3) := by decide +kernel
theorem dX2_mostToCome_53 : decode cX2_mostToCome 53 = .ok (.aload_n 1, 1) := by decide +kernel
theorem dX2_mostToCome_54 : decode cX2_mostToCome 54 = .ok (.getfield 105, 3) := by decide +kernel
theorem dX2_mostToCome_57 : decode cX2_mostToCome 57 = .ok (.iload 5, 2) := by decide +kernel
theorem dX2_mostToCome_59 : decode cX2_mostToCome 59 = .ok (.baload, 1) := by decide +kernel
theorem dX2_mostToCome_60 : decode cX2_mostToCome 60 = .ok (.ifCond .eq 7, 3) := by decide +kernel
theorem dX2_mostToCome_63 : decode cX2_mostToCome 63 = .ok (.iconst 1, 1) := by decide +kernel
theorem dX2_mostToCome_64 : decode cX2_mostToCome 64 = .ok (.goto 4, 3) := by decide +kernel
theorem dX2_mostToCome_67 : decode cX2_mostToCome 67 = .ok (.iconst 0, 1) := by decide +kernel
theorem dX2_mostToCome_68 : decode cX2_mostToCome 68 = .ok (.istore 6, 2) := by decide +kernel
theorem dX2_mostToCome_70 : decode cX2_mostToCome 70 = .ok (.iload_n 3, 1) := by decide +kernel
theorem dX2_mostToCome_71 : decode cX2_mostToCome 71 = .ok (.iload_n 2, 1) := by decide +kernel
theorem dX2_mostToCome_72 : decode cX2_mostToCome 72 = .ok (.iload 6, 2) := by decide +kernel
theorem dX2_mostToCome_74 : decode cX2_mostToCome 74 = .ok (.iadd, 1) := by decide +kernel
theorem dX2_mostToCome_75 : decode cX2_mostToCome 75 = .ok (.iconst 2, 1) := by decide +kernel
theorem dX2_mostToCome_76 : decode cX2_mostToCome 76 = .ok (.idiv, 1) := by decide +kernel
theorem dX2_mostToCome_77 : decode cX2_mostToCome 77 = .ok (.iadd, 1) := by decide +kernel
theorem dX2_mostToCome_78 : decode cX2_mostToCome 78 = .ok (.istore_n 3, 1) := by decide +kernel
theorem dX2_mostToCome_79 : decode cX2_mostToCome 79 = .ok (.iload 4, 2) := by decide +kernel
theorem dX2_mostToCome_81 : decode cX2_mostToCome 81 = .ok (.iload 6, 2) := by decide +kernel
theorem dX2_mostToCome_83 : decode cX2_mostToCome 83 = .ok (.iadd, 1) := by decide +kernel
theorem dX2_mostToCome_84 : decode cX2_mostToCome 84 = .ok (.istore 4, 2) := by decide +kernel
theorem dX2_mostToCome_86 : decode cX2_mostToCome 86 = .ok (.iinc 5 1, 3) := by decide +kernel
theorem dX2_mostToCome_89 : decode cX2_mostToCome 89 = .ok (.goto (-73), 3) := by decide +kernel
theorem dX2_mostToCome_92 : decode cX2_mostToCome 92 = .ok (.iload_n 3, 1) := by decide +kernel
theorem dX2_mostToCome_93 : decode cX2_mostToCome 93 = .ok (.iload 4, 2) := by decide +kernel
theorem dX2_mostToCome_95 : decode cX2_mostToCome 95 = .ok (.invokestatic 108, 3) := by decide +kernel
theorem dX2_mostToCome_98 : decode cX2_mostToCome 98 = .ok (.ireturn, 1) := by decide +kernel
def mX2_mostToCome (n : Nat) (a : Nat) (b1 : Nat) (b2 : Int) (μ : Mem) : Option (Int × Mem) :=
  (gA μ 2 b1 8).bind fun x3 =>
  (gI μ 3 a 5).bind fun x7 =>
  (ldI μ 0 x3 x7).bind fun x10 =>
  lp (fun nx16 (v16 : Int × Int × Int) (μ16 : Mem) =>
  (gI μ16 2 b1 1).bind fun x20 =>
  if lt32 v16.2.2 (2 * x20) then
    (gA μ16 2 b1 15).bind fun x28 =>
    (ldI μ16 0 x28 v16.2.2).bind fun x33 =>
    (gI μ16 3 a 5).bind fun x35 =>
    if eq32 x33 x35 then
      (gA μ16 2 b1 14).bind fun x42 =>
      (ldI μ16 2 x42 (oDiv v16.2.2 2)).bind fun x49 =>
      if eq32 x49 0 then
        (gA μ16 2 b1 17).bind fun x54 =>
        (ldI μ16 2 x54 v16.2.2).bind fun x59 =>
        jn (fun (v68 : Int) (μ68 : Mem) =>
        nx16 ((v16.1 + (oDiv (b2 + v68) 2)), (v16.2.1 + v68), (v16.2.2 + 1)) μ68) (fun j68 =>
        if eq32 x59 0 then
          j68 0 μ16
        else
        j68 1 μ16)
      else
      nx16 (v16.1, v16.2.1, (v16.2.2 + 1)) μ16
    else
    nx16 (v16.1, v16.2.1, (v16.2.2 + 1)) μ16
  else
  some ((mMin v16.1 v16.2.1), μ16)) n (0, x10, 0) μ
set_option maxRecDepth 100000 in
set_option maxHeartbeats 4000000 in
theorem cX2_mostToCome_ok (n : Nat) (a : Nat) (b1 : Nat) (b2 : Int) (μ : Mem) : Mc yX2_mostToCome cX2_mostToCome 7 (some .int) 1 40 eI [aA a, aA b1, aI b2] μ (mX2_mostToCome n a b1 b2 μ) := by
  refine mc_of (L0 := [some (aA a), some (aA b1), some (aI b2), none, none, none, none]) (k := 4) (by decide) rfl rfl (fun X Γ => ?_)
  unfold mX2_mostToCome
  refine sn_iconst dX2_mostToCome_0 ?_
  refine sn_istore_n (L' := [some (aA a), some (aA b1), some (aI b2), some (aI 0), none, none, none]) dX2_mostToCome_1 (by decide) rfl ?_
  refine sn_aload_n dX2_mostToCome_2 rfl ?_
  refine sn_getA (ci := 1) (j := 8) dX2_mostToCome_3 fl_X2_98 (by decide) (fun x3 => ?_)
  refine sn_aload_n dX2_mostToCome_6 rfl ?_
  refine sn_getI (ci := 2) (j := 5) dX2_mostToCome_7 fl_X2_38 rfl (fun x7 => ?_)
  refine sn_iald dX2_mostToCome_10 (fun x10 => ?_)
  refine sn_istore (L' := [some (aA a), some (aA b1), some (aI b2), some (aI 0), some (aI x10), none, none]) dX2_mostToCome_11 (by decide) rfl ?_
  refine sn_iconst dX2_mostToCome_13 ?_
  refine sn_istore (L' := [some (aA a), some (aA b1), some (aI b2), some (aI 0), some (aI x10), some (aI 0), none]) dX2_mostToCome_14 (by decide) rfl ?_
  refine sn_lp (La := fun v16 : Int × Int × Int => [some (aA a), some (aA b1), some (aI b2), some (aI v16.1), some (aI v16.2.1), some (aI v16.2.2), none]) ?_ n (0, x10, 0) μ
  intro nx16 hnx16 v16 μ16
  refine sn_iload dX2_mostToCome_16 rfl ?_
  refine sn_iconst dX2_mostToCome_18 ?_
  refine sn_aload_n dX2_mostToCome_19 rfl ?_
  refine sn_getI (ci := 1) (j := 1) dX2_mostToCome_20 fl_X2_67 rfl (fun x20 => ?_)
  refine sn_imul dX2_mostToCome_23 ?_
  refine sn_icmp_ge (tgt := 92) dX2_mostToCome_24 (by decide) ?_ ?_
  · refine sn_iload_n dX2_mostToCome_92 rfl ?_
    refine sn_iload dX2_mostToCome_93 rfl ?_
    refine sn_mMin dX2_mostToCome_95 ml_X2_108 (by decide) (by decide) (Nat.le_of_ble_eq_true rfl) ?_
    exact sn_iret dX2_mostToCome_98
  · refine sn_aload_n dX2_mostToCome_27 rfl ?_
    refine sn_getA (ci := 1) (j := 15) dX2_mostToCome_28 fl_X2_91 (by decide) (fun x28 => ?_)
    refine sn_iload dX2_mostToCome_31 rfl ?_
    refine sn_iald dX2_mostToCome_33 (fun x33 => ?_)
    refine sn_aload_n dX2_mostToCome_34 rfl ?_
    refine sn_getI (ci := 2) (j := 5) dX2_mostToCome_35 fl_X2_38 rfl (fun x35 => ?_)
    refine sn_icmp_ne (tgt := 86) dX2_mostToCome_38 (by decide) ?_ ?_
    · refine sn_iinc (L' := [some (aA a), some (aA b1), some (aI b2), some (aI v16.1), some (aI v16.2.1), some (aI (v16.2.2 + 1)), none]) dX2_mostToCome_86 rfl (by decide) rfl ?_
      refine sn_goto (tgt := 16) dX2_mostToCome_89 (by decide) ?_
      exact hnx16 (v16.1, v16.2.1, (v16.2.2 + 1)) μ16
    · refine sn_aload_n dX2_mostToCome_41 rfl ?_
      refine sn_getA (ci := 1) (j := 14) dX2_mostToCome_42 fl_X2_101 (by decide) (fun x42 => ?_)
      refine sn_iload dX2_mostToCome_45 rfl ?_
      refine sn_iconst dX2_mostToCome_47 ?_
      refine sn_idivK dX2_mostToCome_48 (by decide) ?_
      refine sn_zald dX2_mostToCome_49 (fun x49 => ?_)
      refine sn_if_ne (tgt := 86) dX2_mostToCome_50 (by decide) ?_ ?_
      · refine sn_iinc (L' := [some (aA a), some (aA b1), some (aI b2), some (aI v16.1), some (aI v16.2.1), some (aI (v16.2.2 + 1)), none]) dX2_mostToCome_86 rfl (by decide) rfl ?_
        refine sn_goto (tgt := 16) dX2_mostToCome_89 (by decide) ?_
        exact hnx16 (v16.1, v16.2.1, (v16.2.2 + 1)) μ16
      · refine sn_aload_n dX2_mostToCome_53 rfl ?_
        refine sn_getA (ci := 1) (j := 17) dX2_mostToCome_54 fl_X2_105 (by decide) (fun x54 => ?_)
        refine sn_iload dX2_mostToCome_57 rfl ?_
        refine sn_zald dX2_mostToCome_59 (fun x59 => ?_)
        refine sn_jn (pcj := 68) (La := fun v68 : Int => [some (aA a), some (aA b1), some (aI b2), some (aI v16.1), some (aI v16.2.1), some (aI v16.2.2), none]) (Sa := fun v68 : Int => [aI v68]) ?_ ?_
        · intro v68 μ68
          refine sn_istore (L' := [some (aA a), some (aA b1), some (aI b2), some (aI v16.1), some (aI v16.2.1), some (aI v16.2.2), some (aI v68)]) dX2_mostToCome_68 (by decide) rfl ?_
          refine sn_iload_n dX2_mostToCome_70 rfl ?_
          refine sn_iload_n dX2_mostToCome_71 rfl ?_
          refine sn_iload dX2_mostToCome_72 rfl ?_
          refine sn_iadd dX2_mostToCome_74 ?_
          refine sn_iconst dX2_mostToCome_75 ?_
          refine sn_idivK dX2_mostToCome_76 (by decide) ?_
          refine sn_iadd dX2_mostToCome_77 ?_
          refine sn_istore_n (L' := [some (aA a), some (aA b1), some (aI b2), some (aI (v16.1 + (oDiv (b2 + v68) 2))), some (aI v16.2.1), some (aI v16.2.2), some (aI v68)]) dX2_mostToCome_78 (by decide) rfl ?_
          refine sn_iload dX2_mostToCome_79 rfl ?_
          refine sn_iload dX2_mostToCome_81 rfl ?_
          refine sn_iadd dX2_mostToCome_83 ?_
          refine sn_istore (L' := [some (aA a), some (aA b1), some (aI b2), some (aI (v16.1 + (oDiv (b2 + v68) 2))), some (aI (v16.2.1 + v68)), some (aI v16.2.2), some (aI v68)]) dX2_mostToCome_84 (by decide) rfl ?_
          refine sn_iinc (L' := [some (aA a), some (aA b1), some (aI b2), some (aI (v16.1 + (oDiv (b2 + v68) 2))), some (aI (v16.2.1 + v68)), some (aI (v16.2.2 + 1)), some (aI v68)]) dX2_mostToCome_86 rfl (by decide) rfl ?_
          refine sn_goto (tgt := 16) dX2_mostToCome_89 (by decide) ?_
          exact sn_mask (L' := [some (aA a), some (aA b1), some (aI b2), some (aI (v16.1 + (oDiv (b2 + v68) 2))), some (aI (v16.2.1 + v68)), some (aI (v16.2.2 + 1)), none]) [true, true, true, true, true, true, false] rfl (hnx16 ((v16.1 + (oDiv (b2 + v68) 2)), (v16.2.1 + v68), (v16.2.2 + 1)) μ68)
        intro j68 hj68
        refine sn_if_eq (tgt := 67) dX2_mostToCome_60 (by decide) ?_ ?_
        · refine sn_iconst dX2_mostToCome_67 ?_
          exact hj68 0 μ16
        · refine sn_iconst dX2_mostToCome_63 ?_
          refine sn_goto (tgt := 68) dX2_mostToCome_64 (by decide) ?_
          exact hj68 1 μ16
theorem dX2_seekPull_0 : decode cX2_seekPull 0 = .ok (.aload_n 0, 1) := by decide +kernel
theorem dX2_seekPull_1 : decode cX2_seekPull 1 = .ok (.getfield 15, 3) := by decide +kernel
theorem dX2_seekPull_4 : decode cX2_seekPull 4 = .ok (.iload_n 1, 1) := by decide +kernel
theorem dX2_seekPull_5 : decode cX2_seekPull 5 = .ok (.iload_n 2, 1) := by decide +kernel
theorem dX2_seekPull_6 : decode cX2_seekPull 6 = .ok (.iastore, 1) := by decide +kernel
theorem dX2_seekPull_7 : decode cX2_seekPull 7 = .ok (.aload_n 0, 1) := by decide +kernel
theorem dX2_seekPull_8 : decode cX2_seekPull 8 = .ok (.getfield 24, 3) := by decide +kernel
theorem dX2_seekPull_11 : decode cX2_seekPull 11 = .ok (.aload_n 0, 1) := by decide +kernel
theorem dX2_seekPull_12 : decode cX2_seekPull 12 = .ok (.getfield 38, 3) := by decide +kernel
theorem dX2_seekPull_15 : decode cX2_seekPull 15 = .ok (.iload_n 2, 1) := by decide +kernel
theorem dX2_seekPull_16 : decode cX2_seekPull 16 = .ok (.iastore, 1) := by decide +kernel
theorem dX2_seekPull_17 : decode cX2_seekPull 17 = .ok (.aload_n 0, 1) := by decide +kernel
theorem dX2_seekPull_18 : decode cX2_seekPull 18 = .ok (.getfield 20, 3) := by decide +kernel
theorem dX2_seekPull_21 : decode cX2_seekPull 21 = .ok (.iload_n 1, 1) := by decide +kernel
theorem dX2_seekPull_22 : decode cX2_seekPull 22 = .ok (.iconst 1, 1) := by decide +kernel
theorem dX2_seekPull_23 : decode cX2_seekPull 23 = .ok (.iadd, 1) := by decide +kernel
theorem dX2_seekPull_24 : decode cX2_seekPull 24 = .ok (.aaload, 1) := by decide +kernel
theorem dX2_seekPull_25 : decode cX2_seekPull 25 = .ok (.aload_n 0, 1) := by decide +kernel
theorem dX2_seekPull_26 : decode cX2_seekPull 26 = .ok (.getfield 20, 3) := by decide +kernel
theorem dX2_seekPull_29 : decode cX2_seekPull 29 = .ok (.iload_n 1, 1) := by decide +kernel
theorem dX2_seekPull_30 : decode cX2_seekPull 30 = .ok (.aaload, 1) := by decide +kernel
theorem dX2_seekPull_31 : decode cX2_seekPull 31 = .ok (.invokevirtual 78, 3) := by decide +kernel
theorem dX2_seekPull_34 : decode cX2_seekPull 34 = .ok (.aload_n 0, 1) := by decide +kernel
theorem dX2_seekPull_35 : decode cX2_seekPull 35 = .ok (.getfield 20, 3) := by decide +kernel
theorem dX2_seekPull_38 : decode cX2_seekPull 38 = .ok (.iload_n 1, 1) := by decide +kernel
theorem dX2_seekPull_39 : decode cX2_seekPull 39 = .ok (.iconst 1, 1) := by decide +kernel
theorem dX2_seekPull_40 : decode cX2_seekPull 40 = .ok (.iadd, 1) := by decide +kernel
theorem dX2_seekPull_41 : decode cX2_seekPull 41 = .ok (.aaload, 1) := by decide +kernel
theorem dX2_seekPull_42 : decode cX2_seekPull 42 = .ok (.aload_n 0, 1) := by decide +kernel
theorem dX2_seekPull_43 : decode cX2_seekPull 43 = .ok (.getfield 24, 3) := by decide +kernel
theorem dX2_seekPull_46 : decode cX2_seekPull 46 = .ok (.invokevirtual 81, 3) := by decide +kernel
theorem dX2_seekPull_49 : decode cX2_seekPull 49 = .ok (.pop, 1) := by decide +kernel
theorem dX2_seekPull_50 : decode cX2_seekPull 50 = .ok (.aload_n 0, 1) := by decide +kernel
theorem dX2_seekPull_51 : decode cX2_seekPull 51 = .ok (.iload_n 1, 1) := by decide +kernel
theorem dX2_seekPull_52 : decode cX2_seekPull 52 = .ok (.iconst 1, 1) := by decide +kernel
theorem dX2_seekPull_53 : decode cX2_seekPull 53 = .ok (.iadd, 1) := by decide +kernel
theorem dX2_seekPull_54 : decode cX2_seekPull 54 = .ok (.invokevirtual 48, 3) := by decide +kernel
theorem dX2_seekPull_57 : decode cX2_seekPull 57 = .ok (.return_, 1) := by decide +kernel
def bX2_seekPull (n : Nat) (self : Nat × Int → Mem → Option (Unit × Mem)) (v : Nat × Int × Int) (μ : Mem) : Option (Unit × Mem) :=
  (gA μ 3 v.1 2).bind fun x1 =>
  (stI μ 0 x1 v.2.1 v.2.2).bind fun μ6 =>
  (gA μ6 3 v.1 4).bind fun x8 =>
  (gI μ6 3 v.1 5).bind fun x12 =>
  (stI μ6 0 x8 x12 v.2.2).bind fun μ16 =>
  (gA μ16 3 v.1 3).bind fun x18 =>
  (ldA μ16 4 x18 (v.2.1 + 1)).bind fun x24 =>
  (gA μ16 3 v.1 3).bind fun x26 =>
  (ldA μ16 4 x26 v.2.1).bind fun x30 =>
  (inv μ16 2 x24 (mX1_takeMoved n x24 x30 μ16)).bind fun p31 =>
  (gA p31.2 3 v.1 3).bind fun x35 =>
  (ldA p31.2 4 x35 (v.2.1 + 1)).bind fun x41 =>
  (gA p31.2 3 v.1 4).bind fun x43 =>
  (inv p31.2 2 x41 (mX1_goOn n x41 x43 p31.2)).bind fun p46 =>
  (inv p46.2 3 v.1 (self (v.1, (v.2.1 + 1)) p46.2)).bind fun p54 =>
  some ((), p54.2)
set_option maxRecDepth 100000 in
set_option maxHeartbeats 4000000 in
theorem bX2_seekPull_ok (n : Nat) (self : Nat × Int → Mem → Option (Unit × Mem)) (fs ls : Nat) (hs : ∀ (v : Nat × Int) (μ : Mem), Mc yX2_seekFrom cX2_seekFrom 5 none fs ls eV [aA v.1, aI v.2] μ (self v μ)) (v : Nat × Int × Int) (μ : Mem) : Mc yX2_seekPull cX2_seekPull 3 none (fs + 4) (ls + 110) eV [aA v.1, aI v.2.1, aI v.2.2] μ (bX2_seekPull n self v μ) := by
  refine mc_of (L0 := [some (aA v.1), some (aI v.2.1), some (aI v.2.2)]) (k := 0) (by decide) rfl rfl (fun X Γ => ?_)
  unfold bX2_seekPull
  refine sn_aload_n dX2_seekPull_0 rfl ?_
  refine sn_getA (ci := 2) (j := 2) dX2_seekPull_1 fl_X2_15 (by decide) (fun x1 => ?_)
  refine sn_iload_n dX2_seekPull_4 rfl ?_
  refine sn_iload_n dX2_seekPull_5 rfl ?_
  refine sn_iast dX2_seekPull_6 (fun μ6 => ?_)
  refine sn_aload_n dX2_seekPull_7 rfl ?_
  refine sn_getA (ci := 2) (j := 4) dX2_seekPull_8 fl_X2_24 (by decide) (fun x8 => ?_)
  refine sn_aload_n dX2_seekPull_11 rfl ?_
  refine sn_getI (ci := 2) (j := 5) dX2_seekPull_12 fl_X2_38 rfl (fun x12 => ?_)
  refine sn_iload_n dX2_seekPull_15 rfl ?_
  refine sn_iast dX2_seekPull_16 (fun μ16 => ?_)
  refine sn_aload_n dX2_seekPull_17 rfl ?_
  refine sn_getA (ci := 2) (j := 3) dX2_seekPull_18 fl_X2_20 (by decide) (fun x18 => ?_)
  refine sn_iload_n dX2_seekPull_21 rfl ?_
  refine sn_iconst dX2_seekPull_22 ?_
  refine sn_iadd dX2_seekPull_23 ?_
  refine sn_aald4 dX2_seekPull_24 (fun x24 => ?_)
  refine sn_aload_n dX2_seekPull_25 rfl ?_
  refine sn_getA (ci := 2) (j := 3) dX2_seekPull_26 fl_X2_20 (by decide) (fun x26 => ?_)
  refine sn_iload_n dX2_seekPull_29 rfl ?_
  refine sn_aald4 dX2_seekPull_30 (fun x30 => ?_)
  refine sn_callVV (vs := [aA x30]) (ci := 1) (cX1_takeMoved_ok n x24 x30 μ16) dX2_seekPull_31 cw_X2_78 rfl rfl rfl (by omega) (by omega) (Nat.le_of_ble_eq_true rfl) (fun p31 => ?_)
  refine sn_aload_n dX2_seekPull_34 rfl ?_
  refine sn_getA (ci := 2) (j := 3) dX2_seekPull_35 fl_X2_20 (by decide) (fun x35 => ?_)
  refine sn_iload_n dX2_seekPull_38 rfl ?_
  refine sn_iconst dX2_seekPull_39 ?_
  refine sn_iadd dX2_seekPull_40 ?_
  refine sn_aald4 dX2_seekPull_41 (fun x41 => ?_)
  refine sn_aload_n dX2_seekPull_42 rfl ?_
  refine sn_getA (ci := 2) (j := 4) dX2_seekPull_43 fl_X2_24 (by decide) (fun x43 => ?_)
  refine sn_callVI (vs := [aA x43]) (ci := 1) (cX1_goOn_ok n x41 x43 p31.2) dX2_seekPull_46 cw_X2_81 rfl rfl rfl (by omega) (by omega) (Nat.le_of_ble_eq_true rfl) (fun p46 => ?_)
  refine sn_pop dX2_seekPull_49 rfl ?_
  refine sn_aload_n dX2_seekPull_50 rfl ?_
  refine sn_iload_n dX2_seekPull_51 rfl ?_
  refine sn_iconst dX2_seekPull_52 ?_
  refine sn_iadd dX2_seekPull_53 ?_
  refine sn_callVV (vs := [aI (v.2.1 + 1)]) (ci := 2) (hs (v.1, (v.2.1 + 1)) p46.2) dX2_seekPull_54 cw_X2_48 rfl rfl rfl (by omega) (by omega) (Nat.le_of_ble_eq_true rfl) (fun p54 => ?_)
  exact sn_vret dX2_seekPull_57
theorem dX2_pullMatters_0 : decode cX2_pullMatters 0 = .ok (.aload_n 1, 1) := by decide +kernel
theorem dX2_pullMatters_1 : decode cX2_pullMatters 1 = .ok (.getfield 91, 3) := by decide +kernel
theorem dX2_pullMatters_4 : decode cX2_pullMatters 4 = .ok (.iconst 2, 1) := by decide +kernel
theorem dX2_pullMatters_5 : decode cX2_pullMatters 5 = .ok (.iload_n 2, 1) := by decide +kernel
theorem dX2_pullMatters_6 : decode cX2_pullMatters 6 = .ok (.imul, 1) := by decide +kernel
theorem dX2_pullMatters_7 : decode cX2_pullMatters 7 = .ok (.iaload, 1) := by decide +kernel
theorem dX2_pullMatters_8 : decode cX2_pullMatters 8 = .ok (.aload_n 0, 1) := by decide +kernel
theorem dX2_pullMatters_9 : decode cX2_pullMatters 9 = .ok (.getfield 38, 3) := by decide +kernel
theorem dX2_pullMatters_12 : decode cX2_pullMatters 12 = .ok (.if_icmp .ne 7, 3) := by decide +kernel
theorem dX2_pullMatters_15 : decode cX2_pullMatters 15 = .ok (.iconst 1, 1) := by decide +kernel
theorem dX2_pullMatters_16 : decode cX2_pullMatters 16 = .ok (.goto 4, 3) := by decide +kernel
theorem dX2_pullMatters_19 : decode cX2_pullMatters 19 = .ok (.iconst 0, 1) := by decide +kernel
theorem dX2_pullMatters_20 : decode cX2_pullMatters 20 = .ok (.istore_n 3, 1) := by decide +kernel
theorem dX2_pullMatters_21 : decode cX2_pullMatters 21 = .ok (.aload_n 1, 1) := by decide +kernel
theorem dX2_pullMatters_22 : decode cX2_pullMatters 22 = .ok (.iload_n 2, 1) := by decide +kernel
theorem dX2_pullMatters_23 : decode cX2_pullMatters 23 = .ok (.iload_n 3, 1) := by decide +kernel
theorem dX2_pullMatters_24 : decode cX2_pullMatters 24 = .ok (.iload_n 3, 1) := by decide +kernel
theorem dX2_pullMatters_25 : decode cX2_pullMatters 25 = .ok (.ifCond .ne 7, 3) := by decide +kernel
theorem dX2_pullMatters_28 : decode cX2_pullMatters 28 = .ok (.iconst 1, 1) := by decide +kernel
theorem dX2_pullMatters_29 : decode cX2_pullMatters 29 = .ok (.goto 4, 3) := by decide +kernel
theorem dX2_pullMatters_32 : decode cX2_pullMatters 32 = .ok (.iconst 0, 1) := by decide +kernel
theorem dX2_pullMatters_33 : decode cX2_pullMatters 33 = .ok (.invokevirtual 94, 3) := by decide +kernel
theorem dX2_pullMatters_36 : decode cX2_pullMatters 36 = .ok (.aload_n 1, 1) := by decide +kernel
theorem dX2_pullMatters_37 : decode cX2_pullMatters 37 = .ok (.iload_n 2, 1) := by decide +kernel
theorem dX2_pullMatters_38 : decode cX2_pullMatters 38 = .ok (.iconst 0, 1) := by decide +kernel
theorem dX2_pullMatters_39 : decode cX2_pullMatters 39 = .ok (.iconst 0, 1) := by decide +kernel
theorem dX2_pullMatters_40 : decode cX2_pullMatters 40 = .ok (.invokevirtual 94, 3) := by decide +kernel
theorem dX2_pullMatters_43 : decode cX2_pullMatters 43 = .ok (.if_icmp .eq 7, 3) := by decide +kernel
theorem dX2_pullMatters_46 : decode cX2_pullMatters 46 = .ok (.iconst 1, 1) := by decide +kernel
theorem dX2_pullMatters_47 : decode cX2_pullMatters 47 = .ok (.goto 4, 3) := by decide +kernel
theorem dX2_pullMatters_50 : decode cX2_pullMatters 50 = .ok (.iconst 0, 1) := by decide +kernel
theorem dX2_pullMatters_51 : decode cX2_pullMatters 51 = .ok (.ireturn, 1) := by decide +kernel
def mX2_pullMatters (n : Nat) (a : Nat) (b1 : Nat) (b2 : Int) (μ : Mem) : Option (Int × Mem) :=
  (gA μ 2 b1 15).bind fun x1 =>
  (ldI μ 0 x1 (2 * b2)).bind fun x7 =>
  (gI μ 3 a 5).bind fun x9 =>
  jn (fun (v20 : Int) (μ20 : Mem) =>
  jn (fun (v33 : Int) (μ33 : Mem) =>
  (inv μ33 2 b1 (mX1_depthBehind n b1 b2 v20 v33 μ33)).bind fun p33 =>
  (inv p33.2 2 b1 (mX1_depthBehind n b1 b2 0 0 p33.2)).bind fun p40 =>
  if eq32 p33.1 p40.1 then
    retZ 0 p40.2
  else
  retZ 1 p40.2) (fun j33 =>
  if eq32 v20 0 then
    j33 1 μ20
  else
  j33 0 μ20)) (fun j20 =>
  if eq32 x7 x9 then
    j20 1 μ
  else
  j20 0 μ)
set_option maxRecDepth 100000 in
set_option maxHeartbeats 4000000 in
theorem cX2_pullMatters_ok (n : Nat) (a : Nat) (b1 : Nat) (b2 : Int) (μ : Mem) : Mc yX2_pullMatters cX2_pullMatters 4 (some .boolean) 3 88 eI [aA a, aA b1, aI b2] μ (mX2_pullMatters n a b1 b2 μ) := by
  refine mc_of (L0 := [some (aA a), some (aA b1), some (aI b2), none]) (k := 1) (by decide) rfl rfl (fun X Γ => ?_)
  unfold mX2_pullMatters
  refine sn_aload_n dX2_pullMatters_0 rfl ?_
  refine sn_getA (ci := 1) (j := 15) dX2_pullMatters_1 fl_X2_91 (by decide) (fun x1 => ?_)
  refine sn_iconst dX2_pullMatters_4 ?_
  refine sn_iload_n dX2_pullMatters_5 rfl ?_
  refine sn_imul dX2_pullMatters_6 ?_
  refine sn_iald dX2_pullMatters_7 (fun x7 => ?_)
  refine sn_aload_n dX2_pullMatters_8 rfl ?_
  refine sn_getI (ci := 2) (j := 5) dX2_pullMatters_9 fl_X2_38 rfl (fun x9 => ?_)
  refine sn_jn (pcj := 20) (La := fun v20 : Int => [none, some (aA b1), some (aI b2), none]) (Sa := fun v20 : Int => [aI v20]) ?_ ?_
  · intro v20 μ20
    refine sn_istore_n (L' := [none, some (aA b1), some (aI b2), some (aI v20)]) dX2_pullMatters_20 (by decide) rfl ?_
    refine sn_aload_n dX2_pullMatters_21 rfl ?_
    refine sn_iload_n dX2_pullMatters_22 rfl ?_
    refine sn_iload_n dX2_pullMatters_23 rfl ?_
    refine sn_iload_n dX2_pullMatters_24 rfl ?_
    refine sn_jn (pcj := 33) (La := fun v33 : Int => [none, some (aA b1), some (aI b2), none]) (Sa := fun v33 : Int => [aI v33, aI v20, aI b2, aA b1]) ?_ ?_
    · intro v33 μ33
      refine sn_callVI (vs := [aI b2, aI v20, aI v33]) (ci := 1) (cX1_depthBehind_ok n b1 b2 v20 v33 μ33) dX2_pullMatters_33 cw_X2_94 rfl rfl rfl (by decide) (by decide) (Nat.le_of_ble_eq_true rfl) (fun p33 => ?_)
      refine sn_aload_n dX2_pullMatters_36 rfl ?_
      refine sn_iload_n dX2_pullMatters_37 rfl ?_
      refine sn_iconst dX2_pullMatters_38 ?_
      refine sn_iconst dX2_pullMatters_39 ?_
      refine sn_callVI (vs := [aI b2, aI 0, aI 0]) (ci := 1) (cX1_depthBehind_ok n b1 b2 0 0 p33.2) dX2_pullMatters_40 cw_X2_94 rfl rfl rfl (by decide) (by decide) (Nat.le_of_ble_eq_true rfl) (fun p40 => ?_)
      refine sn_icmp_eq (tgt := 50) dX2_pullMatters_43 (by decide) ?_ ?_
      · refine sn_iconst dX2_pullMatters_50 ?_
        exact sn_zret dX2_pullMatters_51
      · refine sn_iconst dX2_pullMatters_46 ?_
        refine sn_goto (tgt := 51) dX2_pullMatters_47 (by decide) ?_
        exact sn_zret dX2_pullMatters_51
    intro j33 hj33
    refine sn_if_ne (tgt := 32) dX2_pullMatters_25 (by decide) ?_ ?_
    · refine sn_iconst dX2_pullMatters_32 ?_
      exact sn_mask (L' := [none, some (aA b1), some (aI b2), none]) [false, true, true, false] rfl (hj33 0 μ20)
    · refine sn_iconst dX2_pullMatters_28 ?_
      refine sn_goto (tgt := 33) dX2_pullMatters_29 (by decide) ?_
      exact sn_mask (L' := [none, some (aA b1), some (aI b2), none]) [false, true, true, false] rfl (hj33 1 μ20)
  intro j20 hj20
  refine sn_icmp_ne (tgt := 19) dX2_pullMatters_12 (by decide) ?_ ?_
  · refine sn_iconst dX2_pullMatters_19 ?_
    exact sn_mask (L' := [none, some (aA b1), some (aI b2), none]) [false, true, true, false] rfl (hj20 0 μ)
  · refine sn_iconst dX2_pullMatters_15 ?_
    refine sn_goto (tgt := 20) dX2_pullMatters_16 (by decide) ?_
    exact sn_mask (L' := [none, some (aA b1), some (aI b2), none]) [false, true, true, false] rfl (hj20 1 μ)
theorem dX2_seekFrom_0 : decode cX2_seekFrom 0 = .ok (.aload_n 0, 1) := by decide +kernel
theorem dX2_seekFrom_1 : decode cX2_seekFrom 1 = .ok (.getfield 20, 3) := by decide +kernel
theorem dX2_seekFrom_4 : decode cX2_seekFrom 4 = .ok (.iload_n 1, 1) := by decide +kernel
theorem dX2_seekFrom_5 : decode cX2_seekFrom 5 = .ok (.aaload, 1) := by decide +kernel
theorem dX2_seekFrom_6 : decode cX2_seekFrom 6 = .ok (.astore_n 2, 1) := by decide +kernel
theorem dX2_seekFrom_7 : decode cX2_seekFrom 7 = .ok (.aload_n 2, 1) := by decide +kernel
theorem dX2_seekFrom_8 : decode cX2_seekFrom 8 = .ok (.aload_n 0, 1) := by decide +kernel
theorem dX2_seekFrom_9 : decode cX2_seekFrom 9 = .ok (.getfield 38, 3) := by decide +kernel
theorem dX2_seekFrom_12 : decode cX2_seekFrom 12 = .ok (.invokevirtual 52, 3) := by decide +kernel
theorem dX2_seekFrom_15 : decode cX2_seekFrom 15 = .ok (.aload_n 0, 1) := by decide +kernel
theorem dX2_seekFrom_16 : decode cX2_seekFrom 16 = .ok (.getfield 20, 3) := by decide +kernel
theorem dX2_seekFrom_19 : decode cX2_seekFrom 19 = .ok (.iconst 0, 1) := by decide +kernel
theorem dX2_seekFrom_20 : decode cX2_seekFrom 20 = .ok (.aaload, 1) := by decide +kernel
theorem dX2_seekFrom_21 : decode cX2_seekFrom 21 = .ok (.aload_n 0, 1) := by decide +kernel
theorem dX2_seekFrom_22 : decode cX2_seekFrom 22 = .ok (.getfield 38, 3) := by decide +kernel
theorem dX2_seekFrom_25 : decode cX2_seekFrom 25 = .ok (.invokevirtual 52, 3) := by decide +kernel
theorem dX2_seekFrom_28 : decode cX2_seekFrom 28 = .ok (.isub, 1) := by decide +kernel
theorem dX2_seekFrom_29 : decode cX2_seekFrom 29 = .ok (.istore_n 3, 1) := by decide +kernel
theorem dX2_seekFrom_30 : decode cX2_seekFrom 30 = .ok (.iload_n 1, 1) := by decide +kernel
theorem dX2_seekFrom_31 : decode cX2_seekFrom 31 = .ok (.aload_n 0, 1) := by decide +kernel
theorem dX2_seekFrom_32 : decode cX2_seekFrom 32 = .ok (.getfield 42, 3) := by decide +kernel
theorem dX2_seekFrom_35 : decode cX2_seekFrom 35 = .ok (.if_icmp .ge 9, 3) := by decide +kernel
theorem dX2_seekFrom_38 : decode cX2_seekFrom 38 = .ok (.iload_n 1, 1) := by decide +kernel
theorem dX2_seekFrom_39 : decode cX2_seekFrom 39 = .ok (.bipush 7, 2) := by decide +kernel
theorem dX2_seekFrom_41 : decode cX2_seekFrom 41 = .ok (.if_icmp .lt 9, 3) := by decide +kernel
theorem dX2_seekFrom_44 : decode cX2_seekFrom 44 = .ok (.aload_n 0, 1) := by decide +kernel
theorem dX2_seekFrom_45 : decode cX2_seekFrom 45 = .ok (.iload_n 3, 1) := by decide +kernel
theorem dX2_seekFrom_46 : decode cX2_seekFrom 46 = .ok (.invokevirtual 56, 3) := by decide +kernel
theorem dX2_seekFrom_49 : decode cX2_seekFrom 49 = .ok (.return_, 1) := by decide +kernel
theorem dX2_seekFrom_50 : decode cX2_seekFrom 50 = .ok (.iload_n 3, 1) := by decide +kernel
theorem dX2_seekFrom_51 : decode cX2_seekFrom 51 = .ok (.aload_n 0, 1) := by decide +kernel
theorem dX2_seekFrom_52 : decode cX2_seekFrom 52 = .ok (.aload_n 2, 1) := by decide +kernel
theorem dX2_seekFrom_53 : decode cX2_seekFrom 53 = .ok (.aload_n 0, 1) := by decide +kernel
theorem dX2_seekFrom_54 : decode cX2_seekFrom 54 = .ok (.getfield 42, 3) := by decide +kernel
theorem dX2_seekFrom_57 : decode cX2_seekFrom 57 = .ok (.iload_n 1, 1) := by decide +kernel
theorem dX2_seekFrom_58 : decode cX2_seekFrom 58 = .ok (.isub, 1) := by decide +kernel
theorem dX2_seekFrom_59 : decode cX2_seekFrom 59 = .ok (.invokevirtual 59, 3) := by decide +kernel
theorem dX2_seekFrom_62 : decode cX2_seekFrom 62 = .ok (.iadd, 1) := by decide +kernel
theorem dX2_seekFrom_63 : decode cX2_seekFrom 63 = .ok (.aload_n 0, 1) := by decide +kernel
theorem dX2_seekFrom_64 : decode cX2_seekFrom 64 = .ok (.getfield 45, 3) := by decide +kernel
theorem dX2_seekFrom_67 : decode cX2_seekFrom 67 = .ok (.if_icmp .gt 4, 3) := by decide +kernel
theorem dX2_seekFrom_70 : decode cX2_seekFrom 70 = .ok (.return_, 1) := by decide +kernel
theorem dX2_seekFrom_71 : decode cX2_seekFrom 71 = .ok (.aload_n 0, 1) := by decide +kernel
theorem dX2_seekFrom_72 : decode cX2_seekFrom 72 = .ok (.iload_n 1, 1) := by decide +kernel
theorem dX2_seekFrom_73 : decode cX2_seekFrom 73 = .ok (.iconst (-1), 1) := by decide +kernel
theorem dX2_seekFrom_74 : decode cX2_seekFrom 74 = .ok (.invokevirtual 63, 3) := by decide +kernel
theorem dX2_seekFrom_77 : decode cX2_seekFrom 77 = .ok (.iconst 0, 1) := by decide +kernel
theorem dX2_seekFrom_78 : decode cX2_seekFrom 78 = .ok (.istore 4, 2) := by decide +kernel
theorem dX2_seekFrom_80 : decode cX2_seekFrom 80 = .ok (.iload 4, 2) := by decide +kernel
theorem dX2_seekFrom_82 : decode cX2_seekFrom 82 = .ok (.aload_n 2, 1) := by decide +kernel
theorem dX2_seekFrom_83 : decode cX2_seekFrom 83 = .ok (.getfield 67, 3) := by decide +kernel
theorem dX2_seekFrom_86 : decode cX2_seekFrom 86 = .ok (.if_icmp .ge 39, 3) := by decide +kernel
theorem dX2_seekFrom_89 : decode cX2_seekFrom 89 = .ok (.aload_n 2, 1) := by decide +kernel
theorem dX2_seekFrom_90 : decode cX2_seekFrom 90 = .ok (.iload 4, 2) := by decide +kernel
theorem dX2_seekFrom_92 : decode cX2_seekFrom 92 = .ok (.aload_n 0, 1) := by decide +kernel
theorem dX2_seekFrom_93 : decode cX2_seekFrom 93 = .ok (.getfield 38, 3) := by decide +kernel
theorem dX2_seekFrom_96 : decode cX2_seekFrom 96 = .ok (.invokevirtual 70, 3) := by decide +kernel
theorem dX2_seekFrom_99 : decode cX2_seekFrom 99 = .ok (.ifCond .eq 20, 3) := by decide +kernel
theorem dX2_seekFrom_102 : decode cX2_seekFrom 102 = .ok (.aload_n 0, 1) := by decide +kernel
theorem dX2_seekFrom_103 : decode cX2_seekFrom 103 = .ok (.aload_n 2, 1) := by decide +kernel
theorem dX2_seekFrom_104 : decode cX2_seekFrom 104 = .ok (.iload 4, 2) := by decide +kernel
theorem dX2_seekFrom_106 : decode cX2_seekFrom 106 = .ok (.invokevirtual 74, 3) := by decide +kernel
theorem dX2_seekFrom_109 : decode cX2_seekFrom 109 = .ok (.ifCond .eq 10, 3) := by decide +kernel
theorem dX2_seekFrom_112 : decode cX2_seekFrom 112 = .ok (.aload_n 0, 1) := by decide +kernel
theorem dX2_seekFrom_113 : decode cX2_seekFrom 113 = .ok (.iload_n 1, 1) := by decide +kernel
theorem dX2_seekFrom_114 : decode cX2_seekFrom 114 = .ok (.iload 4, 2) := by decide +kernel
theorem dX2_seekFrom_116 : decode cX2_seekFrom 116 = .ok (.invokevirtual 63, 3) := by decide +kernel
theorem dX2_seekFrom_119 : decode cX2_seekFrom 119 = .ok (.iinc 4 1, 3) := by decide +kernel
theorem dX2_seekFrom_122 : decode cX2_seekFrom 122 = .ok (.goto (-42), 3) := by decide +kernel
theorem dX2_seekFrom_125 : decode cX2_seekFrom 125 = .ok (.return_, 1) := by decide +kernel
def bX2_seekFrom (n : Nat) (self : Nat × Int → Mem → Option (Unit × Mem)) (v : Nat × Int) (μ : Mem) : Option (Unit × Mem) :=
  (gA μ 3 v.1 3).bind fun x1 =>
  (ldA μ 4 x1 v.2).bind fun x5 =>
  (gI μ 3 v.1 5).bind fun x9 =>
  (inv μ 2 x5 (mX1_had n x5 x9 μ)).bind fun p12 =>
  (gA p12.2 3 v.1 3).bind fun x16 =>
  (ldA p12.2 4 x16 0).bind fun x20 =>
  (gI p12.2 3 v.1 5).bind fun x22 =>
  (inv p12.2 2 x20 (mX1_had n x20 x22 p12.2)).bind fun p25 =>
  (gI p25.2 3 v.1 6).bind fun x32 =>
  jn (fun (v44 : Unit) (μ44 : Mem) =>
  (inv μ44 3 v.1 (mX2_keepIfMore n v.1 (p12.1 - p25.1) μ44)).bind fun p46 =>
  some ((), p46.2)) (fun j44 =>
  if lt32 v.2 x32 then
    if lt32 v.2 7 then
      (gI p25.2 3 v.1 6).bind fun x54 =>
      (inv p25.2 3 v.1 (mX2_mostToCome n v.1 x5 (x54 - v.2) p25.2)).bind fun p59 =>
      (gI p59.2 3 v.1 0).bind fun x64 =>
      if lt32 x64 ((p12.1 - p25.1) + p59.1) then
        (inv p59.2 3 v.1 (bX2_seekPull n self (v.1, v.2, (-1)) p59.2)).bind fun p74 =>
        lp (fun nx80 (v80 : Int) (μ80 : Mem) =>
        (gI μ80 2 x5 1).bind fun x83 =>
        if lt32 v80 x83 then
          (gI μ80 3 v.1 5).bind fun x93 =>
          (inv μ80 2 x5 (mX1_hangsOpen n x5 v80 x93 μ80)).bind fun p96 =>
          if eq32 p96.1 0 then
            nx80 (v80 + 1) p96.2
          else
          (inv p96.2 3 v.1 (mX2_pullMatters n v.1 x5 v80 p96.2)).bind fun p106 =>
          if eq32 p106.1 0 then
            nx80 (v80 + 1) p106.2
          else
          (inv p106.2 3 v.1 (bX2_seekPull n self (v.1, v.2, v80) p106.2)).bind fun p116 =>
          nx80 (v80 + 1) p116.2
        else
        some ((), μ80)) n 0 p74.2
      else
      some ((), p59.2)
    else
    j44 () p25.2
  else
  j44 () p25.2)
set_option maxRecDepth 100000 in
set_option maxHeartbeats 4000000 in
theorem bX2_seekFrom_ok (n : Nat) (self : Nat × Int → Mem → Option (Unit × Mem)) (fs ls : Nat) (hs : ∀ (v : Nat × Int) (μ : Mem), Mc yX2_seekFrom cX2_seekFrom 5 none fs ls eV [aA v.1, aI v.2] μ (self v μ)) (v : Nat × Int) (μ : Mem) : Mc yX2_seekFrom cX2_seekFrom 5 none (fs + 5) (ls + 132) eV [aA v.1, aI v.2] μ (bX2_seekFrom n self v μ) := by
  refine mc_of (L0 := [some (aA v.1), some (aI v.2), none, none, none]) (k := 3) (by decide) rfl rfl (fun X Γ => ?_)
  unfold bX2_seekFrom
  refine sn_aload_n dX2_seekFrom_0 rfl ?_
  refine sn_getA (ci := 2) (j := 3) dX2_seekFrom_1 fl_X2_20 (by decide) (fun x1 => ?_)
  refine sn_iload_n dX2_seekFrom_4 rfl ?_
  refine sn_aald4 dX2_seekFrom_5 (fun x5 => ?_)
  refine sn_astore_n (L' := [some (aA v.1), some (aI v.2), some (aA x5), none, none]) dX2_seekFrom_6 (by decide) rfl ?_
  refine sn_aload_n dX2_seekFrom_7 rfl ?_
  refine sn_aload_n dX2_seekFrom_8 rfl ?_
  refine sn_getI (ci := 2) (j := 5) dX2_seekFrom_9 fl_X2_38 rfl (fun x9 => ?_)
  refine sn_callVI (vs := [aI x9]) (ci := 1) (cX1_had_ok n x5 x9 μ) dX2_seekFrom_12 cw_X2_52 rfl rfl rfl (by omega) (by omega) (Nat.le_of_ble_eq_true rfl) (fun p12 => ?_)
  refine sn_aload_n dX2_seekFrom_15 rfl ?_
  refine sn_getA (ci := 2) (j := 3) dX2_seekFrom_16 fl_X2_20 (by decide) (fun x16 => ?_)
  refine sn_iconst dX2_seekFrom_19 ?_
  refine sn_aald4 dX2_seekFrom_20 (fun x20 => ?_)
  refine sn_aload_n dX2_seekFrom_21 rfl ?_
  refine sn_getI (ci := 2) (j := 5) dX2_seekFrom_22 fl_X2_38 rfl (fun x22 => ?_)
  refine sn_callVI (vs := [aI x22]) (ci := 1) (cX1_had_ok n x20 x22 p12.2) dX2_seekFrom_25 cw_X2_52 rfl rfl rfl (by omega) (by omega) (Nat.le_of_ble_eq_true rfl) (fun p25 => ?_)
  refine sn_isub dX2_seekFrom_28 ?_
  refine sn_istore_n (L' := [some (aA v.1), some (aI v.2), some (aA x5), some (aI (p12.1 - p25.1)), none]) dX2_seekFrom_29 (by decide) rfl ?_
  refine sn_iload_n dX2_seekFrom_30 rfl ?_
  refine sn_aload_n dX2_seekFrom_31 rfl ?_
  refine sn_getI (ci := 2) (j := 6) dX2_seekFrom_32 fl_X2_42 rfl (fun x32 => ?_)
  refine sn_jn (pcj := 44) (La := fun v44 : Unit => [some (aA v.1), none, none, some (aI (p12.1 - p25.1)), none]) (Sa := fun v44 : Unit => []) ?_ ?_
  · intro v44 μ44
    refine sn_aload_n dX2_seekFrom_44 rfl ?_
    refine sn_iload_n dX2_seekFrom_45 rfl ?_
    refine sn_callVV (vs := [aI (p12.1 - p25.1)]) (ci := 2) (cX2_keepIfMore_ok n v.1 (p12.1 - p25.1) μ44) dX2_seekFrom_46 cw_X2_56 rfl rfl rfl (by omega) (by omega) (Nat.le_of_ble_eq_true rfl) (fun p46 => ?_)
    exact sn_vret dX2_seekFrom_49
  intro j44 hj44
  refine sn_icmp_ge (tgt := 44) dX2_seekFrom_35 (by decide) ?_ ?_
  · exact sn_mask (L' := [some (aA v.1), none, none, some (aI (p12.1 - p25.1)), none]) [true, false, false, true, false] rfl (hj44 () p25.2)
  · refine sn_iload_n dX2_seekFrom_38 rfl ?_
    refine sn_bipush dX2_seekFrom_39 (by decide) ?_
    refine sn_icmp_lt (tgt := 50) dX2_seekFrom_41 (by decide) ?_ ?_
    · refine sn_iload_n dX2_seekFrom_50 rfl ?_
      refine sn_aload_n dX2_seekFrom_51 rfl ?_
      refine sn_aload_n dX2_seekFrom_52 rfl ?_
      refine sn_aload_n dX2_seekFrom_53 rfl ?_
      refine sn_getI (ci := 2) (j := 6) dX2_seekFrom_54 fl_X2_42 rfl (fun x54 => ?_)
      refine sn_iload_n dX2_seekFrom_57 rfl ?_
      refine sn_isub dX2_seekFrom_58 ?_
      refine sn_callVI (vs := [aA x5, aI (x54 - v.2)]) (ci := 2) (cX2_mostToCome_ok n v.1 x5 (x54 - v.2) p25.2) dX2_seekFrom_59 cw_X2_59 rfl rfl rfl (by omega) (by omega) (Nat.le_of_ble_eq_true rfl) (fun p59 => ?_)
      refine sn_iadd dX2_seekFrom_62 ?_
      refine sn_aload_n dX2_seekFrom_63 rfl ?_
      refine sn_getI (ci := 2) (j := 0) dX2_seekFrom_64 fl_X2_45 rfl (fun x64 => ?_)
      refine sn_icmp_gt (tgt := 71) dX2_seekFrom_67 (by decide) ?_ ?_
      · refine sn_aload_n dX2_seekFrom_71 rfl ?_
        refine sn_iload_n dX2_seekFrom_72 rfl ?_
        refine sn_iconst dX2_seekFrom_73 ?_
        refine sn_callVV (vs := [aI v.2, aI (-1)]) (ci := 2) (bX2_seekPull_ok n self fs ls hs (v.1, v.2, (-1)) p59.2) dX2_seekFrom_74 cw_X2_63 rfl rfl rfl (by omega) (by omega) (Nat.le_of_ble_eq_true rfl) (fun p74 => ?_)
        refine sn_iconst dX2_seekFrom_77 ?_
        refine sn_istore (L' := [some (aA v.1), some (aI v.2), some (aA x5), some (aI (p12.1 - p25.1)), some (aI 0)]) dX2_seekFrom_78 (by decide) rfl ?_
        refine sn_mask (L' := [some (aA v.1), some (aI v.2), some (aA x5), none, some (aI 0)]) [true, true, true, false, true] rfl ?_
        refine sn_lp (La := fun v80 : Int => [some (aA v.1), some (aI v.2), some (aA x5), none, some (aI v80)]) ?_ n 0 p74.2
        intro nx80 hnx80 v80 μ80
        refine sn_iload dX2_seekFrom_80 rfl ?_
        refine sn_aload_n dX2_seekFrom_82 rfl ?_
        refine sn_getI (ci := 1) (j := 1) dX2_seekFrom_83 fl_X2_67 rfl (fun x83 => ?_)
        refine sn_icmp_ge (tgt := 125) dX2_seekFrom_86 (by decide) ?_ ?_
        · exact sn_vret dX2_seekFrom_125
        · refine sn_aload_n dX2_seekFrom_89 rfl ?_
          refine sn_iload dX2_seekFrom_90 rfl ?_
          refine sn_aload_n dX2_seekFrom_92 rfl ?_
          refine sn_getI (ci := 2) (j := 5) dX2_seekFrom_93 fl_X2_38 rfl (fun x93 => ?_)
          refine sn_callVI (vs := [aI v80, aI x93]) (ci := 1) (cX1_hangsOpen_ok n x5 v80 x93 μ80) dX2_seekFrom_96 cw_X2_70 rfl rfl rfl (by omega) (by omega) (Nat.le_of_ble_eq_true rfl) (fun p96 => ?_)
          refine sn_if_eq (tgt := 119) dX2_seekFrom_99 (by decide) ?_ ?_
          · refine sn_iinc (L' := [some (aA v.1), some (aI v.2), some (aA x5), none, some (aI (v80 + 1))]) dX2_seekFrom_119 rfl (by decide) rfl ?_
            refine sn_goto (tgt := 80) dX2_seekFrom_122 (by decide) ?_
            exact hnx80 (v80 + 1) p96.2
          · refine sn_aload_n dX2_seekFrom_102 rfl ?_
            refine sn_aload_n dX2_seekFrom_103 rfl ?_
            refine sn_iload dX2_seekFrom_104 rfl ?_
            refine sn_callVI (vs := [aA x5, aI v80]) (ci := 2) (cX2_pullMatters_ok n v.1 x5 v80 p96.2) dX2_seekFrom_106 cw_X2_74 rfl rfl rfl (by omega) (by omega) (Nat.le_of_ble_eq_true rfl) (fun p106 => ?_)
            refine sn_if_eq (tgt := 119) dX2_seekFrom_109 (by decide) ?_ ?_
            · refine sn_iinc (L' := [some (aA v.1), some (aI v.2), some (aA x5), none, some (aI (v80 + 1))]) dX2_seekFrom_119 rfl (by decide) rfl ?_
              refine sn_goto (tgt := 80) dX2_seekFrom_122 (by decide) ?_
              exact hnx80 (v80 + 1) p106.2
            · refine sn_aload_n dX2_seekFrom_112 rfl ?_
              refine sn_iload_n dX2_seekFrom_113 rfl ?_
              refine sn_iload dX2_seekFrom_114 rfl ?_
              refine sn_callVV (vs := [aI v.2, aI v80]) (ci := 2) (bX2_seekPull_ok n self fs ls hs (v.1, v.2, v80) p106.2) dX2_seekFrom_116 cw_X2_63 rfl rfl rfl (by omega) (by omega) (Nat.le_of_ble_eq_true rfl) (fun p116 => ?_)
              refine sn_iinc (L' := [some (aA v.1), some (aI v.2), some (aA x5), none, some (aI (v80 + 1))]) dX2_seekFrom_119 rfl (by decide) rfl ?_
              refine sn_goto (tgt := 80) dX2_seekFrom_122 (by decide) ?_
              exact hnx80 (v80 + 1) p116.2
      · exact sn_vret dX2_seekFrom_70
    · exact sn_mask (L' := [some (aA v.1), none, none, some (aI (p12.1 - p25.1)), none]) [true, false, false, true, false] rfl (hj44 () p25.2)
def rX2_seekFrom (n : Nat) : Nat → Nat × Int → Mem → Option (Unit × Mem) := lp (bX2_seekFrom n)
theorem rX2_seekFrom_ok (n : Nat) : ∀ (d : Nat) (v : Nat × Int) (μ : Mem), Mc yX2_seekFrom cX2_seekFrom 5 none (5 * d) (132 * d) eV [aA v.1, aI v.2] μ (rX2_seekFrom n d v μ)
  | 0, v, μ => fun r μ' h => by cases h
  | d + 1, v, μ => bX2_seekFrom_ok n (rX2_seekFrom n d) (5 * d) (132 * d) (rX2_seekFrom_ok n d) v μ
def mX2_seekFrom (n : Nat) (a : Nat) (b1 : Int) (μ : Mem) : Option (Unit × Mem) := rX2_seekFrom n 12 (a, b1) μ
theorem cX2_seekFrom_ok (n : Nat) (a : Nat) (b1 : Int) (μ : Mem) : Mc yX2_seekFrom cX2_seekFrom 5 none 60 1584 eV [aA a, aI b1] μ (mX2_seekFrom n a b1 μ) := rX2_seekFrom_ok n 12 (a, b1) μ
theorem dX2_seek_0 : decode cX2_seek 0 = .ok (.iconst 0, 1) := by decide +kernel
theorem dX2_seek_1 : decode cX2_seek 1 = .ok (.istore 4, 2) := by decide +kernel
theorem dX2_seek_3 : decode cX2_seek 3 = .ok (.iload 4, 2) := by decide +kernel
theorem dX2_seek_5 : decode cX2_seek 5 = .ok (.bipush 7, 2) := by decide +kernel
theorem dX2_seek_7 : decode cX2_seek 7 = .ok (.if_icmp .gt 20, 3) := by decide +kernel
theorem dX2_seek_10 : decode cX2_seek 10 = .ok (.aload_n 0, 1) := by decide +kernel
theorem dX2_seek_11 : decode cX2_seek 11 = .ok (.getfield 20, 3) := by decide +kernel
theorem dX2_seek_14 : decode cX2_seek 14 = .ok (.iload 4, 2) := by decide +kernel
theorem dX2_seek_16 : decode cX2_seek 16 = .ok (.aaload, 1) := by decide +kernel
theorem dX2_seek_17 : decode cX2_seek 17 = .ok (.aload_n 1, 1) := by decide +kernel
theorem dX2_seek_18 : decode cX2_seek 18 = .ok (.invokevirtual 28, 3) := by decide +kernel
theorem dX2_seek_21 : decode cX2_seek 21 = .ok (.iinc 4 1, 3) := by decide +kernel
theorem dX2_seek_24 : decode cX2_seek 24 = .ok (.goto (-21), 3) := by decide +kernel
theorem dX2_seek_27 : decode cX2_seek 27 = .ok (.aload_n 0, 1) := by decide +kernel
theorem dX2_seek_28 : decode cX2_seek 28 = .ok (.getfield 24, 3) := by decide +kernel
theorem dX2_seek_31 : decode cX2_seek 31 = .ok (.iconst (-1), 1) := by decide +kernel
theorem dX2_seek_32 : decode cX2_seek 32 = .ok (.invokestatic 32, 3) := by decide +kernel
theorem dX2_seek_35 : decode cX2_seek 35 = .ok (.aload_n 0, 1) := by decide +kernel
theorem dX2_seek_36 : decode cX2_seek 36 = .ok (.iload_n 2, 1) := by decide +kernel
theorem dX2_seek_37 : decode cX2_seek 37 = .ok (.putfield 38, 3) := by decide +kernel
theorem dX2_seek_40 : decode cX2_seek 40 = .ok (.aload_n 0, 1) := by decide +kernel
theorem dX2_seek_41 : decode cX2_seek 41 = .ok (.iload_n 3, 1) := by decide +kernel
theorem dX2_seek_42 : decode cX2_seek 42 = .ok (.putfield 42, 3) := by decide +kernel
theorem dX2_seek_45 : decode cX2_seek 45 = .ok (.aload_n 0, 1) := by decide +kernel
theorem dX2_seek_46 : decode cX2_seek 46 = .ok (.iconst (-1), 1) := by decide +kernel
theorem dX2_seek_47 : decode cX2_seek 47 = .ok (.putfield 45, 3) := by decide +kernel
theorem dX2_seek_50 : decode cX2_seek 50 = .ok (.aload_n 0, 1) := by decide +kernel
theorem dX2_seek_51 : decode cX2_seek 51 = .ok (.iconst 0, 1) := by decide +kernel
theorem dX2_seek_52 : decode cX2_seek 52 = .ok (.invokevirtual 48, 3) := by decide +kernel
theorem dX2_seek_55 : decode cX2_seek 55 = .ok (.return_, 1) := by decide +kernel
def mX2_seek (n : Nat) (a : Nat) (b1 : Nat) (b2 : Int) (b3 : Int) (μ : Mem) : Option (Unit × Mem) :=
  lp (fun nx3 (v3 : Int) (μ3 : Mem) =>
  if lt32 7 v3 then
    (gA μ3 3 a 4).bind fun x28 =>
    (mJ7_fill_53178 n x28 (-1) μ3).bind fun p32 =>
    (pI p32.2 3 a 5 b2).bind fun μ37 =>
    (pI μ37 3 a 6 b3).bind fun μ42 =>
    (pI μ42 3 a 0 (-1)).bind fun μ47 =>
    (inv μ47 3 a (mX2_seekFrom n a 0 μ47)).bind fun p52 =>
    some ((), p52.2)
  else
  (gA μ3 3 a 3).bind fun x11 =>
  (ldA μ3 4 x11 v3).bind fun x16 =>
  (inv μ3 2 x16 (mX1_takeAll n x16 b1 μ3)).bind fun p18 =>
  nx3 (v3 + 1) p18.2) n 0 μ
set_option maxRecDepth 100000 in
set_option maxHeartbeats 4000000 in
theorem cX2_seek_ok (n : Nat) (a : Nat) (b1 : Nat) (b2 : Int) (b3 : Int) (μ : Mem) : Mc yX2_seek cX2_seek 5 none 61 1608 eV [aA a, aA b1, aI b2, aI b3] μ (mX2_seek n a b1 b2 b3 μ) := by
  refine mc_of (L0 := [some (aA a), some (aA b1), some (aI b2), some (aI b3), none]) (k := 1) (by decide) rfl rfl (fun X Γ => ?_)
  unfold mX2_seek
  refine sn_iconst dX2_seek_0 ?_
  refine sn_istore (L' := [some (aA a), some (aA b1), some (aI b2), some (aI b3), some (aI 0)]) dX2_seek_1 (by decide) rfl ?_
  refine sn_lp (La := fun v3 : Int => [some (aA a), some (aA b1), some (aI b2), some (aI b3), some (aI v3)]) ?_ n 0 μ
  intro nx3 hnx3 v3 μ3
  refine sn_iload dX2_seek_3 rfl ?_
  refine sn_bipush dX2_seek_5 (by decide) ?_
  refine sn_icmp_gt (tgt := 27) dX2_seek_7 (by decide) ?_ ?_
  · refine sn_aload_n dX2_seek_27 rfl ?_
    refine sn_getA (ci := 2) (j := 4) dX2_seek_28 fl_X2_24 (by decide) (fun x28 => ?_)
    refine sn_iconst dX2_seek_31 ?_
    refine sn_callSV (vs := [aA x28, aI (-1)]) (cJ7_fill_53178_ok n x28 (-1) μ3) dX2_seek_32 cw_X2_32 rfl (by decide) (by decide) (Nat.le_of_ble_eq_true rfl) (fun p32 => ?_)
    refine sn_aload_n dX2_seek_35 rfl ?_
    refine sn_iload_n dX2_seek_36 rfl ?_
    refine sn_putI (ci := 2) (j := 5) dX2_seek_37 fl_X2_38 rfl (fun q h => by cases h; rfl) (fun μ37 => ?_)
    refine sn_aload_n dX2_seek_40 rfl ?_
    refine sn_iload_n dX2_seek_41 rfl ?_
    refine sn_putI (ci := 2) (j := 6) dX2_seek_42 fl_X2_42 rfl (fun q h => by cases h; rfl) (fun μ42 => ?_)
    refine sn_aload_n dX2_seek_45 rfl ?_
    refine sn_iconst dX2_seek_46 ?_
    refine sn_putI (ci := 2) (j := 0) dX2_seek_47 fl_X2_45 rfl (fun q h => by cases h; rfl) (fun μ47 => ?_)
    refine sn_aload_n dX2_seek_50 rfl ?_
    refine sn_iconst dX2_seek_51 ?_
    refine sn_callVV (vs := [aI 0]) (ci := 2) (cX2_seekFrom_ok n a 0 μ47) dX2_seek_52 cw_X2_48 rfl rfl rfl (by decide) (by decide) (Nat.le_of_ble_eq_true rfl) (fun p52 => ?_)
    exact sn_vret dX2_seek_55
  · refine sn_aload_n dX2_seek_10 rfl ?_
    refine sn_getA (ci := 2) (j := 3) dX2_seek_11 fl_X2_20 (by decide) (fun x11 => ?_)
    refine sn_iload dX2_seek_14 rfl ?_
    refine sn_aald4 dX2_seek_16 (fun x16 => ?_)
    refine sn_aload_n dX2_seek_17 rfl ?_
    refine sn_callVV (vs := [aA b1]) (ci := 1) (cX1_takeAll_ok n x16 b1 μ3) dX2_seek_18 cw_X2_28 rfl rfl rfl (by decide) (by decide) (Nat.le_of_ble_eq_true rfl) (fun p18 => ?_)
    refine sn_iinc (L' := [some (aA a), some (aA b1), some (aI b2), some (aI b3), some (aI (v3 + 1))]) dX2_seek_21 rfl (by decide) rfl ?_
    refine sn_goto (tgt := 3) dX2_seek_24 (by decide) ?_
    exact hnx3 (v3 + 1) p18.2
theorem dX2_init_0 : decode cX2_init 0 = .ok (.aload_n 0, 1) := by decide +kernel
theorem dX2_init_1 : decode cX2_init 1 = .ok (.invokespecial 3, 3) := by decide +kernel
theorem dX2_init_4 : decode cX2_init 4 = .ok (.aload_n 0, 1) := by decide +kernel
theorem dX2_init_5 : decode cX2_init 5 = .ok (.bipush 7, 2) := by decide +kernel
theorem dX2_init_7 : decode cX2_init 7 = .ok (.newarray .int, 2) := by decide +kernel
theorem dX2_init_9 : decode cX2_init 9 = .ok (.putfield 9, 3) := by decide +kernel
theorem dX2_init_12 : decode cX2_init 12 = .ok (.aload_n 0, 1) := by decide +kernel
theorem dX2_init_13 : decode cX2_init 13 = .ok (.bipush 7, 2) := by decide +kernel
theorem dX2_init_15 : decode cX2_init 15 = .ok (.newarray .int, 2) := by decide +kernel
theorem dX2_init_17 : decode cX2_init 17 = .ok (.putfield 15, 3) := by decide +kernel
theorem dX2_init_20 : decode cX2_init 20 = .ok (.aload_n 0, 1) := by decide +kernel
theorem dX2_init_21 : decode cX2_init 21 = .ok (.bipush 8, 2) := by decide +kernel
theorem dX2_init_23 : decode cX2_init 23 = .ok (.anewarray 18, 3) := by decide +kernel
theorem dX2_init_26 : decode cX2_init 26 = .ok (.putfield 20, 3) := by decide +kernel
theorem dX2_init_29 : decode cX2_init 29 = .ok (.aload_n 0, 1) := by decide +kernel
theorem dX2_init_30 : decode cX2_init 30 = .ok (.bipush 10, 2) := by decide +kernel
theorem dX2_init_32 : decode cX2_init 32 = .ok (.newarray .int, 2) := by decide +kernel
theorem dX2_init_34 : decode cX2_init 34 = .ok (.putfield 24, 3) := by decide +kernel
theorem dX2_init_37 : decode cX2_init 37 = .ok (.iconst 0, 1) := by decide +kernel
theorem dX2_init_38 : decode cX2_init 38 = .ok (.istore_n 1, 1) := by decide +kernel
theorem dX2_init_39 : decode cX2_init 39 = .ok (.iload_n 1, 1) := by decide +kernel
theorem dX2_init_40 : decode cX2_init 40 = .ok (.bipush 7, 2) := by decide +kernel
theorem dX2_init_42 : decode cX2_init 42 = .ok (.if_icmp .gt 22, 3) := by decide +kernel
theorem dX2_init_45 : decode cX2_init 45 = .ok (.aload_n 0, 1) := by decide +kernel
theorem dX2_init_46 : decode cX2_init 46 = .ok (.getfield 20, 3) := by decide +kernel
theorem dX2_init_49 : decode cX2_init 49 = .ok (.iload_n 1, 1) := by decide +kernel
theorem dX2_init_50 : decode cX2_init 50 = .ok (.new 18, 3) := by decide +kernel
theorem dX2_init_53 : decode cX2_init 53 = .ok (.dup, 1) := by decide +kernel
theorem dX2_init_54 : decode cX2_init 54 = .ok (.invokespecial 27, 3) := by decide +kernel
theorem dX2_init_57 : decode cX2_init 57 = .ok (.aastore, 1) := by decide +kernel
theorem dX2_init_58 : decode cX2_init 58 = .ok (.iinc 1 1, 3) := by decide +kernel
theorem dX2_init_61 : decode cX2_init 61 = .ok (.goto (-22), 3) := by decide +kernel
theorem dX2_init_64 : decode cX2_init 64 = .ok (.return_, 1) := by decide +kernel
def mX2_init (n : Nat) (a : Nat) (μ : Mem) : Option (Unit × Mem) :=
  inv μ 3 a
  ((nwA μ 0 7).bind fun p7 =>
  (pA p7.2 3 a 1 p7.1).bind fun μ9 =>
  (nwA μ9 0 7).bind fun p15 =>
  (pA p15.2 3 a 2 p15.1).bind fun μ17 =>
  (nwA μ17 4 8).bind fun p23 =>
  (pA p23.2 3 a 3 p23.1).bind fun μ26 =>
  (nwA μ26 0 10).bind fun p32 =>
  (pA p32.2 3 a 4 p32.1).bind fun μ34 =>
  lp (fun nx39 (v39 : Int) (μ39 : Mem) =>
  if lt32 7 v39 then
    some ((), μ39)
  else
  (gA μ39 3 a 3).bind fun x46 =>
  (nwO μ39 2 18).bind fun p50 =>
  if p50.1 = 0 then none else (mX1_init n p50.1 p50.2).bind fun p54 =>
  (stA p54.2 2 4 x46 v39 p50.1).bind fun μ57 =>
  nx39 (v39 + 1) μ57) n 0 μ34)
set_option maxRecDepth 100000 in
set_option maxHeartbeats 4000000 in
theorem cX2_init_ok (n : Nat) (a : Nat) (μ : Mem) : Mc yX2_init cX2_init 2 none 2 40 eV [aA a] μ (mX2_init n a μ) := by
  refine mc_of (L0 := [some (aA a), none]) (k := 1) (by decide) rfl rfl (fun X Γ => ?_)
  unfold mX2_init
  refine sn_aload_n dX2_init_0 rfl ?_
  refine sn_objInit (ci := 2) dX2_init_1 (by decide) ml_X2_3 im_obj co_obj (by decide) (by decide) (Nat.le_of_ble_eq_true rfl) ?_
  refine sn_aload_n dX2_init_4 rfl ?_
  refine sn_bipush dX2_init_5 (by decide) ?_
  refine sn_newa (t := 0) dX2_init_7 (by decide) rfl ac_0 (fun p7 => ?_)
  refine sn_putA (ci := 2) (j := 1) dX2_init_9 fl_X2_9 (Or.inr ⟨_, rfl⟩) (Or.inr ⟨rfl, fun q h => by cases h; exact ⟨rfl, rfl⟩⟩) (fun μ9 => ?_)
  refine sn_aload_n dX2_init_12 rfl ?_
  refine sn_bipush dX2_init_13 (by decide) ?_
  refine sn_newa (t := 0) dX2_init_15 (by decide) rfl ac_0 (fun p15 => ?_)
  refine sn_putA (ci := 2) (j := 2) dX2_init_17 fl_X2_15 (Or.inr ⟨_, rfl⟩) (Or.inr ⟨rfl, fun q h => by cases h; exact ⟨rfl, rfl⟩⟩) (fun μ17 => ?_)
  refine sn_aload_n dX2_init_20 rfl ?_
  refine sn_bipush dX2_init_21 (by decide) ?_
  refine sn_anew (t := 4) dX2_init_23 (by decide) rfl (by decide) cl_X2_18 (fun p23 => ?_)
  refine sn_putA (ci := 2) (j := 3) dX2_init_26 fl_X2_20 (Or.inr ⟨_, rfl⟩) (Or.inr ⟨rfl, fun q h => by cases h; exact ⟨rfl, rfl⟩⟩) (fun μ26 => ?_)
  refine sn_aload_n dX2_init_29 rfl ?_
  refine sn_bipush dX2_init_30 (by decide) ?_
  refine sn_newa (t := 0) dX2_init_32 (by decide) rfl ac_0 (fun p32 => ?_)
  refine sn_putA (ci := 2) (j := 4) dX2_init_34 fl_X2_24 (Or.inr ⟨_, rfl⟩) (Or.inr ⟨rfl, fun q h => by cases h; exact ⟨rfl, rfl⟩⟩) (fun μ34 => ?_)
  refine sn_iconst dX2_init_37 ?_
  refine sn_istore_n (L' := [some (aA a), some (aI 0)]) dX2_init_38 (by decide) rfl ?_
  refine sn_lp (La := fun v39 : Int => [some (aA a), some (aI v39)]) ?_ n 0 μ34
  intro nx39 hnx39 v39 μ39
  refine sn_iload_n dX2_init_39 rfl ?_
  refine sn_bipush dX2_init_40 (by decide) ?_
  refine sn_icmp_gt (tgt := 64) dX2_init_42 (by decide) ?_ ?_
  · exact sn_vret dX2_init_64
  · refine sn_aload_n dX2_init_45 rfl ?_
    refine sn_getA (ci := 2) (j := 3) dX2_init_46 fl_X2_20 (by decide) (fun x46 => ?_)
    refine sn_iload_n dX2_init_49 rfl ?_
    refine sn_new (ci := 1) dX2_init_50 rfl cl_X2_18 is_1 in_X1 (fun p50 => ?_)
    refine sn_dup dX2_init_53 rfl ?_
    refine sn_callI (vs := []) (cX1_init_ok n p50.1 p50.2) dX2_init_54 cw_X2_27 rfl rfl (by decide) (by decide) (Nat.le_of_ble_eq_true rfl) (fun p54 => ?_)
    refine sn_aast4 dX2_init_57 (fun μ57 => ?_)
    refine sn_iinc (L' := [some (aA a), some (aI (v39 + 1))]) dX2_init_58 rfl (by decide) rfl ?_
    refine sn_goto (tgt := 39) dX2_init_61 (by decide) ?_
    exact hnx39 (v39 + 1) μ57
