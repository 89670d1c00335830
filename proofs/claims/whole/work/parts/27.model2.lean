/-! layer 1: model2 -/
theorem dX11_alone_0 : decode cX11_alone 0 = .ok (.aload_n 0, 1) := by decide +kernel
theorem dX11_alone_1 : decode cX11_alone 1 = .ok (.iconst 0, 1) := by decide +kernel
theorem dX11_alone_2 : decode cX11_alone 2 = .ok (.putfield 1, 3) := by decide +kernel
theorem dX11_alone_5 : decode cX11_alone 5 = .ok (.aload_n 0, 1) := by decide +kernel
theorem dX11_alone_6 : decode cX11_alone 6 = .ok (.iload_n 1, 1) := by decide +kernel
theorem dX11_alone_7 : decode cX11_alone 7 = .ok (.i2l, 1) := by decide +kernel
theorem dX11_alone_8 : decode cX11_alone 8 = .ok (.invokevirtual 170, 3) := by decide +kernel
theorem dX11_alone_11 : decode cX11_alone 11 = .ok (.ifCond .eq 21, 3) := by decide +kernel
theorem dX11_alone_14 : decode cX11_alone 14 = .ok (.iload_n 3, 1) := by decide +kernel
theorem dX11_alone_15 : decode cX11_alone 15 = .ok (.ifCond .eq 20, 3) := by decide +kernel
theorem dX11_alone_18 : decode cX11_alone 18 = .ok (.iload_n 3, 1) := by decide +kernel
theorem dX11_alone_19 : decode cX11_alone 19 = .ok (.i2l, 1) := by decide +kernel
theorem dX11_alone_20 : decode cX11_alone 20 = .ok (.ldc2_w 245, 3) := by decide +kernel
theorem dX11_alone_23 : decode cX11_alone 23 = .ok (.ldc2_w 339, 3) := by decide +kernel
theorem dX11_alone_26 : decode cX11_alone 26 = .ok (.invokestatic 146, 3) := by decide +kernel
theorem dX11_alone_29 : decode cX11_alone 29 = .ok (.ifCond .ne 6, 3) := by decide +kernel
theorem dX11_alone_32 : decode cX11_alone 32 = .ok (.bipush (-2), 2) := by decide +kernel
theorem dX11_alone_34 : decode cX11_alone 34 = .ok (.ireturn, 1) := by decide +kernel
theorem dX11_alone_35 : decode cX11_alone 35 = .ok (.iload_n 2, 1) := by decide +kernel
theorem dX11_alone_36 : decode cX11_alone 36 = .ok (.i2l, 1) := by decide +kernel
theorem dX11_alone_37 : decode cX11_alone 37 = .ok (.lconst 1, 1) := by decide +kernel
theorem dX11_alone_38 : decode cX11_alone 38 = .ok (.ldc2_w 174, 3) := by decide +kernel
theorem dX11_alone_41 : decode cX11_alone 41 = .ok (.invokestatic 146, 3) := by decide +kernel
theorem dX11_alone_44 : decode cX11_alone 44 = .ok (.ifCond .ne 6, 3) := by decide +kernel
theorem dX11_alone_47 : decode cX11_alone 47 = .ok (.bipush (-3), 2) := by decide +kernel
theorem dX11_alone_49 : decode cX11_alone 49 = .ok (.ireturn, 1) := by decide +kernel
theorem dX11_alone_50 : decode cX11_alone 50 = .ok (.aload_n 0, 1) := by decide +kernel
theorem dX11_alone_51 : decode cX11_alone 51 = .ok (.iload_n 1, 1) := by decide +kernel
theorem dX11_alone_52 : decode cX11_alone 52 = .ok (.invokevirtual 258, 3) := by decide +kernel
theorem dX11_alone_55 : decode cX11_alone 55 = .ok (.iconst 3, 1) := by decide +kernel
theorem dX11_alone_56 : decode cX11_alone 56 = .ok (.if_icmp .le 6, 3) := by decide +kernel
theorem dX11_alone_59 : decode cX11_alone 59 = .ok (.bipush (-4), 2) := by decide +kernel
theorem dX11_alone_61 : decode cX11_alone 61 = .ok (.ireturn, 1) := by decide +kernel
theorem dX11_alone_62 : decode cX11_alone 62 = .ok (.aload_n 0, 1) := by decide +kernel
theorem dX11_alone_63 : decode cX11_alone 63 = .ok (.iconst (-1), 1) := by decide +kernel
theorem dX11_alone_64 : decode cX11_alone 64 = .ok (.putfield 332, 3) := by decide +kernel
theorem dX11_alone_67 : decode cX11_alone 67 = .ok (.aload_n 0, 1) := by decide +kernel
theorem dX11_alone_68 : decode cX11_alone 68 = .ok (.iconst 0, 1) := by decide +kernel
theorem dX11_alone_69 : decode cX11_alone 69 = .ok (.iload_n 2, 1) := by decide +kernel
theorem dX11_alone_70 : decode cX11_alone 70 = .ok (.iload_n 1, 1) := by decide +kernel
theorem dX11_alone_71 : decode cX11_alone 71 = .ok (.aload_n 0, 1) := by decide +kernel
theorem dX11_alone_72 : decode cX11_alone 72 = .ok (.getfield 13, 3) := by decide +kernel
theorem dX11_alone_75 : decode cX11_alone 75 = .ok (.bipush 46, 2) := by decide +kernel
theorem dX11_alone_77 : decode cX11_alone 77 = .ok (.iload_n 1, 1) := by decide +kernel
theorem dX11_alone_78 : decode cX11_alone 78 = .ok (.iadd, 1) := by decide +kernel
theorem dX11_alone_79 : decode cX11_alone 79 = .ok (.iaload, 1) := by decide +kernel
theorem dX11_alone_80 : decode cX11_alone 80 = .ok (.invokevirtual 335, 3) := by decide +kernel
theorem dX11_alone_83 : decode cX11_alone 83 = .ok (.iload_n 3, 1) := by decide +kernel
theorem dX11_alone_84 : decode cX11_alone 84 = .ok (.ifCond .ne 10, 3) := by decide +kernel
theorem dX11_alone_87 : decode cX11_alone 87 = .ok (.aload_n 0, 1) := by decide +kernel
theorem dX11_alone_88 : decode cX11_alone 88 = .ok (.getfield 332, 3) := by decide +kernel
theorem dX11_alone_91 : decode cX11_alone 91 = .ok (.goto 25, 3) := by decide +kernel
theorem dX11_alone_94 : decode cX11_alone 94 = .ok (.iload_n 3, 1) := by decide +kernel
theorem dX11_alone_95 : decode cX11_alone 95 = .ok (.bipush 10, 2) := by decide +kernel
theorem dX11_alone_97 : decode cX11_alone 97 = .ok (.isub, 1) := by decide +kernel
theorem dX11_alone_98 : decode cX11_alone 98 = .ok (.iload_n 2, 1) := by decide +kernel
theorem dX11_alone_99 : decode cX11_alone 99 = .ok (.if_icmp .ge 15, 3) := by decide +kernel
theorem dX11_alone_102 : decode cX11_alone 102 = .ok (.aload_n 0, 1) := by decide +kernel
theorem dX11_alone_103 : decode cX11_alone 103 = .ok (.getfield 61, 3) := by decide +kernel
theorem dX11_alone_106 : decode cX11_alone 106 = .ok (.iload_n 3, 1) := by decide +kernel
theorem dX11_alone_107 : decode cX11_alone 107 = .ok (.bipush 10, 2) := by decide +kernel
theorem dX11_alone_109 : decode cX11_alone 109 = .ok (.isub, 1) := by decide +kernel
theorem dX11_alone_110 : decode cX11_alone 110 = .ok (.iaload, 1) := by decide +kernel
theorem dX11_alone_111 : decode cX11_alone 111 = .ok (.goto 5, 3) := by decide +kernel
theorem dX11_alone_114 : decode cX11_alone 114 = .ok (.bipush (-7), 2) := by decide +kernel
theorem dX11_alone_116 : decode cX11_alone 116 = .ok (.ireturn, 1) := by decide +kernel
def mX11_alone (n : Nat) (a : Nat) (b1 : Int) (b2 : Int) (b3 : Int) (μ : Mem) : Option (Int × Mem) :=
  (pI μ 12 a 0 0).bind fun μ2 =>
  (inv μ2 12 a (mX11_isHouse n a (oI2l b1) μ2)).bind fun p8 =>
  if eq32 p8.1 0 then
    some ((-2), p8.2)
  else
  jn (fun (v35 : Unit) (μ35 : Mem) =>
  (mX11_within n (oI2l b2) 1 7 μ35).bind fun p41 =>
  if eq32 p41.1 0 then
    some ((-3), p41.2)
  else
  (inv p41.2 12 a (mX11_hanging n a b1 p41.2)).bind fun p52 =>
  if lt32 3 p52.1 then
    some ((-4), p52.2)
  else
  (pI p52.2 12 a 35 (-1)).bind fun μ64 =>
  (gA μ64 12 a 1).bind fun x72 =>
  (ldI μ64 0 x72 (46 + b1)).bind fun x79 =>
  (inv μ64 12 a (mX11_pullsAlone n a 0 b2 b1 x79 μ64)).bind fun p80 =>
  if eq32 b3 0 then
    (gI p80.2 12 a 35).bind fun x88 =>
    some (x88, p80.2)
  else
  if lt32 (b3 - 10) b2 then
    (gA p80.2 12 a 33).bind fun x103 =>
    (ldI p80.2 0 x103 (b3 - 10)).bind fun x110 =>
    some (x110, p80.2)
  else
  some ((-7), p80.2)) (fun j35 =>
  if eq32 b3 0 then
    j35 () p8.2
  else
  (mX11_within n (oI2l b3) 10 16 p8.2).bind fun p26 =>
  if eq32 p26.1 0 then
    some ((-2), p26.2)
  else
  j35 () p26.2)
set_option maxRecDepth 100000 in
set_option maxHeartbeats 4000000 in
theorem cX11_alone_ok (n : Nat) (a : Nat) (b1 : Int) (b2 : Int) (b3 : Int) (μ : Mem) : Mc yX11_alone cX11_alone 4 (some .int) 37 890 eI [aA a, aI b1, aI b2, aI b3] μ (mX11_alone n a b1 b2 b3 μ) := by
  refine mc_of (L0 := [some (aA a), some (aI b1), some (aI b2), some (aI b3)]) (k := 0) (by decide) rfl rfl (fun X Γ => ?_)
  unfold mX11_alone
  refine sn_aload_n dX11_alone_0 rfl ?_
  refine sn_iconst dX11_alone_1 ?_
  refine sn_putI (ci := 11) (j := 0) dX11_alone_2 fl_X11_1 rfl (fun q h => by cases h; rfl) (fun μ2 => ?_)
  refine sn_aload_n dX11_alone_5 rfl ?_
  refine sn_iload_n dX11_alone_6 rfl ?_
  refine sn_i2l dX11_alone_7 ?_
  refine sn_callVI (vs := [aJ (oI2l b1)]) (ci := 11) (cX11_isHouse_ok n a (oI2l b1) μ2) dX11_alone_8 cw_X11_170 rfl rfl rfl (by decide) (by decide) (Nat.le_of_ble_eq_true rfl) (fun p8 => ?_)
  refine sn_if_eq (tgt := 32) dX11_alone_11 (by decide) ?_ ?_
  · refine sn_bipush dX11_alone_32 (by decide) ?_
    exact sn_iret dX11_alone_34
  · refine sn_iload_n dX11_alone_14 rfl ?_
    refine sn_jn (pcj := 35) (La := fun v35 : Unit => [some (aA a), some (aI b1), some (aI b2), some (aI b3)]) (Sa := fun v35 : Unit => []) ?_ ?_
    · intro v35 μ35
      refine sn_iload_n dX11_alone_35 rfl ?_
      refine sn_i2l dX11_alone_36 ?_
      refine sn_lconst (v := 1) dX11_alone_37 (by decide) ?_
      refine sn_ldc2 (v := 7) dX11_alone_38 k_X11_174 (by decide) ?_
      refine sn_callSI (vs := [aJ (oI2l b2), aJ 1, aJ 7]) (cX11_within_ok n (oI2l b2) 1 7 μ35) dX11_alone_41 cw_X11_146 rfl (by decide) (by decide) (Nat.le_of_ble_eq_true rfl) (fun p41 => ?_)
      refine sn_if_ne (tgt := 50) dX11_alone_44 (by decide) ?_ ?_
      · refine sn_aload_n dX11_alone_50 rfl ?_
        refine sn_iload_n dX11_alone_51 rfl ?_
        refine sn_callVI (vs := [aI b1]) (ci := 11) (cX11_hanging_ok n a b1 p41.2) dX11_alone_52 cw_X11_258 rfl rfl rfl (by decide) (by decide) (Nat.le_of_ble_eq_true rfl) (fun p52 => ?_)
        refine sn_iconst dX11_alone_55 ?_
        refine sn_icmp_le (tgt := 62) dX11_alone_56 (by decide) ?_ ?_
        · refine sn_aload_n dX11_alone_62 rfl ?_
          refine sn_iconst dX11_alone_63 ?_
          refine sn_putI (ci := 11) (j := 35) dX11_alone_64 fl_X11_332 rfl (fun q h => by cases h; rfl) (fun μ64 => ?_)
          refine sn_aload_n dX11_alone_67 rfl ?_
          refine sn_iconst dX11_alone_68 ?_
          refine sn_iload_n dX11_alone_69 rfl ?_
          refine sn_iload_n dX11_alone_70 rfl ?_
          refine sn_aload_n dX11_alone_71 rfl ?_
          refine sn_getA (ci := 11) (j := 1) dX11_alone_72 fl_X11_13 (by decide) (fun x72 => ?_)
          refine sn_bipush dX11_alone_75 (by decide) ?_
          refine sn_iload_n dX11_alone_77 rfl ?_
          refine sn_iadd dX11_alone_78 ?_
          refine sn_iald dX11_alone_79 (fun x79 => ?_)
          refine sn_callVV (vs := [aI 0, aI b2, aI b1, aI x79]) (ci := 11) (cX11_pullsAlone_ok n a 0 b2 b1 x79 μ64) dX11_alone_80 cw_X11_335 rfl rfl rfl (by decide) (by decide) (Nat.le_of_ble_eq_true rfl) (fun p80 => ?_)
          refine sn_iload_n dX11_alone_83 rfl ?_
          refine sn_if_ne (tgt := 94) dX11_alone_84 (by decide) ?_ ?_
          · refine sn_iload_n dX11_alone_94 rfl ?_
            refine sn_bipush dX11_alone_95 (by decide) ?_
            refine sn_isub dX11_alone_97 ?_
            refine sn_iload_n dX11_alone_98 rfl ?_
            refine sn_icmp_ge (tgt := 114) dX11_alone_99 (by decide) ?_ ?_
            · refine sn_bipush dX11_alone_114 (by decide) ?_
              exact sn_iret dX11_alone_116
            · refine sn_aload_n dX11_alone_102 rfl ?_
              refine sn_getA (ci := 11) (j := 33) dX11_alone_103 fl_X11_61 (by decide) (fun x103 => ?_)
              refine sn_iload_n dX11_alone_106 rfl ?_
              refine sn_bipush dX11_alone_107 (by decide) ?_
              refine sn_isub dX11_alone_109 ?_
              refine sn_iald dX11_alone_110 (fun x110 => ?_)
              refine sn_goto (tgt := 116) dX11_alone_111 (by decide) ?_
              exact sn_iret dX11_alone_116
          · refine sn_aload_n dX11_alone_87 rfl ?_
            refine sn_getI (ci := 11) (j := 35) dX11_alone_88 fl_X11_332 rfl (fun x88 => ?_)
            refine sn_goto (tgt := 116) dX11_alone_91 (by decide) ?_
            exact sn_iret dX11_alone_116
        · refine sn_bipush dX11_alone_59 (by decide) ?_
          exact sn_iret dX11_alone_61
      · refine sn_bipush dX11_alone_47 (by decide) ?_
        exact sn_iret dX11_alone_49
    intro j35 hj35
    refine sn_if_eq (tgt := 35) dX11_alone_15 (by decide) ?_ ?_
    · exact hj35 () p8.2
    · refine sn_iload_n dX11_alone_18 rfl ?_
      refine sn_i2l dX11_alone_19 ?_
      refine sn_ldc2 (v := 10) dX11_alone_20 k_X11_245 (by decide) ?_
      refine sn_ldc2 (v := 16) dX11_alone_23 k_X11_339 (by decide) ?_
      refine sn_callSI (vs := [aJ (oI2l b3), aJ 10, aJ 16]) (cX11_within_ok n (oI2l b3) 10 16 p8.2) dX11_alone_26 cw_X11_146 rfl (by decide) (by decide) (Nat.le_of_ble_eq_true rfl) (fun p26 => ?_)
      refine sn_if_ne (tgt := 35) dX11_alone_29 (by decide) ?_ ?_
      · exact hj35 () p26.2
      · refine sn_bipush dX11_alone_32 (by decide) ?_
        exact sn_iret dX11_alone_34
theorem dX11_areFew_0 : decode cX11_areFew 0 = .ok (.aload_n 0, 1) := by decide +kernel
theorem dX11_areFew_1 : decode cX11_areFew 1 = .ok (.iconst 0, 1) := by decide +kernel
theorem dX11_areFew_2 : decode cX11_areFew 2 = .ok (.putfield 282, 3) := by decide +kernel
theorem dX11_areFew_5 : decode cX11_areFew 5 = .ok (.iconst 0, 1) := by decide +kernel
theorem dX11_areFew_6 : decode cX11_areFew 6 = .ok (.istore_n 1, 1) := by decide +kernel
theorem dX11_areFew_7 : decode cX11_areFew 7 = .ok (.iload_n 1, 1) := by decide +kernel
theorem dX11_areFew_8 : decode cX11_areFew 8 = .ok (.aload_n 0, 1) := by decide +kernel
theorem dX11_areFew_9 : decode cX11_areFew 9 = .ok (.getfield 13, 3) := by decide +kernel
theorem dX11_areFew_12 : decode cX11_areFew 12 = .ok (.iconst 1, 1) := by decide +kernel
theorem dX11_areFew_13 : decode cX11_areFew 13 = .ok (.iaload, 1) := by decide +kernel
theorem dX11_areFew_14 : decode cX11_areFew 14 = .ok (.if_icmp .ge 50, 3) := by decide +kernel
theorem dX11_areFew_17 : decode cX11_areFew 17 = .ok (.aload_n 0, 1) := by decide +kernel
theorem dX11_areFew_18 : decode cX11_areFew 18 = .ok (.iload_n 1, 1) := by decide +kernel
theorem dX11_areFew_19 : decode cX11_areFew 19 = .ok (.invokevirtual 191, 3) := by decide +kernel
theorem dX11_areFew_22 : decode cX11_areFew 22 = .ok (.ifCond .ne 6, 3) := by decide +kernel
theorem dX11_areFew_25 : decode cX11_areFew 25 = .ok (.goto 33, 3) := by decide +kernel
theorem dX11_areFew_28 : decode cX11_areFew 28 = .ok (.aload_n 0, 1) := by decide +kernel
theorem dX11_areFew_29 : decode cX11_areFew 29 = .ok (.getfield 282, 3) := by decide +kernel
theorem dX11_areFew_32 : decode cX11_areFew 32 = .ok (.iconst 3, 1) := by decide +kernel
theorem dX11_areFew_33 : decode cX11_areFew 33 = .ok (.if_icmp .ne 5, 3) := by decide +kernel
theorem dX11_areFew_36 : decode cX11_areFew 36 = .ok (.iconst 0, 1) := by decide +kernel
theorem dX11_areFew_37 : decode cX11_areFew 37 = .ok (.ireturn, 1) := by decide +kernel
theorem dX11_areFew_38 : decode cX11_areFew 38 = .ok (.aload_n 0, 1) := by decide +kernel
theorem dX11_areFew_39 : decode cX11_areFew 39 = .ok (.getfield 46, 3) := by decide +kernel
theorem dX11_areFew_42 : decode cX11_areFew 42 = .ok (.aload_n 0, 1) := by decide +kernel
theorem dX11_areFew_43 : decode cX11_areFew 43 = .ok (.getfield 282, 3) := by decide +kernel
theorem dX11_areFew_46 : decode cX11_areFew 46 = .ok (.iload_n 1, 1) := by decide +kernel
theorem dX11_areFew_47 : decode cX11_areFew 47 = .ok (.iastore, 1) := by decide +kernel
theorem dX11_areFew_48 : decode cX11_areFew 48 = .ok (.aload_n 0, 1) := by decide +kernel
theorem dX11_areFew_49 : decode cX11_areFew 49 = .ok (.dup, 1) := by decide +kernel
theorem dX11_areFew_50 : decode cX11_areFew 50 = .ok (.getfield 282, 3) := by decide +kernel
theorem dX11_areFew_53 : decode cX11_areFew 53 = .ok (.iconst 1, 1) := by decide +kernel
theorem dX11_areFew_54 : decode cX11_areFew 54 = .ok (.iadd, 1) := by decide +kernel
theorem dX11_areFew_55 : decode cX11_areFew 55 = .ok (.putfield 282, 3) := by decide +kernel
theorem dX11_areFew_58 : decode cX11_areFew 58 = .ok (.iinc 1 1, 3) := by decide +kernel
theorem dX11_areFew_61 : decode cX11_areFew 61 = .ok (.goto (-54), 3) := by decide +kernel
theorem dX11_areFew_64 : decode cX11_areFew 64 = .ok (.aload_n 0, 1) := by decide +kernel
theorem dX11_areFew_65 : decode cX11_areFew 65 = .ok (.getfield 13, 3) := by decide +kernel
theorem dX11_areFew_68 : decode cX11_areFew 68 = .ok (.iconst 0, 1) := by decide +kernel
theorem dX11_areFew_69 : decode cX11_areFew 69 = .ok (.iaload, 1) := by decide +kernel
theorem dX11_areFew_70 : decode cX11_areFew 70 = .ok (.iconst 4, 1) := by decide +kernel
theorem dX11_areFew_71 : decode cX11_areFew 71 = .ok (.if_icmp .gt 7, 3) := by decide +kernel
theorem dX11_areFew_74 : decode cX11_areFew 74 = .ok (.iconst 1, 1) := by decide +kernel
theorem dX11_areFew_75 : decode cX11_areFew 75 = .ok (.goto 4, 3) := by decide +kernel
theorem dX11_areFew_78 : decode cX11_areFew 78 = .ok (.iconst 0, 1) := by decide +kernel
theorem dX11_areFew_79 : decode cX11_areFew 79 = .ok (.ireturn, 1) := by decide +kernel
def mX11_areFew (n : Nat) (a : Nat) (μ : Mem) : Option (Int × Mem) :=
  (pI μ 12 a 27 0).bind fun μ2 =>
  lp (fun nx7 (v7 : Int) (μ7 : Mem) =>
  (gA μ7 12 a 1).bind fun x9 =>
  (ldI μ7 0 x9 1).bind fun x13 =>
  if lt32 v7 x13 then
    (inv μ7 12 a (mX11_hangs n a v7 μ7)).bind fun p19 =>
    if eq32 p19.1 0 then
      nx7 (v7 + 1) p19.2
    else
    (gI p19.2 12 a 27).bind fun x29 =>
    if eq32 x29 3 then
      retZ 0 p19.2
    else
    (gA p19.2 12 a 25).bind fun x39 =>
    (gI p19.2 12 a 27).bind fun x43 =>
    (stI p19.2 0 x39 x43 v7).bind fun μ47 =>
    (gI μ47 12 a 27).bind fun x50 =>
    (pI μ47 12 a 27 (x50 + 1)).bind fun μ55 =>
    nx7 (v7 + 1) μ55
  else
  (gA μ7 12 a 1).bind fun x65 =>
  (ldI μ7 0 x65 0).bind fun x69 =>
  if lt32 4 x69 then
    retZ 0 μ7
  else
  retZ 1 μ7) n 0 μ2
set_option maxRecDepth 100000 in
set_option maxHeartbeats 4000000 in
theorem cX11_areFew_ok (n : Nat) (a : Nat) (μ : Mem) : Mc yX11_areFew cX11_areFew 2 (some .boolean) 1 21 eI [aA a] μ (mX11_areFew n a μ) := by
  refine mc_of (L0 := [some (aA a), none]) (k := 1) (by decide) rfl rfl (fun X Γ => ?_)
  unfold mX11_areFew
  refine sn_aload_n dX11_areFew_0 rfl ?_
  refine sn_iconst dX11_areFew_1 ?_
  refine sn_putI (ci := 11) (j := 27) dX11_areFew_2 fl_X11_282 rfl (fun q h => by cases h; rfl) (fun μ2 => ?_)
  refine sn_iconst dX11_areFew_5 ?_
  refine sn_istore_n (L' := [some (aA a), some (aI 0)]) dX11_areFew_6 (by decide) rfl ?_
  refine sn_lp (La := fun v7 : Int => [some (aA a), some (aI v7)]) ?_ n 0 μ2
  intro nx7 hnx7 v7 μ7
  refine sn_iload_n dX11_areFew_7 rfl ?_
  refine sn_aload_n dX11_areFew_8 rfl ?_
  refine sn_getA (ci := 11) (j := 1) dX11_areFew_9 fl_X11_13 (by decide) (fun x9 => ?_)
  refine sn_iconst dX11_areFew_12 ?_
  refine sn_iald dX11_areFew_13 (fun x13 => ?_)
  refine sn_icmp_ge (tgt := 64) dX11_areFew_14 (by decide) ?_ ?_
  · refine sn_aload_n dX11_areFew_64 rfl ?_
    refine sn_getA (ci := 11) (j := 1) dX11_areFew_65 fl_X11_13 (by decide) (fun x65 => ?_)
    refine sn_iconst dX11_areFew_68 ?_
    refine sn_iald dX11_areFew_69 (fun x69 => ?_)
    refine sn_iconst dX11_areFew_70 ?_
    refine sn_icmp_gt (tgt := 78) dX11_areFew_71 (by decide) ?_ ?_
    · refine sn_iconst dX11_areFew_78 ?_
      exact sn_zret dX11_areFew_79
    · refine sn_iconst dX11_areFew_74 ?_
      refine sn_goto (tgt := 79) dX11_areFew_75 (by decide) ?_
      exact sn_zret dX11_areFew_79
  · refine sn_aload_n dX11_areFew_17 rfl ?_
    refine sn_iload_n dX11_areFew_18 rfl ?_
    refine sn_callVI (vs := [aI v7]) (ci := 11) (cX11_hangs_ok n a v7 μ7) dX11_areFew_19 cw_X11_191 rfl rfl rfl (by decide) (by decide) (Nat.le_of_ble_eq_true rfl) (fun p19 => ?_)
    refine sn_if_ne (tgt := 28) dX11_areFew_22 (by decide) ?_ ?_
    · refine sn_aload_n dX11_areFew_28 rfl ?_
      refine sn_getI (ci := 11) (j := 27) dX11_areFew_29 fl_X11_282 rfl (fun x29 => ?_)
      refine sn_iconst dX11_areFew_32 ?_
      refine sn_icmp_ne (tgt := 38) dX11_areFew_33 (by decide) ?_ ?_
      · refine sn_aload_n dX11_areFew_38 rfl ?_
        refine sn_getA (ci := 11) (j := 25) dX11_areFew_39 fl_X11_46 (by decide) (fun x39 => ?_)
        refine sn_aload_n dX11_areFew_42 rfl ?_
        refine sn_getI (ci := 11) (j := 27) dX11_areFew_43 fl_X11_282 rfl (fun x43 => ?_)
        refine sn_iload_n dX11_areFew_46 rfl ?_
        refine sn_iast dX11_areFew_47 (fun μ47 => ?_)
        refine sn_aload_n dX11_areFew_48 rfl ?_
        refine sn_dup dX11_areFew_49 rfl ?_
        refine sn_getI (ci := 11) (j := 27) dX11_areFew_50 fl_X11_282 rfl (fun x50 => ?_)
        refine sn_iconst dX11_areFew_53 ?_
        refine sn_iadd dX11_areFew_54 ?_
        refine sn_putI (ci := 11) (j := 27) dX11_areFew_55 fl_X11_282 rfl (fun q h => by cases h; rfl) (fun μ55 => ?_)
        refine sn_iinc (L' := [some (aA a), some (aI (v7 + 1))]) dX11_areFew_58 rfl (by decide) rfl ?_
        refine sn_goto (tgt := 7) dX11_areFew_61 (by decide) ?_
        exact hnx7 (v7 + 1) μ55
      · refine sn_iconst dX11_areFew_36 ?_
        exact sn_zret dX11_areFew_37
    · refine sn_goto (tgt := 58) dX11_areFew_25 (by decide) ?_
      refine sn_iinc (L' := [some (aA a), some (aI (v7 + 1))]) dX11_areFew_58 rfl (by decide) rfl ?_
      refine sn_goto (tgt := 7) dX11_areFew_61 (by decide) ?_
      exact hnx7 (v7 + 1) p19.2
theorem dX11_becomes_0 : decode cX11_becomes 0 = .ok (.aload_n 0, 1) := by decide +kernel
theorem dX11_becomes_1 : decode cX11_becomes 1 = .ok (.getfield 13, 3) := by decide +kernel
theorem dX11_becomes_4 : decode cX11_becomes 4 = .ok (.bipush 46, 2) := by decide +kernel
theorem dX11_becomes_6 : decode cX11_becomes 6 = .ok (.iload_n 3, 1) := by decide +kernel
theorem dX11_becomes_7 : decode cX11_becomes 7 = .ok (.iadd, 1) := by decide +kernel
theorem dX11_becomes_8 : decode cX11_becomes 8 = .ok (.iload 4, 2) := by decide +kernel
theorem dX11_becomes_10 : decode cX11_becomes 10 = .ok (.lload_n 1, 1) := by decide +kernel
theorem dX11_becomes_11 : decode cX11_becomes 11 = .ok (.ldc2_w 228, 3) := by decide +kernel
theorem dX11_becomes_14 : decode cX11_becomes 14 = .ok (.lrem, 1) := by decide +kernel
theorem dX11_becomes_15 : decode cX11_becomes 15 = .ok (.l2i, 1) := by decide +kernel
theorem dX11_becomes_16 : decode cX11_becomes 16 = .ok (.iadd, 1) := by decide +kernel
theorem dX11_becomes_17 : decode cX11_becomes 17 = .ok (.iastore, 1) := by decide +kernel
theorem dX11_becomes_18 : decode cX11_becomes 18 = .ok (.lload_n 1, 1) := by decide +kernel
theorem dX11_becomes_19 : decode cX11_becomes 19 = .ok (.ldc2_w 228, 3) := by decide +kernel
theorem dX11_becomes_22 : decode cX11_becomes 22 = .ok (.ldiv, 1) := by decide +kernel
theorem dX11_becomes_23 : decode cX11_becomes 23 = .ok (.lstore 5, 2) := by decide +kernel
theorem dX11_becomes_25 : decode cX11_becomes 25 = .ok (.aload_n 0, 1) := by decide +kernel
theorem dX11_becomes_26 : decode cX11_becomes 26 = .ok (.getfield 13, 3) := by decide +kernel
theorem dX11_becomes_29 : decode cX11_becomes 29 = .ok (.iconst 0, 1) := by decide +kernel
theorem dX11_becomes_30 : decode cX11_becomes 30 = .ok (.iaload, 1) := by decide +kernel
theorem dX11_becomes_31 : decode cX11_becomes 31 = .ok (.iconst 1, 1) := by decide +kernel
theorem dX11_becomes_32 : decode cX11_becomes 32 = .ok (.isub, 1) := by decide +kernel
theorem dX11_becomes_33 : decode cX11_becomes 33 = .ok (.istore 7, 2) := by decide +kernel
theorem dX11_becomes_35 : decode cX11_becomes 35 = .ok (.iload 7, 2) := by decide +kernel
theorem dX11_becomes_37 : decode cX11_becomes 37 = .ok (.ifCond .lt 34, 3) := by decide +kernel
theorem dX11_becomes_40 : decode cX11_becomes 40 = .ok (.aload_n 0, 1) := by decide +kernel
theorem dX11_becomes_41 : decode cX11_becomes 41 = .ok (.getfield 13, 3) := by decide +kernel
theorem dX11_becomes_44 : decode cX11_becomes 44 = .ok (.bipush 26, 2) := by decide +kernel
theorem dX11_becomes_46 : decode cX11_becomes 46 = .ok (.iload 7, 2) := by decide +kernel
theorem dX11_becomes_48 : decode cX11_becomes 48 = .ok (.iadd, 1) := by decide +kernel
theorem dX11_becomes_49 : decode cX11_becomes 49 = .ok (.lload 5, 2) := by decide +kernel
theorem dX11_becomes_51 : decode cX11_becomes 51 = .ok (.ldc2_w 287, 3) := by decide +kernel
theorem dX11_becomes_54 : decode cX11_becomes 54 = .ok (.lrem, 1) := by decide +kernel
theorem dX11_becomes_55 : decode cX11_becomes 55 = .ok (.l2i, 1) := by decide +kernel
theorem dX11_becomes_56 : decode cX11_becomes 56 = .ok (.iastore, 1) := by decide +kernel
theorem dX11_becomes_57 : decode cX11_becomes 57 = .ok (.lload 5, 2) := by decide +kernel
theorem dX11_becomes_59 : decode cX11_becomes 59 = .ok (.ldc2_w 287, 3) := by decide +kernel
theorem dX11_becomes_62 : decode cX11_becomes 62 = .ok (.ldiv, 1) := by decide +kernel
theorem dX11_becomes_63 : decode cX11_becomes 63 = .ok (.lstore 5, 2) := by decide +kernel
theorem dX11_becomes_65 : decode cX11_becomes 65 = .ok (.iinc 7 (-1), 3) := by decide +kernel
theorem dX11_becomes_68 : decode cX11_becomes 68 = .ok (.goto (-33), 3) := by decide +kernel
theorem dX11_becomes_71 : decode cX11_becomes 71 = .ok (.aload_n 0, 1) := by decide +kernel
theorem dX11_becomes_72 : decode cX11_becomes 72 = .ok (.getfield 282, 3) := by decide +kernel
theorem dX11_becomes_75 : decode cX11_becomes 75 = .ok (.iconst 1, 1) := by decide +kernel
theorem dX11_becomes_76 : decode cX11_becomes 76 = .ok (.isub, 1) := by decide +kernel
theorem dX11_becomes_77 : decode cX11_becomes 77 = .ok (.istore 7, 2) := by decide +kernel
theorem dX11_becomes_79 : decode cX11_becomes 79 = .ok (.iload 7, 2) := by decide +kernel
theorem dX11_becomes_81 : decode cX11_becomes 81 = .ok (.ifCond .lt 89, 3) := by decide +kernel
theorem dX11_becomes_84 : decode cX11_becomes 84 = .ok (.aload_n 0, 1) := by decide +kernel
theorem dX11_becomes_85 : decode cX11_becomes 85 = .ok (.getfield 13, 3) := by decide +kernel
theorem dX11_becomes_88 : decode cX11_becomes 88 = .ok (.bipush 124, 2) := by decide +kernel
theorem dX11_becomes_90 : decode cX11_becomes 90 = .ok (.aload_n 0, 1) := by decide +kernel
theorem dX11_becomes_91 : decode cX11_becomes 91 = .ok (.getfield 46, 3) := by decide +kernel
theorem dX11_becomes_94 : decode cX11_becomes 94 = .ok (.iload 7, 2) := by decide +kernel
theorem dX11_becomes_96 : decode cX11_becomes 96 = .ok (.iaload, 1) := by decide +kernel
theorem dX11_becomes_97 : decode cX11_becomes 97 = .ok (.iadd, 1) := by decide +kernel
theorem dX11_becomes_98 : decode cX11_becomes 98 = .ok (.lload 5, 2) := by decide +kernel
theorem dX11_becomes_100 : decode cX11_becomes 100 = .ok (.ldc2_w 285, 3) := by decide +kernel
theorem dX11_becomes_103 : decode cX11_becomes 103 = .ok (.lrem, 1) := by decide +kernel
theorem dX11_becomes_104 : decode cX11_becomes 104 = .ok (.l2i, 1) := by decide +kernel
theorem dX11_becomes_105 : decode cX11_becomes 105 = .ok (.iconst 4, 1) := by decide +kernel
theorem dX11_becomes_106 : decode cX11_becomes 106 = .ok (.idiv, 1) := by decide +kernel
theorem dX11_becomes_107 : decode cX11_becomes 107 = .ok (.iastore, 1) := by decide +kernel
theorem dX11_becomes_108 : decode cX11_becomes 108 = .ok (.aload_n 0, 1) := by decide +kernel
theorem dX11_becomes_109 : decode cX11_becomes 109 = .ok (.getfield 13, 3) := by decide +kernel
theorem dX11_becomes_112 : decode cX11_becomes 112 = .ok (.sipush 172, 3) := by decide +kernel
theorem dX11_becomes_115 : decode cX11_becomes 115 = .ok (.aload_n 0, 1) := by decide +kernel
theorem dX11_becomes_116 : decode cX11_becomes 116 = .ok (.getfield 46, 3) := by decide +kernel
theorem dX11_becomes_119 : decode cX11_becomes 119 = .ok (.iload 7, 2) := by decide +kernel
theorem dX11_becomes_121 : decode cX11_becomes 121 = .ok (.iaload, 1) := by decide +kernel
theorem dX11_becomes_122 : decode cX11_becomes 122 = .ok (.iadd, 1) := by decide +kernel
theorem dX11_becomes_123 : decode cX11_becomes 123 = .ok (.lload 5, 2) := by decide +kernel
theorem dX11_becomes_125 : decode cX11_becomes 125 = .ok (.ldc2_w 228, 3) := by decide +kernel
theorem dX11_becomes_128 : decode cX11_becomes 128 = .ok (.lrem, 1) := by decide +kernel
theorem dX11_becomes_129 : decode cX11_becomes 129 = .ok (.l2i, 1) := by decide +kernel
theorem dX11_becomes_130 : decode cX11_becomes 130 = .ok (.iconst 2, 1) := by decide +kernel
theorem dX11_becomes_131 : decode cX11_becomes 131 = .ok (.idiv, 1) := by decide +kernel
theorem dX11_becomes_132 : decode cX11_becomes 132 = .ok (.iastore, 1) := by decide +kernel
theorem dX11_becomes_133 : decode cX11_becomes 133 = .ok (.aload_n 0, 1) := by decide +kernel
theorem dX11_becomes_134 : decode cX11_becomes 134 = .ok (.getfield 13, 3) := by decide +kernel
theorem dX11_becomes_137 : decode cX11_becomes 137 = .ok (.sipush 188, 3) := by decide +kernel
theorem dX11_becomes_140 : decode cX11_becomes 140 = .ok (.aload_n 0, 1) := by decide +kernel
theorem dX11_becomes_141 : decode cX11_becomes 141 = .ok (.getfield 46, 3) := by decide +kernel
theorem dX11_becomes_144 : decode cX11_becomes 144 = .ok (.iload 7, 2) := by decide +kernel
theorem dX11_becomes_146 : decode cX11_becomes 146 = .ok (.iaload, 1) := by decide +kernel
theorem dX11_becomes_147 : decode cX11_becomes 147 = .ok (.iadd, 1) := by decide +kernel
theorem dX11_becomes_148 : decode cX11_becomes 148 = .ok (.lload 5, 2) := by decide +kernel
theorem dX11_becomes_150 : decode cX11_becomes 150 = .ok (.ldc2_w 289, 3) := by decide +kernel
theorem dX11_becomes_153 : decode cX11_becomes 153 = .ok (.lrem, 1) := by decide +kernel
theorem dX11_becomes_154 : decode cX11_becomes 154 = .ok (.l2i, 1) := by decide +kernel
theorem dX11_becomes_155 : decode cX11_becomes 155 = .ok (.iastore, 1) := by decide +kernel
theorem dX11_becomes_156 : decode cX11_becomes 156 = .ok (.lload 5, 2) := by decide +kernel
theorem dX11_becomes_158 : decode cX11_becomes 158 = .ok (.ldc2_w 285, 3) := by decide +kernel
theorem dX11_becomes_161 : decode cX11_becomes 161 = .ok (.ldiv, 1) := by decide +kernel
theorem dX11_becomes_162 : decode cX11_becomes 162 = .ok (.lstore 5, 2) := by decide +kernel
theorem dX11_becomes_164 : decode cX11_becomes 164 = .ok (.iinc 7 (-1), 3) := by decide +kernel
theorem dX11_becomes_167 : decode cX11_becomes 167 = .ok (.goto (-88), 3) := by decide +kernel
theorem dX11_becomes_170 : decode cX11_becomes 170 = .ok (.return_, 1) := by decide +kernel
def mX11_becomes (n : Nat) (a : Nat) (b1 : Int) (b2 : Int) (b3 : Int) (μ : Mem) : Option (Unit × Mem) :=
  (gA μ 12 a 1).bind fun x1 =>
  (stI μ 0 x1 (46 + b2) (b3 + (lRem b1 4))).bind fun μ17 =>
  (gA μ17 12 a 1).bind fun x26 =>
  (ldI μ17 0 x26 0).bind fun x30 =>
  lp (fun nx35 (v35 : Int × Int) (μ35 : Mem) =>
  if lt32 v35.2 0 then
    (gI μ35 12 a 27).bind fun x72 =>
    lp (fun nx79 (v79 : Int × Int) (μ79 : Mem) =>
    if lt32 v79.2 0 then
      some ((), μ79)
    else
    (gA μ79 12 a 1).bind fun x85 =>
    (gA μ79 12 a 25).bind fun x91 =>
    (ldI μ79 0 x91 v79.2).bind fun x96 =>
    (stI μ79 0 x85 (124 + x96) (oDiv (lRem v79.1 64) 4)).bind fun μ107 =>
    (gA μ107 12 a 1).bind fun x109 =>
    (gA μ107 12 a 25).bind fun x116 =>
    (ldI μ107 0 x116 v79.2).bind fun x121 =>
    (stI μ107 0 x109 (172 + x121) (oDiv (lRem v79.1 4) 2)).bind fun μ132 =>
    (gA μ132 12 a 1).bind fun x134 =>
    (gA μ132 12 a 25).bind fun x141 =>
    (ldI μ132 0 x141 v79.2).bind fun x146 =>
    (stI μ132 0 x134 (188 + x146) (lRem v79.1 2)).bind fun μ155 =>
    nx79 ((lDiv v79.1 64), (v79.2 + (-1))) μ155) n (v35.1, (x72 - 1)) μ35
  else
  (gA μ35 12 a 1).bind fun x41 =>
  (stI μ35 0 x41 (26 + v35.2) (lRem v35.1 128)).bind fun μ56 =>
  nx35 ((lDiv v35.1 128), (v35.2 + (-1))) μ56) n ((lDiv b1 4), (x30 - 1)) μ17
set_option maxRecDepth 100000 in
set_option maxHeartbeats 4000000 in
theorem cX11_becomes_ok (n : Nat) (a : Nat) (b1 : Int) (b2 : Int) (b3 : Int) (μ : Mem) : Mc yX11_becomes cX11_becomes 8 none 0 0 eV [aA a, aJ b1, aI b2, aI b3] μ (mX11_becomes n a b1 b2 b3 μ) := by
  refine mc_of (L0 := [some (aA a), some (aJ b1), none, some (aI b2), some (aI b3), none, none, none]) (k := 3) (by decide) rfl rfl (fun X Γ => ?_)
  unfold mX11_becomes
  refine sn_aload_n dX11_becomes_0 rfl ?_
  refine sn_getA (ci := 11) (j := 1) dX11_becomes_1 fl_X11_13 (by decide) (fun x1 => ?_)
  refine sn_bipush dX11_becomes_4 (by decide) ?_
  refine sn_iload_n dX11_becomes_6 rfl ?_
  refine sn_iadd dX11_becomes_7 ?_
  refine sn_iload dX11_becomes_8 rfl ?_
  refine sn_lload_n dX11_becomes_10 rfl ?_
  refine sn_ldc2 (v := 4) dX11_becomes_11 k_X11_228 (by decide) ?_
  refine sn_lremK dX11_becomes_14 (by decide) ?_
  refine sn_l2i dX11_becomes_15 ?_
  refine sn_iadd dX11_becomes_16 ?_
  refine sn_iast dX11_becomes_17 (fun μ17 => ?_)
  refine sn_lload_n dX11_becomes_18 rfl ?_
  refine sn_ldc2 (v := 4) dX11_becomes_19 k_X11_228 (by decide) ?_
  refine sn_ldivK dX11_becomes_22 (by decide) ?_
  refine sn_lstore (L' := [some (aA a), some (aJ b1), none, some (aI b2), some (aI b3), some (aJ (lDiv b1 4)), none, none]) dX11_becomes_23 (by decide) rfl ?_
  refine sn_aload_n dX11_becomes_25 rfl ?_
  refine sn_getA (ci := 11) (j := 1) dX11_becomes_26 fl_X11_13 (by decide) (fun x26 => ?_)
  refine sn_iconst dX11_becomes_29 ?_
  refine sn_iald dX11_becomes_30 (fun x30 => ?_)
  refine sn_iconst dX11_becomes_31 ?_
  refine sn_isub dX11_becomes_32 ?_
  refine sn_istore (L' := [some (aA a), some (aJ b1), none, some (aI b2), some (aI b3), some (aJ (lDiv b1 4)), none, some (aI (x30 - 1))]) dX11_becomes_33 (by decide) rfl ?_
  refine sn_mask (L' := [some (aA a), none, none, none, none, some (aJ (lDiv b1 4)), none, some (aI (x30 - 1))]) [true, false, false, false, false, true, false, true] rfl ?_
  refine sn_lp (La := fun v35 : Int × Int => [some (aA a), none, none, none, none, some (aJ v35.1), none, some (aI v35.2)]) ?_ n ((lDiv b1 4), (x30 - 1)) μ17
  intro nx35 hnx35 v35 μ35
  refine sn_iload dX11_becomes_35 rfl ?_
  refine sn_if_lt (tgt := 71) dX11_becomes_37 (by decide) ?_ ?_
  · refine sn_aload_n dX11_becomes_71 rfl ?_
    refine sn_getI (ci := 11) (j := 27) dX11_becomes_72 fl_X11_282 rfl (fun x72 => ?_)
    refine sn_iconst dX11_becomes_75 ?_
    refine sn_isub dX11_becomes_76 ?_
    refine sn_istore (L' := [some (aA a), none, none, none, none, some (aJ v35.1), none, some (aI (x72 - 1))]) dX11_becomes_77 (by decide) rfl ?_
    refine sn_lp (La := fun v79 : Int × Int => [some (aA a), none, none, none, none, some (aJ v79.1), none, some (aI v79.2)]) ?_ n (v35.1, (x72 - 1)) μ35
    intro nx79 hnx79 v79 μ79
    refine sn_iload dX11_becomes_79 rfl ?_
    refine sn_if_lt (tgt := 170) dX11_becomes_81 (by decide) ?_ ?_
    · exact sn_vret dX11_becomes_170
    · refine sn_aload_n dX11_becomes_84 rfl ?_
      refine sn_getA (ci := 11) (j := 1) dX11_becomes_85 fl_X11_13 (by decide) (fun x85 => ?_)
      refine sn_bipush dX11_becomes_88 (by decide) ?_
      refine sn_aload_n dX11_becomes_90 rfl ?_
      refine sn_getA (ci := 11) (j := 25) dX11_becomes_91 fl_X11_46 (by decide) (fun x91 => ?_)
      refine sn_iload dX11_becomes_94 rfl ?_
      refine sn_iald dX11_becomes_96 (fun x96 => ?_)
      refine sn_iadd dX11_becomes_97 ?_
      refine sn_lload dX11_becomes_98 rfl ?_
      refine sn_ldc2 (v := 64) dX11_becomes_100 k_X11_285 (by decide) ?_
      refine sn_lremK dX11_becomes_103 (by decide) ?_
      refine sn_l2i dX11_becomes_104 ?_
      refine sn_iconst dX11_becomes_105 ?_
      refine sn_idivK dX11_becomes_106 (by decide) ?_
      refine sn_iast dX11_becomes_107 (fun μ107 => ?_)
      refine sn_aload_n dX11_becomes_108 rfl ?_
      refine sn_getA (ci := 11) (j := 1) dX11_becomes_109 fl_X11_13 (by decide) (fun x109 => ?_)
      refine sn_sipush dX11_becomes_112 (by decide) ?_
      refine sn_aload_n dX11_becomes_115 rfl ?_
      refine sn_getA (ci := 11) (j := 25) dX11_becomes_116 fl_X11_46 (by decide) (fun x116 => ?_)
      refine sn_iload dX11_becomes_119 rfl ?_
      refine sn_iald dX11_becomes_121 (fun x121 => ?_)
      refine sn_iadd dX11_becomes_122 ?_
      refine sn_lload dX11_becomes_123 rfl ?_
      refine sn_ldc2 (v := 4) dX11_becomes_125 k_X11_228 (by decide) ?_
      refine sn_lremK dX11_becomes_128 (by decide) ?_
      refine sn_l2i dX11_becomes_129 ?_
      refine sn_iconst dX11_becomes_130 ?_
      refine sn_idivK dX11_becomes_131 (by decide) ?_
      refine sn_iast dX11_becomes_132 (fun μ132 => ?_)
      refine sn_aload_n dX11_becomes_133 rfl ?_
      refine sn_getA (ci := 11) (j := 1) dX11_becomes_134 fl_X11_13 (by decide) (fun x134 => ?_)
      refine sn_sipush dX11_becomes_137 (by decide) ?_
      refine sn_aload_n dX11_becomes_140 rfl ?_
      refine sn_getA (ci := 11) (j := 25) dX11_becomes_141 fl_X11_46 (by decide) (fun x141 => ?_)
      refine sn_iload dX11_becomes_144 rfl ?_
      refine sn_iald dX11_becomes_146 (fun x146 => ?_)
      refine sn_iadd dX11_becomes_147 ?_
      refine sn_lload dX11_becomes_148 rfl ?_
      refine sn_ldc2 (v := 2) dX11_becomes_150 k_X11_289 (by decide) ?_
      refine sn_lremK dX11_becomes_153 (by decide) ?_
      refine sn_l2i dX11_becomes_154 ?_
      refine sn_iast dX11_becomes_155 (fun μ155 => ?_)
      refine sn_lload dX11_becomes_156 rfl ?_
      refine sn_ldc2 (v := 64) dX11_becomes_158 k_X11_285 (by decide) ?_
      refine sn_ldivK dX11_becomes_161 (by decide) ?_
      refine sn_lstore (L' := [some (aA a), none, none, none, none, some (aJ (lDiv v79.1 64)), none, some (aI v79.2)]) dX11_becomes_162 (by decide) rfl ?_
      refine sn_iinc (L' := [some (aA a), none, none, none, none, some (aJ (lDiv v79.1 64)), none, some (aI (v79.2 + (-1)))]) dX11_becomes_164 rfl (by decide) rfl ?_
      refine sn_goto (tgt := 79) dX11_becomes_167 (by decide) ?_
      exact hnx79 ((lDiv v79.1 64), (v79.2 + (-1))) μ155
  · refine sn_aload_n dX11_becomes_40 rfl ?_
    refine sn_getA (ci := 11) (j := 1) dX11_becomes_41 fl_X11_13 (by decide) (fun x41 => ?_)
    refine sn_bipush dX11_becomes_44 (by decide) ?_
    refine sn_iload dX11_becomes_46 rfl ?_
    refine sn_iadd dX11_becomes_48 ?_
    refine sn_lload dX11_becomes_49 rfl ?_
    refine sn_ldc2 (v := 128) dX11_becomes_51 k_X11_287 (by decide) ?_
    refine sn_lremK dX11_becomes_54 (by decide) ?_
    refine sn_l2i dX11_becomes_55 ?_
    refine sn_iast dX11_becomes_56 (fun μ56 => ?_)
    refine sn_lload dX11_becomes_57 rfl ?_
    refine sn_ldc2 (v := 128) dX11_becomes_59 k_X11_287 (by decide) ?_
    refine sn_ldivK dX11_becomes_62 (by decide) ?_
    refine sn_lstore (L' := [some (aA a), none, none, none, none, some (aJ (lDiv v35.1 128)), none, some (aI v35.2)]) dX11_becomes_63 (by decide) rfl ?_
    refine sn_iinc (L' := [some (aA a), none, none, none, none, some (aJ (lDiv v35.1 128)), none, some (aI (v35.2 + (-1)))]) dX11_becomes_65 rfl (by decide) rfl ?_
    refine sn_goto (tgt := 35) dX11_becomes_68 (by decide) ?_
    exact hnx35 ((lDiv v35.1 128), (v35.2 + (-1))) μ56
theorem dX11_bitsOf_0 : decode cX11_bitsOf 0 = .ok (.iconst 0, 1) := by decide +kernel
theorem dX11_bitsOf_1 : decode cX11_bitsOf 1 = .ok (.istore_n 1, 1) := by decide +kernel
theorem dX11_bitsOf_2 : decode cX11_bitsOf 2 = .ok (.iconst 0, 1) := by decide +kernel
theorem dX11_bitsOf_3 : decode cX11_bitsOf 3 = .ok (.istore_n 2, 1) := by decide +kernel
theorem dX11_bitsOf_4 : decode cX11_bitsOf 4 = .ok (.iload_n 2, 1) := by decide +kernel
theorem dX11_bitsOf_5 : decode cX11_bitsOf 5 = .ok (.bipush 16, 2) := by decide +kernel
theorem dX11_bitsOf_7 : decode cX11_bitsOf 7 = .ok (.if_icmp .ge 17, 3) := by decide +kernel
theorem dX11_bitsOf_10 : decode cX11_bitsOf 10 = .ok (.iload_n 1, 1) := by decide +kernel
theorem dX11_bitsOf_11 : decode cX11_bitsOf 11 = .ok (.iload_n 0, 1) := by decide +kernel
theorem dX11_bitsOf_12 : decode cX11_bitsOf 12 = .ok (.iload_n 2, 1) := by decide +kernel
theorem dX11_bitsOf_13 : decode cX11_bitsOf 13 = .ok (.ishr, 1) := by decide +kernel
theorem dX11_bitsOf_14 : decode cX11_bitsOf 14 = .ok (.iconst 1, 1) := by decide +kernel
theorem dX11_bitsOf_15 : decode cX11_bitsOf 15 = .ok (.iand, 1) := by decide +kernel
theorem dX11_bitsOf_16 : decode cX11_bitsOf 16 = .ok (.iadd, 1) := by decide +kernel
theorem dX11_bitsOf_17 : decode cX11_bitsOf 17 = .ok (.istore_n 1, 1) := by decide +kernel
theorem dX11_bitsOf_18 : decode cX11_bitsOf 18 = .ok (.iinc 2 1, 3) := by decide +kernel
theorem dX11_bitsOf_21 : decode cX11_bitsOf 21 = .ok (.goto (-17), 3) := by decide +kernel
theorem dX11_bitsOf_24 : decode cX11_bitsOf 24 = .ok (.iload_n 1, 1) := by decide +kernel
theorem dX11_bitsOf_25 : decode cX11_bitsOf 25 = .ok (.ireturn, 1) := by decide +kernel
def mX11_bitsOf (n : Nat) (b1 : Int) (μ : Mem) : Option (Int × Mem) :=
  lp (fun nx4 (v4 : Int × Int) (μ4 : Mem) =>
  if lt32 v4.2 16 then
    nx4 ((v4.1 + (oAnd (oShr b1 v4.2) 1)), (v4.2 + 1)) μ4
  else
  some (v4.1, μ4)) n (0, 0) μ
set_option maxRecDepth 100000 in
set_option maxHeartbeats 4000000 in
theorem cX11_bitsOf_ok (n : Nat) (b1 : Int) (μ : Mem) : Mc yX11_bitsOf cX11_bitsOf 3 (some .int) 0 0 eI [aI b1] μ (mX11_bitsOf n b1 μ) := by
  refine mc_of (L0 := [some (aI b1), none, none]) (k := 2) (by decide) rfl rfl (fun X Γ => ?_)
  unfold mX11_bitsOf
  refine sn_iconst dX11_bitsOf_0 ?_
  refine sn_istore_n (L' := [some (aI b1), some (aI 0), none]) dX11_bitsOf_1 (by decide) rfl ?_
  refine sn_iconst dX11_bitsOf_2 ?_
  refine sn_istore_n (L' := [some (aI b1), some (aI 0), some (aI 0)]) dX11_bitsOf_3 (by decide) rfl ?_
  refine sn_lp (La := fun v4 : Int × Int => [some (aI b1), some (aI v4.1), some (aI v4.2)]) ?_ n (0, 0) μ
  intro nx4 hnx4 v4 μ4
  refine sn_iload_n dX11_bitsOf_4 rfl ?_
  refine sn_bipush dX11_bitsOf_5 (by decide) ?_
  refine sn_icmp_ge (tgt := 24) dX11_bitsOf_7 (by decide) ?_ ?_
  · refine sn_iload_n dX11_bitsOf_24 rfl ?_
    exact sn_iret dX11_bitsOf_25
  · refine sn_iload_n dX11_bitsOf_10 rfl ?_
    refine sn_iload_n dX11_bitsOf_11 rfl ?_
    refine sn_iload_n dX11_bitsOf_12 rfl ?_
    refine sn_ishr dX11_bitsOf_13 ?_
    refine sn_iconst dX11_bitsOf_14 ?_
    refine sn_iand dX11_bitsOf_15 ?_
    refine sn_iadd dX11_bitsOf_16 ?_
    refine sn_istore_n (L' := [some (aI b1), some (aI (v4.1 + (oAnd (oShr b1 v4.2) 1))), some (aI v4.2)]) dX11_bitsOf_17 (by decide) rfl ?_
    refine sn_iinc (L' := [some (aI b1), some (aI (v4.1 + (oAnd (oShr b1 v4.2) 1))), some (aI (v4.2 + 1))]) dX11_bitsOf_18 rfl (by decide) rfl ?_
    refine sn_goto (tgt := 4) dX11_bitsOf_21 (by decide) ?_
    exact hnx4 ((v4.1 + (oAnd (oShr b1 v4.2) 1)), (v4.2 + 1)) μ4
theorem dX11_byCustom_0 : decode cX11_byCustom 0 = .ok (.aload_n 0, 1) := by decide +kernel
theorem dX11_byCustom_1 : decode cX11_byCustom 1 = .ok (.invokevirtual 200, 3) := by decide +kernel
theorem dX11_byCustom_4 : decode cX11_byCustom 4 = .ok (.aload_n 0, 1) := by decide +kernel
theorem dX11_byCustom_5 : decode cX11_byCustom 5 = .ok (.getfield 13, 3) := by decide +kernel
theorem dX11_byCustom_8 : decode cX11_byCustom 8 = .ok (.iconst 1, 1) := by decide +kernel
theorem dX11_byCustom_9 : decode cX11_byCustom 9 = .ok (.iaload, 1) := by decide +kernel
theorem dX11_byCustom_10 : decode cX11_byCustom 10 = .ok (.iconst 1, 1) := by decide +kernel
theorem dX11_byCustom_11 : decode cX11_byCustom 11 = .ok (.isub, 1) := by decide +kernel
theorem dX11_byCustom_12 : decode cX11_byCustom 12 = .ok (.istore_n 1, 1) := by decide +kernel
theorem dX11_byCustom_13 : decode cX11_byCustom 13 = .ok (.iload_n 1, 1) := by decide +kernel
theorem dX11_byCustom_14 : decode cX11_byCustom 14 = .ok (.ifCond .lt 72, 3) := by decide +kernel
theorem dX11_byCustom_17 : decode cX11_byCustom 17 = .ok (.aload_n 0, 1) := by decide +kernel
theorem dX11_byCustom_18 : decode cX11_byCustom 18 = .ok (.iload_n 1, 1) := by decide +kernel
theorem dX11_byCustom_19 : decode cX11_byCustom 19 = .ok (.invokevirtual 191, 3) := by decide +kernel
theorem dX11_byCustom_22 : decode cX11_byCustom 22 = .ok (.ifCond .ne 6, 3) := by decide +kernel
theorem dX11_byCustom_25 : decode cX11_byCustom 25 = .ok (.goto 55, 3) := by decide +kernel
theorem dX11_byCustom_28 : decode cX11_byCustom 28 = .ok (.iconst 0, 1) := by decide +kernel
theorem dX11_byCustom_29 : decode cX11_byCustom 29 = .ok (.istore_n 2, 1) := by decide +kernel
theorem dX11_byCustom_30 : decode cX11_byCustom 30 = .ok (.iload_n 2, 1) := by decide +kernel
theorem dX11_byCustom_31 : decode cX11_byCustom 31 = .ok (.iconst 2, 1) := by decide +kernel
theorem dX11_byCustom_32 : decode cX11_byCustom 32 = .ok (.if_icmp .ge 48, 3) := by decide +kernel
theorem dX11_byCustom_35 : decode cX11_byCustom 35 = .ok (.aload_n 0, 1) := by decide +kernel
theorem dX11_byCustom_36 : decode cX11_byCustom 36 = .ok (.getfield 13, 3) := by decide +kernel
theorem dX11_byCustom_39 : decode cX11_byCustom 39 = .ok (.bipush 76, 2) := by decide +kernel
theorem dX11_byCustom_41 : decode cX11_byCustom 41 = .ok (.bipush 16, 2) := by decide +kernel
theorem dX11_byCustom_43 : decode cX11_byCustom 43 = .ok (.iload_n 2, 1) := by decide +kernel
theorem dX11_byCustom_44 : decode cX11_byCustom 44 = .ok (.imul, 1) := by decide +kernel
theorem dX11_byCustom_45 : decode cX11_byCustom 45 = .ok (.iadd, 1) := by decide +kernel
theorem dX11_byCustom_46 : decode cX11_byCustom 46 = .ok (.iload_n 1, 1) := by decide +kernel
theorem dX11_byCustom_47 : decode cX11_byCustom 47 = .ok (.iadd, 1) := by decide +kernel
theorem dX11_byCustom_48 : decode cX11_byCustom 48 = .ok (.iaload, 1) := by decide +kernel
theorem dX11_byCustom_49 : decode cX11_byCustom 49 = .ok (.istore_n 3, 1) := by decide +kernel
theorem dX11_byCustom_50 : decode cX11_byCustom 50 = .ok (.aload_n 0, 1) := by decide +kernel
theorem dX11_byCustom_51 : decode cX11_byCustom 51 = .ok (.iload_n 3, 1) := by decide +kernel
theorem dX11_byCustom_52 : decode cX11_byCustom 52 = .ok (.invokevirtual 197, 3) := by decide +kernel
theorem dX11_byCustom_55 : decode cX11_byCustom 55 = .ok (.ifCond .eq 19, 3) := by decide +kernel
theorem dX11_byCustom_58 : decode cX11_byCustom 58 = .ok (.aload_n 0, 1) := by decide +kernel
theorem dX11_byCustom_59 : decode cX11_byCustom 59 = .ok (.iload_n 1, 1) := by decide +kernel
theorem dX11_byCustom_60 : decode cX11_byCustom 60 = .ok (.iload_n 2, 1) := by decide +kernel
theorem dX11_byCustom_61 : decode cX11_byCustom 61 = .ok (.invokevirtual 182, 3) := by decide +kernel
theorem dX11_byCustom_64 : decode cX11_byCustom 64 = .ok (.ifCond .le 10, 3) := by decide +kernel
theorem dX11_byCustom_67 : decode cX11_byCustom 67 = .ok (.aload_n 0, 1) := by decide +kernel
theorem dX11_byCustom_68 : decode cX11_byCustom 68 = .ok (.getfield 30, 3) := by decide +kernel
theorem dX11_byCustom_71 : decode cX11_byCustom 71 = .ok (.iload_n 3, 1) := by decide +kernel
theorem dX11_byCustom_72 : decode cX11_byCustom 72 = .ok (.iload_n 1, 1) := by decide +kernel
theorem dX11_byCustom_73 : decode cX11_byCustom 73 = .ok (.iastore, 1) := by decide +kernel
theorem dX11_byCustom_74 : decode cX11_byCustom 74 = .ok (.iinc 2 1, 3) := by decide +kernel
theorem dX11_byCustom_77 : decode cX11_byCustom 77 = .ok (.goto (-47), 3) := by decide +kernel
theorem dX11_byCustom_80 : decode cX11_byCustom 80 = .ok (.iinc 1 (-1), 3) := by decide +kernel
theorem dX11_byCustom_83 : decode cX11_byCustom 83 = .ok (.goto (-70), 3) := by decide +kernel
theorem dX11_byCustom_86 : decode cX11_byCustom 86 = .ok (.iconst 0, 1) := by decide +kernel
theorem dX11_byCustom_87 : decode cX11_byCustom 87 = .ok (.istore_n 1, 1) := by decide +kernel
theorem dX11_byCustom_88 : decode cX11_byCustom 88 = .ok (.iload_n 1, 1) := by decide +kernel
theorem dX11_byCustom_89 : decode cX11_byCustom 89 = .ok (.aload_n 0, 1) := by decide +kernel
theorem dX11_byCustom_90 : decode cX11_byCustom 90 = .ok (.getfield 13, 3) := by decide +kernel
theorem dX11_byCustom_93 : decode cX11_byCustom 93 = .ok (.iconst 0, 1) := by decide +kernel
theorem dX11_byCustom_94 : decode cX11_byCustom 94 = .ok (.iaload, 1) := by decide +kernel
theorem dX11_byCustom_95 : decode cX11_byCustom 95 = .ok (.if_icmp .ge 33, 3) := by decide +kernel
theorem dX11_byCustom_98 : decode cX11_byCustom 98 = .ok (.aload_n 0, 1) := by decide +kernel
theorem dX11_byCustom_99 : decode cX11_byCustom 99 = .ok (.dup, 1) := by decide +kernel
theorem dX11_byCustom_100 : decode cX11_byCustom 100 = .ok (.getfield 217, 3) := by decide +kernel
theorem dX11_byCustom_103 : decode cX11_byCustom 103 = .ok (.aload_n 0, 1) := by decide +kernel
theorem dX11_byCustom_104 : decode cX11_byCustom 104 = .ok (.getfield 30, 3) := by decide +kernel
theorem dX11_byCustom_107 : decode cX11_byCustom 107 = .ok (.iload_n 1, 1) := by decide +kernel
theorem dX11_byCustom_108 : decode cX11_byCustom 108 = .ok (.iaload, 1) := by decide +kernel
theorem dX11_byCustom_109 : decode cX11_byCustom 109 = .ok (.iconst (-1), 1) := by decide +kernel
theorem dX11_byCustom_110 : decode cX11_byCustom 110 = .ok (.if_icmp .ne 7, 3) := by decide +kernel
theorem dX11_byCustom_113 : decode cX11_byCustom 113 = .ok (.iconst 0, 1) := by decide +kernel
theorem dX11_byCustom_114 : decode cX11_byCustom 114 = .ok (.goto 4, 3) := by decide +kernel
theorem dX11_byCustom_117 : decode cX11_byCustom 117 = .ok (.iconst 1, 1) := by decide +kernel
theorem dX11_byCustom_118 : decode cX11_byCustom 118 = .ok (.iadd, 1) := by decide +kernel
theorem dX11_byCustom_119 : decode cX11_byCustom 119 = .ok (.putfield 217, 3) := by decide +kernel
theorem dX11_byCustom_122 : decode cX11_byCustom 122 = .ok (.iinc 1 1, 3) := by decide +kernel
theorem dX11_byCustom_125 : decode cX11_byCustom 125 = .ok (.goto (-37), 3) := by decide +kernel
theorem dX11_byCustom_128 : decode cX11_byCustom 128 = .ok (.iconst 0, 1) := by decide +kernel
theorem dX11_byCustom_129 : decode cX11_byCustom 129 = .ok (.istore_n 1, 1) := by decide +kernel
theorem dX11_byCustom_130 : decode cX11_byCustom 130 = .ok (.iload_n 1, 1) := by decide +kernel
theorem dX11_byCustom_131 : decode cX11_byCustom 131 = .ok (.aload_n 0, 1) := by decide +kernel
theorem dX11_byCustom_132 : decode cX11_byCustom 132 = .ok (.getfield 13, 3) := by decide +kernel
theorem dX11_byCustom_135 : decode cX11_byCustom 135 = .ok (.iconst 1, 1) := by decide +kernel
theorem dX11_byCustom_136 : decode cX11_byCustom 136 = .ok (.iaload, 1) := by decide +kernel
theorem dX11_byCustom_137 : decode cX11_byCustom 137 = .ok (.if_icmp .ge 59, 3) := by decide +kernel
theorem dX11_byCustom_140 : decode cX11_byCustom 140 = .ok (.aload_n 0, 1) := by decide +kernel
theorem dX11_byCustom_141 : decode cX11_byCustom 141 = .ok (.dup, 1) := by decide +kernel
theorem dX11_byCustom_142 : decode cX11_byCustom 142 = .ok (.getfield 239, 3) := by decide +kernel
theorem dX11_byCustom_145 : decode cX11_byCustom 145 = .ok (.aload_n 0, 1) := by decide +kernel
theorem dX11_byCustom_146 : decode cX11_byCustom 146 = .ok (.getfield 30, 3) := by decide +kernel
theorem dX11_byCustom_149 : decode cX11_byCustom 149 = .ok (.aload_n 0, 1) := by decide +kernel
theorem dX11_byCustom_150 : decode cX11_byCustom 150 = .ok (.getfield 13, 3) := by decide +kernel
theorem dX11_byCustom_153 : decode cX11_byCustom 153 = .ok (.bipush 76, 2) := by decide +kernel
theorem dX11_byCustom_155 : decode cX11_byCustom 155 = .ok (.iload_n 1, 1) := by decide +kernel
theorem dX11_byCustom_156 : decode cX11_byCustom 156 = .ok (.iadd, 1) := by decide +kernel
theorem dX11_byCustom_157 : decode cX11_byCustom 157 = .ok (.iaload, 1) := by decide +kernel
theorem dX11_byCustom_158 : decode cX11_byCustom 158 = .ok (.iaload, 1) := by decide +kernel
theorem dX11_byCustom_159 : decode cX11_byCustom 159 = .ok (.iload_n 1, 1) := by decide +kernel
theorem dX11_byCustom_160 : decode cX11_byCustom 160 = .ok (.if_icmp .ne 25, 3) := by decide +kernel
theorem dX11_byCustom_163 : decode cX11_byCustom 163 = .ok (.aload_n 0, 1) := by decide +kernel
theorem dX11_byCustom_164 : decode cX11_byCustom 164 = .ok (.getfield 30, 3) := by decide +kernel
theorem dX11_byCustom_167 : decode cX11_byCustom 167 = .ok (.aload_n 0, 1) := by decide +kernel
theorem dX11_byCustom_168 : decode cX11_byCustom 168 = .ok (.getfield 13, 3) := by decide +kernel
theorem dX11_byCustom_171 : decode cX11_byCustom 171 = .ok (.bipush 92, 2) := by decide +kernel
theorem dX11_byCustom_173 : decode cX11_byCustom 173 = .ok (.iload_n 1, 1) := by decide +kernel
theorem dX11_byCustom_174 : decode cX11_byCustom 174 = .ok (.iadd, 1) := by decide +kernel
theorem dX11_byCustom_175 : decode cX11_byCustom 175 = .ok (.iaload, 1) := by decide +kernel
theorem dX11_byCustom_176 : decode cX11_byCustom 176 = .ok (.iaload, 1) := by decide +kernel
theorem dX11_byCustom_177 : decode cX11_byCustom 177 = .ok (.iload_n 1, 1) := by decide +kernel
theorem dX11_byCustom_178 : decode cX11_byCustom 178 = .ok (.if_icmp .ne 7, 3) := by decide +kernel
theorem dX11_byCustom_181 : decode cX11_byCustom 181 = .ok (.iconst 1, 1) := by decide +kernel
theorem dX11_byCustom_182 : decode cX11_byCustom 182 = .ok (.goto 4, 3) := by decide +kernel
theorem dX11_byCustom_185 : decode cX11_byCustom 185 = .ok (.iconst 0, 1) := by decide +kernel
theorem dX11_byCustom_186 : decode cX11_byCustom 186 = .ok (.iadd, 1) := by decide +kernel
theorem dX11_byCustom_187 : decode cX11_byCustom 187 = .ok (.putfield 239, 3) := by decide +kernel
theorem dX11_byCustom_190 : decode cX11_byCustom 190 = .ok (.iinc 1 1, 3) := by decide +kernel
theorem dX11_byCustom_193 : decode cX11_byCustom 193 = .ok (.goto (-63), 3) := by decide +kernel
theorem dX11_byCustom_196 : decode cX11_byCustom 196 = .ok (.return_, 1) := by decide +kernel
def mX11_byCustom (n : Nat) (a : Nat) (μ : Mem) : Option (Unit × Mem) :=
  (inv μ 12 a (mX11_nobody n a μ)).bind fun p1 =>
  (gA p1.2 12 a 1).bind fun x5 =>
  (ldI p1.2 0 x5 1).bind fun x9 =>
  lp (fun nx13 (v13 : Int) (μ13 : Mem) =>
  if lt32 v13 0 then
    lp (fun nx88 (v88 : Int) (μ88 : Mem) =>
    (gA μ88 12 a 1).bind fun x90 =>
    (ldI μ88 0 x90 0).bind fun x94 =>
    if lt32 v88 x94 then
      (gI μ88 12 a 20).bind fun x100 =>
      (gA μ88 12 a 15).bind fun x104 =>
      (ldI μ88 0 x104 v88).bind fun x108 =>
      jn (fun (v118 : Int) (μ118 : Mem) =>
      (pI μ118 12 a 20 (x100 + v118)).bind fun μ119 =>
      nx88 (v88 + 1) μ119) (fun j118 =>
      if eq32 x108 (-1) then
        j118 0 μ88
      else
      j118 1 μ88)
    else
    lp (fun nx130 (v130 : Int) (μ130 : Mem) =>
    (gA μ130 12 a 1).bind fun x132 =>
    (ldI μ130 0 x132 1).bind fun x136 =>
    if lt32 v130 x136 then
      (gI μ130 12 a 21).bind fun x142 =>
      (gA μ130 12 a 15).bind fun x146 =>
      (gA μ130 12 a 1).bind fun x150 =>
      (ldI μ130 0 x150 (76 + v130)).bind fun x157 =>
      (ldI μ130 0 x146 x157).bind fun x158 =>
      jn (fun (v186 : Int) (μ186 : Mem) =>
      (pI μ186 12 a 21 (x142 + v186)).bind fun μ187 =>
      nx130 (v130 + 1) μ187) (fun j186 =>
      if eq32 x158 v130 then
        (gA μ130 12 a 15).bind fun x164 =>
        (gA μ130 12 a 1).bind fun x168 =>
        (ldI μ130 0 x168 (92 + v130)).bind fun x175 =>
        (ldI μ130 0 x164 x175).bind fun x176 =>
        if eq32 x176 v130 then
          j186 1 μ130
        else
        j186 0 μ130
      else
      j186 0 μ130)
    else
    some ((), μ130)) n 0 μ88) n 0 μ13
  else
  (inv μ13 12 a (mX11_hangs n a v13 μ13)).bind fun p19 =>
  if eq32 p19.1 0 then
    nx13 (v13 + (-1)) p19.2
  else
  lp (fun nx30 (v30 : Int) (μ30 : Mem) =>
  if lt32 v30 2 then
    (gA μ30 12 a 1).bind fun x36 =>
    (ldI μ30 0 x36 ((76 + (16 * v30)) + v13)).bind fun x48 =>
    (inv μ30 12 a (mX11_thirsts n a x48 μ30)).bind fun p52 =>
    if eq32 p52.1 0 then
      nx30 (v30 + 1) p52.2
    else
    (inv p52.2 12 a (mX11_depth n a v13 v30 p52.2)).bind fun p61 =>
    if lt32 0 p61.1 then
      (gA p61.2 12 a 15).bind fun x68 =>
      (stI p61.2 0 x68 x48 v13).bind fun μ73 =>
      nx30 (v30 + 1) μ73
    else
    nx30 (v30 + 1) p61.2
  else
  nx13 (v13 + (-1)) μ30) n 0 p19.2) n (x9 - 1) p1.2
set_option maxRecDepth 100000 in
set_option maxHeartbeats 4000000 in
theorem cX11_byCustom_ok (n : Nat) (a : Nat) (μ : Mem) : Mc yX11_byCustom cX11_byCustom 4 none 1 22 eV [aA a] μ (mX11_byCustom n a μ) := by
  refine mc_of (L0 := [some (aA a), none, none, none]) (k := 3) (by decide) rfl rfl (fun X Γ => ?_)
  unfold mX11_byCustom
  refine sn_aload_n dX11_byCustom_0 rfl ?_
  refine sn_callVV (vs := []) (ci := 11) (cX11_nobody_ok n a μ) dX11_byCustom_1 cw_X11_200 rfl rfl rfl (by decide) (by decide) (Nat.le_of_ble_eq_true rfl) (fun p1 => ?_)
  refine sn_aload_n dX11_byCustom_4 rfl ?_
  refine sn_getA (ci := 11) (j := 1) dX11_byCustom_5 fl_X11_13 (by decide) (fun x5 => ?_)
  refine sn_iconst dX11_byCustom_8 ?_
  refine sn_iald dX11_byCustom_9 (fun x9 => ?_)
  refine sn_iconst dX11_byCustom_10 ?_
  refine sn_isub dX11_byCustom_11 ?_
  refine sn_istore_n (L' := [some (aA a), some (aI (x9 - 1)), none, none]) dX11_byCustom_12 (by decide) rfl ?_
  refine sn_lp (La := fun v13 : Int => [some (aA a), some (aI v13), none, none]) ?_ n (x9 - 1) p1.2
  intro nx13 hnx13 v13 μ13
  refine sn_iload_n dX11_byCustom_13 rfl ?_
  refine sn_if_lt (tgt := 86) dX11_byCustom_14 (by decide) ?_ ?_
  · refine sn_iconst dX11_byCustom_86 ?_
    refine sn_istore_n (L' := [some (aA a), some (aI 0), none, none]) dX11_byCustom_87 (by decide) rfl ?_
    refine sn_lp (La := fun v88 : Int => [some (aA a), some (aI v88), none, none]) ?_ n 0 μ13
    intro nx88 hnx88 v88 μ88
    refine sn_iload_n dX11_byCustom_88 rfl ?_
    refine sn_aload_n dX11_byCustom_89 rfl ?_
    refine sn_getA (ci := 11) (j := 1) dX11_byCustom_90 fl_X11_13 (by decide) (fun x90 => ?_)
    refine sn_iconst dX11_byCustom_93 ?_
    refine sn_iald dX11_byCustom_94 (fun x94 => ?_)
    refine sn_icmp_ge (tgt := 128) dX11_byCustom_95 (by decide) ?_ ?_
    · refine sn_iconst dX11_byCustom_128 ?_
      refine sn_istore_n (L' := [some (aA a), some (aI 0), none, none]) dX11_byCustom_129 (by decide) rfl ?_
      refine sn_lp (La := fun v130 : Int => [some (aA a), some (aI v130), none, none]) ?_ n 0 μ88
      intro nx130 hnx130 v130 μ130
      refine sn_iload_n dX11_byCustom_130 rfl ?_
      refine sn_aload_n dX11_byCustom_131 rfl ?_
      refine sn_getA (ci := 11) (j := 1) dX11_byCustom_132 fl_X11_13 (by decide) (fun x132 => ?_)
      refine sn_iconst dX11_byCustom_135 ?_
      refine sn_iald dX11_byCustom_136 (fun x136 => ?_)
      refine sn_icmp_ge (tgt := 196) dX11_byCustom_137 (by decide) ?_ ?_
      · exact sn_vret dX11_byCustom_196
      · refine sn_aload_n dX11_byCustom_140 rfl ?_
        refine sn_dup dX11_byCustom_141 rfl ?_
        refine sn_getI (ci := 11) (j := 21) dX11_byCustom_142 fl_X11_239 rfl (fun x142 => ?_)
        refine sn_aload_n dX11_byCustom_145 rfl ?_
        refine sn_getA (ci := 11) (j := 15) dX11_byCustom_146 fl_X11_30 (by decide) (fun x146 => ?_)
        refine sn_aload_n dX11_byCustom_149 rfl ?_
        refine sn_getA (ci := 11) (j := 1) dX11_byCustom_150 fl_X11_13 (by decide) (fun x150 => ?_)
        refine sn_bipush dX11_byCustom_153 (by decide) ?_
        refine sn_iload_n dX11_byCustom_155 rfl ?_
        refine sn_iadd dX11_byCustom_156 ?_
        refine sn_iald dX11_byCustom_157 (fun x157 => ?_)
        refine sn_iald dX11_byCustom_158 (fun x158 => ?_)
        refine sn_iload_n dX11_byCustom_159 rfl ?_
        refine sn_jn (pcj := 186) (La := fun v186 : Int => [some (aA a), some (aI v130), none, none]) (Sa := fun v186 : Int => [aI v186, aI x142, aA a]) ?_ ?_
        · intro v186 μ186
          refine sn_iadd dX11_byCustom_186 ?_
          refine sn_putI (ci := 11) (j := 21) dX11_byCustom_187 fl_X11_239 rfl (fun q h => by cases h; rfl) (fun μ187 => ?_)
          refine sn_iinc (L' := [some (aA a), some (aI (v130 + 1)), none, none]) dX11_byCustom_190 rfl (by decide) rfl ?_
          refine sn_goto (tgt := 130) dX11_byCustom_193 (by decide) ?_
          exact hnx130 (v130 + 1) μ187
        intro j186 hj186
        refine sn_icmp_ne (tgt := 185) dX11_byCustom_160 (by decide) ?_ ?_
        · refine sn_iconst dX11_byCustom_185 ?_
          exact hj186 0 μ130
        · refine sn_aload_n dX11_byCustom_163 rfl ?_
          refine sn_getA (ci := 11) (j := 15) dX11_byCustom_164 fl_X11_30 (by decide) (fun x164 => ?_)
          refine sn_aload_n dX11_byCustom_167 rfl ?_
          refine sn_getA (ci := 11) (j := 1) dX11_byCustom_168 fl_X11_13 (by decide) (fun x168 => ?_)
          refine sn_bipush dX11_byCustom_171 (by decide) ?_
          refine sn_iload_n dX11_byCustom_173 rfl ?_
          refine sn_iadd dX11_byCustom_174 ?_
          refine sn_iald dX11_byCustom_175 (fun x175 => ?_)
          refine sn_iald dX11_byCustom_176 (fun x176 => ?_)
          refine sn_iload_n dX11_byCustom_177 rfl ?_
          refine sn_icmp_ne (tgt := 185) dX11_byCustom_178 (by decide) ?_ ?_
          · refine sn_iconst dX11_byCustom_185 ?_
            exact hj186 0 μ130
          · refine sn_iconst dX11_byCustom_181 ?_
            refine sn_goto (tgt := 186) dX11_byCustom_182 (by decide) ?_
            exact hj186 1 μ130
    · refine sn_aload_n dX11_byCustom_98 rfl ?_
      refine sn_dup dX11_byCustom_99 rfl ?_
      refine sn_getI (ci := 11) (j := 20) dX11_byCustom_100 fl_X11_217 rfl (fun x100 => ?_)
      refine sn_aload_n dX11_byCustom_103 rfl ?_
      refine sn_getA (ci := 11) (j := 15) dX11_byCustom_104 fl_X11_30 (by decide) (fun x104 => ?_)
      refine sn_iload_n dX11_byCustom_107 rfl ?_
      refine sn_iald dX11_byCustom_108 (fun x108 => ?_)
      refine sn_iconst dX11_byCustom_109 ?_
      refine sn_jn (pcj := 118) (La := fun v118 : Int => [some (aA a), some (aI v88), none, none]) (Sa := fun v118 : Int => [aI v118, aI x100, aA a]) ?_ ?_
      · intro v118 μ118
        refine sn_iadd dX11_byCustom_118 ?_
        refine sn_putI (ci := 11) (j := 20) dX11_byCustom_119 fl_X11_217 rfl (fun q h => by cases h; rfl) (fun μ119 => ?_)
        refine sn_iinc (L' := [some (aA a), some (aI (v88 + 1)), none, none]) dX11_byCustom_122 rfl (by decide) rfl ?_
        refine sn_goto (tgt := 88) dX11_byCustom_125 (by decide) ?_
        exact hnx88 (v88 + 1) μ119
      intro j118 hj118
      refine sn_icmp_ne (tgt := 117) dX11_byCustom_110 (by decide) ?_ ?_
      · refine sn_iconst dX11_byCustom_117 ?_
        exact hj118 1 μ88
      · refine sn_iconst dX11_byCustom_113 ?_
        refine sn_goto (tgt := 118) dX11_byCustom_114 (by decide) ?_
        exact hj118 0 μ88
  · refine sn_aload_n dX11_byCustom_17 rfl ?_
    refine sn_iload_n dX11_byCustom_18 rfl ?_
    refine sn_callVI (vs := [aI v13]) (ci := 11) (cX11_hangs_ok n a v13 μ13) dX11_byCustom_19 cw_X11_191 rfl rfl rfl (by decide) (by decide) (Nat.le_of_ble_eq_true rfl) (fun p19 => ?_)
    refine sn_if_ne (tgt := 28) dX11_byCustom_22 (by decide) ?_ ?_
    · refine sn_iconst dX11_byCustom_28 ?_
      refine sn_istore_n (L' := [some (aA a), some (aI v13), some (aI 0), none]) dX11_byCustom_29 (by decide) rfl ?_
      refine sn_lp (La := fun v30 : Int => [some (aA a), some (aI v13), some (aI v30), none]) ?_ n 0 p19.2
      intro nx30 hnx30 v30 μ30
      refine sn_iload_n dX11_byCustom_30 rfl ?_
      refine sn_iconst dX11_byCustom_31 ?_
      refine sn_icmp_ge (tgt := 80) dX11_byCustom_32 (by decide) ?_ ?_
      · refine sn_iinc (L' := [some (aA a), some (aI (v13 + (-1))), some (aI v30), none]) dX11_byCustom_80 rfl (by decide) rfl ?_
        refine sn_goto (tgt := 13) dX11_byCustom_83 (by decide) ?_
        exact sn_mask (L' := [some (aA a), some (aI (v13 + (-1))), none, none]) [true, true, false, false] rfl (hnx13 (v13 + (-1)) μ30)
      · refine sn_aload_n dX11_byCustom_35 rfl ?_
        refine sn_getA (ci := 11) (j := 1) dX11_byCustom_36 fl_X11_13 (by decide) (fun x36 => ?_)
        refine sn_bipush dX11_byCustom_39 (by decide) ?_
        refine sn_bipush dX11_byCustom_41 (by decide) ?_
        refine sn_iload_n dX11_byCustom_43 rfl ?_
        refine sn_imul dX11_byCustom_44 ?_
        refine sn_iadd dX11_byCustom_45 ?_
        refine sn_iload_n dX11_byCustom_46 rfl ?_
        refine sn_iadd dX11_byCustom_47 ?_
        refine sn_iald dX11_byCustom_48 (fun x48 => ?_)
        refine sn_istore_n (L' := [some (aA a), some (aI v13), some (aI v30), some (aI x48)]) dX11_byCustom_49 (by decide) rfl ?_
        refine sn_aload_n dX11_byCustom_50 rfl ?_
        refine sn_iload_n dX11_byCustom_51 rfl ?_
        refine sn_callVI (vs := [aI x48]) (ci := 11) (cX11_thirsts_ok n a x48 μ30) dX11_byCustom_52 cw_X11_197 rfl rfl rfl (by decide) (by decide) (Nat.le_of_ble_eq_true rfl) (fun p52 => ?_)
        refine sn_if_eq (tgt := 74) dX11_byCustom_55 (by decide) ?_ ?_
        · refine sn_iinc (L' := [some (aA a), some (aI v13), some (aI (v30 + 1)), some (aI x48)]) dX11_byCustom_74 rfl (by decide) rfl ?_
          refine sn_goto (tgt := 30) dX11_byCustom_77 (by decide) ?_
          exact sn_mask (L' := [some (aA a), some (aI v13), some (aI (v30 + 1)), none]) [true, true, true, false] rfl (hnx30 (v30 + 1) p52.2)
        · refine sn_aload_n dX11_byCustom_58 rfl ?_
          refine sn_iload_n dX11_byCustom_59 rfl ?_
          refine sn_iload_n dX11_byCustom_60 rfl ?_
          refine sn_callVI (vs := [aI v13, aI v30]) (ci := 11) (cX11_depth_ok n a v13 v30 p52.2) dX11_byCustom_61 cw_X11_182 rfl rfl rfl (by decide) (by decide) (Nat.le_of_ble_eq_true rfl) (fun p61 => ?_)
          refine sn_if_le (tgt := 74) dX11_byCustom_64 (by decide) ?_ ?_
          · refine sn_iinc (L' := [some (aA a), some (aI v13), some (aI (v30 + 1)), some (aI x48)]) dX11_byCustom_74 rfl (by decide) rfl ?_
            refine sn_goto (tgt := 30) dX11_byCustom_77 (by decide) ?_
            exact sn_mask (L' := [some (aA a), some (aI v13), some (aI (v30 + 1)), none]) [true, true, true, false] rfl (hnx30 (v30 + 1) p61.2)
          · refine sn_aload_n dX11_byCustom_67 rfl ?_
            refine sn_getA (ci := 11) (j := 15) dX11_byCustom_68 fl_X11_30 (by decide) (fun x68 => ?_)
            refine sn_iload_n dX11_byCustom_71 rfl ?_
            refine sn_iload_n dX11_byCustom_72 rfl ?_
            refine sn_iast dX11_byCustom_73 (fun μ73 => ?_)
            refine sn_iinc (L' := [some (aA a), some (aI v13), some (aI (v30 + 1)), some (aI x48)]) dX11_byCustom_74 rfl (by decide) rfl ?_
            refine sn_goto (tgt := 30) dX11_byCustom_77 (by decide) ?_
            exact sn_mask (L' := [some (aA a), some (aI v13), some (aI (v30 + 1)), none]) [true, true, true, false] rfl (hnx30 (v30 + 1) μ73)
    · refine sn_goto (tgt := 80) dX11_byCustom_25 (by decide) ?_
      refine sn_iinc (L' := [some (aA a), some (aI (v13 + (-1))), none, none]) dX11_byCustom_80 rfl (by decide) rfl ?_
      refine sn_goto (tgt := 13) dX11_byCustom_83 (by decide) ?_
      exact hnx13 (v13 + (-1)) p19.2
theorem dX11_keeps_0 : decode cX11_keeps 0 = .ok (.iconst 0, 1) := by decide +kernel
theorem dX11_keeps_1 : decode cX11_keeps 1 = .ok (.istore_n 1, 1) := by decide +kernel
theorem dX11_keeps_2 : decode cX11_keeps 2 = .ok (.iload_n 1, 1) := by decide +kernel
theorem dX11_keeps_3 : decode cX11_keeps 3 = .ok (.sipush 220, 3) := by decide +kernel
theorem dX11_keeps_6 : decode cX11_keeps 6 = .ok (.if_icmp .ge 21, 3) := by decide +kernel
theorem dX11_keeps_9 : decode cX11_keeps 9 = .ok (.aload_n 0, 1) := by decide +kernel
theorem dX11_keeps_10 : decode cX11_keeps 10 = .ok (.getfield 33, 3) := by decide +kernel
theorem dX11_keeps_13 : decode cX11_keeps 13 = .ok (.iload_n 1, 1) := by decide +kernel
theorem dX11_keeps_14 : decode cX11_keeps 14 = .ok (.aload_n 0, 1) := by decide +kernel
theorem dX11_keeps_15 : decode cX11_keeps 15 = .ok (.getfield 13, 3) := by decide +kernel
theorem dX11_keeps_18 : decode cX11_keeps 18 = .ok (.iload_n 1, 1) := by decide +kernel
theorem dX11_keeps_19 : decode cX11_keeps 19 = .ok (.iaload, 1) := by decide +kernel
theorem dX11_keeps_20 : decode cX11_keeps 20 = .ok (.iastore, 1) := by decide +kernel
theorem dX11_keeps_21 : decode cX11_keeps 21 = .ok (.iinc 1 1, 3) := by decide +kernel
theorem dX11_keeps_24 : decode cX11_keeps 24 = .ok (.goto (-22), 3) := by decide +kernel
theorem dX11_keeps_27 : decode cX11_keeps 27 = .ok (.return_, 1) := by decide +kernel
def mX11_keeps (n : Nat) (a : Nat) (μ : Mem) : Option (Unit × Mem) :=
  lp (fun nx2 (v2 : Int) (μ2 : Mem) =>
  if lt32 v2 220 then
    (gA μ2 12 a 16).bind fun x10 =>
    (gA μ2 12 a 1).bind fun x15 =>
    (ldI μ2 0 x15 v2).bind fun x19 =>
    (stI μ2 0 x10 v2 x19).bind fun μ20 =>
    nx2 (v2 + 1) μ20
  else
  some ((), μ2)) n 0 μ
set_option maxRecDepth 100000 in
set_option maxHeartbeats 4000000 in
theorem cX11_keeps_ok (n : Nat) (a : Nat) (μ : Mem) : Mc yX11_keeps cX11_keeps 2 none 0 0 eV [aA a] μ (mX11_keeps n a μ) := by
  refine mc_of (L0 := [some (aA a), none]) (k := 1) (by decide) rfl rfl (fun X Γ => ?_)
  unfold mX11_keeps
  refine sn_iconst dX11_keeps_0 ?_
  refine sn_istore_n (L' := [some (aA a), some (aI 0)]) dX11_keeps_1 (by decide) rfl ?_
  refine sn_lp (La := fun v2 : Int => [some (aA a), some (aI v2)]) ?_ n 0 μ
  intro nx2 hnx2 v2 μ2
  refine sn_iload_n dX11_keeps_2 rfl ?_
  refine sn_sipush dX11_keeps_3 (by decide) ?_
  refine sn_icmp_ge (tgt := 27) dX11_keeps_6 (by decide) ?_ ?_
  · exact sn_vret dX11_keeps_27
  · refine sn_aload_n dX11_keeps_9 rfl ?_
    refine sn_getA (ci := 11) (j := 16) dX11_keeps_10 fl_X11_33 (by decide) (fun x10 => ?_)
    refine sn_iload_n dX11_keeps_13 rfl ?_
    refine sn_aload_n dX11_keeps_14 rfl ?_
    refine sn_getA (ci := 11) (j := 1) dX11_keeps_15 fl_X11_13 (by decide) (fun x15 => ?_)
    refine sn_iload_n dX11_keeps_18 rfl ?_
    refine sn_iald dX11_keeps_19 (fun x19 => ?_)
    refine sn_iast dX11_keeps_20 (fun μ20 => ?_)
    refine sn_iinc (L' := [some (aA a), some (aI (v2 + 1))]) dX11_keeps_21 rfl (by decide) rfl ?_
    refine sn_goto (tgt := 2) dX11_keeps_24 (by decide) ?_
    exact hnx2 (v2 + 1) μ20
theorem dX11_resting_0 : decode cX11_resting 0 = .ok (.aload_n 0, 1) := by decide +kernel
theorem dX11_resting_1 : decode cX11_resting 1 = .ok (.invokevirtual 200, 3) := by decide +kernel
theorem dX11_resting_4 : decode cX11_resting 4 = .ok (.iconst 0, 1) := by decide +kernel
theorem dX11_resting_5 : decode cX11_resting 5 = .ok (.istore_n 1, 1) := by decide +kernel
theorem dX11_resting_6 : decode cX11_resting 6 = .ok (.iconst 0, 1) := by decide +kernel
theorem dX11_resting_7 : decode cX11_resting 7 = .ok (.istore_n 2, 1) := by decide +kernel
theorem dX11_resting_8 : decode cX11_resting 8 = .ok (.iload_n 2, 1) := by decide +kernel
theorem dX11_resting_9 : decode cX11_resting 9 = .ok (.aload_n 0, 1) := by decide +kernel
theorem dX11_resting_10 : decode cX11_resting 10 = .ok (.getfield 13, 3) := by decide +kernel
theorem dX11_resting_13 : decode cX11_resting 13 = .ok (.iconst 1, 1) := by decide +kernel
theorem dX11_resting_14 : decode cX11_resting 14 = .ok (.iaload, 1) := by decide +kernel
theorem dX11_resting_15 : decode cX11_resting 15 = .ok (.if_icmp .ge 36, 3) := by decide +kernel
theorem dX11_resting_18 : decode cX11_resting 18 = .ok (.iload_n 1, 1) := by decide +kernel
theorem dX11_resting_19 : decode cX11_resting 19 = .ok (.aload_n 0, 1) := by decide +kernel
theorem dX11_resting_20 : decode cX11_resting 20 = .ok (.iload_n 2, 1) := by decide +kernel
theorem dX11_resting_21 : decode cX11_resting 21 = .ok (.invokevirtual 194, 3) := by decide +kernel
theorem dX11_resting_24 : decode cX11_resting 24 = .ok (.aload_n 0, 1) := by decide +kernel
theorem dX11_resting_25 : decode cX11_resting 25 = .ok (.getfield 13, 3) := by decide +kernel
theorem dX11_resting_28 : decode cX11_resting 28 = .ok (.bipush 124, 2) := by decide +kernel
theorem dX11_resting_30 : decode cX11_resting 30 = .ok (.iload_n 2, 1) := by decide +kernel
theorem dX11_resting_31 : decode cX11_resting 31 = .ok (.iadd, 1) := by decide +kernel
theorem dX11_resting_32 : decode cX11_resting 32 = .ok (.iaload, 1) := by decide +kernel
theorem dX11_resting_33 : decode cX11_resting 33 = .ok (.if_icmp .ne 9, 3) := by decide +kernel
theorem dX11_resting_36 : decode cX11_resting 36 = .ok (.iconst 1, 1) := by decide +kernel
theorem dX11_resting_37 : decode cX11_resting 37 = .ok (.iload_n 2, 1) := by decide +kernel
theorem dX11_resting_38 : decode cX11_resting 38 = .ok (.ishl, 1) := by decide +kernel
theorem dX11_resting_39 : decode cX11_resting 39 = .ok (.goto 4, 3) := by decide +kernel
theorem dX11_resting_42 : decode cX11_resting 42 = .ok (.iconst 0, 1) := by decide +kernel
theorem dX11_resting_43 : decode cX11_resting 43 = .ok (.ior, 1) := by decide +kernel
theorem dX11_resting_44 : decode cX11_resting 44 = .ok (.istore_n 1, 1) := by decide +kernel
theorem dX11_resting_45 : decode cX11_resting 45 = .ok (.iinc 2 1, 3) := by decide +kernel
theorem dX11_resting_48 : decode cX11_resting 48 = .ok (.goto (-40), 3) := by decide +kernel
theorem dX11_resting_51 : decode cX11_resting 51 = .ok (.iload_n 1, 1) := by decide +kernel
theorem dX11_resting_52 : decode cX11_resting 52 = .ok (.ireturn, 1) := by decide +kernel
def mX11_resting (n : Nat) (a : Nat) (μ : Mem) : Option (Int × Mem) :=
  (inv μ 12 a (mX11_nobody n a μ)).bind fun p1 =>
  lp (fun nx8 (v8 : Int × Int) (μ8 : Mem) =>
  (gA μ8 12 a 1).bind fun x10 =>
  (ldI μ8 0 x10 1).bind fun x14 =>
  if lt32 v8.2 x14 then
    (inv μ8 12 a (mX11_depthThen n a v8.2 μ8)).bind fun p21 =>
    (gA p21.2 12 a 1).bind fun x25 =>
    (ldI p21.2 0 x25 (124 + v8.2)).bind fun x32 =>
    jn (fun (v43 : Int) (μ43 : Mem) =>
    nx8 ((oOr v8.1 v43), (v8.2 + 1)) μ43) (fun j43 =>
    if eq32 p21.1 x32 then
      j43 (oShl 1 v8.2) p21.2
    else
    j43 0 p21.2)
  else
  some (v8.1, μ8)) n (0, 0) p1.2
set_option maxRecDepth 100000 in
set_option maxHeartbeats 4000000 in
theorem cX11_resting_ok (n : Nat) (a : Nat) (μ : Mem) : Mc yX11_resting cX11_resting 3 (some .int) 2 48 eI [aA a] μ (mX11_resting n a μ) := by
  refine mc_of (L0 := [some (aA a), none, none]) (k := 2) (by decide) rfl rfl (fun X Γ => ?_)
  unfold mX11_resting
  refine sn_aload_n dX11_resting_0 rfl ?_
  refine sn_callVV (vs := []) (ci := 11) (cX11_nobody_ok n a μ) dX11_resting_1 cw_X11_200 rfl rfl rfl (by decide) (by decide) (Nat.le_of_ble_eq_true rfl) (fun p1 => ?_)
  refine sn_iconst dX11_resting_4 ?_
  refine sn_istore_n (L' := [some (aA a), some (aI 0), none]) dX11_resting_5 (by decide) rfl ?_
  refine sn_iconst dX11_resting_6 ?_
  refine sn_istore_n (L' := [some (aA a), some (aI 0), some (aI 0)]) dX11_resting_7 (by decide) rfl ?_
  refine sn_lp (La := fun v8 : Int × Int => [some (aA a), some (aI v8.1), some (aI v8.2)]) ?_ n (0, 0) p1.2
  intro nx8 hnx8 v8 μ8
  refine sn_iload_n dX11_resting_8 rfl ?_
  refine sn_aload_n dX11_resting_9 rfl ?_
  refine sn_getA (ci := 11) (j := 1) dX11_resting_10 fl_X11_13 (by decide) (fun x10 => ?_)
  refine sn_iconst dX11_resting_13 ?_
  refine sn_iald dX11_resting_14 (fun x14 => ?_)
  refine sn_icmp_ge (tgt := 51) dX11_resting_15 (by decide) ?_ ?_
  · refine sn_iload_n dX11_resting_51 rfl ?_
    exact sn_iret dX11_resting_52
  · refine sn_iload_n dX11_resting_18 rfl ?_
    refine sn_aload_n dX11_resting_19 rfl ?_
    refine sn_iload_n dX11_resting_20 rfl ?_
    refine sn_callVI (vs := [aI v8.2]) (ci := 11) (cX11_depthThen_ok n a v8.2 μ8) dX11_resting_21 cw_X11_194 rfl rfl rfl (by decide) (by decide) (Nat.le_of_ble_eq_true rfl) (fun p21 => ?_)
    refine sn_aload_n dX11_resting_24 rfl ?_
    refine sn_getA (ci := 11) (j := 1) dX11_resting_25 fl_X11_13 (by decide) (fun x25 => ?_)
    refine sn_bipush dX11_resting_28 (by decide) ?_
    refine sn_iload_n dX11_resting_30 rfl ?_
    refine sn_iadd dX11_resting_31 ?_
    refine sn_iald dX11_resting_32 (fun x32 => ?_)
    refine sn_jn (pcj := 43) (La := fun v43 : Int => [some (aA a), none, some (aI v8.2)]) (Sa := fun v43 : Int => [aI v43, aI v8.1]) ?_ ?_
    · intro v43 μ43
      refine sn_ior dX11_resting_43 ?_
      refine sn_istore_n (L' := [some (aA a), some (aI (oOr v8.1 v43)), some (aI v8.2)]) dX11_resting_44 (by decide) rfl ?_
      refine sn_iinc (L' := [some (aA a), some (aI (oOr v8.1 v43)), some (aI (v8.2 + 1))]) dX11_resting_45 rfl (by decide) rfl ?_
      refine sn_goto (tgt := 8) dX11_resting_48 (by decide) ?_
      exact hnx8 ((oOr v8.1 v43), (v8.2 + 1)) μ43
    intro j43 hj43
    refine sn_icmp_ne (tgt := 42) dX11_resting_33 (by decide) ?_ ?_
    · refine sn_iconst dX11_resting_42 ?_
      exact sn_mask (L' := [some (aA a), none, some (aI v8.2)]) [true, false, true] rfl (hj43 0 p21.2)
    · refine sn_iconst dX11_resting_36 ?_
      refine sn_iload_n dX11_resting_37 rfl ?_
      refine sn_ishl dX11_resting_38 ?_
      refine sn_goto (tgt := 43) dX11_resting_39 (by decide) ?_
      exact sn_mask (L' := [some (aA a), none, some (aI v8.2)]) [true, false, true] rfl (hj43 (oShl 1 v8.2) p21.2)
theorem dX11_isAgain_0 : decode cX11_isAgain 0 = .ok (.iconst 0, 1) := by decide +kernel
theorem dX11_isAgain_1 : decode cX11_isAgain 1 = .ok (.istore_n 1, 1) := by decide +kernel
theorem dX11_isAgain_2 : decode cX11_isAgain 2 = .ok (.iload_n 1, 1) := by decide +kernel
theorem dX11_isAgain_3 : decode cX11_isAgain 3 = .ok (.sipush 220, 3) := by decide +kernel
theorem dX11_isAgain_6 : decode cX11_isAgain 6 = .ok (.if_icmp .ge 21, 3) := by decide +kernel
theorem dX11_isAgain_9 : decode cX11_isAgain 9 = .ok (.aload_n 0, 1) := by decide +kernel
theorem dX11_isAgain_10 : decode cX11_isAgain 10 = .ok (.getfield 13, 3) := by decide +kernel
theorem dX11_isAgain_13 : decode cX11_isAgain 13 = .ok (.iload_n 1, 1) := by decide +kernel
theorem dX11_isAgain_14 : decode cX11_isAgain 14 = .ok (.aload_n 0, 1) := by decide +kernel
theorem dX11_isAgain_15 : decode cX11_isAgain 15 = .ok (.getfield 33, 3) := by decide +kernel
theorem dX11_isAgain_18 : decode cX11_isAgain 18 = .ok (.iload_n 1, 1) := by decide +kernel
theorem dX11_isAgain_19 : decode cX11_isAgain 19 = .ok (.iaload, 1) := by decide +kernel
theorem dX11_isAgain_20 : decode cX11_isAgain 20 = .ok (.iastore, 1) := by decide +kernel
theorem dX11_isAgain_21 : decode cX11_isAgain 21 = .ok (.iinc 1 1, 3) := by decide +kernel
theorem dX11_isAgain_24 : decode cX11_isAgain 24 = .ok (.goto (-22), 3) := by decide +kernel
theorem dX11_isAgain_27 : decode cX11_isAgain 27 = .ok (.return_, 1) := by decide +kernel
def mX11_isAgain (n : Nat) (a : Nat) (μ : Mem) : Option (Unit × Mem) :=
  lp (fun nx2 (v2 : Int) (μ2 : Mem) =>
  if lt32 v2 220 then
    (gA μ2 12 a 1).bind fun x10 =>
    (gA μ2 12 a 16).bind fun x15 =>
    (ldI μ2 0 x15 v2).bind fun x19 =>
    (stI μ2 0 x10 v2 x19).bind fun μ20 =>
    nx2 (v2 + 1) μ20
  else
  some ((), μ2)) n 0 μ
set_option maxRecDepth 100000 in
set_option maxHeartbeats 4000000 in
theorem cX11_isAgain_ok (n : Nat) (a : Nat) (μ : Mem) : Mc yX11_isAgain cX11_isAgain 2 none 0 0 eV [aA a] μ (mX11_isAgain n a μ) := by
  refine mc_of (L0 := [some (aA a), none]) (k := 1) (by decide) rfl rfl (fun X Γ => ?_)
  unfold mX11_isAgain
  refine sn_iconst dX11_isAgain_0 ?_
  refine sn_istore_n (L' := [some (aA a), some (aI 0)]) dX11_isAgain_1 (by decide) rfl ?_
  refine sn_lp (La := fun v2 : Int => [some (aA a), some (aI v2)]) ?_ n 0 μ
  intro nx2 hnx2 v2 μ2
  refine sn_iload_n dX11_isAgain_2 rfl ?_
  refine sn_sipush dX11_isAgain_3 (by decide) ?_
  refine sn_icmp_ge (tgt := 27) dX11_isAgain_6 (by decide) ?_ ?_
  · exact sn_vret dX11_isAgain_27
  · refine sn_aload_n dX11_isAgain_9 rfl ?_
    refine sn_getA (ci := 11) (j := 1) dX11_isAgain_10 fl_X11_13 (by decide) (fun x10 => ?_)
    refine sn_iload_n dX11_isAgain_13 rfl ?_
    refine sn_aload_n dX11_isAgain_14 rfl ?_
    refine sn_getA (ci := 11) (j := 16) dX11_isAgain_15 fl_X11_33 (by decide) (fun x15 => ?_)
    refine sn_iload_n dX11_isAgain_18 rfl ?_
    refine sn_iald dX11_isAgain_19 (fun x19 => ?_)
    refine sn_iast dX11_isAgain_20 (fun μ20 => ?_)
    refine sn_iinc (L' := [some (aA a), some (aI (v2 + 1))]) dX11_isAgain_21 rfl (by decide) rfl ?_
    refine sn_goto (tgt := 2) dX11_isAgain_24 (by decide) ?_
    exact hnx2 (v2 + 1) μ20
theorem dX11_calm_0 : decode cX11_calm 0 = .ok (.aload_n 0, 1) := by decide +kernel
theorem dX11_calm_1 : decode cX11_calm 1 = .ok (.iconst 0, 1) := by decide +kernel
theorem dX11_calm_2 : decode cX11_calm 2 = .ok (.putfield 1, 3) := by decide +kernel
theorem dX11_calm_5 : decode cX11_calm 5 = .ok (.aload_n 0, 1) := by decide +kernel
theorem dX11_calm_6 : decode cX11_calm 6 = .ok (.invokevirtual 230, 3) := by decide +kernel
theorem dX11_calm_9 : decode cX11_calm 9 = .ok (.iconst 0, 1) := by decide +kernel
theorem dX11_calm_10 : decode cX11_calm 10 = .ok (.istore_n 1, 1) := by decide +kernel
theorem dX11_calm_11 : decode cX11_calm 11 = .ok (.iconst 1, 1) := by decide +kernel
theorem dX11_calm_12 : decode cX11_calm 12 = .ok (.aload_n 0, 1) := by decide +kernel
theorem dX11_calm_13 : decode cX11_calm 13 = .ok (.getfield 13, 3) := by decide +kernel
theorem dX11_calm_16 : decode cX11_calm 16 = .ok (.iconst 1, 1) := by decide +kernel
theorem dX11_calm_17 : decode cX11_calm 17 = .ok (.iaload, 1) := by decide +kernel
theorem dX11_calm_18 : decode cX11_calm 18 = .ok (.ishl, 1) := by decide +kernel
theorem dX11_calm_19 : decode cX11_calm 19 = .ok (.iconst 1, 1) := by decide +kernel
theorem dX11_calm_20 : decode cX11_calm 20 = .ok (.isub, 1) := by decide +kernel
theorem dX11_calm_21 : decode cX11_calm 21 = .ok (.istore_n 2, 1) := by decide +kernel
theorem dX11_calm_22 : decode cX11_calm 22 = .ok (.iload_n 1, 1) := by decide +kernel
theorem dX11_calm_23 : decode cX11_calm 23 = .ok (.bipush 100, 2) := by decide +kernel
theorem dX11_calm_25 : decode cX11_calm 25 = .ok (.if_icmp .ge 22, 3) := by decide +kernel
theorem dX11_calm_28 : decode cX11_calm 28 = .ok (.aload_n 0, 1) := by decide +kernel
theorem dX11_calm_29 : decode cX11_calm 29 = .ok (.invokevirtual 266, 3) := by decide +kernel
theorem dX11_calm_32 : decode cX11_calm 32 = .ok (.iload_n 2, 1) := by decide +kernel
theorem dX11_calm_33 : decode cX11_calm 33 = .ok (.if_icmp .eq 14, 3) := by decide +kernel
theorem dX11_calm_36 : decode cX11_calm 36 = .ok (.aload_n 0, 1) := by decide +kernel
theorem dX11_calm_37 : decode cX11_calm 37 = .ok (.invokevirtual 203, 3) := by decide +kernel
theorem dX11_calm_40 : decode cX11_calm 40 = .ok (.pop, 1) := by decide +kernel
theorem dX11_calm_41 : decode cX11_calm 41 = .ok (.iinc 1 1, 3) := by decide +kernel
theorem dX11_calm_44 : decode cX11_calm 44 = .ok (.goto (-22), 3) := by decide +kernel
theorem dX11_calm_47 : decode cX11_calm 47 = .ok (.aload_n 0, 1) := by decide +kernel
theorem dX11_calm_48 : decode cX11_calm 48 = .ok (.invokevirtual 236, 3) := by decide +kernel
theorem dX11_calm_51 : decode cX11_calm 51 = .ok (.iload_n 1, 1) := by decide +kernel
theorem dX11_calm_52 : decode cX11_calm 52 = .ok (.bipush 100, 2) := by decide +kernel
theorem dX11_calm_54 : decode cX11_calm 54 = .ok (.if_icmp .ne 7, 3) := by decide +kernel
theorem dX11_calm_57 : decode cX11_calm 57 = .ok (.iconst (-1), 1) := by decide +kernel
theorem dX11_calm_58 : decode cX11_calm 58 = .ok (.goto 4, 3) := by decide +kernel
theorem dX11_calm_61 : decode cX11_calm 61 = .ok (.iload_n 1, 1) := by decide +kernel
theorem dX11_calm_62 : decode cX11_calm 62 = .ok (.ireturn, 1) := by decide +kernel
def mX11_calm (n : Nat) (a : Nat) (μ : Mem) : Option (Int × Mem) :=
  (pI μ 12 a 0 0).bind fun μ2 =>
  (inv μ2 12 a (mX11_keeps n a μ2)).bind fun p6 =>
  (gA p6.2 12 a 1).bind fun x13 =>
  (ldI p6.2 0 x13 1).bind fun x17 =>
  lp (fun nx22 (v22 : Int) (μ22 : Mem) =>
  jn (fun (v47 : Int) (μ47 : Mem) =>
  (inv μ47 12 a (mX11_isAgain n a μ47)).bind fun p48 =>
  if eq32 v47 100 then
    some ((-1), p48.2)
  else
  some (v47, p48.2)) (fun j47 =>
  if lt32 v22 100 then
    (inv μ22 12 a (mX11_resting n a μ22)).bind fun p29 =>
    if eq32 p29.1 ((oShl 1 x17) - 1) then
      j47 v22 p29.2
    else
    (inv p29.2 12 a (mX11_goes n a p29.2)).bind fun p37 =>
    nx22 (v22 + 1) p37.2
  else
  j47 v22 μ22)) n 0 p6.2
set_option maxRecDepth 100000 in
set_option maxHeartbeats 4000000 in
theorem cX11_calm_ok (n : Nat) (a : Nat) (μ : Mem) : Mc yX11_calm cX11_calm 3 (some .int) 3 72 eI [aA a] μ (mX11_calm n a μ) := by
  refine mc_of (L0 := [some (aA a), none, none]) (k := 2) (by decide) rfl rfl (fun X Γ => ?_)
  unfold mX11_calm
  refine sn_aload_n dX11_calm_0 rfl ?_
  refine sn_iconst dX11_calm_1 ?_
  refine sn_putI (ci := 11) (j := 0) dX11_calm_2 fl_X11_1 rfl (fun q h => by cases h; rfl) (fun μ2 => ?_)
  refine sn_aload_n dX11_calm_5 rfl ?_
  refine sn_callVV (vs := []) (ci := 11) (cX11_keeps_ok n a μ2) dX11_calm_6 cw_X11_230 rfl rfl rfl (by decide) (by decide) (Nat.le_of_ble_eq_true rfl) (fun p6 => ?_)
  refine sn_iconst dX11_calm_9 ?_
  refine sn_istore_n (L' := [some (aA a), some (aI 0), none]) dX11_calm_10 (by decide) rfl ?_
  refine sn_iconst dX11_calm_11 ?_
  refine sn_aload_n dX11_calm_12 rfl ?_
  refine sn_getA (ci := 11) (j := 1) dX11_calm_13 fl_X11_13 (by decide) (fun x13 => ?_)
  refine sn_iconst dX11_calm_16 ?_
  refine sn_iald dX11_calm_17 (fun x17 => ?_)
  refine sn_ishl dX11_calm_18 ?_
  refine sn_iconst dX11_calm_19 ?_
  refine sn_isub dX11_calm_20 ?_
  refine sn_istore_n (L' := [some (aA a), some (aI 0), some (aI ((oShl 1 x17) - 1))]) dX11_calm_21 (by decide) rfl ?_
  refine sn_lp (La := fun v22 : Int => [some (aA a), some (aI v22), some (aI ((oShl 1 x17) - 1))]) ?_ n 0 p6.2
  intro nx22 hnx22 v22 μ22
  refine sn_iload_n dX11_calm_22 rfl ?_
  refine sn_bipush dX11_calm_23 (by decide) ?_
  refine sn_jn (pcj := 47) (La := fun v47 : Int => [some (aA a), some (aI v47), none]) (Sa := fun v47 : Int => []) ?_ ?_
  · intro v47 μ47
    refine sn_aload_n dX11_calm_47 rfl ?_
    refine sn_callVV (vs := []) (ci := 11) (cX11_isAgain_ok n a μ47) dX11_calm_48 cw_X11_236 rfl rfl rfl (by decide) (by decide) (Nat.le_of_ble_eq_true rfl) (fun p48 => ?_)
    refine sn_iload_n dX11_calm_51 rfl ?_
    refine sn_bipush dX11_calm_52 (by decide) ?_
    refine sn_icmp_ne (tgt := 61) dX11_calm_54 (by decide) ?_ ?_
    · refine sn_iload_n dX11_calm_61 rfl ?_
      exact sn_iret dX11_calm_62
    · refine sn_iconst dX11_calm_57 ?_
      refine sn_goto (tgt := 62) dX11_calm_58 (by decide) ?_
      exact sn_iret dX11_calm_62
  intro j47 hj47
  refine sn_icmp_ge (tgt := 47) dX11_calm_25 (by decide) ?_ ?_
  · exact sn_mask (L' := [some (aA a), some (aI v22), none]) [true, true, false] rfl (hj47 v22 μ22)
  · refine sn_aload_n dX11_calm_28 rfl ?_
    refine sn_callVI (vs := []) (ci := 11) (cX11_resting_ok n a μ22) dX11_calm_29 cw_X11_266 rfl rfl rfl (by decide) (by decide) (Nat.le_of_ble_eq_true rfl) (fun p29 => ?_)
    refine sn_iload_n dX11_calm_32 rfl ?_
    refine sn_icmp_eq (tgt := 47) dX11_calm_33 (by decide) ?_ ?_
    · exact sn_mask (L' := [some (aA a), some (aI v22), none]) [true, true, false] rfl (hj47 v22 p29.2)
    · refine sn_aload_n dX11_calm_36 rfl ?_
      refine sn_callVI (vs := []) (ci := 11) (cX11_goes_ok n a p29.2) dX11_calm_37 cw_X11_203 rfl rfl rfl (by decide) (by decide) (Nat.le_of_ble_eq_true rfl) (fun p37 => ?_)
      refine sn_pop dX11_calm_40 rfl ?_
      refine sn_iinc (L' := [some (aA a), some (aI (v22 + 1)), some (aI ((oShl 1 x17) - 1))]) dX11_calm_41 rfl (by decide) rfl ?_
      refine sn_goto (tgt := 22) dX11_calm_44 (by decide) ?_
      exact hnx22 (v22 + 1) p37.2
theorem dX11_state_0 : decode cX11_state 0 = .ok (.lconst 0, 1) := by decide +kernel
theorem dX11_state_1 : decode cX11_state 1 = .ok (.lstore_n 3, 1) := by decide +kernel
theorem dX11_state_2 : decode cX11_state 2 = .ok (.iconst 0, 1) := by decide +kernel
theorem dX11_state_3 : decode cX11_state 3 = .ok (.istore 5, 2) := by decide +kernel
theorem dX11_state_5 : decode cX11_state 5 = .ok (.iload 5, 2) := by decide +kernel
theorem dX11_state_7 : decode cX11_state 7 = .ok (.aload_n 0, 1) := by decide +kernel
theorem dX11_state_8 : decode cX11_state 8 = .ok (.getfield 282, 3) := by decide +kernel
theorem dX11_state_11 : decode cX11_state 11 = .ok (.if_icmp .ge 72, 3) := by decide +kernel
theorem dX11_state_14 : decode cX11_state 14 = .ok (.ldc2_w 285, 3) := by decide +kernel
theorem dX11_state_17 : decode cX11_state 17 = .ok (.lload_n 3, 1) := by decide +kernel
theorem dX11_state_18 : decode cX11_state 18 = .ok (.lmul, 1) := by decide +kernel
theorem dX11_state_19 : decode cX11_state 19 = .ok (.iconst 4, 1) := by decide +kernel
theorem dX11_state_20 : decode cX11_state 20 = .ok (.aload_n 0, 1) := by decide +kernel
theorem dX11_state_21 : decode cX11_state 21 = .ok (.getfield 13, 3) := by decide +kernel
theorem dX11_state_24 : decode cX11_state 24 = .ok (.bipush 124, 2) := by decide +kernel
theorem dX11_state_26 : decode cX11_state 26 = .ok (.aload_n 0, 1) := by decide +kernel
theorem dX11_state_27 : decode cX11_state 27 = .ok (.getfield 46, 3) := by decide +kernel
theorem dX11_state_30 : decode cX11_state 30 = .ok (.iload 5, 2) := by decide +kernel
theorem dX11_state_32 : decode cX11_state 32 = .ok (.iaload, 1) := by decide +kernel
theorem dX11_state_33 : decode cX11_state 33 = .ok (.iadd, 1) := by decide +kernel
theorem dX11_state_34 : decode cX11_state 34 = .ok (.iaload, 1) := by decide +kernel
theorem dX11_state_35 : decode cX11_state 35 = .ok (.imul, 1) := by decide +kernel
theorem dX11_state_36 : decode cX11_state 36 = .ok (.i2l, 1) := by decide +kernel
theorem dX11_state_37 : decode cX11_state 37 = .ok (.ladd, 1) := by decide +kernel
theorem dX11_state_38 : decode cX11_state 38 = .ok (.iconst 2, 1) := by decide +kernel
theorem dX11_state_39 : decode cX11_state 39 = .ok (.aload_n 0, 1) := by decide +kernel
theorem dX11_state_40 : decode cX11_state 40 = .ok (.getfield 13, 3) := by decide +kernel
theorem dX11_state_43 : decode cX11_state 43 = .ok (.sipush 172, 3) := by decide +kernel
theorem dX11_state_46 : decode cX11_state 46 = .ok (.aload_n 0, 1) := by decide +kernel
theorem dX11_state_47 : decode cX11_state 47 = .ok (.getfield 46, 3) := by decide +kernel
theorem dX11_state_50 : decode cX11_state 50 = .ok (.iload 5, 2) := by decide +kernel
theorem dX11_state_52 : decode cX11_state 52 = .ok (.iaload, 1) := by decide +kernel
theorem dX11_state_53 : decode cX11_state 53 = .ok (.iadd, 1) := by decide +kernel
theorem dX11_state_54 : decode cX11_state 54 = .ok (.iaload, 1) := by decide +kernel
theorem dX11_state_55 : decode cX11_state 55 = .ok (.imul, 1) := by decide +kernel
theorem dX11_state_56 : decode cX11_state 56 = .ok (.i2l, 1) := by decide +kernel
theorem dX11_state_57 : decode cX11_state 57 = .ok (.ladd, 1) := by decide +kernel
theorem dX11_state_58 : decode cX11_state 58 = .ok (.aload_n 0, 1) := by decide +kernel
theorem dX11_state_59 : decode cX11_state 59 = .ok (.getfield 13, 3) := by decide +kernel
theorem dX11_state_62 : decode cX11_state 62 = .ok (.sipush 188, 3) := by decide +kernel
theorem dX11_state_65 : decode cX11_state 65 = .ok (.aload_n 0, 1) := by decide +kernel
theorem dX11_state_66 : decode cX11_state 66 = .ok (.getfield 46, 3) := by decide +kernel
theorem dX11_state_69 : decode cX11_state 69 = .ok (.iload 5, 2) := by decide +kernel
theorem dX11_state_71 : decode cX11_state 71 = .ok (.iaload, 1) := by decide +kernel
theorem dX11_state_72 : decode cX11_state 72 = .ok (.iadd, 1) := by decide +kernel
theorem dX11_state_73 : decode cX11_state 73 = .ok (.iaload, 1) := by decide +kernel
theorem dX11_state_74 : decode cX11_state 74 = .ok (.i2l, 1) := by decide +kernel
theorem dX11_state_75 : decode cX11_state 75 = .ok (.ladd, 1) := by decide +kernel
theorem dX11_state_76 : decode cX11_state 76 = .ok (.lstore_n 3, 1) := by decide +kernel
theorem dX11_state_77 : decode cX11_state 77 = .ok (.iinc 5 1, 3) := by decide +kernel
theorem dX11_state_80 : decode cX11_state 80 = .ok (.goto (-75), 3) := by decide +kernel
theorem dX11_state_83 : decode cX11_state 83 = .ok (.iconst 0, 1) := by decide +kernel
theorem dX11_state_84 : decode cX11_state 84 = .ok (.istore 5, 2) := by decide +kernel
theorem dX11_state_86 : decode cX11_state 86 = .ok (.iload 5, 2) := by decide +kernel
theorem dX11_state_88 : decode cX11_state 88 = .ok (.aload_n 0, 1) := by decide +kernel
theorem dX11_state_89 : decode cX11_state 89 = .ok (.getfield 13, 3) := by decide +kernel
theorem dX11_state_92 : decode cX11_state 92 = .ok (.iconst 0, 1) := by decide +kernel
theorem dX11_state_93 : decode cX11_state 93 = .ok (.iaload, 1) := by decide +kernel
theorem dX11_state_94 : decode cX11_state 94 = .ok (.if_icmp .ge 27, 3) := by decide +kernel
theorem dX11_state_97 : decode cX11_state 97 = .ok (.ldc2_w 287, 3) := by decide +kernel
theorem dX11_state_100 : decode cX11_state 100 = .ok (.lload_n 3, 1) := by decide +kernel
theorem dX11_state_101 : decode cX11_state 101 = .ok (.lmul, 1) := by decide +kernel
theorem dX11_state_102 : decode cX11_state 102 = .ok (.aload_n 0, 1) := by decide +kernel
theorem dX11_state_103 : decode cX11_state 103 = .ok (.getfield 13, 3) := by decide +kernel
theorem dX11_state_106 : decode cX11_state 106 = .ok (.bipush 26, 2) := by decide +kernel
theorem dX11_state_108 : decode cX11_state 108 = .ok (.iload 5, 2) := by decide +kernel
theorem dX11_state_110 : decode cX11_state 110 = .ok (.iadd, 1) := by decide +kernel
theorem dX11_state_111 : decode cX11_state 111 = .ok (.iaload, 1) := by decide +kernel
theorem dX11_state_112 : decode cX11_state 112 = .ok (.i2l, 1) := by decide +kernel
theorem dX11_state_113 : decode cX11_state 113 = .ok (.ladd, 1) := by decide +kernel
theorem dX11_state_114 : decode cX11_state 114 = .ok (.lstore_n 3, 1) := by decide +kernel
theorem dX11_state_115 : decode cX11_state 115 = .ok (.iinc 5 1, 3) := by decide +kernel
theorem dX11_state_118 : decode cX11_state 118 = .ok (.goto (-32), 3) := by decide +kernel
theorem dX11_state_121 : decode cX11_state 121 = .ok (.ldc2_w 228, 3) := by decide +kernel
theorem dX11_state_124 : decode cX11_state 124 = .ok (.lload_n 3, 1) := by decide +kernel
theorem dX11_state_125 : decode cX11_state 125 = .ok (.lmul, 1) := by decide +kernel
theorem dX11_state_126 : decode cX11_state 126 = .ok (.aload_n 0, 1) := by decide +kernel
theorem dX11_state_127 : decode cX11_state 127 = .ok (.getfield 13, 3) := by decide +kernel
theorem dX11_state_130 : decode cX11_state 130 = .ok (.bipush 46, 2) := by decide +kernel
theorem dX11_state_132 : decode cX11_state 132 = .ok (.iload_n 1, 1) := by decide +kernel
theorem dX11_state_133 : decode cX11_state 133 = .ok (.iadd, 1) := by decide +kernel
theorem dX11_state_134 : decode cX11_state 134 = .ok (.iaload, 1) := by decide +kernel
theorem dX11_state_135 : decode cX11_state 135 = .ok (.i2l, 1) := by decide +kernel
theorem dX11_state_136 : decode cX11_state 136 = .ok (.ladd, 1) := by decide +kernel
theorem dX11_state_137 : decode cX11_state 137 = .ok (.iload_n 2, 1) := by decide +kernel
theorem dX11_state_138 : decode cX11_state 138 = .ok (.i2l, 1) := by decide +kernel
theorem dX11_state_139 : decode cX11_state 139 = .ok (.lsub, 1) := by decide +kernel
theorem dX11_state_140 : decode cX11_state 140 = .ok (.lreturn, 1) := by decide +kernel
def mX11_state (n : Nat) (a : Nat) (b1 : Int) (b2 : Int) (μ : Mem) : Option (Int × Mem) :=
  lp (fun nx5 (v5 : Int × Int) (μ5 : Mem) =>
  (gI μ5 12 a 27).bind fun x8 =>
  if lt32 v5.2 x8 then
    (gA μ5 12 a 1).bind fun x21 =>
    (gA μ5 12 a 25).bind fun x27 =>
    (ldI μ5 0 x27 v5.2).bind fun x32 =>
    (ldI μ5 0 x21 (124 + x32)).bind fun x34 =>
    (gA μ5 12 a 1).bind fun x40 =>
    (gA μ5 12 a 25).bind fun x47 =>
    (ldI μ5 0 x47 v5.2).bind fun x52 =>
    (ldI μ5 0 x40 (172 + x52)).bind fun x54 =>
    (gA μ5 12 a 1).bind fun x59 =>
    (gA μ5 12 a 25).bind fun x66 =>
    (ldI μ5 0 x66 v5.2).bind fun x71 =>
    (ldI μ5 0 x59 (188 + x71)).bind fun x73 =>
    nx5 (((((64 * v5.1) + (oI2l (4 * x34))) + (oI2l (2 * x54))) + (oI2l x73)), (v5.2 + 1)) μ5
  else
  lp (fun nx86 (v86 : Int × Int) (μ86 : Mem) =>
  (gA μ86 12 a 1).bind fun x89 =>
  (ldI μ86 0 x89 0).bind fun x93 =>
  if lt32 v86.2 x93 then
    (gA μ86 12 a 1).bind fun x103 =>
    (ldI μ86 0 x103 (26 + v86.2)).bind fun x111 =>
    nx86 (((128 * v86.1) + (oI2l x111)), (v86.2 + 1)) μ86
  else
  (gA μ86 12 a 1).bind fun x127 =>
  (ldI μ86 0 x127 (46 + b1)).bind fun x134 =>
  some ((((4 * v86.1) + (oI2l x134)) - (oI2l b2)), μ86)) n (v5.1, 0) μ5) n (0, 0) μ
set_option maxRecDepth 100000 in
set_option maxHeartbeats 4000000 in
theorem cX11_state_ok (n : Nat) (a : Nat) (b1 : Int) (b2 : Int) (μ : Mem) : Mc yX11_state cX11_state 6 (some .long) 0 0 eJ [aA a, aI b1, aI b2] μ (mX11_state n a b1 b2 μ) := by
  refine mc_of (L0 := [some (aA a), some (aI b1), some (aI b2), none, none, none]) (k := 3) (by decide) rfl rfl (fun X Γ => ?_)
  unfold mX11_state
  refine sn_lconst (v := 0) dX11_state_0 (by decide) ?_
  refine sn_lstore_n (L' := [some (aA a), some (aI b1), some (aI b2), some (aJ 0), none, none]) dX11_state_1 (by decide) rfl ?_
  refine sn_iconst dX11_state_2 ?_
  refine sn_istore (L' := [some (aA a), some (aI b1), some (aI b2), some (aJ 0), none, some (aI 0)]) dX11_state_3 (by decide) rfl ?_
  refine sn_lp (La := fun v5 : Int × Int => [some (aA a), some (aI b1), some (aI b2), some (aJ v5.1), none, some (aI v5.2)]) ?_ n (0, 0) μ
  intro nx5 hnx5 v5 μ5
  refine sn_iload dX11_state_5 rfl ?_
  refine sn_aload_n dX11_state_7 rfl ?_
  refine sn_getI (ci := 11) (j := 27) dX11_state_8 fl_X11_282 rfl (fun x8 => ?_)
  refine sn_icmp_ge (tgt := 83) dX11_state_11 (by decide) ?_ ?_
  · refine sn_iconst dX11_state_83 ?_
    refine sn_istore (L' := [some (aA a), some (aI b1), some (aI b2), some (aJ v5.1), none, some (aI 0)]) dX11_state_84 (by decide) rfl ?_
    refine sn_lp (La := fun v86 : Int × Int => [some (aA a), some (aI b1), some (aI b2), some (aJ v86.1), none, some (aI v86.2)]) ?_ n (v5.1, 0) μ5
    intro nx86 hnx86 v86 μ86
    refine sn_iload dX11_state_86 rfl ?_
    refine sn_aload_n dX11_state_88 rfl ?_
    refine sn_getA (ci := 11) (j := 1) dX11_state_89 fl_X11_13 (by decide) (fun x89 => ?_)
    refine sn_iconst dX11_state_92 ?_
    refine sn_iald dX11_state_93 (fun x93 => ?_)
    refine sn_icmp_ge (tgt := 121) dX11_state_94 (by decide) ?_ ?_
    · refine sn_ldc2 (v := 4) dX11_state_121 k_X11_228 (by decide) ?_
      refine sn_lload_n dX11_state_124 rfl ?_
      refine sn_lmul dX11_state_125 ?_
      refine sn_aload_n dX11_state_126 rfl ?_
      refine sn_getA (ci := 11) (j := 1) dX11_state_127 fl_X11_13 (by decide) (fun x127 => ?_)
      refine sn_bipush dX11_state_130 (by decide) ?_
      refine sn_iload_n dX11_state_132 rfl ?_
      refine sn_iadd dX11_state_133 ?_
      refine sn_iald dX11_state_134 (fun x134 => ?_)
      refine sn_i2l dX11_state_135 ?_
      refine sn_ladd dX11_state_136 ?_
      refine sn_iload_n dX11_state_137 rfl ?_
      refine sn_i2l dX11_state_138 ?_
      refine sn_lsub dX11_state_139 ?_
      exact sn_lret dX11_state_140
    · refine sn_ldc2 (v := 128) dX11_state_97 k_X11_287 (by decide) ?_
      refine sn_lload_n dX11_state_100 rfl ?_
      refine sn_lmul dX11_state_101 ?_
      refine sn_aload_n dX11_state_102 rfl ?_
      refine sn_getA (ci := 11) (j := 1) dX11_state_103 fl_X11_13 (by decide) (fun x103 => ?_)
      refine sn_bipush dX11_state_106 (by decide) ?_
      refine sn_iload dX11_state_108 rfl ?_
      refine sn_iadd dX11_state_110 ?_
      refine sn_iald dX11_state_111 (fun x111 => ?_)
      refine sn_i2l dX11_state_112 ?_
      refine sn_ladd dX11_state_113 ?_
      refine sn_lstore_n (L' := [some (aA a), some (aI b1), some (aI b2), some (aJ ((128 * v86.1) + (oI2l x111))), none, some (aI v86.2)]) dX11_state_114 (by decide) rfl ?_
      refine sn_iinc (L' := [some (aA a), some (aI b1), some (aI b2), some (aJ ((128 * v86.1) + (oI2l x111))), none, some (aI (v86.2 + 1))]) dX11_state_115 rfl (by decide) rfl ?_
      refine sn_goto (tgt := 86) dX11_state_118 (by decide) ?_
      exact hnx86 (((128 * v86.1) + (oI2l x111)), (v86.2 + 1)) μ86
  · refine sn_ldc2 (v := 64) dX11_state_14 k_X11_285 (by decide) ?_
    refine sn_lload_n dX11_state_17 rfl ?_
    refine sn_lmul dX11_state_18 ?_
    refine sn_iconst dX11_state_19 ?_
    refine sn_aload_n dX11_state_20 rfl ?_
    refine sn_getA (ci := 11) (j := 1) dX11_state_21 fl_X11_13 (by decide) (fun x21 => ?_)
    refine sn_bipush dX11_state_24 (by decide) ?_
    refine sn_aload_n dX11_state_26 rfl ?_
    refine sn_getA (ci := 11) (j := 25) dX11_state_27 fl_X11_46 (by decide) (fun x27 => ?_)
    refine sn_iload dX11_state_30 rfl ?_
    refine sn_iald dX11_state_32 (fun x32 => ?_)
    refine sn_iadd dX11_state_33 ?_
    refine sn_iald dX11_state_34 (fun x34 => ?_)
    refine sn_imul dX11_state_35 ?_
    refine sn_i2l dX11_state_36 ?_
    refine sn_ladd dX11_state_37 ?_
    refine sn_iconst dX11_state_38 ?_
    refine sn_aload_n dX11_state_39 rfl ?_
    refine sn_getA (ci := 11) (j := 1) dX11_state_40 fl_X11_13 (by decide) (fun x40 => ?_)
    refine sn_sipush dX11_state_43 (by decide) ?_
    refine sn_aload_n dX11_state_46 rfl ?_
    refine sn_getA (ci := 11) (j := 25) dX11_state_47 fl_X11_46 (by decide) (fun x47 => ?_)
    refine sn_iload dX11_state_50 rfl ?_
    refine sn_iald dX11_state_52 (fun x52 => ?_)
    refine sn_iadd dX11_state_53 ?_
    refine sn_iald dX11_state_54 (fun x54 => ?_)
    refine sn_imul dX11_state_55 ?_
    refine sn_i2l dX11_state_56 ?_
    refine sn_ladd dX11_state_57 ?_
    refine sn_aload_n dX11_state_58 rfl ?_
    refine sn_getA (ci := 11) (j := 1) dX11_state_59 fl_X11_13 (by decide) (fun x59 => ?_)
    refine sn_sipush dX11_state_62 (by decide) ?_
    refine sn_aload_n dX11_state_65 rfl ?_
    refine sn_getA (ci := 11) (j := 25) dX11_state_66 fl_X11_46 (by decide) (fun x66 => ?_)
    refine sn_iload dX11_state_69 rfl ?_
    refine sn_iald dX11_state_71 (fun x71 => ?_)
    refine sn_iadd dX11_state_72 ?_
    refine sn_iald dX11_state_73 (fun x73 => ?_)
    refine sn_i2l dX11_state_74 ?_
    refine sn_ladd dX11_state_75 ?_
    refine sn_lstore_n (L' := [some (aA a), some (aI b1), some (aI b2), some (aJ ((((64 * v5.1) + (oI2l (4 * x34))) + (oI2l (2 * x54))) + (oI2l x73))), none, some (aI v5.2)]) dX11_state_76 (by decide) rfl ?_
    refine sn_iinc (L' := [some (aA a), some (aI b1), some (aI b2), some (aJ ((((64 * v5.1) + (oI2l (4 * x34))) + (oI2l (2 * x54))) + (oI2l x73))), none, some (aI (v5.2 + 1))]) dX11_state_77 rfl (by decide) rfl ?_
    refine sn_goto (tgt := 5) dX11_state_80 (by decide) ?_
    exact hnx5 (((((64 * v5.1) + (oI2l (4 * x34))) + (oI2l (2 * x54))) + (oI2l x73)), (v5.2 + 1)) μ5
theorem dX11_meetsFor_0 : decode cX11_meetsFor 0 = .ok (.lload_n 1, 1) := by decide +kernel
theorem dX11_meetsFor_1 : decode cX11_meetsFor 1 = .ok (.ldc2_w 291, 3) := by decide +kernel
theorem dX11_meetsFor_4 : decode cX11_meetsFor 4 = .ok (.lrem, 1) := by decide +kernel
theorem dX11_meetsFor_5 : decode cX11_meetsFor 5 = .ok (.l2i, 1) := by decide +kernel
theorem dX11_meetsFor_6 : decode cX11_meetsFor 6 = .ok (.istore 4, 2) := by decide +kernel
theorem dX11_meetsFor_8 : decode cX11_meetsFor 8 = .ok (.aload_n 0, 1) := by decide +kernel
theorem dX11_meetsFor_9 : decode cX11_meetsFor 9 = .ok (.getfield 43, 3) := by decide +kernel
theorem dX11_meetsFor_12 : decode cX11_meetsFor 12 = .ok (.iload 4, 2) := by decide +kernel
theorem dX11_meetsFor_14 : decode cX11_meetsFor 14 = .ok (.iaload, 1) := by decide +kernel
theorem dX11_meetsFor_15 : decode cX11_meetsFor 15 = .ok (.ifCond .le 69, 3) := by decide +kernel
theorem dX11_meetsFor_18 : decode cX11_meetsFor 18 = .ok (.aload_n 0, 1) := by decide +kernel
theorem dX11_meetsFor_19 : decode cX11_meetsFor 19 = .ok (.getfield 43, 3) := by decide +kernel
theorem dX11_meetsFor_22 : decode cX11_meetsFor 22 = .ok (.iload 4, 2) := by decide +kernel
theorem dX11_meetsFor_24 : decode cX11_meetsFor 24 = .ok (.iaload, 1) := by decide +kernel
theorem dX11_meetsFor_25 : decode cX11_meetsFor 25 = .ok (.iconst 1, 1) := by decide +kernel
theorem dX11_meetsFor_26 : decode cX11_meetsFor 26 = .ok (.isub, 1) := by decide +kernel
theorem dX11_meetsFor_27 : decode cX11_meetsFor 27 = .ok (.istore 5, 2) := by decide +kernel
theorem dX11_meetsFor_29 : decode cX11_meetsFor 29 = .ok (.aload_n 0, 1) := by decide +kernel
theorem dX11_meetsFor_30 : decode cX11_meetsFor 30 = .ok (.getfield 39, 3) := by decide +kernel
theorem dX11_meetsFor_33 : decode cX11_meetsFor 33 = .ok (.iload 5, 2) := by decide +kernel
theorem dX11_meetsFor_35 : decode cX11_meetsFor 35 = .ok (.laload, 1) := by decide +kernel
theorem dX11_meetsFor_36 : decode cX11_meetsFor 36 = .ok (.lload_n 1, 1) := by decide +kernel
theorem dX11_meetsFor_37 : decode cX11_meetsFor 37 = .ok (.lcmp, 1) := by decide +kernel
theorem dX11_meetsFor_38 : decode cX11_meetsFor 38 = .ok (.ifCond .ne 33, 3) := by decide +kernel
theorem dX11_meetsFor_41 : decode cX11_meetsFor 41 = .ok (.aload_n 0, 1) := by decide +kernel
theorem dX11_meetsFor_42 : decode cX11_meetsFor 42 = .ok (.getfield 55, 3) := by decide +kernel
theorem dX11_meetsFor_45 : decode cX11_meetsFor 45 = .ok (.iload 5, 2) := by decide +kernel
theorem dX11_meetsFor_47 : decode cX11_meetsFor 47 = .ok (.iload_n 3, 1) := by decide +kernel
theorem dX11_meetsFor_48 : decode cX11_meetsFor 48 = .ok (.aload_n 0, 1) := by decide +kernel
theorem dX11_meetsFor_49 : decode cX11_meetsFor 49 = .ok (.getfield 55, 3) := by decide +kernel
theorem dX11_meetsFor_52 : decode cX11_meetsFor 52 = .ok (.iload 5, 2) := by decide +kernel
theorem dX11_meetsFor_54 : decode cX11_meetsFor 54 = .ok (.iaload, 1) := by decide +kernel
theorem dX11_meetsFor_55 : decode cX11_meetsFor 55 = .ok (.if_icmp .ge 7, 3) := by decide +kernel
theorem dX11_meetsFor_58 : decode cX11_meetsFor 58 = .ok (.iload_n 3, 1) := by decide +kernel
theorem dX11_meetsFor_59 : decode cX11_meetsFor 59 = .ok (.goto 10, 3) := by decide +kernel
theorem dX11_meetsFor_62 : decode cX11_meetsFor 62 = .ok (.aload_n 0, 1) := by decide +kernel
theorem dX11_meetsFor_63 : decode cX11_meetsFor 63 = .ok (.getfield 55, 3) := by decide +kernel
theorem dX11_meetsFor_66 : decode cX11_meetsFor 66 = .ok (.iload 5, 2) := by decide +kernel
theorem dX11_meetsFor_68 : decode cX11_meetsFor 68 = .ok (.iaload, 1) := by decide +kernel
theorem dX11_meetsFor_69 : decode cX11_meetsFor 69 = .ok (.iastore, 1) := by decide +kernel
theorem dX11_meetsFor_70 : decode cX11_meetsFor 70 = .ok (.return_, 1) := by decide +kernel
theorem dX11_meetsFor_71 : decode cX11_meetsFor 71 = .ok (.iload 4, 2) := by decide +kernel
theorem dX11_meetsFor_73 : decode cX11_meetsFor 73 = .ok (.iconst 1, 1) := by decide +kernel
theorem dX11_meetsFor_74 : decode cX11_meetsFor 74 = .ok (.iadd, 1) := by decide +kernel
theorem dX11_meetsFor_75 : decode cX11_meetsFor 75 = .ok (.sipush 8192, 3) := by decide +kernel
theorem dX11_meetsFor_78 : decode cX11_meetsFor 78 = .ok (.irem, 1) := by decide +kernel
theorem dX11_meetsFor_79 : decode cX11_meetsFor 79 = .ok (.istore 4, 2) := by decide +kernel
theorem dX11_meetsFor_81 : decode cX11_meetsFor 81 = .ok (.goto (-73), 3) := by decide +kernel
theorem dX11_meetsFor_84 : decode cX11_meetsFor 84 = .ok (.aload_n 0, 1) := by decide +kernel
theorem dX11_meetsFor_85 : decode cX11_meetsFor 85 = .ok (.getfield 293, 3) := by decide +kernel
theorem dX11_meetsFor_88 : decode cX11_meetsFor 88 = .ok (.sipush 3001, 3) := by decide +kernel
theorem dX11_meetsFor_91 : decode cX11_meetsFor 91 = .ok (.if_icmp .ne 4, 3) := by decide +kernel
theorem dX11_meetsFor_94 : decode cX11_meetsFor 94 = .ok (.return_, 1) := by decide +kernel
theorem dX11_meetsFor_95 : decode cX11_meetsFor 95 = .ok (.aload_n 0, 1) := by decide +kernel
theorem dX11_meetsFor_96 : decode cX11_meetsFor 96 = .ok (.getfield 39, 3) := by decide +kernel
theorem dX11_meetsFor_99 : decode cX11_meetsFor 99 = .ok (.aload_n 0, 1) := by decide +kernel
theorem dX11_meetsFor_100 : decode cX11_meetsFor 100 = .ok (.getfield 293, 3) := by decide +kernel
theorem dX11_meetsFor_103 : decode cX11_meetsFor 103 = .ok (.lload_n 1, 1) := by decide +kernel
theorem dX11_meetsFor_104 : decode cX11_meetsFor 104 = .ok (.lastore, 1) := by decide +kernel
theorem dX11_meetsFor_105 : decode cX11_meetsFor 105 = .ok (.aload_n 0, 1) := by decide +kernel
theorem dX11_meetsFor_106 : decode cX11_meetsFor 106 = .ok (.getfield 55, 3) := by decide +kernel
theorem dX11_meetsFor_109 : decode cX11_meetsFor 109 = .ok (.aload_n 0, 1) := by decide +kernel
theorem dX11_meetsFor_110 : decode cX11_meetsFor 110 = .ok (.getfield 293, 3) := by decide +kernel
theorem dX11_meetsFor_113 : decode cX11_meetsFor 113 = .ok (.iload_n 3, 1) := by decide +kernel
theorem dX11_meetsFor_114 : decode cX11_meetsFor 114 = .ok (.iastore, 1) := by decide +kernel
theorem dX11_meetsFor_115 : decode cX11_meetsFor 115 = .ok (.aload_n 0, 1) := by decide +kernel
theorem dX11_meetsFor_116 : decode cX11_meetsFor 116 = .ok (.dup, 1) := by decide +kernel
theorem dX11_meetsFor_117 : decode cX11_meetsFor 117 = .ok (.getfield 293, 3) := by decide +kernel
theorem dX11_meetsFor_120 : decode cX11_meetsFor 120 = .ok (.iconst 1, 1) := by decide +kernel
theorem dX11_meetsFor_121 : decode cX11_meetsFor 121 = .ok (.iadd, 1) := by decide +kernel
theorem dX11_meetsFor_122 : decode cX11_meetsFor 122 = .ok (.putfield 293, 3) := by decide +kernel
theorem dX11_meetsFor_125 : decode cX11_meetsFor 125 = .ok (.aload_n 0, 1) := by decide +kernel
theorem dX11_meetsFor_126 : decode cX11_meetsFor 126 = .ok (.getfield 43, 3) := by decide +kernel
theorem dX11_meetsFor_129 : decode cX11_meetsFor 129 = .ok (.iload 4, 2) := by decide +kernel
theorem dX11_meetsFor_131 : decode cX11_meetsFor 131 = .ok (.aload_n 0, 1) := by decide +kernel
theorem dX11_meetsFor_132 : decode cX11_meetsFor 132 = .ok (.getfield 293, 3) := by decide +kernel
theorem dX11_meetsFor_135 : decode cX11_meetsFor 135 = .ok (.iastore, 1) := by decide +kernel
theorem dX11_meetsFor_136 : decode cX11_meetsFor 136 = .ok (.return_, 1) := by decide +kernel
def mX11_meetsFor (n : Nat) (a : Nat) (b1 : Int) (b2 : Int) (μ : Mem) : Option (Unit × Mem) :=
  lp (fun nx8 (v8 : Int) (μ8 : Mem) =>
  (gA μ8 12 a 24).bind fun x9 =>
  (ldI μ8 0 x9 v8).bind fun x14 =>
  if lt32 0 x14 then
    (gA μ8 12 a 24).bind fun x19 =>
    (ldI μ8 0 x19 v8).bind fun x24 =>
    (gA μ8 12 a 23).bind fun x30 =>
    (ldI μ8 3 x30 (x24 - 1)).bind fun x35 =>
    if eq32 (oLcmp x35 b1) 0 then
      (gA μ8 12 a 30).bind fun x42 =>
      (gA μ8 12 a 30).bind fun x49 =>
      (ldI μ8 0 x49 (x24 - 1)).bind fun x54 =>
      jn (fun (v69 : Int) (μ69 : Mem) =>
      (stI μ69 0 x42 (x24 - 1) v69).bind fun μ69 =>
      some ((), μ69)) (fun j69 =>
      if lt32 b2 x54 then
        j69 b2 μ8
      else
      (gA μ8 12 a 30).bind fun x63 =>
      (ldI μ8 0 x63 (x24 - 1)).bind fun x68 =>
      j69 x68 μ8)
    else
    nx8 (oRem (v8 + 1) 8192) μ8
  else
  (gI μ8 12 a 26).bind fun x85 =>
  if eq32 x85 3001 then
    some ((), μ8)
  else
  (gA μ8 12 a 23).bind fun x96 =>
  (gI μ8 12 a 26).bind fun x100 =>
  (stI μ8 3 x96 x100 b1).bind fun μ104 =>
  (gA μ104 12 a 30).bind fun x106 =>
  (gI μ104 12 a 26).bind fun x110 =>
  (stI μ104 0 x106 x110 b2).bind fun μ114 =>
  (gI μ114 12 a 26).bind fun x117 =>
  (pI μ114 12 a 26 (x117 + 1)).bind fun μ122 =>
  (gA μ122 12 a 24).bind fun x126 =>
  (gI μ122 12 a 26).bind fun x132 =>
  (stI μ122 0 x126 v8 x132).bind fun μ135 =>
  some ((), μ135)) n (lRem b1 8191) μ
set_option maxRecDepth 100000 in
set_option maxHeartbeats 4000000 in
theorem cX11_meetsFor_ok (n : Nat) (a : Nat) (b1 : Int) (b2 : Int) (μ : Mem) : Mc yX11_meetsFor cX11_meetsFor 6 none 0 0 eV [aA a, aJ b1, aI b2] μ (mX11_meetsFor n a b1 b2 μ) := by
  refine mc_of (L0 := [some (aA a), some (aJ b1), none, some (aI b2), none, none]) (k := 2) (by decide) rfl rfl (fun X Γ => ?_)
  unfold mX11_meetsFor
  refine sn_lload_n dX11_meetsFor_0 rfl ?_
  refine sn_ldc2 (v := 8191) dX11_meetsFor_1 k_X11_291 (by decide) ?_
  refine sn_lremK dX11_meetsFor_4 (by decide) ?_
  refine sn_l2i dX11_meetsFor_5 ?_
  refine sn_istore (L' := [some (aA a), some (aJ b1), none, some (aI b2), some (aI (lRem b1 8191)), none]) dX11_meetsFor_6 (by decide) rfl ?_
  refine sn_lp (La := fun v8 : Int => [some (aA a), some (aJ b1), none, some (aI b2), some (aI v8), none]) ?_ n (lRem b1 8191) μ
  intro nx8 hnx8 v8 μ8
  refine sn_aload_n dX11_meetsFor_8 rfl ?_
  refine sn_getA (ci := 11) (j := 24) dX11_meetsFor_9 fl_X11_43 (by decide) (fun x9 => ?_)
  refine sn_iload dX11_meetsFor_12 rfl ?_
  refine sn_iald dX11_meetsFor_14 (fun x14 => ?_)
  refine sn_if_le (tgt := 84) dX11_meetsFor_15 (by decide) ?_ ?_
  · refine sn_aload_n dX11_meetsFor_84 rfl ?_
    refine sn_getI (ci := 11) (j := 26) dX11_meetsFor_85 fl_X11_293 rfl (fun x85 => ?_)
    refine sn_sipush dX11_meetsFor_88 (by decide) ?_
    refine sn_icmp_ne (tgt := 95) dX11_meetsFor_91 (by decide) ?_ ?_
    · refine sn_aload_n dX11_meetsFor_95 rfl ?_
      refine sn_getA (ci := 11) (j := 23) dX11_meetsFor_96 fl_X11_39 (by decide) (fun x96 => ?_)
      refine sn_aload_n dX11_meetsFor_99 rfl ?_
      refine sn_getI (ci := 11) (j := 26) dX11_meetsFor_100 fl_X11_293 rfl (fun x100 => ?_)
      refine sn_lload_n dX11_meetsFor_103 rfl ?_
      refine sn_last dX11_meetsFor_104 (fun μ104 => ?_)
      refine sn_aload_n dX11_meetsFor_105 rfl ?_
      refine sn_getA (ci := 11) (j := 30) dX11_meetsFor_106 fl_X11_55 (by decide) (fun x106 => ?_)
      refine sn_aload_n dX11_meetsFor_109 rfl ?_
      refine sn_getI (ci := 11) (j := 26) dX11_meetsFor_110 fl_X11_293 rfl (fun x110 => ?_)
      refine sn_iload_n dX11_meetsFor_113 rfl ?_
      refine sn_iast dX11_meetsFor_114 (fun μ114 => ?_)
      refine sn_aload_n dX11_meetsFor_115 rfl ?_
      refine sn_dup dX11_meetsFor_116 rfl ?_
      refine sn_getI (ci := 11) (j := 26) dX11_meetsFor_117 fl_X11_293 rfl (fun x117 => ?_)
      refine sn_iconst dX11_meetsFor_120 ?_
      refine sn_iadd dX11_meetsFor_121 ?_
      refine sn_putI (ci := 11) (j := 26) dX11_meetsFor_122 fl_X11_293 rfl (fun q h => by cases h; rfl) (fun μ122 => ?_)
      refine sn_aload_n dX11_meetsFor_125 rfl ?_
      refine sn_getA (ci := 11) (j := 24) dX11_meetsFor_126 fl_X11_43 (by decide) (fun x126 => ?_)
      refine sn_iload dX11_meetsFor_129 rfl ?_
      refine sn_aload_n dX11_meetsFor_131 rfl ?_
      refine sn_getI (ci := 11) (j := 26) dX11_meetsFor_132 fl_X11_293 rfl (fun x132 => ?_)
      refine sn_iast dX11_meetsFor_135 (fun μ135 => ?_)
      exact sn_vret dX11_meetsFor_136
    · exact sn_vret dX11_meetsFor_94
  · refine sn_aload_n dX11_meetsFor_18 rfl ?_
    refine sn_getA (ci := 11) (j := 24) dX11_meetsFor_19 fl_X11_43 (by decide) (fun x19 => ?_)
    refine sn_iload dX11_meetsFor_22 rfl ?_
    refine sn_iald dX11_meetsFor_24 (fun x24 => ?_)
    refine sn_iconst dX11_meetsFor_25 ?_
    refine sn_isub dX11_meetsFor_26 ?_
    refine sn_istore (L' := [some (aA a), some (aJ b1), none, some (aI b2), some (aI v8), some (aI (x24 - 1))]) dX11_meetsFor_27 (by decide) rfl ?_
    refine sn_aload_n dX11_meetsFor_29 rfl ?_
    refine sn_getA (ci := 11) (j := 23) dX11_meetsFor_30 fl_X11_39 (by decide) (fun x30 => ?_)
    refine sn_iload dX11_meetsFor_33 rfl ?_
    refine sn_lald dX11_meetsFor_35 (fun x35 => ?_)
    refine sn_lload_n dX11_meetsFor_36 rfl ?_
    refine sn_lcmp dX11_meetsFor_37 ?_
    refine sn_if_ne (tgt := 71) dX11_meetsFor_38 (by decide) ?_ ?_
    · refine sn_iload dX11_meetsFor_71 rfl ?_
      refine sn_iconst dX11_meetsFor_73 ?_
      refine sn_iadd dX11_meetsFor_74 ?_
      refine sn_sipush dX11_meetsFor_75 (by decide) ?_
      refine sn_iremK dX11_meetsFor_78 (by decide) ?_
      refine sn_istore (L' := [some (aA a), some (aJ b1), none, some (aI b2), some (aI (oRem (v8 + 1) 8192)), some (aI (x24 - 1))]) dX11_meetsFor_79 (by decide) rfl ?_
      refine sn_goto (tgt := 8) dX11_meetsFor_81 (by decide) ?_
      exact sn_mask (L' := [some (aA a), some (aJ b1), none, some (aI b2), some (aI (oRem (v8 + 1) 8192)), none]) [true, true, false, true, true, false] rfl (hnx8 (oRem (v8 + 1) 8192) μ8)
    · refine sn_aload_n dX11_meetsFor_41 rfl ?_
      refine sn_getA (ci := 11) (j := 30) dX11_meetsFor_42 fl_X11_55 (by decide) (fun x42 => ?_)
      refine sn_iload dX11_meetsFor_45 rfl ?_
      refine sn_iload_n dX11_meetsFor_47 rfl ?_
      refine sn_aload_n dX11_meetsFor_48 rfl ?_
      refine sn_getA (ci := 11) (j := 30) dX11_meetsFor_49 fl_X11_55 (by decide) (fun x49 => ?_)
      refine sn_iload dX11_meetsFor_52 rfl ?_
      refine sn_iald dX11_meetsFor_54 (fun x54 => ?_)
      refine sn_jn (pcj := 69) (La := fun v69 : Int => [none, none, none, none, none, none]) (Sa := fun v69 : Int => [aI v69, aI (x24 - 1), aA x42]) ?_ ?_
      · intro v69 μ69
        refine sn_iast dX11_meetsFor_69 (fun μ69 => ?_)
        exact sn_vret dX11_meetsFor_70
      intro j69 hj69
      refine sn_icmp_ge (tgt := 62) dX11_meetsFor_55 (by decide) ?_ ?_
      · refine sn_aload_n dX11_meetsFor_62 rfl ?_
        refine sn_getA (ci := 11) (j := 30) dX11_meetsFor_63 fl_X11_55 (by decide) (fun x63 => ?_)
        refine sn_iload dX11_meetsFor_66 rfl ?_
        refine sn_iald dX11_meetsFor_68 (fun x68 => ?_)
        exact sn_mask (L' := [none, none, none, none, none, none]) [false, false, false, false, false, false] rfl (hj69 x68 μ8)
      · refine sn_iload_n dX11_meetsFor_58 rfl ?_
        refine sn_goto (tgt := 69) dX11_meetsFor_59 (by decide) ?_
        exact sn_mask (L' := [none, none, none, none, none, none]) [false, false, false, false, false, false] rfl (hj69 b2 μ8)
