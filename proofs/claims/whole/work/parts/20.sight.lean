/-! layer 1: sight -/
theorem dX5_init_0 : decode cX5_init 0 = .ok (.aload_n 0, 1) := by decide +kernel
theorem dX5_init_1 : decode cX5_init 1 = .ok (.invokespecial 3, 3) := by decide +kernel
theorem dX5_init_4 : decode cX5_init 4 = .ok (.aload_n 0, 1) := by decide +kernel
theorem dX5_init_5 : decode cX5_init 5 = .ok (.bipush 64, 2) := by decide +kernel
theorem dX5_init_7 : decode cX5_init 7 = .ok (.newarray .boolean, 2) := by decide +kernel
theorem dX5_init_9 : decode cX5_init 9 = .ok (.putfield 9, 3) := by decide +kernel
theorem dX5_init_12 : decode cX5_init 12 = .ok (.aload_n 0, 1) := by decide +kernel
theorem dX5_init_13 : decode cX5_init 13 = .ok (.bipush 10, 2) := by decide +kernel
theorem dX5_init_15 : decode cX5_init 15 = .ok (.newarray .int, 2) := by decide +kernel
theorem dX5_init_17 : decode cX5_init 17 = .ok (.putfield 15, 3) := by decide +kernel
theorem dX5_init_20 : decode cX5_init 20 = .ok (.return_, 1) := by decide +kernel
def mX5_init (n : Nat) (a : Nat) (μ : Mem) : Option (Unit × Mem) :=
  inv μ 6 a
  ((nwA μ 2 64).bind fun p7 =>
  (pA p7.2 6 a 2 p7.1).bind fun μ9 =>
  (nwA μ9 0 10).bind fun p15 =>
  (pA p15.2 6 a 3 p15.1).bind fun μ17 =>
  some ((), μ17))
set_option maxRecDepth 100000 in
set_option maxHeartbeats 4000000 in
theorem cX5_init_ok (n : Nat) (a : Nat) (μ : Mem) : Mc yX5_init cX5_init 1 none 1 20 eV [aA a] μ (mX5_init n a μ) := by
  refine mc_of (L0 := [some (aA a)]) (k := 0) (by decide) rfl rfl (fun X Γ => ?_)
  unfold mX5_init
  refine sn_aload_n dX5_init_0 rfl ?_
  refine sn_objInit (ci := 5) dX5_init_1 (by decide) ml_X5_3 im_obj co_obj (by decide) (by decide) (Nat.le_of_ble_eq_true rfl) ?_
  refine sn_aload_n dX5_init_4 rfl ?_
  refine sn_bipush dX5_init_5 (by decide) ?_
  refine sn_newa (t := 2) dX5_init_7 (by decide) rfl ac_2 (fun p7 => ?_)
  refine sn_putA (ci := 5) (j := 2) dX5_init_9 fl_X5_9 (Or.inr ⟨_, rfl⟩) (Or.inr ⟨rfl, fun q h => by cases h; exact ⟨rfl, rfl⟩⟩) (fun μ9 => ?_)
  refine sn_aload_n dX5_init_12 rfl ?_
  refine sn_bipush dX5_init_13 (by decide) ?_
  refine sn_newa (t := 0) dX5_init_15 (by decide) rfl ac_0 (fun p15 => ?_)
  refine sn_putA (ci := 5) (j := 3) dX5_init_17 fl_X5_15 (Or.inr ⟨_, rfl⟩) (Or.inr ⟨rfl, fun q h => by cases h; exact ⟨rfl, rfl⟩⟩) (fun μ17 => ?_)
  exact sn_vret dX5_init_20
theorem dX5_compare_0 : decode cX5_compare 0 = .ok (.iconst 0, 1) := by decide +kernel
theorem dX5_compare_1 : decode cX5_compare 1 = .ok (.istore_n 3, 1) := by decide +kernel
theorem dX5_compare_2 : decode cX5_compare 2 = .ok (.iload_n 3, 1) := by decide +kernel
theorem dX5_compare_3 : decode cX5_compare 3 = .ok (.aload_n 1, 1) := by decide +kernel
theorem dX5_compare_4 : decode cX5_compare 4 = .ok (.getfield 45, 3) := by decide +kernel
theorem dX5_compare_7 : decode cX5_compare 7 = .ok (.if_icmp .ge 110, 3) := by decide +kernel
theorem dX5_compare_10 : decode cX5_compare 10 = .ok (.aload_n 1, 1) := by decide +kernel
theorem dX5_compare_11 : decode cX5_compare 11 = .ok (.getfield 48, 3) := by decide +kernel
theorem dX5_compare_14 : decode cX5_compare 14 = .ok (.iload_n 3, 1) := by decide +kernel
theorem dX5_compare_15 : decode cX5_compare 15 = .ok (.baload, 1) := by decide +kernel
theorem dX5_compare_16 : decode cX5_compare 16 = .ok (.ifCond .eq 21, 3) := by decide +kernel
theorem dX5_compare_19 : decode cX5_compare 19 = .ok (.aload_n 1, 1) := by decide +kernel
theorem dX5_compare_20 : decode cX5_compare 20 = .ok (.getfield 51, 3) := by decide +kernel
theorem dX5_compare_23 : decode cX5_compare 23 = .ok (.iload_n 3, 1) := by decide +kernel
theorem dX5_compare_24 : decode cX5_compare 24 = .ok (.iaload, 1) := by decide +kernel
theorem dX5_compare_25 : decode cX5_compare 25 = .ok (.i2l, 1) := by decide +kernel
theorem dX5_compare_26 : decode cX5_compare 26 = .ok (.aload_n 2, 1) := by decide +kernel
theorem dX5_compare_27 : decode cX5_compare 27 = .ok (.iload_n 3, 1) := by decide +kernel
theorem dX5_compare_28 : decode cX5_compare 28 = .ok (.invokevirtual 54, 3) := by decide +kernel
theorem dX5_compare_31 : decode cX5_compare 31 = .ok (.lcmp, 1) := by decide +kernel
theorem dX5_compare_32 : decode cX5_compare 32 = .ok (.ifCond .eq 5, 3) := by decide +kernel
theorem dX5_compare_35 : decode cX5_compare 35 = .ok (.iconst 0, 1) := by decide +kernel
theorem dX5_compare_36 : decode cX5_compare 36 = .ok (.ireturn, 1) := by decide +kernel
theorem dX5_compare_37 : decode cX5_compare 37 = .ok (.iconst 0, 1) := by decide +kernel
theorem dX5_compare_38 : decode cX5_compare 38 = .ok (.istore 4, 2) := by decide +kernel
theorem dX5_compare_40 : decode cX5_compare 40 = .ok (.iload 4, 2) := by decide +kernel
theorem dX5_compare_42 : decode cX5_compare 42 = .ok (.iconst 4, 1) := by decide +kernel
theorem dX5_compare_43 : decode cX5_compare 43 = .ok (.if_icmp .ge 68, 3) := by decide +kernel
theorem dX5_compare_46 : decode cX5_compare 46 = .ok (.aload_n 1, 1) := by decide +kernel
theorem dX5_compare_47 : decode cX5_compare 47 = .ok (.iload_n 3, 1) := by decide +kernel
theorem dX5_compare_48 : decode cX5_compare 48 = .ok (.iload 4, 2) := by decide +kernel
theorem dX5_compare_50 : decode cX5_compare 50 = .ok (.iconst 1, 1) := by decide +kernel
theorem dX5_compare_51 : decode cX5_compare 51 = .ok (.iand, 1) := by decide +kernel
theorem dX5_compare_52 : decode cX5_compare 52 = .ok (.ifCond .eq 7, 3) := by decide +kernel
theorem dX5_compare_55 : decode cX5_compare 55 = .ok (.iconst 1, 1) := by decide +kernel
theorem dX5_compare_56 : decode cX5_compare 56 = .ok (.goto 4, 3) := by decide +kernel
theorem dX5_compare_59 : decode cX5_compare 59 = .ok (.iconst 0, 1) := by decide +kernel
theorem dX5_compare_60 : decode cX5_compare 60 = .ok (.iload 4, 2) := by decide +kernel
theorem dX5_compare_62 : decode cX5_compare 62 = .ok (.iconst 2, 1) := by decide +kernel
theorem dX5_compare_63 : decode cX5_compare 63 = .ok (.iand, 1) := by decide +kernel
theorem dX5_compare_64 : decode cX5_compare 64 = .ok (.ifCond .eq 7, 3) := by decide +kernel
theorem dX5_compare_67 : decode cX5_compare 67 = .ok (.iconst 1, 1) := by decide +kernel
theorem dX5_compare_68 : decode cX5_compare 68 = .ok (.goto 4, 3) := by decide +kernel
theorem dX5_compare_71 : decode cX5_compare 71 = .ok (.iconst 0, 1) := by decide +kernel
theorem dX5_compare_72 : decode cX5_compare 72 = .ok (.invokevirtual 60, 3) := by decide +kernel
theorem dX5_compare_75 : decode cX5_compare 75 = .ok (.istore 5, 2) := by decide +kernel
theorem dX5_compare_77 : decode cX5_compare 77 = .ok (.aload_n 0, 1) := by decide +kernel
theorem dX5_compare_78 : decode cX5_compare 78 = .ok (.getfield 9, 3) := by decide +kernel
theorem dX5_compare_81 : decode cX5_compare 81 = .ok (.iconst 4, 1) := by decide +kernel
theorem dX5_compare_82 : decode cX5_compare 82 = .ok (.iload_n 3, 1) := by decide +kernel
theorem dX5_compare_83 : decode cX5_compare 83 = .ok (.imul, 1) := by decide +kernel
theorem dX5_compare_84 : decode cX5_compare 84 = .ok (.iload 4, 2) := by decide +kernel
theorem dX5_compare_86 : decode cX5_compare 86 = .ok (.iadd, 1) := by decide +kernel
theorem dX5_compare_87 : decode cX5_compare 87 = .ok (.iload 5, 2) := by decide +kernel
theorem dX5_compare_89 : decode cX5_compare 89 = .ok (.i2l, 1) := by decide +kernel
theorem dX5_compare_90 : decode cX5_compare 90 = .ok (.aload_n 2, 1) := by decide +kernel
theorem dX5_compare_91 : decode cX5_compare 91 = .ok (.iload_n 3, 1) := by decide +kernel
theorem dX5_compare_92 : decode cX5_compare 92 = .ok (.invokevirtual 54, 3) := by decide +kernel
theorem dX5_compare_95 : decode cX5_compare 95 = .ok (.lcmp, 1) := by decide +kernel
theorem dX5_compare_96 : decode cX5_compare 96 = .ok (.ifCond .ne 7, 3) := by decide +kernel
theorem dX5_compare_99 : decode cX5_compare 99 = .ok (.iconst 1, 1) := by decide +kernel
theorem dX5_compare_100 : decode cX5_compare 100 = .ok (.goto 4, 3) := by decide +kernel
theorem dX5_compare_103 : decode cX5_compare 103 = .ok (.iconst 0, 1) := by decide +kernel
theorem dX5_compare_104 : decode cX5_compare 104 = .ok (.bastore, 1) := by decide +kernel
theorem dX5_compare_105 : decode cX5_compare 105 = .ok (.iinc 4 1, 3) := by decide +kernel
theorem dX5_compare_108 : decode cX5_compare 108 = .ok (.goto (-68), 3) := by decide +kernel
theorem dX5_compare_111 : decode cX5_compare 111 = .ok (.iinc 3 1, 3) := by decide +kernel
theorem dX5_compare_114 : decode cX5_compare 114 = .ok (.goto (-112), 3) := by decide +kernel
theorem dX5_compare_117 : decode cX5_compare 117 = .ok (.iconst 1, 1) := by decide +kernel
theorem dX5_compare_118 : decode cX5_compare 118 = .ok (.ireturn, 1) := by decide +kernel
def mX5_compare (n : Nat) (a : Nat) (b1 : Nat) (b2 : Nat) (μ : Mem) : Option (Int × Mem) :=
  lp (fun nx2 (v2 : Int) (μ2 : Mem) =>
  (gI μ2 2 b1 1).bind fun x4 =>
  if lt32 v2 x4 then
    (gA μ2 2 b1 14).bind fun x11 =>
    (ldI μ2 2 x11 v2).bind fun x15 =>
    jn (fun (v37 : Unit) (μ37 : Mem) =>
    lp (fun nx40 (v40 : Int) (μ40 : Mem) =>
    if lt32 v40 4 then
      jn (fun (v60 : Int) (μ60 : Mem) =>
      jn (fun (v72 : Int) (μ72 : Mem) =>
      (inv μ72 2 b1 (mX1_depthBehind n b1 v2 v60 v72 μ72)).bind fun p72 =>
      (gA p72.2 6 a 2).bind fun x78 =>
      (inv p72.2 4 b2 (mX3_get n b2 v2 p72.2)).bind fun p92 =>
      jn (fun (v104 : Int) (μ104 : Mem) =>
      (stZ μ104 x78 ((4 * v2) + v40) v104).bind fun μ104 =>
      nx40 (v40 + 1) μ104) (fun j104 =>
      if eq32 (oLcmp (oI2l p72.1) p92.1) 0 then
        j104 1 p92.2
      else
      j104 0 p92.2)) (fun j72 =>
      if eq32 (oAnd v40 2) 0 then
        j72 0 μ60
      else
      j72 1 μ60)) (fun j60 =>
      if eq32 (oAnd v40 1) 0 then
        j60 0 μ40
      else
      j60 1 μ40)
    else
    nx2 (v2 + 1) μ40) n 0 μ37) (fun j37 =>
    if eq32 x15 0 then
      j37 () μ2
    else
    (gA μ2 2 b1 13).bind fun x20 =>
    (ldI μ2 0 x20 v2).bind fun x24 =>
    (inv μ2 4 b2 (mX3_get n b2 v2 μ2)).bind fun p28 =>
    if eq32 (oLcmp (oI2l x24) p28.1) 0 then
      j37 () p28.2
    else
    retZ 0 p28.2)
  else
  retZ 1 μ2) n 0 μ
set_option maxRecDepth 100000 in
set_option maxHeartbeats 4000000 in
theorem cX5_compare_ok (n : Nat) (a : Nat) (b1 : Nat) (b2 : Nat) (μ : Mem) : Mc yX5_compare cX5_compare 6 (some .boolean) 3 88 eI [aA a, aA b1, aA b2] μ (mX5_compare n a b1 b2 μ) := by
  refine mc_of (L0 := [some (aA a), some (aA b1), some (aA b2), none, none, none]) (k := 3) (by decide) rfl rfl (fun X Γ => ?_)
  unfold mX5_compare
  refine sn_iconst dX5_compare_0 ?_
  refine sn_istore_n (L' := [some (aA a), some (aA b1), some (aA b2), some (aI 0), none, none]) dX5_compare_1 (by decide) rfl ?_
  refine sn_lp (La := fun v2 : Int => [some (aA a), some (aA b1), some (aA b2), some (aI v2), none, none]) ?_ n 0 μ
  intro nx2 hnx2 v2 μ2
  refine sn_iload_n dX5_compare_2 rfl ?_
  refine sn_aload_n dX5_compare_3 rfl ?_
  refine sn_getI (ci := 1) (j := 1) dX5_compare_4 fl_X5_45 rfl (fun x4 => ?_)
  refine sn_icmp_ge (tgt := 117) dX5_compare_7 (by decide) ?_ ?_
  · refine sn_iconst dX5_compare_117 ?_
    exact sn_zret dX5_compare_118
  · refine sn_aload_n dX5_compare_10 rfl ?_
    refine sn_getA (ci := 1) (j := 14) dX5_compare_11 fl_X5_48 (by decide) (fun x11 => ?_)
    refine sn_iload_n dX5_compare_14 rfl ?_
    refine sn_zald dX5_compare_15 (fun x15 => ?_)
    refine sn_jn (pcj := 37) (La := fun v37 : Unit => [some (aA a), some (aA b1), some (aA b2), some (aI v2), none, none]) (Sa := fun v37 : Unit => []) ?_ ?_
    · intro v37 μ37
      refine sn_iconst dX5_compare_37 ?_
      refine sn_istore (L' := [some (aA a), some (aA b1), some (aA b2), some (aI v2), some (aI 0), none]) dX5_compare_38 (by decide) rfl ?_
      refine sn_lp (La := fun v40 : Int => [some (aA a), some (aA b1), some (aA b2), some (aI v2), some (aI v40), none]) ?_ n 0 μ37
      intro nx40 hnx40 v40 μ40
      refine sn_iload dX5_compare_40 rfl ?_
      refine sn_iconst dX5_compare_42 ?_
      refine sn_icmp_ge (tgt := 111) dX5_compare_43 (by decide) ?_ ?_
      · refine sn_iinc (L' := [some (aA a), some (aA b1), some (aA b2), some (aI (v2 + 1)), some (aI v40), none]) dX5_compare_111 rfl (by decide) rfl ?_
        refine sn_goto (tgt := 2) dX5_compare_114 (by decide) ?_
        exact sn_mask (L' := [some (aA a), some (aA b1), some (aA b2), some (aI (v2 + 1)), none, none]) [true, true, true, true, false, false] rfl (hnx2 (v2 + 1) μ40)
      · refine sn_aload_n dX5_compare_46 rfl ?_
        refine sn_iload_n dX5_compare_47 rfl ?_
        refine sn_iload dX5_compare_48 rfl ?_
        refine sn_iconst dX5_compare_50 ?_
        refine sn_iand dX5_compare_51 ?_
        refine sn_jn (pcj := 60) (La := fun v60 : Int => [some (aA a), some (aA b1), some (aA b2), some (aI v2), some (aI v40), none]) (Sa := fun v60 : Int => [aI v60, aI v2, aA b1]) ?_ ?_
        · intro v60 μ60
          refine sn_iload dX5_compare_60 rfl ?_
          refine sn_iconst dX5_compare_62 ?_
          refine sn_iand dX5_compare_63 ?_
          refine sn_jn (pcj := 72) (La := fun v72 : Int => [some (aA a), some (aA b1), some (aA b2), some (aI v2), some (aI v40), none]) (Sa := fun v72 : Int => [aI v72, aI v60, aI v2, aA b1]) ?_ ?_
          · intro v72 μ72
            refine sn_callVI (vs := [aI v2, aI v60, aI v72]) (ci := 1) (cX1_depthBehind_ok n b1 v2 v60 v72 μ72) dX5_compare_72 cw_X5_60 rfl rfl rfl (by decide) (by decide) (Nat.le_of_ble_eq_true rfl) (fun p72 => ?_)
            refine sn_istore (L' := [some (aA a), some (aA b1), some (aA b2), some (aI v2), some (aI v40), some (aI p72.1)]) dX5_compare_75 (by decide) rfl ?_
            refine sn_aload_n dX5_compare_77 rfl ?_
            refine sn_getA (ci := 5) (j := 2) dX5_compare_78 fl_X5_9 (by decide) (fun x78 => ?_)
            refine sn_iconst dX5_compare_81 ?_
            refine sn_iload_n dX5_compare_82 rfl ?_
            refine sn_imul dX5_compare_83 ?_
            refine sn_iload dX5_compare_84 rfl ?_
            refine sn_iadd dX5_compare_86 ?_
            refine sn_iload dX5_compare_87 rfl ?_
            refine sn_i2l dX5_compare_89 ?_
            refine sn_aload_n dX5_compare_90 rfl ?_
            refine sn_iload_n dX5_compare_91 rfl ?_
            refine sn_callVJ (vs := [aI v2]) (ci := 3) (cX3_get_ok n b2 v2 p72.2) dX5_compare_92 cw_X5_54 rfl rfl rfl (by decide) (by decide) (Nat.le_of_ble_eq_true rfl) (fun p92 => ?_)
            refine sn_lcmp dX5_compare_95 ?_
            refine sn_jn (pcj := 104) (La := fun v104 : Int => [some (aA a), some (aA b1), some (aA b2), some (aI v2), some (aI v40), none]) (Sa := fun v104 : Int => [aI v104, aI ((4 * v2) + v40), aA x78]) ?_ ?_
            · intro v104 μ104
              refine sn_zast dX5_compare_104 (fun μ104 => ?_)
              refine sn_iinc (L' := [some (aA a), some (aA b1), some (aA b2), some (aI v2), some (aI (v40 + 1)), none]) dX5_compare_105 rfl (by decide) rfl ?_
              refine sn_goto (tgt := 40) dX5_compare_108 (by decide) ?_
              exact hnx40 (v40 + 1) μ104
            intro j104 hj104
            refine sn_if_ne (tgt := 103) dX5_compare_96 (by decide) ?_ ?_
            · refine sn_iconst dX5_compare_103 ?_
              exact sn_mask (L' := [some (aA a), some (aA b1), some (aA b2), some (aI v2), some (aI v40), none]) [true, true, true, true, true, false] rfl (hj104 0 p92.2)
            · refine sn_iconst dX5_compare_99 ?_
              refine sn_goto (tgt := 104) dX5_compare_100 (by decide) ?_
              exact sn_mask (L' := [some (aA a), some (aA b1), some (aA b2), some (aI v2), some (aI v40), none]) [true, true, true, true, true, false] rfl (hj104 1 p92.2)
          intro j72 hj72
          refine sn_if_eq (tgt := 71) dX5_compare_64 (by decide) ?_ ?_
          · refine sn_iconst dX5_compare_71 ?_
            exact hj72 0 μ60
          · refine sn_iconst dX5_compare_67 ?_
            refine sn_goto (tgt := 72) dX5_compare_68 (by decide) ?_
            exact hj72 1 μ60
        intro j60 hj60
        refine sn_if_eq (tgt := 59) dX5_compare_52 (by decide) ?_ ?_
        · refine sn_iconst dX5_compare_59 ?_
          exact hj60 0 μ40
        · refine sn_iconst dX5_compare_55 ?_
          refine sn_goto (tgt := 60) dX5_compare_56 (by decide) ?_
          exact hj60 1 μ40
    intro j37 hj37
    refine sn_if_eq (tgt := 37) dX5_compare_16 (by decide) ?_ ?_
    · exact hj37 () μ2
    · refine sn_aload_n dX5_compare_19 rfl ?_
      refine sn_getA (ci := 1) (j := 13) dX5_compare_20 fl_X5_51 (by decide) (fun x20 => ?_)
      refine sn_iload_n dX5_compare_23 rfl ?_
      refine sn_iald dX5_compare_24 (fun x24 => ?_)
      refine sn_i2l dX5_compare_25 ?_
      refine sn_aload_n dX5_compare_26 rfl ?_
      refine sn_iload_n dX5_compare_27 rfl ?_
      refine sn_callVJ (vs := [aI v2]) (ci := 3) (cX3_get_ok n b2 v2 μ2) dX5_compare_28 cw_X5_54 rfl rfl rfl (by decide) (by decide) (Nat.le_of_ble_eq_true rfl) (fun p28 => ?_)
      refine sn_lcmp dX5_compare_31 ?_
      refine sn_if_eq (tgt := 37) dX5_compare_32 (by decide) ?_ ?_
      · exact hj37 () p28.2
      · refine sn_iconst dX5_compare_35 ?_
        exact sn_zret dX5_compare_36
theorem dX5_fitsUpTo_0 : decode cX5_fitsUpTo 0 = .ok (.iconst 0, 1) := by decide +kernel
theorem dX5_fitsUpTo_1 : decode cX5_fitsUpTo 1 = .ok (.istore_n 3, 1) := by decide +kernel
theorem dX5_fitsUpTo_2 : decode cX5_fitsUpTo 2 = .ok (.iload_n 3, 1) := by decide +kernel
theorem dX5_fitsUpTo_3 : decode cX5_fitsUpTo 3 = .ok (.aload_n 1, 1) := by decide +kernel
theorem dX5_fitsUpTo_4 : decode cX5_fitsUpTo 4 = .ok (.getfield 45, 3) := by decide +kernel
theorem dX5_fitsUpTo_7 : decode cX5_fitsUpTo 7 = .ok (.if_icmp .ge 102, 3) := by decide +kernel
theorem dX5_fitsUpTo_10 : decode cX5_fitsUpTo 10 = .ok (.aload_n 1, 1) := by decide +kernel
theorem dX5_fitsUpTo_11 : decode cX5_fitsUpTo 11 = .ok (.getfield 72, 3) := by decide +kernel
theorem dX5_fitsUpTo_14 : decode cX5_fitsUpTo 14 = .ok (.iconst 2, 1) := by decide +kernel
theorem dX5_fitsUpTo_15 : decode cX5_fitsUpTo 15 = .ok (.iload_n 3, 1) := by decide +kernel
theorem dX5_fitsUpTo_16 : decode cX5_fitsUpTo 16 = .ok (.imul, 1) := by decide +kernel
theorem dX5_fitsUpTo_17 : decode cX5_fitsUpTo 17 = .ok (.iaload, 1) := by decide +kernel
theorem dX5_fitsUpTo_18 : decode cX5_fitsUpTo 18 = .ok (.istore 4, 2) := by decide +kernel
theorem dX5_fitsUpTo_20 : decode cX5_fitsUpTo 20 = .ok (.aload_n 1, 1) := by decide +kernel
theorem dX5_fitsUpTo_21 : decode cX5_fitsUpTo 21 = .ok (.getfield 72, 3) := by decide +kernel
theorem dX5_fitsUpTo_24 : decode cX5_fitsUpTo 24 = .ok (.iconst 2, 1) := by decide +kernel
theorem dX5_fitsUpTo_25 : decode cX5_fitsUpTo 25 = .ok (.iload_n 3, 1) := by decide +kernel
theorem dX5_fitsUpTo_26 : decode cX5_fitsUpTo 26 = .ok (.imul, 1) := by decide +kernel
theorem dX5_fitsUpTo_27 : decode cX5_fitsUpTo 27 = .ok (.iconst 1, 1) := by decide +kernel
theorem dX5_fitsUpTo_28 : decode cX5_fitsUpTo 28 = .ok (.iadd, 1) := by decide +kernel
theorem dX5_fitsUpTo_29 : decode cX5_fitsUpTo 29 = .ok (.iaload, 1) := by decide +kernel
theorem dX5_fitsUpTo_30 : decode cX5_fitsUpTo 30 = .ok (.istore 5, 2) := by decide +kernel
theorem dX5_fitsUpTo_32 : decode cX5_fitsUpTo 32 = .ok (.aload_n 1, 1) := by decide +kernel
theorem dX5_fitsUpTo_33 : decode cX5_fitsUpTo 33 = .ok (.getfield 48, 3) := by decide +kernel
theorem dX5_fitsUpTo_36 : decode cX5_fitsUpTo 36 = .ok (.iload_n 3, 1) := by decide +kernel
theorem dX5_fitsUpTo_37 : decode cX5_fitsUpTo 37 = .ok (.baload, 1) := by decide +kernel
theorem dX5_fitsUpTo_38 : decode cX5_fitsUpTo 38 = .ok (.ifCond .ne 65, 3) := by decide +kernel
theorem dX5_fitsUpTo_41 : decode cX5_fitsUpTo 41 = .ok (.iload 4, 2) := by decide +kernel
theorem dX5_fitsUpTo_43 : decode cX5_fitsUpTo 43 = .ok (.iload 5, 2) := by decide +kernel
theorem dX5_fitsUpTo_45 : decode cX5_fitsUpTo 45 = .ok (.invokestatic 75, 3) := by decide +kernel
theorem dX5_fitsUpTo_48 : decode cX5_fitsUpTo 48 = .ok (.iload_n 2, 1) := by decide +kernel
theorem dX5_fitsUpTo_49 : decode cX5_fitsUpTo 49 = .ok (.if_icmp .ne 54, 3) := by decide +kernel
theorem dX5_fitsUpTo_52 : decode cX5_fitsUpTo 52 = .ok (.aload_n 0, 1) := by decide +kernel
theorem dX5_fitsUpTo_53 : decode cX5_fitsUpTo 53 = .ok (.getfield 15, 3) := by decide +kernel
theorem dX5_fitsUpTo_56 : decode cX5_fitsUpTo 56 = .ok (.iload 4, 2) := by decide +kernel
theorem dX5_fitsUpTo_58 : decode cX5_fitsUpTo 58 = .ok (.iaload, 1) := by decide +kernel
theorem dX5_fitsUpTo_59 : decode cX5_fitsUpTo 59 = .ok (.iload_n 3, 1) := by decide +kernel
theorem dX5_fitsUpTo_60 : decode cX5_fitsUpTo 60 = .ok (.if_icmp .ne 7, 3) := by decide +kernel
theorem dX5_fitsUpTo_63 : decode cX5_fitsUpTo 63 = .ok (.iconst 1, 1) := by decide +kernel
theorem dX5_fitsUpTo_64 : decode cX5_fitsUpTo 64 = .ok (.goto 4, 3) := by decide +kernel
theorem dX5_fitsUpTo_67 : decode cX5_fitsUpTo 67 = .ok (.iconst 0, 1) := by decide +kernel
theorem dX5_fitsUpTo_68 : decode cX5_fitsUpTo 68 = .ok (.aload_n 0, 1) := by decide +kernel
theorem dX5_fitsUpTo_69 : decode cX5_fitsUpTo 69 = .ok (.getfield 15, 3) := by decide +kernel
theorem dX5_fitsUpTo_72 : decode cX5_fitsUpTo 72 = .ok (.iload 5, 2) := by decide +kernel
theorem dX5_fitsUpTo_74 : decode cX5_fitsUpTo 74 = .ok (.iaload, 1) := by decide +kernel
theorem dX5_fitsUpTo_75 : decode cX5_fitsUpTo 75 = .ok (.iload_n 3, 1) := by decide +kernel
theorem dX5_fitsUpTo_76 : decode cX5_fitsUpTo 76 = .ok (.if_icmp .ne 7, 3) := by decide +kernel
theorem dX5_fitsUpTo_79 : decode cX5_fitsUpTo 79 = .ok (.iconst 2, 1) := by decide +kernel
theorem dX5_fitsUpTo_80 : decode cX5_fitsUpTo 80 = .ok (.goto 4, 3) := by decide +kernel
theorem dX5_fitsUpTo_83 : decode cX5_fitsUpTo 83 = .ok (.iconst 0, 1) := by decide +kernel
theorem dX5_fitsUpTo_84 : decode cX5_fitsUpTo 84 = .ok (.ior, 1) := by decide +kernel
theorem dX5_fitsUpTo_85 : decode cX5_fitsUpTo 85 = .ok (.istore 6, 2) := by decide +kernel
theorem dX5_fitsUpTo_87 : decode cX5_fitsUpTo 87 = .ok (.aload_n 0, 1) := by decide +kernel
theorem dX5_fitsUpTo_88 : decode cX5_fitsUpTo 88 = .ok (.getfield 9, 3) := by decide +kernel
theorem dX5_fitsUpTo_91 : decode cX5_fitsUpTo 91 = .ok (.iconst 4, 1) := by decide +kernel
theorem dX5_fitsUpTo_92 : decode cX5_fitsUpTo 92 = .ok (.iload_n 3, 1) := by decide +kernel
theorem dX5_fitsUpTo_93 : decode cX5_fitsUpTo 93 = .ok (.imul, 1) := by decide +kernel
theorem dX5_fitsUpTo_94 : decode cX5_fitsUpTo 94 = .ok (.iload 6, 2) := by decide +kernel
theorem dX5_fitsUpTo_96 : decode cX5_fitsUpTo 96 = .ok (.iadd, 1) := by decide +kernel
theorem dX5_fitsUpTo_97 : decode cX5_fitsUpTo 97 = .ok (.baload, 1) := by decide +kernel
theorem dX5_fitsUpTo_98 : decode cX5_fitsUpTo 98 = .ok (.ifCond .ne 5, 3) := by decide +kernel
theorem dX5_fitsUpTo_101 : decode cX5_fitsUpTo 101 = .ok (.iconst 0, 1) := by decide +kernel
theorem dX5_fitsUpTo_102 : decode cX5_fitsUpTo 102 = .ok (.ireturn, 1) := by decide +kernel
theorem dX5_fitsUpTo_103 : decode cX5_fitsUpTo 103 = .ok (.iinc 3 1, 3) := by decide +kernel
theorem dX5_fitsUpTo_106 : decode cX5_fitsUpTo 106 = .ok (.goto (-104), 3) := by decide +kernel
theorem dX5_fitsUpTo_109 : decode cX5_fitsUpTo 109 = .ok (.iconst 1, 1) := by decide +kernel
theorem dX5_fitsUpTo_110 : decode cX5_fitsUpTo 110 = .ok (.ireturn, 1) := by decide +kernel
def mX5_fitsUpTo (n : Nat) (a : Nat) (b1 : Nat) (b2 : Int) (μ : Mem) : Option (Int × Mem) :=
  lp (fun nx2 (v2 : Int) (μ2 : Mem) =>
  (gI μ2 2 b1 1).bind fun x4 =>
  if lt32 v2 x4 then
    (gA μ2 2 b1 15).bind fun x11 =>
    (ldI μ2 0 x11 (2 * v2)).bind fun x17 =>
    (gA μ2 2 b1 15).bind fun x21 =>
    (ldI μ2 0 x21 ((2 * v2) + 1)).bind fun x29 =>
    (gA μ2 2 b1 14).bind fun x33 =>
    (ldI μ2 2 x33 v2).bind fun x37 =>
    if eq32 x37 0 then
      if eq32 (mMax x17 x29) b2 then
        (gA μ2 6 a 3).bind fun x53 =>
        (ldI μ2 0 x53 x17).bind fun x58 =>
        jn (fun (v68 : Int) (μ68 : Mem) =>
        (gA μ68 6 a 3).bind fun x69 =>
        (ldI μ68 0 x69 x29).bind fun x74 =>
        jn (fun (v84 : Int) (μ84 : Mem) =>
        (gA μ84 6 a 2).bind fun x88 =>
        (ldI μ84 2 x88 ((4 * v2) + (oOr v68 v84))).bind fun x97 =>
        if eq32 x97 0 then
          retZ 0 μ84
        else
        nx2 (v2 + 1) μ84) (fun j84 =>
        if eq32 x74 v2 then
          j84 2 μ68
        else
        j84 0 μ68)) (fun j68 =>
        if eq32 x58 v2 then
          j68 1 μ2
        else
        j68 0 μ2)
      else
      nx2 (v2 + 1) μ2
    else
    nx2 (v2 + 1) μ2
  else
  retZ 1 μ2) n 0 μ
set_option maxRecDepth 100000 in
set_option maxHeartbeats 4000000 in
theorem cX5_fitsUpTo_ok (n : Nat) (a : Nat) (b1 : Nat) (b2 : Int) (μ : Mem) : Mc yX5_fitsUpTo cX5_fitsUpTo 7 (some .boolean) 1 40 eI [aA a, aA b1, aI b2] μ (mX5_fitsUpTo n a b1 b2 μ) := by
  refine mc_of (L0 := [some (aA a), some (aA b1), some (aI b2), none, none, none, none]) (k := 4) (by decide) rfl rfl (fun X Γ => ?_)
  unfold mX5_fitsUpTo
  refine sn_iconst dX5_fitsUpTo_0 ?_
  refine sn_istore_n (L' := [some (aA a), some (aA b1), some (aI b2), some (aI 0), none, none, none]) dX5_fitsUpTo_1 (by decide) rfl ?_
  refine sn_lp (La := fun v2 : Int => [some (aA a), some (aA b1), some (aI b2), some (aI v2), none, none, none]) ?_ n 0 μ
  intro nx2 hnx2 v2 μ2
  refine sn_iload_n dX5_fitsUpTo_2 rfl ?_
  refine sn_aload_n dX5_fitsUpTo_3 rfl ?_
  refine sn_getI (ci := 1) (j := 1) dX5_fitsUpTo_4 fl_X5_45 rfl (fun x4 => ?_)
  refine sn_icmp_ge (tgt := 109) dX5_fitsUpTo_7 (by decide) ?_ ?_
  · refine sn_iconst dX5_fitsUpTo_109 ?_
    exact sn_zret dX5_fitsUpTo_110
  · refine sn_aload_n dX5_fitsUpTo_10 rfl ?_
    refine sn_getA (ci := 1) (j := 15) dX5_fitsUpTo_11 fl_X5_72 (by decide) (fun x11 => ?_)
    refine sn_iconst dX5_fitsUpTo_14 ?_
    refine sn_iload_n dX5_fitsUpTo_15 rfl ?_
    refine sn_imul dX5_fitsUpTo_16 ?_
    refine sn_iald dX5_fitsUpTo_17 (fun x17 => ?_)
    refine sn_istore (L' := [some (aA a), some (aA b1), some (aI b2), some (aI v2), some (aI x17), none, none]) dX5_fitsUpTo_18 (by decide) rfl ?_
    refine sn_aload_n dX5_fitsUpTo_20 rfl ?_
    refine sn_getA (ci := 1) (j := 15) dX5_fitsUpTo_21 fl_X5_72 (by decide) (fun x21 => ?_)
    refine sn_iconst dX5_fitsUpTo_24 ?_
    refine sn_iload_n dX5_fitsUpTo_25 rfl ?_
    refine sn_imul dX5_fitsUpTo_26 ?_
    refine sn_iconst dX5_fitsUpTo_27 ?_
    refine sn_iadd dX5_fitsUpTo_28 ?_
    refine sn_iald dX5_fitsUpTo_29 (fun x29 => ?_)
    refine sn_istore (L' := [some (aA a), some (aA b1), some (aI b2), some (aI v2), some (aI x17), some (aI x29), none]) dX5_fitsUpTo_30 (by decide) rfl ?_
    refine sn_aload_n dX5_fitsUpTo_32 rfl ?_
    refine sn_getA (ci := 1) (j := 14) dX5_fitsUpTo_33 fl_X5_48 (by decide) (fun x33 => ?_)
    refine sn_iload_n dX5_fitsUpTo_36 rfl ?_
    refine sn_zald dX5_fitsUpTo_37 (fun x37 => ?_)
    refine sn_if_ne (tgt := 103) dX5_fitsUpTo_38 (by decide) ?_ ?_
    · refine sn_iinc (L' := [some (aA a), some (aA b1), some (aI b2), some (aI (v2 + 1)), some (aI x17), some (aI x29), none]) dX5_fitsUpTo_103 rfl (by decide) rfl ?_
      refine sn_goto (tgt := 2) dX5_fitsUpTo_106 (by decide) ?_
      exact sn_mask (L' := [some (aA a), some (aA b1), some (aI b2), some (aI (v2 + 1)), none, none, none]) [true, true, true, true, false, false, false] rfl (hnx2 (v2 + 1) μ2)
    · refine sn_iload dX5_fitsUpTo_41 rfl ?_
      refine sn_iload dX5_fitsUpTo_43 rfl ?_
      refine sn_mMax dX5_fitsUpTo_45 ml_X5_75 (by decide) (by decide) (Nat.le_of_ble_eq_true rfl) ?_
      refine sn_iload_n dX5_fitsUpTo_48 rfl ?_
      refine sn_icmp_ne (tgt := 103) dX5_fitsUpTo_49 (by decide) ?_ ?_
      · refine sn_iinc (L' := [some (aA a), some (aA b1), some (aI b2), some (aI (v2 + 1)), some (aI x17), some (aI x29), none]) dX5_fitsUpTo_103 rfl (by decide) rfl ?_
        refine sn_goto (tgt := 2) dX5_fitsUpTo_106 (by decide) ?_
        exact sn_mask (L' := [some (aA a), some (aA b1), some (aI b2), some (aI (v2 + 1)), none, none, none]) [true, true, true, true, false, false, false] rfl (hnx2 (v2 + 1) μ2)
      · refine sn_aload_n dX5_fitsUpTo_52 rfl ?_
        refine sn_getA (ci := 5) (j := 3) dX5_fitsUpTo_53 fl_X5_15 (by decide) (fun x53 => ?_)
        refine sn_iload dX5_fitsUpTo_56 rfl ?_
        refine sn_iald dX5_fitsUpTo_58 (fun x58 => ?_)
        refine sn_iload_n dX5_fitsUpTo_59 rfl ?_
        refine sn_jn (pcj := 68) (La := fun v68 : Int => [some (aA a), some (aA b1), some (aI b2), some (aI v2), none, some (aI x29), none]) (Sa := fun v68 : Int => [aI v68]) ?_ ?_
        · intro v68 μ68
          refine sn_aload_n dX5_fitsUpTo_68 rfl ?_
          refine sn_getA (ci := 5) (j := 3) dX5_fitsUpTo_69 fl_X5_15 (by decide) (fun x69 => ?_)
          refine sn_iload dX5_fitsUpTo_72 rfl ?_
          refine sn_iald dX5_fitsUpTo_74 (fun x74 => ?_)
          refine sn_iload_n dX5_fitsUpTo_75 rfl ?_
          refine sn_jn (pcj := 84) (La := fun v84 : Int => [some (aA a), some (aA b1), some (aI b2), some (aI v2), none, none, none]) (Sa := fun v84 : Int => [aI v84, aI v68]) ?_ ?_
          · intro v84 μ84
            refine sn_ior dX5_fitsUpTo_84 ?_
            refine sn_istore (L' := [some (aA a), some (aA b1), some (aI b2), some (aI v2), none, none, some (aI (oOr v68 v84))]) dX5_fitsUpTo_85 (by decide) rfl ?_
            refine sn_aload_n dX5_fitsUpTo_87 rfl ?_
            refine sn_getA (ci := 5) (j := 2) dX5_fitsUpTo_88 fl_X5_9 (by decide) (fun x88 => ?_)
            refine sn_iconst dX5_fitsUpTo_91 ?_
            refine sn_iload_n dX5_fitsUpTo_92 rfl ?_
            refine sn_imul dX5_fitsUpTo_93 ?_
            refine sn_iload dX5_fitsUpTo_94 rfl ?_
            refine sn_iadd dX5_fitsUpTo_96 ?_
            refine sn_zald dX5_fitsUpTo_97 (fun x97 => ?_)
            refine sn_if_ne (tgt := 103) dX5_fitsUpTo_98 (by decide) ?_ ?_
            · refine sn_iinc (L' := [some (aA a), some (aA b1), some (aI b2), some (aI (v2 + 1)), none, none, some (aI (oOr v68 v84))]) dX5_fitsUpTo_103 rfl (by decide) rfl ?_
              refine sn_goto (tgt := 2) dX5_fitsUpTo_106 (by decide) ?_
              exact sn_mask (L' := [some (aA a), some (aA b1), some (aI b2), some (aI (v2 + 1)), none, none, none]) [true, true, true, true, false, false, false] rfl (hnx2 (v2 + 1) μ84)
            · refine sn_iconst dX5_fitsUpTo_101 ?_
              exact sn_zret dX5_fitsUpTo_102
          intro j84 hj84
          refine sn_icmp_ne (tgt := 83) dX5_fitsUpTo_76 (by decide) ?_ ?_
          · refine sn_iconst dX5_fitsUpTo_83 ?_
            exact sn_mask (L' := [some (aA a), some (aA b1), some (aI b2), some (aI v2), none, none, none]) [true, true, true, true, false, false, false] rfl (hj84 0 μ68)
          · refine sn_iconst dX5_fitsUpTo_79 ?_
            refine sn_goto (tgt := 84) dX5_fitsUpTo_80 (by decide) ?_
            exact sn_mask (L' := [some (aA a), some (aA b1), some (aI b2), some (aI v2), none, none, none]) [true, true, true, true, false, false, false] rfl (hj84 2 μ68)
        intro j68 hj68
        refine sn_icmp_ne (tgt := 67) dX5_fitsUpTo_60 (by decide) ?_ ?_
        · refine sn_iconst dX5_fitsUpTo_67 ?_
          exact sn_mask (L' := [some (aA a), some (aA b1), some (aI b2), some (aI v2), none, some (aI x29), none]) [true, true, true, true, false, true, false] rfl (hj68 0 μ2)
        · refine sn_iconst dX5_fitsUpTo_63 ?_
          refine sn_goto (tgt := 68) dX5_fitsUpTo_64 (by decide) ?_
          exact sn_mask (L' := [some (aA a), some (aA b1), some (aI b2), some (aI v2), none, some (aI x29), none]) [true, true, true, true, false, true, false] rfl (hj68 1 μ2)
theorem dX5_choose_0 : decode cX5_choose 0 = .ok (.iload_n 2, 1) := by decide +kernel
theorem dX5_choose_1 : decode cX5_choose 1 = .ok (.aload_n 1, 1) := by decide +kernel
theorem dX5_choose_2 : decode cX5_choose 2 = .ok (.getfield 23, 3) := by decide +kernel
theorem dX5_choose_5 : decode cX5_choose 5 = .ok (.if_icmp .ge 9, 3) := by decide +kernel
theorem dX5_choose_8 : decode cX5_choose 8 = .ok (.iload_n 2, 1) := by decide +kernel
theorem dX5_choose_9 : decode cX5_choose 9 = .ok (.bipush 10, 2) := by decide +kernel
theorem dX5_choose_11 : decode cX5_choose 11 = .ok (.if_icmp .lt 24, 3) := by decide +kernel
theorem dX5_choose_14 : decode cX5_choose 14 = .ok (.aload_n 0, 1) := by decide +kernel
theorem dX5_choose_15 : decode cX5_choose 15 = .ok (.dup, 1) := by decide +kernel
theorem dX5_choose_16 : decode cX5_choose 16 = .ok (.getfield 19, 3) := by decide +kernel
theorem dX5_choose_19 : decode cX5_choose 19 = .ok (.iconst 1, 1) := by decide +kernel
theorem dX5_choose_20 : decode cX5_choose 20 = .ok (.iadd, 1) := by decide +kernel
theorem dX5_choose_21 : decode cX5_choose 21 = .ok (.putfield 19, 3) := by decide +kernel
theorem dX5_choose_24 : decode cX5_choose 24 = .ok (.aload_n 0, 1) := by decide +kernel
theorem dX5_choose_25 : decode cX5_choose 25 = .ok (.dup, 1) := by decide +kernel
theorem dX5_choose_26 : decode cX5_choose 26 = .ok (.getfield 28, 3) := by decide +kernel
theorem dX5_choose_29 : decode cX5_choose 29 = .ok (.iload_n 3, 1) := by decide +kernel
theorem dX5_choose_30 : decode cX5_choose 30 = .ok (.iand, 1) := by decide +kernel
theorem dX5_choose_31 : decode cX5_choose 31 = .ok (.putfield 28, 3) := by decide +kernel
theorem dX5_choose_34 : decode cX5_choose 34 = .ok (.return_, 1) := by decide +kernel
theorem dX5_choose_35 : decode cX5_choose 35 = .ok (.aload_n 0, 1) := by decide +kernel
theorem dX5_choose_36 : decode cX5_choose 36 = .ok (.getfield 15, 3) := by decide +kernel
theorem dX5_choose_39 : decode cX5_choose 39 = .ok (.iload_n 2, 1) := by decide +kernel
theorem dX5_choose_40 : decode cX5_choose 40 = .ok (.iconst (-1), 1) := by decide +kernel
theorem dX5_choose_41 : decode cX5_choose 41 = .ok (.iastore, 1) := by decide +kernel
theorem dX5_choose_42 : decode cX5_choose 42 = .ok (.aload_n 0, 1) := by decide +kernel
theorem dX5_choose_43 : decode cX5_choose 43 = .ok (.aload_n 1, 1) := by decide +kernel
theorem dX5_choose_44 : decode cX5_choose 44 = .ok (.iload_n 2, 1) := by decide +kernel
theorem dX5_choose_45 : decode cX5_choose 45 = .ok (.invokevirtual 64, 3) := by decide +kernel
theorem dX5_choose_48 : decode cX5_choose 48 = .ok (.ifCond .eq 12, 3) := by decide +kernel
theorem dX5_choose_51 : decode cX5_choose 51 = .ok (.aload_n 0, 1) := by decide +kernel
theorem dX5_choose_52 : decode cX5_choose 52 = .ok (.aload_n 1, 1) := by decide +kernel
theorem dX5_choose_53 : decode cX5_choose 53 = .ok (.iload_n 2, 1) := by decide +kernel
theorem dX5_choose_54 : decode cX5_choose 54 = .ok (.iconst 1, 1) := by decide +kernel
theorem dX5_choose_55 : decode cX5_choose 55 = .ok (.iadd, 1) := by decide +kernel
theorem dX5_choose_56 : decode cX5_choose 56 = .ok (.iload_n 3, 1) := by decide +kernel
theorem dX5_choose_57 : decode cX5_choose 57 = .ok (.invokevirtual 41, 3) := by decide +kernel
theorem dX5_choose_60 : decode cX5_choose 60 = .ok (.iconst 0, 1) := by decide +kernel
theorem dX5_choose_61 : decode cX5_choose 61 = .ok (.istore 4, 2) := by decide +kernel
theorem dX5_choose_63 : decode cX5_choose 63 = .ok (.iload 4, 2) := by decide +kernel
theorem dX5_choose_65 : decode cX5_choose 65 = .ok (.aload_n 1, 1) := by decide +kernel
theorem dX5_choose_66 : decode cX5_choose 66 = .ok (.getfield 45, 3) := by decide +kernel
theorem dX5_choose_69 : decode cX5_choose 69 = .ok (.if_icmp .ge 49, 3) := by decide +kernel
theorem dX5_choose_72 : decode cX5_choose 72 = .ok (.aload_n 1, 1) := by decide +kernel
theorem dX5_choose_73 : decode cX5_choose 73 = .ok (.iload 4, 2) := by decide +kernel
theorem dX5_choose_75 : decode cX5_choose 75 = .ok (.iload_n 2, 1) := by decide +kernel
theorem dX5_choose_76 : decode cX5_choose 76 = .ok (.invokevirtual 68, 3) := by decide +kernel
theorem dX5_choose_79 : decode cX5_choose 79 = .ok (.ifCond .eq 33, 3) := by decide +kernel
theorem dX5_choose_82 : decode cX5_choose 82 = .ok (.aload_n 0, 1) := by decide +kernel
theorem dX5_choose_83 : decode cX5_choose 83 = .ok (.getfield 15, 3) := by decide +kernel
theorem dX5_choose_86 : decode cX5_choose 86 = .ok (.iload_n 2, 1) := by decide +kernel
theorem dX5_choose_87 : decode cX5_choose 87 = .ok (.iload 4, 2) := by decide +kernel
theorem dX5_choose_89 : decode cX5_choose 89 = .ok (.iastore, 1) := by decide +kernel
theorem dX5_choose_90 : decode cX5_choose 90 = .ok (.aload_n 0, 1) := by decide +kernel
theorem dX5_choose_91 : decode cX5_choose 91 = .ok (.aload_n 1, 1) := by decide +kernel
theorem dX5_choose_92 : decode cX5_choose 92 = .ok (.iload_n 2, 1) := by decide +kernel
theorem dX5_choose_93 : decode cX5_choose 93 = .ok (.invokevirtual 64, 3) := by decide +kernel
theorem dX5_choose_96 : decode cX5_choose 96 = .ok (.ifCond .eq 16, 3) := by decide +kernel
theorem dX5_choose_99 : decode cX5_choose 99 = .ok (.aload_n 0, 1) := by decide +kernel
theorem dX5_choose_100 : decode cX5_choose 100 = .ok (.aload_n 1, 1) := by decide +kernel
theorem dX5_choose_101 : decode cX5_choose 101 = .ok (.iload_n 2, 1) := by decide +kernel
theorem dX5_choose_102 : decode cX5_choose 102 = .ok (.iconst 1, 1) := by decide +kernel
theorem dX5_choose_103 : decode cX5_choose 103 = .ok (.iadd, 1) := by decide +kernel
theorem dX5_choose_104 : decode cX5_choose 104 = .ok (.iload_n 3, 1) := by decide +kernel
theorem dX5_choose_105 : decode cX5_choose 105 = .ok (.iconst 1, 1) := by decide +kernel
theorem dX5_choose_106 : decode cX5_choose 106 = .ok (.iload_n 2, 1) := by decide +kernel
theorem dX5_choose_107 : decode cX5_choose 107 = .ok (.ishl, 1) := by decide +kernel
theorem dX5_choose_108 : decode cX5_choose 108 = .ok (.ior, 1) := by decide +kernel
theorem dX5_choose_109 : decode cX5_choose 109 = .ok (.invokevirtual 41, 3) := by decide +kernel
theorem dX5_choose_112 : decode cX5_choose 112 = .ok (.iinc 4 1, 3) := by decide +kernel
theorem dX5_choose_115 : decode cX5_choose 115 = .ok (.goto (-52), 3) := by decide +kernel
theorem dX5_choose_118 : decode cX5_choose 118 = .ok (.return_, 1) := by decide +kernel
def bX5_choose (n : Nat) (self : Nat × Nat × Int × Int → Mem → Option (Unit × Mem)) (v : Nat × Nat × Int × Int) (μ : Mem) : Option (Unit × Mem) :=
  (gI μ 2 v.2.1 0).bind fun x2 =>
  jn (fun (v14 : Unit) (μ14 : Mem) =>
  (gI μ14 6 v.1 0).bind fun x16 =>
  (pI μ14 6 v.1 0 (x16 + 1)).bind fun μ21 =>
  (gI μ21 6 v.1 1).bind fun x26 =>
  (pI μ21 6 v.1 1 (oAnd x26 v.2.2.2)).bind fun μ31 =>
  some ((), μ31)) (fun j14 =>
  if lt32 v.2.2.1 x2 then
    if lt32 v.2.2.1 10 then
      (gA μ 6 v.1 3).bind fun x36 =>
      (stI μ 0 x36 v.2.2.1 (-1)).bind fun μ41 =>
      (inv μ41 6 v.1 (mX5_fitsUpTo n v.1 v.2.1 v.2.2.1 μ41)).bind fun p45 =>
      jn (fun (v60 : Unit) (μ60 : Mem) =>
      lp (fun nx63 (v63 : Int) (μ63 : Mem) =>
      (gI μ63 2 v.2.1 1).bind fun x66 =>
      if lt32 v63 x66 then
        (inv μ63 2 v.2.1 (mX1_hangsOpen n v.2.1 v63 v.2.2.1 μ63)).bind fun p76 =>
        if eq32 p76.1 0 then
          nx63 (v63 + 1) p76.2
        else
        (gA p76.2 6 v.1 3).bind fun x83 =>
        (stI p76.2 0 x83 v.2.2.1 v63).bind fun μ89 =>
        (inv μ89 6 v.1 (mX5_fitsUpTo n v.1 v.2.1 v.2.2.1 μ89)).bind fun p93 =>
        if eq32 p93.1 0 then
          nx63 (v63 + 1) p93.2
        else
        (inv p93.2 6 v.1 (self (v.1, v.2.1, (v.2.2.1 + 1), (oOr v.2.2.2 (oShl 1 v.2.2.1))) p93.2)).bind fun p109 =>
        nx63 (v63 + 1) p109.2
      else
      some ((), μ63)) n 0 μ60) (fun j60 =>
      if eq32 p45.1 0 then
        j60 () p45.2
      else
      (inv p45.2 6 v.1 (self (v.1, v.2.1, (v.2.2.1 + 1), v.2.2.2) p45.2)).bind fun p57 =>
      j60 () p57.2)
    else
    j14 () μ
  else
  j14 () μ)
set_option maxRecDepth 100000 in
set_option maxHeartbeats 4000000 in
theorem bX5_choose_ok (n : Nat) (self : Nat × Nat × Int × Int → Mem → Option (Unit × Mem)) (fs ls : Nat) (hs : ∀ (v : Nat × Nat × Int × Int) (μ : Mem), Mc yX5_choose cX5_choose 5 none fs ls eV [aA v.1, aA v.2.1, aI v.2.2.1, aI v.2.2.2] μ (self v μ)) (v : Nat × Nat × Int × Int) (μ : Mem) : Mc yX5_choose cX5_choose 5 none (fs + 3) (ls + 66) eV [aA v.1, aA v.2.1, aI v.2.2.1, aI v.2.2.2] μ (bX5_choose n self v μ) := by
  refine mc_of (L0 := [some (aA v.1), some (aA v.2.1), some (aI v.2.2.1), some (aI v.2.2.2), none]) (k := 1) (by decide) rfl rfl (fun X Γ => ?_)
  unfold bX5_choose
  refine sn_iload_n dX5_choose_0 rfl ?_
  refine sn_aload_n dX5_choose_1 rfl ?_
  refine sn_getI (ci := 1) (j := 0) dX5_choose_2 fl_X5_23 rfl (fun x2 => ?_)
  refine sn_jn (pcj := 14) (La := fun v14 : Unit => [some (aA v.1), none, none, some (aI v.2.2.2), none]) (Sa := fun v14 : Unit => []) ?_ ?_
  · intro v14 μ14
    refine sn_aload_n dX5_choose_14 rfl ?_
    refine sn_dup dX5_choose_15 rfl ?_
    refine sn_getI (ci := 5) (j := 0) dX5_choose_16 fl_X5_19 rfl (fun x16 => ?_)
    refine sn_iconst dX5_choose_19 ?_
    refine sn_iadd dX5_choose_20 ?_
    refine sn_putI (ci := 5) (j := 0) dX5_choose_21 fl_X5_19 rfl (fun q h => by cases h; rfl) (fun μ21 => ?_)
    refine sn_aload_n dX5_choose_24 rfl ?_
    refine sn_dup dX5_choose_25 rfl ?_
    refine sn_getI (ci := 5) (j := 1) dX5_choose_26 fl_X5_28 rfl (fun x26 => ?_)
    refine sn_iload_n dX5_choose_29 rfl ?_
    refine sn_iand dX5_choose_30 ?_
    refine sn_putI (ci := 5) (j := 1) dX5_choose_31 fl_X5_28 rfl (fun q h => by cases h; rfl) (fun μ31 => ?_)
    exact sn_vret dX5_choose_34
  intro j14 hj14
  refine sn_icmp_ge (tgt := 14) dX5_choose_5 (by decide) ?_ ?_
  · exact sn_mask (L' := [some (aA v.1), none, none, some (aI v.2.2.2), none]) [true, false, false, true, false] rfl (hj14 () μ)
  · refine sn_iload_n dX5_choose_8 rfl ?_
    refine sn_bipush dX5_choose_9 (by decide) ?_
    refine sn_icmp_lt (tgt := 35) dX5_choose_11 (by decide) ?_ ?_
    · refine sn_aload_n dX5_choose_35 rfl ?_
      refine sn_getA (ci := 5) (j := 3) dX5_choose_36 fl_X5_15 (by decide) (fun x36 => ?_)
      refine sn_iload_n dX5_choose_39 rfl ?_
      refine sn_iconst dX5_choose_40 ?_
      refine sn_iast dX5_choose_41 (fun μ41 => ?_)
      refine sn_aload_n dX5_choose_42 rfl ?_
      refine sn_aload_n dX5_choose_43 rfl ?_
      refine sn_iload_n dX5_choose_44 rfl ?_
      refine sn_callVI (vs := [aA v.2.1, aI v.2.2.1]) (ci := 5) (cX5_fitsUpTo_ok n v.1 v.2.1 v.2.2.1 μ41) dX5_choose_45 cw_X5_64 rfl rfl rfl (by omega) (by omega) (Nat.le_of_ble_eq_true rfl) (fun p45 => ?_)
      refine sn_jn (pcj := 60) (La := fun v60 : Unit => [some (aA v.1), some (aA v.2.1), some (aI v.2.2.1), some (aI v.2.2.2), none]) (Sa := fun v60 : Unit => []) ?_ ?_
      · intro v60 μ60
        refine sn_iconst dX5_choose_60 ?_
        refine sn_istore (L' := [some (aA v.1), some (aA v.2.1), some (aI v.2.2.1), some (aI v.2.2.2), some (aI 0)]) dX5_choose_61 (by decide) rfl ?_
        refine sn_lp (La := fun v63 : Int => [some (aA v.1), some (aA v.2.1), some (aI v.2.2.1), some (aI v.2.2.2), some (aI v63)]) ?_ n 0 μ60
        intro nx63 hnx63 v63 μ63
        refine sn_iload dX5_choose_63 rfl ?_
        refine sn_aload_n dX5_choose_65 rfl ?_
        refine sn_getI (ci := 1) (j := 1) dX5_choose_66 fl_X5_45 rfl (fun x66 => ?_)
        refine sn_icmp_ge (tgt := 118) dX5_choose_69 (by decide) ?_ ?_
        · exact sn_vret dX5_choose_118
        · refine sn_aload_n dX5_choose_72 rfl ?_
          refine sn_iload dX5_choose_73 rfl ?_
          refine sn_iload_n dX5_choose_75 rfl ?_
          refine sn_callVI (vs := [aI v63, aI v.2.2.1]) (ci := 1) (cX1_hangsOpen_ok n v.2.1 v63 v.2.2.1 μ63) dX5_choose_76 cw_X5_68 rfl rfl rfl (by omega) (by omega) (Nat.le_of_ble_eq_true rfl) (fun p76 => ?_)
          refine sn_if_eq (tgt := 112) dX5_choose_79 (by decide) ?_ ?_
          · refine sn_iinc (L' := [some (aA v.1), some (aA v.2.1), some (aI v.2.2.1), some (aI v.2.2.2), some (aI (v63 + 1))]) dX5_choose_112 rfl (by decide) rfl ?_
            refine sn_goto (tgt := 63) dX5_choose_115 (by decide) ?_
            exact hnx63 (v63 + 1) p76.2
          · refine sn_aload_n dX5_choose_82 rfl ?_
            refine sn_getA (ci := 5) (j := 3) dX5_choose_83 fl_X5_15 (by decide) (fun x83 => ?_)
            refine sn_iload_n dX5_choose_86 rfl ?_
            refine sn_iload dX5_choose_87 rfl ?_
            refine sn_iast dX5_choose_89 (fun μ89 => ?_)
            refine sn_aload_n dX5_choose_90 rfl ?_
            refine sn_aload_n dX5_choose_91 rfl ?_
            refine sn_iload_n dX5_choose_92 rfl ?_
            refine sn_callVI (vs := [aA v.2.1, aI v.2.2.1]) (ci := 5) (cX5_fitsUpTo_ok n v.1 v.2.1 v.2.2.1 μ89) dX5_choose_93 cw_X5_64 rfl rfl rfl (by omega) (by omega) (Nat.le_of_ble_eq_true rfl) (fun p93 => ?_)
            refine sn_if_eq (tgt := 112) dX5_choose_96 (by decide) ?_ ?_
            · refine sn_iinc (L' := [some (aA v.1), some (aA v.2.1), some (aI v.2.2.1), some (aI v.2.2.2), some (aI (v63 + 1))]) dX5_choose_112 rfl (by decide) rfl ?_
              refine sn_goto (tgt := 63) dX5_choose_115 (by decide) ?_
              exact hnx63 (v63 + 1) p93.2
            · refine sn_aload_n dX5_choose_99 rfl ?_
              refine sn_aload_n dX5_choose_100 rfl ?_
              refine sn_iload_n dX5_choose_101 rfl ?_
              refine sn_iconst dX5_choose_102 ?_
              refine sn_iadd dX5_choose_103 ?_
              refine sn_iload_n dX5_choose_104 rfl ?_
              refine sn_iconst dX5_choose_105 ?_
              refine sn_iload_n dX5_choose_106 rfl ?_
              refine sn_ishl dX5_choose_107 ?_
              refine sn_ior dX5_choose_108 ?_
              refine sn_callVV (vs := [aA v.2.1, aI (v.2.2.1 + 1), aI (oOr v.2.2.2 (oShl 1 v.2.2.1))]) (ci := 5) (hs (v.1, v.2.1, (v.2.2.1 + 1), (oOr v.2.2.2 (oShl 1 v.2.2.1))) p93.2) dX5_choose_109 cw_X5_41 rfl rfl rfl (by omega) (by omega) (Nat.le_of_ble_eq_true rfl) (fun p109 => ?_)
              refine sn_iinc (L' := [some (aA v.1), some (aA v.2.1), some (aI v.2.2.1), some (aI v.2.2.2), some (aI (v63 + 1))]) dX5_choose_112 rfl (by decide) rfl ?_
              refine sn_goto (tgt := 63) dX5_choose_115 (by decide) ?_
              exact hnx63 (v63 + 1) p109.2
      intro j60 hj60
      refine sn_if_eq (tgt := 60) dX5_choose_48 (by decide) ?_ ?_
      · exact hj60 () p45.2
      · refine sn_aload_n dX5_choose_51 rfl ?_
        refine sn_aload_n dX5_choose_52 rfl ?_
        refine sn_iload_n dX5_choose_53 rfl ?_
        refine sn_iconst dX5_choose_54 ?_
        refine sn_iadd dX5_choose_55 ?_
        refine sn_iload_n dX5_choose_56 rfl ?_
        refine sn_callVV (vs := [aA v.2.1, aI (v.2.2.1 + 1), aI v.2.2.2]) (ci := 5) (hs (v.1, v.2.1, (v.2.2.1 + 1), v.2.2.2) p45.2) dX5_choose_57 cw_X5_41 rfl rfl rfl (by omega) (by omega) (Nat.le_of_ble_eq_true rfl) (fun p57 => ?_)
        exact hj60 () p57.2
    · exact sn_mask (L' := [some (aA v.1), none, none, some (aI v.2.2.2), none]) [true, false, false, true, false] rfl (hj14 () μ)
def rX5_choose (n : Nat) : Nat → Nat × Nat × Int × Int → Mem → Option (Unit × Mem) := lp (bX5_choose n)
theorem rX5_choose_ok (n : Nat) : ∀ (d : Nat) (v : Nat × Nat × Int × Int) (μ : Mem), Mc yX5_choose cX5_choose 5 none (3 * d) (66 * d) eV [aA v.1, aA v.2.1, aI v.2.2.1, aI v.2.2.2] μ (rX5_choose n d v μ)
  | 0, v, μ => fun r μ' h => by cases h
  | d + 1, v, μ => bX5_choose_ok n (rX5_choose n d) (3 * d) (66 * d) (rX5_choose_ok n d) v μ
def mX5_choose (n : Nat) (a : Nat) (b1 : Nat) (b2 : Int) (b3 : Int) (μ : Mem) : Option (Unit × Mem) := rX5_choose n 12 (a, b1, b2, b3) μ
theorem cX5_choose_ok (n : Nat) (a : Nat) (b1 : Nat) (b2 : Int) (b3 : Int) (μ : Mem) : Mc yX5_choose cX5_choose 5 none 36 792 eV [aA a, aA b1, aI b2, aI b3] μ (mX5_choose n a b1 b2 b3 μ) := rX5_choose_ok n 12 (a, b1, b2, b3) μ
theorem dX5_watch_0 : decode cX5_watch 0 = .ok (.aload_n 0, 1) := by decide +kernel
theorem dX5_watch_1 : decode cX5_watch 1 = .ok (.iconst 0, 1) := by decide +kernel
theorem dX5_watch_2 : decode cX5_watch 2 = .ok (.putfield 19, 3) := by decide +kernel
theorem dX5_watch_5 : decode cX5_watch 5 = .ok (.aload_n 0, 1) := by decide +kernel
theorem dX5_watch_6 : decode cX5_watch 6 = .ok (.iconst 1, 1) := by decide +kernel
theorem dX5_watch_7 : decode cX5_watch 7 = .ok (.aload_n 1, 1) := by decide +kernel
theorem dX5_watch_8 : decode cX5_watch 8 = .ok (.getfield 23, 3) := by decide +kernel
theorem dX5_watch_11 : decode cX5_watch 11 = .ok (.ishl, 1) := by decide +kernel
theorem dX5_watch_12 : decode cX5_watch 12 = .ok (.iconst 1, 1) := by decide +kernel
theorem dX5_watch_13 : decode cX5_watch 13 = .ok (.isub, 1) := by decide +kernel
theorem dX5_watch_14 : decode cX5_watch 14 = .ok (.putfield 28, 3) := by decide +kernel
theorem dX5_watch_17 : decode cX5_watch 17 = .ok (.aload_n 0, 1) := by decide +kernel
theorem dX5_watch_18 : decode cX5_watch 18 = .ok (.getfield 15, 3) := by decide +kernel
theorem dX5_watch_21 : decode cX5_watch 21 = .ok (.iconst (-1), 1) := by decide +kernel
theorem dX5_watch_22 : decode cX5_watch 22 = .ok (.invokestatic 31, 3) := by decide +kernel
theorem dX5_watch_25 : decode cX5_watch 25 = .ok (.aload_n 0, 1) := by decide +kernel
theorem dX5_watch_26 : decode cX5_watch 26 = .ok (.aload_n 1, 1) := by decide +kernel
theorem dX5_watch_27 : decode cX5_watch 27 = .ok (.aload_n 2, 1) := by decide +kernel
theorem dX5_watch_28 : decode cX5_watch 28 = .ok (.invokevirtual 37, 3) := by decide +kernel
theorem dX5_watch_31 : decode cX5_watch 31 = .ok (.ifCond .eq 10, 3) := by decide +kernel
theorem dX5_watch_34 : decode cX5_watch 34 = .ok (.aload_n 0, 1) := by decide +kernel
theorem dX5_watch_35 : decode cX5_watch 35 = .ok (.aload_n 1, 1) := by decide +kernel
theorem dX5_watch_36 : decode cX5_watch 36 = .ok (.iconst 0, 1) := by decide +kernel
theorem dX5_watch_37 : decode cX5_watch 37 = .ok (.iconst 0, 1) := by decide +kernel
theorem dX5_watch_38 : decode cX5_watch 38 = .ok (.invokevirtual 41, 3) := by decide +kernel
theorem dX5_watch_41 : decode cX5_watch 41 = .ok (.return_, 1) := by decide +kernel
def mX5_watch (n : Nat) (a : Nat) (b1 : Nat) (b2 : Nat) (μ : Mem) : Option (Unit × Mem) :=
  (pI μ 6 a 0 0).bind fun μ2 =>
  (gI μ2 2 b1 0).bind fun x8 =>
  (pI μ2 6 a 1 ((oShl 1 x8) - 1)).bind fun μ14 =>
  (gA μ14 6 a 3).bind fun x18 =>
  (mJ7_fill_53178 n x18 (-1) μ14).bind fun p22 =>
  (inv p22.2 6 a (mX5_compare n a b1 b2 p22.2)).bind fun p28 =>
  if eq32 p28.1 0 then
    some ((), p28.2)
  else
  (inv p28.2 6 a (mX5_choose n a b1 0 0 p28.2)).bind fun p38 =>
  some ((), p38.2)
set_option maxRecDepth 100000 in
set_option maxHeartbeats 4000000 in
theorem cX5_watch_ok (n : Nat) (a : Nat) (b1 : Nat) (b2 : Nat) (μ : Mem) : Mc yX5_watch cX5_watch 3 none 37 816 eV [aA a, aA b1, aA b2] μ (mX5_watch n a b1 b2 μ) := by
  refine mc_of (L0 := [some (aA a), some (aA b1), some (aA b2)]) (k := 0) (by decide) rfl rfl (fun X Γ => ?_)
  unfold mX5_watch
  refine sn_aload_n dX5_watch_0 rfl ?_
  refine sn_iconst dX5_watch_1 ?_
  refine sn_putI (ci := 5) (j := 0) dX5_watch_2 fl_X5_19 rfl (fun q h => by cases h; rfl) (fun μ2 => ?_)
  refine sn_aload_n dX5_watch_5 rfl ?_
  refine sn_iconst dX5_watch_6 ?_
  refine sn_aload_n dX5_watch_7 rfl ?_
  refine sn_getI (ci := 1) (j := 0) dX5_watch_8 fl_X5_23 rfl (fun x8 => ?_)
  refine sn_ishl dX5_watch_11 ?_
  refine sn_iconst dX5_watch_12 ?_
  refine sn_isub dX5_watch_13 ?_
  refine sn_putI (ci := 5) (j := 1) dX5_watch_14 fl_X5_28 rfl (fun q h => by cases h; rfl) (fun μ14 => ?_)
  refine sn_aload_n dX5_watch_17 rfl ?_
  refine sn_getA (ci := 5) (j := 3) dX5_watch_18 fl_X5_15 (by decide) (fun x18 => ?_)
  refine sn_iconst dX5_watch_21 ?_
  refine sn_callSV (vs := [aA x18, aI (-1)]) (cJ7_fill_53178_ok n x18 (-1) μ14) dX5_watch_22 cw_X5_31 rfl (by decide) (by decide) (Nat.le_of_ble_eq_true rfl) (fun p22 => ?_)
  refine sn_aload_n dX5_watch_25 rfl ?_
  refine sn_aload_n dX5_watch_26 rfl ?_
  refine sn_aload_n dX5_watch_27 rfl ?_
  refine sn_callVI (vs := [aA b1, aA b2]) (ci := 5) (cX5_compare_ok n a b1 b2 p22.2) dX5_watch_28 cw_X5_37 rfl rfl rfl (by decide) (by decide) (Nat.le_of_ble_eq_true rfl) (fun p28 => ?_)
  refine sn_if_eq (tgt := 41) dX5_watch_31 (by decide) ?_ ?_
  · exact sn_vret dX5_watch_41
  · refine sn_aload_n dX5_watch_34 rfl ?_
    refine sn_aload_n dX5_watch_35 rfl ?_
    refine sn_iconst dX5_watch_36 ?_
    refine sn_iconst dX5_watch_37 ?_
    refine sn_callVV (vs := [aA b1, aI 0, aI 0]) (ci := 5) (cX5_choose_ok n a b1 0 0 p28.2) dX5_watch_38 cw_X5_41 rfl rfl rfl (by decide) (by decide) (Nat.le_of_ble_eq_true rfl) (fun p38 => ?_)
    exact sn_vret dX5_watch_41
