/-! layer 1: search2 -/
theorem dX4_spread_0 : decode cX4_spread 0 = .ok (.aload_n 0, 1) := by decide +kernel
theorem dX4_spread_1 : decode cX4_spread 1 = .ok (.lload_n 1, 1) := by decide +kernel
theorem dX4_spread_2 : decode cX4_spread 2 = .ok (.invokevirtual 128, 3) := by decide +kernel
theorem dX4_spread_5 : decode cX4_spread 5 = .ok (.lconst 0, 1) := by decide +kernel
theorem dX4_spread_6 : decode cX4_spread 6 = .ok (.lstore 5, 2) := by decide +kernel
theorem dX4_spread_8 : decode cX4_spread 8 = .ok (.iconst 0, 1) := by decide +kernel
theorem dX4_spread_9 : decode cX4_spread 9 = .ok (.istore 7, 2) := by decide +kernel
theorem dX4_spread_11 : decode cX4_spread 11 = .ok (.iload 7, 2) := by decide +kernel
theorem dX4_spread_13 : decode cX4_spread 13 = .ok (.aload_n 0, 1) := by decide +kernel
theorem dX4_spread_14 : decode cX4_spread 14 = .ok (.getfield 105, 3) := by decide +kernel
theorem dX4_spread_17 : decode cX4_spread 17 = .ok (.if_icmp .ge 111, 3) := by decide +kernel
theorem dX4_spread_20 : decode cX4_spread 20 = .ok (.aload_n 0, 1) := by decide +kernel
theorem dX4_spread_21 : decode cX4_spread 21 = .ok (.aload_n 0, 1) := by decide +kernel
theorem dX4_spread_22 : decode cX4_spread 22 = .ok (.getfield 25, 3) := by decide +kernel
theorem dX4_spread_25 : decode cX4_spread 25 = .ok (.iload 7, 2) := by decide +kernel
theorem dX4_spread_27 : decode cX4_spread 27 = .ok (.iaload, 1) := by decide +kernel
theorem dX4_spread_28 : decode cX4_spread 28 = .ok (.invokevirtual 132, 3) := by decide +kernel
theorem dX4_spread_31 : decode cX4_spread 31 = .ok (.istore 8, 2) := by decide +kernel
theorem dX4_spread_33 : decode cX4_spread 33 = .ok (.lload 5, 2) := by decide +kernel
theorem dX4_spread_35 : decode cX4_spread 35 = .ok (.iload 8, 2) := by decide +kernel
theorem dX4_spread_37 : decode cX4_spread 37 = .ok (.lushr, 1) := by decide +kernel
theorem dX4_spread_38 : decode cX4_spread 38 = .ok (.lconst 1, 1) := by decide +kernel
theorem dX4_spread_39 : decode cX4_spread 39 = .ok (.land, 1) := by decide +kernel
theorem dX4_spread_40 : decode cX4_spread 40 = .ok (.lconst 0, 1) := by decide +kernel
theorem dX4_spread_41 : decode cX4_spread 41 = .ok (.lcmp, 1) := by decide +kernel
theorem dX4_spread_42 : decode cX4_spread 42 = .ok (.ifCond .ne 80, 3) := by decide +kernel
theorem dX4_spread_45 : decode cX4_spread 45 = .ok (.lload 5, 2) := by decide +kernel
theorem dX4_spread_47 : decode cX4_spread 47 = .ok (.lconst 1, 1) := by decide +kernel
theorem dX4_spread_48 : decode cX4_spread 48 = .ok (.iload 8, 2) := by decide +kernel
theorem dX4_spread_50 : decode cX4_spread 50 = .ok (.lshl, 1) := by decide +kernel
theorem dX4_spread_51 : decode cX4_spread 51 = .ok (.lor, 1) := by decide +kernel
theorem dX4_spread_52 : decode cX4_spread 52 = .ok (.lstore 5, 2) := by decide +kernel
theorem dX4_spread_54 : decode cX4_spread 54 = .ok (.iload_n 3, 1) := by decide +kernel
theorem dX4_spread_55 : decode cX4_spread 55 = .ok (.aload_n 0, 1) := by decide +kernel
theorem dX4_spread_56 : decode cX4_spread 56 = .ok (.getfield 28, 3) := by decide +kernel
theorem dX4_spread_59 : decode cX4_spread 59 = .ok (.iload 7, 2) := by decide +kernel
theorem dX4_spread_61 : decode cX4_spread 61 = .ok (.iaload, 1) := by decide +kernel
theorem dX4_spread_62 : decode cX4_spread 62 = .ok (.iadd, 1) := by decide +kernel
theorem dX4_spread_63 : decode cX4_spread 63 = .ok (.istore 9, 2) := by decide +kernel
theorem dX4_spread_65 : decode cX4_spread 65 = .ok (.aload_n 0, 1) := by decide +kernel
theorem dX4_spread_66 : decode cX4_spread 66 = .ok (.lload_n 1, 1) := by decide +kernel
theorem dX4_spread_67 : decode cX4_spread 67 = .ok (.iload 8, 2) := by decide +kernel
theorem dX4_spread_69 : decode cX4_spread 69 = .ok (.invokevirtual 135, 3) := by decide +kernel
theorem dX4_spread_72 : decode cX4_spread 72 = .ok (.lstore 10, 2) := by decide +kernel
theorem dX4_spread_74 : decode cX4_spread 74 = .ok (.lload 10, 2) := by decide +kernel
theorem dX4_spread_76 : decode cX4_spread 76 = .ok (.bipush 46, 2) := by decide +kernel
theorem dX4_spread_78 : decode cX4_spread 78 = .ok (.lushr, 1) := by decide +kernel
theorem dX4_spread_79 : decode cX4_spread 79 = .ok (.l2i, 1) := by decide +kernel
theorem dX4_spread_80 : decode cX4_spread 80 = .ok (.aload_n 0, 1) := by decide +kernel
theorem dX4_spread_81 : decode cX4_spread 81 = .ok (.getfield 84, 3) := by decide +kernel
theorem dX4_spread_84 : decode cX4_spread 84 = .ok (.if_icmp .ge 15, 3) := by decide +kernel
theorem dX4_spread_87 : decode cX4_spread 87 = .ok (.aload 4, 2) := by decide +kernel
theorem dX4_spread_89 : decode cX4_spread 89 = .ok (.lload 10, 2) := by decide +kernel
theorem dX4_spread_91 : decode cX4_spread 91 = .ok (.iload 9, 2) := by decide +kernel
theorem dX4_spread_93 : decode cX4_spread 93 = .ok (.invokevirtual 55, 3) := by decide +kernel
theorem dX4_spread_96 : decode cX4_spread 96 = .ok (.goto 26, 3) := by decide +kernel
theorem dX4_spread_99 : decode cX4_spread 99 = .ok (.aload_n 0, 1) := by decide +kernel
theorem dX4_spread_100 : decode cX4_spread 100 = .ok (.getfield 63, 3) := by decide +kernel
theorem dX4_spread_103 : decode cX4_spread 103 = .ok (.iconst (-1), 1) := by decide +kernel
theorem dX4_spread_104 : decode cX4_spread 104 = .ok (.if_icmp .eq 12, 3) := by decide +kernel
theorem dX4_spread_107 : decode cX4_spread 107 = .ok (.iload 9, 2) := by decide +kernel
theorem dX4_spread_109 : decode cX4_spread 109 = .ok (.aload_n 0, 1) := by decide +kernel
theorem dX4_spread_110 : decode cX4_spread 110 = .ok (.getfield 63, 3) := by decide +kernel
theorem dX4_spread_113 : decode cX4_spread 113 = .ok (.if_icmp .ge 9, 3) := by decide +kernel
theorem dX4_spread_116 : decode cX4_spread 116 = .ok (.aload_n 0, 1) := by decide +kernel
theorem dX4_spread_117 : decode cX4_spread 117 = .ok (.iload 9, 2) := by decide +kernel
theorem dX4_spread_119 : decode cX4_spread 119 = .ok (.putfield 63, 3) := by decide +kernel
theorem dX4_spread_122 : decode cX4_spread 122 = .ok (.iinc 7 1, 3) := by decide +kernel
theorem dX4_spread_125 : decode cX4_spread 125 = .ok (.goto (-114), 3) := by decide +kernel
theorem dX4_spread_128 : decode cX4_spread 128 = .ok (.return_, 1) := by decide +kernel
def mX4_spread (n : Nat) (a : Nat) (b1 : Int) (b2 : Int) (b3 : Nat) (μ : Mem) : Option (Unit × Mem) :=
  (inv μ 5 a (mX4_lookAhead n a b1 μ)).bind fun p2 =>
  lp (fun nx11 (v11 : Int × Int) (μ11 : Mem) =>
  (gI μ11 5 a 6).bind fun x14 =>
  if lt32 v11.2 x14 then
    (gA μ11 5 a 4).bind fun x22 =>
    (ldI μ11 0 x22 v11.2).bind fun x27 =>
    (inv μ11 5 a (mX4_likeChoice n a x27 μ11)).bind fun p28 =>
    if eq32 (oLcmp (lAnd (lUshr v11.1 p28.1) 1) 0) 0 then
      (gA p28.2 5 a 5).bind fun x56 =>
      (ldI p28.2 0 x56 v11.2).bind fun x61 =>
      (inv p28.2 5 a (mX4_behindHour n a b1 p28.1 p28.2)).bind fun p69 =>
      (gI p69.2 5 a 12).bind fun x81 =>
      if lt32 (lUshr p69.1 46) x81 then
        (inv p69.2 7 b3 (mX6_add n b3 p69.1 (b2 + x61) p69.2)).bind fun p93 =>
        nx11 ((lOr v11.1 (lShl 1 p28.1)), (v11.2 + 1)) p93.2
      else
      (gI p69.2 5 a 13).bind fun x100 =>
      jn (fun (v116 : Unit) (μ116 : Mem) =>
      (pI μ116 5 a 13 (b2 + x61)).bind fun μ119 =>
      nx11 ((lOr v11.1 (lShl 1 p28.1)), (v11.2 + 1)) μ119) (fun j116 =>
      if eq32 x100 (-1) then
        j116 () p69.2
      else
      (gI p69.2 5 a 13).bind fun x110 =>
      if lt32 (b2 + x61) x110 then
        j116 () p69.2
      else
      nx11 ((lOr v11.1 (lShl 1 p28.1)), (v11.2 + 1)) p69.2)
    else
    nx11 (v11.1, (v11.2 + 1)) p28.2
  else
  some ((), μ11)) n (0, 0) p2.2
set_option maxRecDepth 100000 in
set_option maxHeartbeats 4000000 in
theorem cX4_spread_ok (n : Nat) (a : Nat) (b1 : Int) (b2 : Int) (b3 : Nat) (μ : Mem) : Mc yX4_spread cX4_spread 12 none 3 92 eV [aA a, aJ b1, aI b2, aA b3] μ (mX4_spread n a b1 b2 b3 μ) := by
  refine mc_of (L0 := [some (aA a), some (aJ b1), none, some (aI b2), some (aA b3), none, none, none, none, none, none, none]) (k := 7) (by decide) rfl rfl (fun X Γ => ?_)
  unfold mX4_spread
  refine sn_aload_n dX4_spread_0 rfl ?_
  refine sn_lload_n dX4_spread_1 rfl ?_
  refine sn_callVV (vs := [aJ b1]) (ci := 4) (cX4_lookAhead_ok n a b1 μ) dX4_spread_2 cw_X4_128 rfl rfl rfl (by decide) (by decide) (Nat.le_of_ble_eq_true rfl) (fun p2 => ?_)
  refine sn_lconst (v := 0) dX4_spread_5 (by decide) ?_
  refine sn_lstore (L' := [some (aA a), some (aJ b1), none, some (aI b2), some (aA b3), some (aJ 0), none, none, none, none, none, none]) dX4_spread_6 (by decide) rfl ?_
  refine sn_iconst dX4_spread_8 ?_
  refine sn_istore (L' := [some (aA a), some (aJ b1), none, some (aI b2), some (aA b3), some (aJ 0), none, some (aI 0), none, none, none, none]) dX4_spread_9 (by decide) rfl ?_
  refine sn_lp (La := fun v11 : Int × Int => [some (aA a), some (aJ b1), none, some (aI b2), some (aA b3), some (aJ v11.1), none, some (aI v11.2), none, none, none, none]) ?_ n (0, 0) p2.2
  intro nx11 hnx11 v11 μ11
  refine sn_iload dX4_spread_11 rfl ?_
  refine sn_aload_n dX4_spread_13 rfl ?_
  refine sn_getI (ci := 4) (j := 6) dX4_spread_14 fl_X4_105 rfl (fun x14 => ?_)
  refine sn_icmp_ge (tgt := 128) dX4_spread_17 (by decide) ?_ ?_
  · exact sn_vret dX4_spread_128
  · refine sn_aload_n dX4_spread_20 rfl ?_
    refine sn_aload_n dX4_spread_21 rfl ?_
    refine sn_getA (ci := 4) (j := 4) dX4_spread_22 fl_X4_25 (by decide) (fun x22 => ?_)
    refine sn_iload dX4_spread_25 rfl ?_
    refine sn_iald dX4_spread_27 (fun x27 => ?_)
    refine sn_callVI (vs := [aI x27]) (ci := 4) (cX4_likeChoice_ok n a x27 μ11) dX4_spread_28 cw_X4_132 rfl rfl rfl (by decide) (by decide) (Nat.le_of_ble_eq_true rfl) (fun p28 => ?_)
    refine sn_istore (L' := [some (aA a), some (aJ b1), none, some (aI b2), some (aA b3), some (aJ v11.1), none, some (aI v11.2), some (aI p28.1), none, none, none]) dX4_spread_31 (by decide) rfl ?_
    refine sn_lload dX4_spread_33 rfl ?_
    refine sn_iload dX4_spread_35 rfl ?_
    refine sn_lushr dX4_spread_37 ?_
    refine sn_lconst (v := 1) dX4_spread_38 (by decide) ?_
    refine sn_land dX4_spread_39 ?_
    refine sn_lconst (v := 0) dX4_spread_40 (by decide) ?_
    refine sn_lcmp dX4_spread_41 ?_
    refine sn_if_ne (tgt := 122) dX4_spread_42 (by decide) ?_ ?_
    · refine sn_iinc (L' := [some (aA a), some (aJ b1), none, some (aI b2), some (aA b3), some (aJ v11.1), none, some (aI (v11.2 + 1)), some (aI p28.1), none, none, none]) dX4_spread_122 rfl (by decide) rfl ?_
      refine sn_goto (tgt := 11) dX4_spread_125 (by decide) ?_
      exact sn_mask (L' := [some (aA a), some (aJ b1), none, some (aI b2), some (aA b3), some (aJ v11.1), none, some (aI (v11.2 + 1)), none, none, none, none]) [true, true, false, true, true, true, false, true, false, false, false, false] rfl (hnx11 (v11.1, (v11.2 + 1)) p28.2)
    · refine sn_lload dX4_spread_45 rfl ?_
      refine sn_lconst (v := 1) dX4_spread_47 (by decide) ?_
      refine sn_iload dX4_spread_48 rfl ?_
      refine sn_lshl dX4_spread_50 ?_
      refine sn_lor dX4_spread_51 ?_
      refine sn_lstore (L' := [some (aA a), some (aJ b1), none, some (aI b2), some (aA b3), some (aJ (lOr v11.1 (lShl 1 p28.1))), none, some (aI v11.2), some (aI p28.1), none, none, none]) dX4_spread_52 (by decide) rfl ?_
      refine sn_iload_n dX4_spread_54 rfl ?_
      refine sn_aload_n dX4_spread_55 rfl ?_
      refine sn_getA (ci := 4) (j := 5) dX4_spread_56 fl_X4_28 (by decide) (fun x56 => ?_)
      refine sn_iload dX4_spread_59 rfl ?_
      refine sn_iald dX4_spread_61 (fun x61 => ?_)
      refine sn_iadd dX4_spread_62 ?_
      refine sn_istore (L' := [some (aA a), some (aJ b1), none, some (aI b2), some (aA b3), some (aJ (lOr v11.1 (lShl 1 p28.1))), none, some (aI v11.2), some (aI p28.1), some (aI (b2 + x61)), none, none]) dX4_spread_63 (by decide) rfl ?_
      refine sn_aload_n dX4_spread_65 rfl ?_
      refine sn_lload_n dX4_spread_66 rfl ?_
      refine sn_iload dX4_spread_67 rfl ?_
      refine sn_callVJ (vs := [aJ b1, aI p28.1]) (ci := 4) (cX4_behindHour_ok n a b1 p28.1 p28.2) dX4_spread_69 cw_X4_135 rfl rfl rfl (by decide) (by decide) (Nat.le_of_ble_eq_true rfl) (fun p69 => ?_)
      refine sn_lstore (L' := [some (aA a), some (aJ b1), none, some (aI b2), some (aA b3), some (aJ (lOr v11.1 (lShl 1 p28.1))), none, some (aI v11.2), some (aI p28.1), some (aI (b2 + x61)), some (aJ p69.1), none]) dX4_spread_72 (by decide) rfl ?_
      refine sn_lload dX4_spread_74 rfl ?_
      refine sn_bipush dX4_spread_76 (by decide) ?_
      refine sn_lushr dX4_spread_78 ?_
      refine sn_l2i dX4_spread_79 ?_
      refine sn_aload_n dX4_spread_80 rfl ?_
      refine sn_getI (ci := 4) (j := 12) dX4_spread_81 fl_X4_84 rfl (fun x81 => ?_)
      refine sn_icmp_ge (tgt := 99) dX4_spread_84 (by decide) ?_ ?_
      · refine sn_aload_n dX4_spread_99 rfl ?_
        refine sn_getI (ci := 4) (j := 13) dX4_spread_100 fl_X4_63 rfl (fun x100 => ?_)
        refine sn_iconst dX4_spread_103 ?_
        refine sn_jn (pcj := 116) (La := fun v116 : Unit => [some (aA a), some (aJ b1), none, some (aI b2), some (aA b3), some (aJ (lOr v11.1 (lShl 1 p28.1))), none, some (aI v11.2), none, some (aI (b2 + x61)), none, none]) (Sa := fun v116 : Unit => []) ?_ ?_
        · intro v116 μ116
          refine sn_aload_n dX4_spread_116 rfl ?_
          refine sn_iload dX4_spread_117 rfl ?_
          refine sn_putI (ci := 4) (j := 13) dX4_spread_119 fl_X4_63 rfl (fun q h => by cases h; rfl) (fun μ119 => ?_)
          refine sn_iinc (L' := [some (aA a), some (aJ b1), none, some (aI b2), some (aA b3), some (aJ (lOr v11.1 (lShl 1 p28.1))), none, some (aI (v11.2 + 1)), none, some (aI (b2 + x61)), none, none]) dX4_spread_122 rfl (by decide) rfl ?_
          refine sn_goto (tgt := 11) dX4_spread_125 (by decide) ?_
          exact sn_mask (L' := [some (aA a), some (aJ b1), none, some (aI b2), some (aA b3), some (aJ (lOr v11.1 (lShl 1 p28.1))), none, some (aI (v11.2 + 1)), none, none, none, none]) [true, true, false, true, true, true, false, true, false, false, false, false] rfl (hnx11 ((lOr v11.1 (lShl 1 p28.1)), (v11.2 + 1)) μ119)
        intro j116 hj116
        refine sn_icmp_eq (tgt := 116) dX4_spread_104 (by decide) ?_ ?_
        · exact sn_mask (L' := [some (aA a), some (aJ b1), none, some (aI b2), some (aA b3), some (aJ (lOr v11.1 (lShl 1 p28.1))), none, some (aI v11.2), none, some (aI (b2 + x61)), none, none]) [true, true, false, true, true, true, false, true, false, true, false, false] rfl (hj116 () p69.2)
        · refine sn_iload dX4_spread_107 rfl ?_
          refine sn_aload_n dX4_spread_109 rfl ?_
          refine sn_getI (ci := 4) (j := 13) dX4_spread_110 fl_X4_63 rfl (fun x110 => ?_)
          refine sn_icmp_ge (tgt := 122) dX4_spread_113 (by decide) ?_ ?_
          · refine sn_iinc (L' := [some (aA a), some (aJ b1), none, some (aI b2), some (aA b3), some (aJ (lOr v11.1 (lShl 1 p28.1))), none, some (aI (v11.2 + 1)), some (aI p28.1), some (aI (b2 + x61)), some (aJ p69.1), none]) dX4_spread_122 rfl (by decide) rfl ?_
            refine sn_goto (tgt := 11) dX4_spread_125 (by decide) ?_
            exact sn_mask (L' := [some (aA a), some (aJ b1), none, some (aI b2), some (aA b3), some (aJ (lOr v11.1 (lShl 1 p28.1))), none, some (aI (v11.2 + 1)), none, none, none, none]) [true, true, false, true, true, true, false, true, false, false, false, false] rfl (hnx11 ((lOr v11.1 (lShl 1 p28.1)), (v11.2 + 1)) p69.2)
          · exact sn_mask (L' := [some (aA a), some (aJ b1), none, some (aI b2), some (aA b3), some (aJ (lOr v11.1 (lShl 1 p28.1))), none, some (aI v11.2), none, some (aI (b2 + x61)), none, none]) [true, true, false, true, true, true, false, true, false, true, false, false] rfl (hj116 () p69.2)
      · refine sn_aload dX4_spread_87 rfl ?_
        refine sn_lload dX4_spread_89 rfl ?_
        refine sn_iload dX4_spread_91 rfl ?_
        refine sn_callVV (vs := [aJ p69.1, aI (b2 + x61)]) (ci := 6) (cX6_add_ok n b3 p69.1 (b2 + x61) p69.2) dX4_spread_93 cw_X4_55 rfl rfl rfl (by decide) (by decide) (Nat.le_of_ble_eq_true rfl) (fun p93 => ?_)
        refine sn_goto (tgt := 122) dX4_spread_96 (by decide) ?_
        refine sn_iinc (L' := [some (aA a), some (aJ b1), none, some (aI b2), some (aA b3), some (aJ (lOr v11.1 (lShl 1 p28.1))), none, some (aI (v11.2 + 1)), some (aI p28.1), some (aI (b2 + x61)), some (aJ p69.1), none]) dX4_spread_122 rfl (by decide) rfl ?_
        refine sn_goto (tgt := 11) dX4_spread_125 (by decide) ?_
        exact sn_mask (L' := [some (aA a), some (aJ b1), none, some (aI b2), some (aA b3), some (aJ (lOr v11.1 (lShl 1 p28.1))), none, some (aI (v11.2 + 1)), none, none, none, none]) [true, true, false, true, true, true, false, true, false, false, false, false] rfl (hnx11 ((lOr v11.1 (lShl 1 p28.1)), (v11.2 + 1)) p93.2)
theorem dX4_fewestPulls_0 : decode cX4_fewestPulls 0 = .ok (.aload_n 0, 1) := by decide +kernel
theorem dX4_fewestPulls_1 : decode cX4_fewestPulls 1 = .ok (.iload_n 1, 1) := by decide +kernel
theorem dX4_fewestPulls_2 : decode cX4_fewestPulls 2 = .ok (.iconst 1, 1) := by decide +kernel
theorem dX4_fewestPulls_3 : decode cX4_fewestPulls 3 = .ok (.iconst (-1), 1) := by decide +kernel
theorem dX4_fewestPulls_4 : decode cX4_fewestPulls 4 = .ok (.invokevirtual 44, 3) := by decide +kernel
theorem dX4_fewestPulls_7 : decode cX4_fewestPulls 7 = .ok (.ifCond .ne 6, 3) := by decide +kernel
theorem dX4_fewestPulls_10 : decode cX4_fewestPulls 10 = .ok (.bipush (-4), 2) := by decide +kernel
theorem dX4_fewestPulls_12 : decode cX4_fewestPulls 12 = .ok (.ireturn, 1) := by decide +kernel
theorem dX4_fewestPulls_13 : decode cX4_fewestPulls 13 = .ok (.aload_n 0, 1) := by decide +kernel
theorem dX4_fewestPulls_14 : decode cX4_fewestPulls 14 = .ok (.getfield 14, 3) := by decide +kernel
theorem dX4_fewestPulls_17 : decode cX4_fewestPulls 17 = .ok (.invokevirtual 48, 3) := by decide +kernel
theorem dX4_fewestPulls_20 : decode cX4_fewestPulls 20 = .ok (.aload_n 0, 1) := by decide +kernel
theorem dX4_fewestPulls_21 : decode cX4_fewestPulls 21 = .ok (.getfield 14, 3) := by decide +kernel
theorem dX4_fewestPulls_24 : decode cX4_fewestPulls 24 = .ok (.aload_n 0, 1) := by decide +kernel
theorem dX4_fewestPulls_25 : decode cX4_fewestPulls 25 = .ok (.invokevirtual 51, 3) := by decide +kernel
theorem dX4_fewestPulls_28 : decode cX4_fewestPulls 28 = .ok (.iconst 0, 1) := by decide +kernel
theorem dX4_fewestPulls_29 : decode cX4_fewestPulls 29 = .ok (.invokevirtual 55, 3) := by decide +kernel
theorem dX4_fewestPulls_32 : decode cX4_fewestPulls 32 = .ok (.aload_n 0, 1) := by decide +kernel
theorem dX4_fewestPulls_33 : decode cX4_fewestPulls 33 = .ok (.iconst (-1), 1) := by decide +kernel
theorem dX4_fewestPulls_34 : decode cX4_fewestPulls 34 = .ok (.putfield 63, 3) := by decide +kernel
theorem dX4_fewestPulls_37 : decode cX4_fewestPulls 37 = .ok (.iconst 1, 1) := by decide +kernel
theorem dX4_fewestPulls_38 : decode cX4_fewestPulls 38 = .ok (.istore_n 3, 1) := by decide +kernel
theorem dX4_fewestPulls_39 : decode cX4_fewestPulls 39 = .ok (.iload_n 3, 1) := by decide +kernel
theorem dX4_fewestPulls_40 : decode cX4_fewestPulls 40 = .ok (.iload_n 2, 1) := by decide +kernel
theorem dX4_fewestPulls_41 : decode cX4_fewestPulls 41 = .ok (.if_icmp .gt 103, 3) := by decide +kernel
theorem dX4_fewestPulls_44 : decode cX4_fewestPulls 44 = .ok (.aload_n 0, 1) := by decide +kernel
theorem dX4_fewestPulls_45 : decode cX4_fewestPulls 45 = .ok (.getfield 18, 3) := by decide +kernel
theorem dX4_fewestPulls_48 : decode cX4_fewestPulls 48 = .ok (.invokevirtual 48, 3) := by decide +kernel
theorem dX4_fewestPulls_51 : decode cX4_fewestPulls 51 = .ok (.iconst 0, 1) := by decide +kernel
theorem dX4_fewestPulls_52 : decode cX4_fewestPulls 52 = .ok (.istore 4, 2) := by decide +kernel
theorem dX4_fewestPulls_54 : decode cX4_fewestPulls 54 = .ok (.iload 4, 2) := by decide +kernel
theorem dX4_fewestPulls_56 : decode cX4_fewestPulls 56 = .ok (.aload_n 0, 1) := by decide +kernel
theorem dX4_fewestPulls_57 : decode cX4_fewestPulls 57 = .ok (.getfield 14, 3) := by decide +kernel
theorem dX4_fewestPulls_60 : decode cX4_fewestPulls 60 = .ok (.getfield 59, 3) := by decide +kernel
theorem dX4_fewestPulls_63 : decode cX4_fewestPulls 63 = .ok (.if_icmp .ge 37, 3) := by decide +kernel
theorem dX4_fewestPulls_66 : decode cX4_fewestPulls 66 = .ok (.aload_n 0, 1) := by decide +kernel
theorem dX4_fewestPulls_67 : decode cX4_fewestPulls 67 = .ok (.aload_n 0, 1) := by decide +kernel
theorem dX4_fewestPulls_68 : decode cX4_fewestPulls 68 = .ok (.getfield 14, 3) := by decide +kernel
theorem dX4_fewestPulls_71 : decode cX4_fewestPulls 71 = .ok (.getfield 66, 3) := by decide +kernel
theorem dX4_fewestPulls_74 : decode cX4_fewestPulls 74 = .ok (.iload 4, 2) := by decide +kernel
theorem dX4_fewestPulls_76 : decode cX4_fewestPulls 76 = .ok (.laload, 1) := by decide +kernel
theorem dX4_fewestPulls_77 : decode cX4_fewestPulls 77 = .ok (.aload_n 0, 1) := by decide +kernel
theorem dX4_fewestPulls_78 : decode cX4_fewestPulls 78 = .ok (.getfield 14, 3) := by decide +kernel
theorem dX4_fewestPulls_81 : decode cX4_fewestPulls 81 = .ok (.getfield 78, 3) := by decide +kernel
theorem dX4_fewestPulls_84 : decode cX4_fewestPulls 84 = .ok (.iload 4, 2) := by decide +kernel
theorem dX4_fewestPulls_86 : decode cX4_fewestPulls 86 = .ok (.iaload, 1) := by decide +kernel
theorem dX4_fewestPulls_87 : decode cX4_fewestPulls 87 = .ok (.aload_n 0, 1) := by decide +kernel
theorem dX4_fewestPulls_88 : decode cX4_fewestPulls 88 = .ok (.getfield 18, 3) := by decide +kernel
theorem dX4_fewestPulls_91 : decode cX4_fewestPulls 91 = .ok (.invokevirtual 70, 3) := by decide +kernel
theorem dX4_fewestPulls_94 : decode cX4_fewestPulls 94 = .ok (.iinc 4 1, 3) := by decide +kernel
theorem dX4_fewestPulls_97 : decode cX4_fewestPulls 97 = .ok (.goto (-43), 3) := by decide +kernel
theorem dX4_fewestPulls_100 : decode cX4_fewestPulls 100 = .ok (.iload_n 3, 1) := by decide +kernel
theorem dX4_fewestPulls_101 : decode cX4_fewestPulls 101 = .ok (.iload_n 2, 1) := by decide +kernel
theorem dX4_fewestPulls_102 : decode cX4_fewestPulls 102 = .ok (.if_icmp .ge 16, 3) := by decide +kernel
theorem dX4_fewestPulls_105 : decode cX4_fewestPulls 105 = .ok (.aload_n 0, 1) := by decide +kernel
theorem dX4_fewestPulls_106 : decode cX4_fewestPulls 106 = .ok (.getfield 18, 3) := by decide +kernel
theorem dX4_fewestPulls_109 : decode cX4_fewestPulls 109 = .ok (.invokevirtual 74, 3) := by decide +kernel
theorem dX4_fewestPulls_112 : decode cX4_fewestPulls 112 = .ok (.ifCond .eq 6, 3) := by decide +kernel
theorem dX4_fewestPulls_115 : decode cX4_fewestPulls 115 = .ok (.bipush (-4), 2) := by decide +kernel
theorem dX4_fewestPulls_117 : decode cX4_fewestPulls 117 = .ok (.ireturn, 1) := by decide +kernel
theorem dX4_fewestPulls_118 : decode cX4_fewestPulls 118 = .ok (.aload_n 0, 1) := by decide +kernel
theorem dX4_fewestPulls_119 : decode cX4_fewestPulls 119 = .ok (.getfield 14, 3) := by decide +kernel
theorem dX4_fewestPulls_122 : decode cX4_fewestPulls 122 = .ok (.astore 4, 2) := by decide +kernel
theorem dX4_fewestPulls_124 : decode cX4_fewestPulls 124 = .ok (.aload_n 0, 1) := by decide +kernel
theorem dX4_fewestPulls_125 : decode cX4_fewestPulls 125 = .ok (.aload_n 0, 1) := by decide +kernel
theorem dX4_fewestPulls_126 : decode cX4_fewestPulls 126 = .ok (.getfield 18, 3) := by decide +kernel
theorem dX4_fewestPulls_129 : decode cX4_fewestPulls 129 = .ok (.putfield 14, 3) := by decide +kernel
theorem dX4_fewestPulls_132 : decode cX4_fewestPulls 132 = .ok (.aload_n 0, 1) := by decide +kernel
theorem dX4_fewestPulls_133 : decode cX4_fewestPulls 133 = .ok (.aload 4, 2) := by decide +kernel
theorem dX4_fewestPulls_135 : decode cX4_fewestPulls 135 = .ok (.putfield 18, 3) := by decide +kernel
theorem dX4_fewestPulls_138 : decode cX4_fewestPulls 138 = .ok (.iinc 3 1, 3) := by decide +kernel
theorem dX4_fewestPulls_141 : decode cX4_fewestPulls 141 = .ok (.goto (-102), 3) := by decide +kernel
theorem dX4_fewestPulls_144 : decode cX4_fewestPulls 144 = .ok (.aload_n 0, 1) := by decide +kernel
theorem dX4_fewestPulls_145 : decode cX4_fewestPulls 145 = .ok (.getfield 63, 3) := by decide +kernel
theorem dX4_fewestPulls_148 : decode cX4_fewestPulls 148 = .ok (.ireturn, 1) := by decide +kernel
def mX4_fewestPulls (n : Nat) (a : Nat) (b1 : Int) (b2 : Int) (μ : Mem) : Option (Int × Mem) :=
  (inv μ 5 a (mX4_prepare n a b1 1 (-1) μ)).bind fun p4 =>
  if eq32 p4.1 0 then
    some ((-4), p4.2)
  else
  (gA p4.2 5 a 0).bind fun x14 =>
  (inv p4.2 7 x14 (mX6_clear n x14 p4.2)).bind fun p17 =>
  (gA p17.2 5 a 0).bind fun x21 =>
  (inv p17.2 5 a (mX4_stateNow n a p17.2)).bind fun p25 =>
  (inv p25.2 7 x21 (mX6_add n x21 p25.1 0 p25.2)).bind fun p29 =>
  (pI p29.2 5 a 13 (-1)).bind fun μ34 =>
  lp (fun nx39 (v39 : Int) (μ39 : Mem) =>
  if lt32 b2 v39 then
    (gI μ39 5 a 13).bind fun x145 =>
    some (x145, μ39)
  else
  (gA μ39 5 a 1).bind fun x45 =>
  (inv μ39 7 x45 (mX6_clear n x45 μ39)).bind fun p48 =>
  lp (fun nx54 (v54 : Int) (μ54 : Mem) =>
  (gA μ54 5 a 0).bind fun x57 =>
  (gI μ54 7 x57 0).bind fun x60 =>
  if lt32 v54 x60 then
    (gA μ54 5 a 0).bind fun x68 =>
    (gA μ54 7 x68 1).bind fun x71 =>
    (ldI μ54 3 x71 v54).bind fun x76 =>
    (gA μ54 5 a 0).bind fun x78 =>
    (gA μ54 7 x78 2).bind fun x81 =>
    (ldI μ54 0 x81 v54).bind fun x86 =>
    (gA μ54 5 a 1).bind fun x88 =>
    (inv μ54 5 a (mX4_spread n a x76 x86 x88 μ54)).bind fun p91 =>
    nx54 (v54 + 1) p91.2
  else
  jn (fun (v118 : Unit) (μ118 : Mem) =>
  (gA μ118 5 a 0).bind fun x119 =>
  (gA μ118 5 a 1).bind fun x126 =>
  (pA μ118 5 a 0 x126).bind fun μ129 =>
  (pA μ129 5 a 1 x119).bind fun μ135 =>
  nx39 (v39 + 1) μ135) (fun j118 =>
  if lt32 v39 b2 then
    (gA μ54 5 a 1).bind fun x106 =>
    (inv μ54 7 x106 (mX6_overflows n x106 μ54)).bind fun p109 =>
    if eq32 p109.1 0 then
      j118 () p109.2
    else
    some ((-4), p109.2)
  else
  j118 () μ54)) n 0 p48.2) n 1 μ34
set_option maxRecDepth 100000 in
set_option maxHeartbeats 4000000 in
theorem cX4_fewestPulls_ok (n : Nat) (a : Nat) (b1 : Int) (b2 : Int) (μ : Mem) : Mc yX4_fewestPulls cX4_fewestPulls 5 (some .int) 15 370 eI [aA a, aI b1, aI b2] μ (mX4_fewestPulls n a b1 b2 μ) := by
  refine mc_of (L0 := [some (aA a), some (aI b1), some (aI b2), none, none]) (k := 2) (by decide) rfl rfl (fun X Γ => ?_)
  unfold mX4_fewestPulls
  refine sn_aload_n dX4_fewestPulls_0 rfl ?_
  refine sn_iload_n dX4_fewestPulls_1 rfl ?_
  refine sn_iconst dX4_fewestPulls_2 ?_
  refine sn_iconst dX4_fewestPulls_3 ?_
  refine sn_callVI (vs := [aI b1, aI 1, aI (-1)]) (ci := 4) (cX4_prepare_ok n a b1 1 (-1) μ) dX4_fewestPulls_4 cw_X4_44 rfl rfl rfl (by decide) (by decide) (Nat.le_of_ble_eq_true rfl) (fun p4 => ?_)
  refine sn_if_ne (tgt := 13) dX4_fewestPulls_7 (by decide) ?_ ?_
  · refine sn_aload_n dX4_fewestPulls_13 rfl ?_
    refine sn_getA (ci := 4) (j := 0) dX4_fewestPulls_14 fl_X4_14 (by decide) (fun x14 => ?_)
    refine sn_callVV (vs := []) (ci := 6) (cX6_clear_ok n x14 p4.2) dX4_fewestPulls_17 cw_X4_48 rfl rfl rfl (by decide) (by decide) (Nat.le_of_ble_eq_true rfl) (fun p17 => ?_)
    refine sn_aload_n dX4_fewestPulls_20 rfl ?_
    refine sn_getA (ci := 4) (j := 0) dX4_fewestPulls_21 fl_X4_14 (by decide) (fun x21 => ?_)
    refine sn_aload_n dX4_fewestPulls_24 rfl ?_
    refine sn_callVJ (vs := []) (ci := 4) (cX4_stateNow_ok n a p17.2) dX4_fewestPulls_25 cw_X4_51 rfl rfl rfl (by decide) (by decide) (Nat.le_of_ble_eq_true rfl) (fun p25 => ?_)
    refine sn_iconst dX4_fewestPulls_28 ?_
    refine sn_callVV (vs := [aJ p25.1, aI 0]) (ci := 6) (cX6_add_ok n x21 p25.1 0 p25.2) dX4_fewestPulls_29 cw_X4_55 rfl rfl rfl (by decide) (by decide) (Nat.le_of_ble_eq_true rfl) (fun p29 => ?_)
    refine sn_aload_n dX4_fewestPulls_32 rfl ?_
    refine sn_iconst dX4_fewestPulls_33 ?_
    refine sn_putI (ci := 4) (j := 13) dX4_fewestPulls_34 fl_X4_63 rfl (fun q h => by cases h; rfl) (fun μ34 => ?_)
    refine sn_iconst dX4_fewestPulls_37 ?_
    refine sn_istore_n (L' := [some (aA a), some (aI b1), some (aI b2), some (aI 1), none]) dX4_fewestPulls_38 (by decide) rfl ?_
    refine sn_mask (L' := [some (aA a), none, some (aI b2), some (aI 1), none]) [true, false, true, true, false] rfl ?_
    refine sn_lp (La := fun v39 : Int => [some (aA a), none, some (aI b2), some (aI v39), none]) ?_ n 1 μ34
    intro nx39 hnx39 v39 μ39
    refine sn_iload_n dX4_fewestPulls_39 rfl ?_
    refine sn_iload_n dX4_fewestPulls_40 rfl ?_
    refine sn_icmp_gt (tgt := 144) dX4_fewestPulls_41 (by decide) ?_ ?_
    · refine sn_aload_n dX4_fewestPulls_144 rfl ?_
      refine sn_getI (ci := 4) (j := 13) dX4_fewestPulls_145 fl_X4_63 rfl (fun x145 => ?_)
      exact sn_iret dX4_fewestPulls_148
    · refine sn_aload_n dX4_fewestPulls_44 rfl ?_
      refine sn_getA (ci := 4) (j := 1) dX4_fewestPulls_45 fl_X4_18 (by decide) (fun x45 => ?_)
      refine sn_callVV (vs := []) (ci := 6) (cX6_clear_ok n x45 μ39) dX4_fewestPulls_48 cw_X4_48 rfl rfl rfl (by decide) (by decide) (Nat.le_of_ble_eq_true rfl) (fun p48 => ?_)
      refine sn_iconst dX4_fewestPulls_51 ?_
      refine sn_istore (L' := [some (aA a), none, some (aI b2), some (aI v39), some (aI 0)]) dX4_fewestPulls_52 (by decide) rfl ?_
      refine sn_lp (La := fun v54 : Int => [some (aA a), none, some (aI b2), some (aI v39), some (aI v54)]) ?_ n 0 p48.2
      intro nx54 hnx54 v54 μ54
      refine sn_iload dX4_fewestPulls_54 rfl ?_
      refine sn_aload_n dX4_fewestPulls_56 rfl ?_
      refine sn_getA (ci := 4) (j := 0) dX4_fewestPulls_57 fl_X4_14 (by decide) (fun x57 => ?_)
      refine sn_getI (ci := 6) (j := 0) dX4_fewestPulls_60 fl_X4_59 rfl (fun x60 => ?_)
      refine sn_icmp_ge (tgt := 100) dX4_fewestPulls_63 (by decide) ?_ ?_
      · refine sn_iload_n dX4_fewestPulls_100 rfl ?_
        refine sn_iload_n dX4_fewestPulls_101 rfl ?_
        refine sn_jn (pcj := 118) (La := fun v118 : Unit => [some (aA a), none, some (aI b2), some (aI v39), none]) (Sa := fun v118 : Unit => []) ?_ ?_
        · intro v118 μ118
          refine sn_aload_n dX4_fewestPulls_118 rfl ?_
          refine sn_getA (ci := 4) (j := 0) dX4_fewestPulls_119 fl_X4_14 (by decide) (fun x119 => ?_)
          refine sn_astore (L' := [some (aA a), none, some (aI b2), some (aI v39), some (aA x119)]) dX4_fewestPulls_122 (by decide) rfl ?_
          refine sn_aload_n dX4_fewestPulls_124 rfl ?_
          refine sn_aload_n dX4_fewestPulls_125 rfl ?_
          refine sn_getA (ci := 4) (j := 1) dX4_fewestPulls_126 fl_X4_18 (by decide) (fun x126 => ?_)
          refine sn_putA (ci := 4) (j := 0) dX4_fewestPulls_129 fl_X4_14 (Or.inl ⟨_, rfl⟩) (Or.inl (fun q h => by cases h; rfl)) (fun μ129 => ?_)
          refine sn_aload_n dX4_fewestPulls_132 rfl ?_
          refine sn_aload dX4_fewestPulls_133 rfl ?_
          refine sn_putA (ci := 4) (j := 1) dX4_fewestPulls_135 fl_X4_18 (Or.inl ⟨_, rfl⟩) (Or.inl (fun q h => by cases h; rfl)) (fun μ135 => ?_)
          refine sn_iinc (L' := [some (aA a), none, some (aI b2), some (aI (v39 + 1)), some (aA x119)]) dX4_fewestPulls_138 rfl (by decide) rfl ?_
          refine sn_goto (tgt := 39) dX4_fewestPulls_141 (by decide) ?_
          exact sn_mask (L' := [some (aA a), none, some (aI b2), some (aI (v39 + 1)), none]) [true, false, true, true, false] rfl (hnx39 (v39 + 1) μ135)
        intro j118 hj118
        refine sn_icmp_ge (tgt := 118) dX4_fewestPulls_102 (by decide) ?_ ?_
        · exact sn_mask (L' := [some (aA a), none, some (aI b2), some (aI v39), none]) [true, false, true, true, false] rfl (hj118 () μ54)
        · refine sn_aload_n dX4_fewestPulls_105 rfl ?_
          refine sn_getA (ci := 4) (j := 1) dX4_fewestPulls_106 fl_X4_18 (by decide) (fun x106 => ?_)
          refine sn_callVI (vs := []) (ci := 6) (cX6_overflows_ok n x106 μ54) dX4_fewestPulls_109 cw_X4_74 rfl rfl rfl (by decide) (by decide) (Nat.le_of_ble_eq_true rfl) (fun p109 => ?_)
          refine sn_if_eq (tgt := 118) dX4_fewestPulls_112 (by decide) ?_ ?_
          · exact sn_mask (L' := [some (aA a), none, some (aI b2), some (aI v39), none]) [true, false, true, true, false] rfl (hj118 () p109.2)
          · refine sn_bipush dX4_fewestPulls_115 (by decide) ?_
            exact sn_iret dX4_fewestPulls_117
      · refine sn_aload_n dX4_fewestPulls_66 rfl ?_
        refine sn_aload_n dX4_fewestPulls_67 rfl ?_
        refine sn_getA (ci := 4) (j := 0) dX4_fewestPulls_68 fl_X4_14 (by decide) (fun x68 => ?_)
        refine sn_getA (ci := 6) (j := 1) dX4_fewestPulls_71 fl_X4_66 (by decide) (fun x71 => ?_)
        refine sn_iload dX4_fewestPulls_74 rfl ?_
        refine sn_lald dX4_fewestPulls_76 (fun x76 => ?_)
        refine sn_aload_n dX4_fewestPulls_77 rfl ?_
        refine sn_getA (ci := 4) (j := 0) dX4_fewestPulls_78 fl_X4_14 (by decide) (fun x78 => ?_)
        refine sn_getA (ci := 6) (j := 2) dX4_fewestPulls_81 fl_X4_78 (by decide) (fun x81 => ?_)
        refine sn_iload dX4_fewestPulls_84 rfl ?_
        refine sn_iald dX4_fewestPulls_86 (fun x86 => ?_)
        refine sn_aload_n dX4_fewestPulls_87 rfl ?_
        refine sn_getA (ci := 4) (j := 1) dX4_fewestPulls_88 fl_X4_18 (by decide) (fun x88 => ?_)
        refine sn_callVV (vs := [aJ x76, aI x86, aA x88]) (ci := 4) (cX4_spread_ok n a x76 x86 x88 μ54) dX4_fewestPulls_91 cw_X4_70 rfl rfl rfl (by decide) (by decide) (Nat.le_of_ble_eq_true rfl) (fun p91 => ?_)
        refine sn_iinc (L' := [some (aA a), none, some (aI b2), some (aI v39), some (aI (v54 + 1))]) dX4_fewestPulls_94 rfl (by decide) rfl ?_
        refine sn_goto (tgt := 54) dX4_fewestPulls_97 (by decide) ?_
        exact hnx54 (v54 + 1) p91.2
  · refine sn_bipush dX4_fewestPulls_10 (by decide) ?_
    exact sn_iret dX4_fewestPulls_12
theorem dX4_fewestHours_0 : decode cX4_fewestHours 0 = .ok (.aload_n 0, 1) := by decide +kernel
theorem dX4_fewestHours_1 : decode cX4_fewestHours 1 = .ok (.iload_n 1, 1) := by decide +kernel
theorem dX4_fewestHours_2 : decode cX4_fewestHours 2 = .ok (.iload_n 2, 1) := by decide +kernel
theorem dX4_fewestHours_3 : decode cX4_fewestHours 3 = .ok (.iload_n 3, 1) := by decide +kernel
theorem dX4_fewestHours_4 : decode cX4_fewestHours 4 = .ok (.invokevirtual 44, 3) := by decide +kernel
theorem dX4_fewestHours_7 : decode cX4_fewestHours 7 = .ok (.ifCond .ne 6, 3) := by decide +kernel
theorem dX4_fewestHours_10 : decode cX4_fewestHours 10 = .ok (.bipush (-4), 2) := by decide +kernel
theorem dX4_fewestHours_12 : decode cX4_fewestHours 12 = .ok (.ireturn, 1) := by decide +kernel
theorem dX4_fewestHours_13 : decode cX4_fewestHours 13 = .ok (.aload_n 0, 1) := by decide +kernel
theorem dX4_fewestHours_14 : decode cX4_fewestHours 14 = .ok (.getfield 14, 3) := by decide +kernel
theorem dX4_fewestHours_17 : decode cX4_fewestHours 17 = .ok (.invokevirtual 48, 3) := by decide +kernel
theorem dX4_fewestHours_20 : decode cX4_fewestHours 20 = .ok (.aload_n 0, 1) := by decide +kernel
theorem dX4_fewestHours_21 : decode cX4_fewestHours 21 = .ok (.getfield 14, 3) := by decide +kernel
theorem dX4_fewestHours_24 : decode cX4_fewestHours 24 = .ok (.aload_n 0, 1) := by decide +kernel
theorem dX4_fewestHours_25 : decode cX4_fewestHours 25 = .ok (.invokevirtual 51, 3) := by decide +kernel
theorem dX4_fewestHours_28 : decode cX4_fewestHours 28 = .ok (.iconst 0, 1) := by decide +kernel
theorem dX4_fewestHours_29 : decode cX4_fewestHours 29 = .ok (.invokevirtual 55, 3) := by decide +kernel
theorem dX4_fewestHours_32 : decode cX4_fewestHours 32 = .ok (.iconst 0, 1) := by decide +kernel
theorem dX4_fewestHours_33 : decode cX4_fewestHours 33 = .ok (.istore 4, 2) := by decide +kernel
theorem dX4_fewestHours_35 : decode cX4_fewestHours 35 = .ok (.iconst 1, 1) := by decide +kernel
theorem dX4_fewestHours_36 : decode cX4_fewestHours 36 = .ok (.istore 5, 2) := by decide +kernel
theorem dX4_fewestHours_38 : decode cX4_fewestHours 38 = .ok (.iload 5, 2) := by decide +kernel
theorem dX4_fewestHours_40 : decode cX4_fewestHours 40 = .ok (.sipush 3001, 3) := by decide +kernel
theorem dX4_fewestHours_43 : decode cX4_fewestHours 43 = .ok (.if_icmp .gt 109, 3) := by decide +kernel
theorem dX4_fewestHours_46 : decode cX4_fewestHours 46 = .ok (.aload_n 0, 1) := by decide +kernel
theorem dX4_fewestHours_47 : decode cX4_fewestHours 47 = .ok (.getfield 14, 3) := by decide +kernel
theorem dX4_fewestHours_50 : decode cX4_fewestHours 50 = .ok (.getfield 59, 3) := by decide +kernel
theorem dX4_fewestHours_53 : decode cX4_fewestHours 53 = .ok (.istore 6, 2) := by decide +kernel
theorem dX4_fewestHours_55 : decode cX4_fewestHours 55 = .ok (.aload_n 0, 1) := by decide +kernel
theorem dX4_fewestHours_56 : decode cX4_fewestHours 56 = .ok (.iconst (-1), 1) := by decide +kernel
theorem dX4_fewestHours_57 : decode cX4_fewestHours 57 = .ok (.putfield 63, 3) := by decide +kernel
theorem dX4_fewestHours_60 : decode cX4_fewestHours 60 = .ok (.iload 4, 2) := by decide +kernel
theorem dX4_fewestHours_62 : decode cX4_fewestHours 62 = .ok (.istore 7, 2) := by decide +kernel
theorem dX4_fewestHours_64 : decode cX4_fewestHours 64 = .ok (.iload 7, 2) := by decide +kernel
theorem dX4_fewestHours_66 : decode cX4_fewestHours 66 = .ok (.iload 6, 2) := by decide +kernel
theorem dX4_fewestHours_68 : decode cX4_fewestHours 68 = .ok (.if_icmp .ge 36, 3) := by decide +kernel
theorem dX4_fewestHours_71 : decode cX4_fewestHours 71 = .ok (.aload_n 0, 1) := by decide +kernel
theorem dX4_fewestHours_72 : decode cX4_fewestHours 72 = .ok (.getfield 63, 3) := by decide +kernel
theorem dX4_fewestHours_75 : decode cX4_fewestHours 75 = .ok (.iconst (-1), 1) := by decide +kernel
theorem dX4_fewestHours_76 : decode cX4_fewestHours 76 = .ok (.if_icmp .ne 28, 3) := by decide +kernel
theorem dX4_fewestHours_79 : decode cX4_fewestHours 79 = .ok (.aload_n 0, 1) := by decide +kernel
theorem dX4_fewestHours_80 : decode cX4_fewestHours 80 = .ok (.aload_n 0, 1) := by decide +kernel
theorem dX4_fewestHours_81 : decode cX4_fewestHours 81 = .ok (.getfield 14, 3) := by decide +kernel
theorem dX4_fewestHours_84 : decode cX4_fewestHours 84 = .ok (.getfield 66, 3) := by decide +kernel
theorem dX4_fewestHours_87 : decode cX4_fewestHours 87 = .ok (.iload 7, 2) := by decide +kernel
theorem dX4_fewestHours_89 : decode cX4_fewestHours 89 = .ok (.laload, 1) := by decide +kernel
theorem dX4_fewestHours_90 : decode cX4_fewestHours 90 = .ok (.iconst 0, 1) := by decide +kernel
theorem dX4_fewestHours_91 : decode cX4_fewestHours 91 = .ok (.aload_n 0, 1) := by decide +kernel
theorem dX4_fewestHours_92 : decode cX4_fewestHours 92 = .ok (.getfield 14, 3) := by decide +kernel
theorem dX4_fewestHours_95 : decode cX4_fewestHours 95 = .ok (.invokevirtual 70, 3) := by decide +kernel
theorem dX4_fewestHours_98 : decode cX4_fewestHours 98 = .ok (.iinc 7 1, 3) := by decide +kernel
theorem dX4_fewestHours_101 : decode cX4_fewestHours 101 = .ok (.goto (-37), 3) := by decide +kernel
theorem dX4_fewestHours_104 : decode cX4_fewestHours 104 = .ok (.aload_n 0, 1) := by decide +kernel
theorem dX4_fewestHours_105 : decode cX4_fewestHours 105 = .ok (.getfield 63, 3) := by decide +kernel
theorem dX4_fewestHours_108 : decode cX4_fewestHours 108 = .ok (.iconst (-1), 1) := by decide +kernel
theorem dX4_fewestHours_109 : decode cX4_fewestHours 109 = .ok (.if_icmp .eq 6, 3) := by decide +kernel
theorem dX4_fewestHours_112 : decode cX4_fewestHours 112 = .ok (.iload 5, 2) := by decide +kernel
theorem dX4_fewestHours_114 : decode cX4_fewestHours 114 = .ok (.ireturn, 1) := by decide +kernel
theorem dX4_fewestHours_115 : decode cX4_fewestHours 115 = .ok (.aload_n 0, 1) := by decide +kernel
theorem dX4_fewestHours_116 : decode cX4_fewestHours 116 = .ok (.getfield 14, 3) := by decide +kernel
theorem dX4_fewestHours_119 : decode cX4_fewestHours 119 = .ok (.invokevirtual 74, 3) := by decide +kernel
theorem dX4_fewestHours_122 : decode cX4_fewestHours 122 = .ok (.ifCond .eq 6, 3) := by decide +kernel
theorem dX4_fewestHours_125 : decode cX4_fewestHours 125 = .ok (.bipush (-4), 2) := by decide +kernel
theorem dX4_fewestHours_127 : decode cX4_fewestHours 127 = .ok (.ireturn, 1) := by decide +kernel
theorem dX4_fewestHours_128 : decode cX4_fewestHours 128 = .ok (.aload_n 0, 1) := by decide +kernel
theorem dX4_fewestHours_129 : decode cX4_fewestHours 129 = .ok (.getfield 14, 3) := by decide +kernel
theorem dX4_fewestHours_132 : decode cX4_fewestHours 132 = .ok (.getfield 59, 3) := by decide +kernel
theorem dX4_fewestHours_135 : decode cX4_fewestHours 135 = .ok (.iload 6, 2) := by decide +kernel
theorem dX4_fewestHours_137 : decode cX4_fewestHours 137 = .ok (.if_icmp .ne 5, 3) := by decide +kernel
theorem dX4_fewestHours_140 : decode cX4_fewestHours 140 = .ok (.iconst (-1), 1) := by decide +kernel
theorem dX4_fewestHours_141 : decode cX4_fewestHours 141 = .ok (.ireturn, 1) := by decide +kernel
theorem dX4_fewestHours_142 : decode cX4_fewestHours 142 = .ok (.iload 6, 2) := by decide +kernel
theorem dX4_fewestHours_144 : decode cX4_fewestHours 144 = .ok (.istore 4, 2) := by decide +kernel
theorem dX4_fewestHours_146 : decode cX4_fewestHours 146 = .ok (.iinc 5 1, 3) := by decide +kernel
theorem dX4_fewestHours_149 : decode cX4_fewestHours 149 = .ok (.goto (-111), 3) := by decide +kernel
theorem dX4_fewestHours_152 : decode cX4_fewestHours 152 = .ok (.iconst (-1), 1) := by decide +kernel
theorem dX4_fewestHours_153 : decode cX4_fewestHours 153 = .ok (.ireturn, 1) := by decide +kernel
def mX4_fewestHours (n : Nat) (a : Nat) (b1 : Int) (b2 : Int) (b3 : Int) (μ : Mem) : Option (Int × Mem) :=
  (inv μ 5 a (mX4_prepare n a b1 b2 b3 μ)).bind fun p4 =>
  if eq32 p4.1 0 then
    some ((-4), p4.2)
  else
  (gA p4.2 5 a 0).bind fun x14 =>
  (inv p4.2 7 x14 (mX6_clear n x14 p4.2)).bind fun p17 =>
  (gA p17.2 5 a 0).bind fun x21 =>
  (inv p17.2 5 a (mX4_stateNow n a p17.2)).bind fun p25 =>
  (inv p25.2 7 x21 (mX6_add n x21 p25.1 0 p25.2)).bind fun p29 =>
  lp (fun nx38 (v38 : Int × Int) (μ38 : Mem) =>
  if lt32 3001 v38.2 then
    some ((-1), μ38)
  else
  (gA μ38 5 a 0).bind fun x47 =>
  (gI μ38 7 x47 0).bind fun x50 =>
  (pI μ38 5 a 13 (-1)).bind fun μ57 =>
  lp (fun nx64 (v64 : Int) (μ64 : Mem) =>
  jn (fun (v104 : Unit) (μ104 : Mem) =>
  (gI μ104 5 a 13).bind fun x105 =>
  if eq32 x105 (-1) then
    (gA μ104 5 a 0).bind fun x116 =>
    (inv μ104 7 x116 (mX6_overflows n x116 μ104)).bind fun p119 =>
    if eq32 p119.1 0 then
      (gA p119.2 5 a 0).bind fun x129 =>
      (gI p119.2 7 x129 0).bind fun x132 =>
      if eq32 x132 x50 then
        some ((-1), p119.2)
      else
      nx38 (x50, (v38.2 + 1)) p119.2
    else
    some ((-4), p119.2)
  else
  some (v38.2, μ104)) (fun j104 =>
  if lt32 v64 x50 then
    (gI μ64 5 a 13).bind fun x72 =>
    if eq32 x72 (-1) then
      (gA μ64 5 a 0).bind fun x81 =>
      (gA μ64 7 x81 1).bind fun x84 =>
      (ldI μ64 3 x84 v64).bind fun x89 =>
      (gA μ64 5 a 0).bind fun x92 =>
      (inv μ64 5 a (mX4_spread n a x89 0 x92 μ64)).bind fun p95 =>
      nx64 (v64 + 1) p95.2
    else
    j104 () μ64
  else
  j104 () μ64)) n v38.1 μ57) n (0, 1) p29.2
set_option maxRecDepth 100000 in
set_option maxHeartbeats 4000000 in
theorem cX4_fewestHours_ok (n : Nat) (a : Nat) (b1 : Int) (b2 : Int) (b3 : Int) (μ : Mem) : Mc yX4_fewestHours cX4_fewestHours 8 (some .int) 15 370 eI [aA a, aI b1, aI b2, aI b3] μ (mX4_fewestHours n a b1 b2 b3 μ) := by
  refine mc_of (L0 := [some (aA a), some (aI b1), some (aI b2), some (aI b3), none, none, none, none]) (k := 4) (by decide) rfl rfl (fun X Γ => ?_)
  unfold mX4_fewestHours
  refine sn_aload_n dX4_fewestHours_0 rfl ?_
  refine sn_iload_n dX4_fewestHours_1 rfl ?_
  refine sn_iload_n dX4_fewestHours_2 rfl ?_
  refine sn_iload_n dX4_fewestHours_3 rfl ?_
  refine sn_callVI (vs := [aI b1, aI b2, aI b3]) (ci := 4) (cX4_prepare_ok n a b1 b2 b3 μ) dX4_fewestHours_4 cw_X4_44 rfl rfl rfl (by decide) (by decide) (Nat.le_of_ble_eq_true rfl) (fun p4 => ?_)
  refine sn_if_ne (tgt := 13) dX4_fewestHours_7 (by decide) ?_ ?_
  · refine sn_aload_n dX4_fewestHours_13 rfl ?_
    refine sn_getA (ci := 4) (j := 0) dX4_fewestHours_14 fl_X4_14 (by decide) (fun x14 => ?_)
    refine sn_callVV (vs := []) (ci := 6) (cX6_clear_ok n x14 p4.2) dX4_fewestHours_17 cw_X4_48 rfl rfl rfl (by decide) (by decide) (Nat.le_of_ble_eq_true rfl) (fun p17 => ?_)
    refine sn_aload_n dX4_fewestHours_20 rfl ?_
    refine sn_getA (ci := 4) (j := 0) dX4_fewestHours_21 fl_X4_14 (by decide) (fun x21 => ?_)
    refine sn_aload_n dX4_fewestHours_24 rfl ?_
    refine sn_callVJ (vs := []) (ci := 4) (cX4_stateNow_ok n a p17.2) dX4_fewestHours_25 cw_X4_51 rfl rfl rfl (by decide) (by decide) (Nat.le_of_ble_eq_true rfl) (fun p25 => ?_)
    refine sn_iconst dX4_fewestHours_28 ?_
    refine sn_callVV (vs := [aJ p25.1, aI 0]) (ci := 6) (cX6_add_ok n x21 p25.1 0 p25.2) dX4_fewestHours_29 cw_X4_55 rfl rfl rfl (by decide) (by decide) (Nat.le_of_ble_eq_true rfl) (fun p29 => ?_)
    refine sn_iconst dX4_fewestHours_32 ?_
    refine sn_istore (L' := [some (aA a), some (aI b1), some (aI b2), some (aI b3), some (aI 0), none, none, none]) dX4_fewestHours_33 (by decide) rfl ?_
    refine sn_iconst dX4_fewestHours_35 ?_
    refine sn_istore (L' := [some (aA a), some (aI b1), some (aI b2), some (aI b3), some (aI 0), some (aI 1), none, none]) dX4_fewestHours_36 (by decide) rfl ?_
    refine sn_mask (L' := [some (aA a), none, none, none, some (aI 0), some (aI 1), none, none]) [true, false, false, false, true, true, false, false] rfl ?_
    refine sn_lp (La := fun v38 : Int × Int => [some (aA a), none, none, none, some (aI v38.1), some (aI v38.2), none, none]) ?_ n (0, 1) p29.2
    intro nx38 hnx38 v38 μ38
    refine sn_iload dX4_fewestHours_38 rfl ?_
    refine sn_sipush dX4_fewestHours_40 (by decide) ?_
    refine sn_icmp_gt (tgt := 152) dX4_fewestHours_43 (by decide) ?_ ?_
    · refine sn_iconst dX4_fewestHours_152 ?_
      exact sn_iret dX4_fewestHours_153
    · refine sn_aload_n dX4_fewestHours_46 rfl ?_
      refine sn_getA (ci := 4) (j := 0) dX4_fewestHours_47 fl_X4_14 (by decide) (fun x47 => ?_)
      refine sn_getI (ci := 6) (j := 0) dX4_fewestHours_50 fl_X4_59 rfl (fun x50 => ?_)
      refine sn_istore (L' := [some (aA a), none, none, none, some (aI v38.1), some (aI v38.2), some (aI x50), none]) dX4_fewestHours_53 (by decide) rfl ?_
      refine sn_aload_n dX4_fewestHours_55 rfl ?_
      refine sn_iconst dX4_fewestHours_56 ?_
      refine sn_putI (ci := 4) (j := 13) dX4_fewestHours_57 fl_X4_63 rfl (fun q h => by cases h; rfl) (fun μ57 => ?_)
      refine sn_iload dX4_fewestHours_60 rfl ?_
      refine sn_istore (L' := [some (aA a), none, none, none, some (aI v38.1), some (aI v38.2), some (aI x50), some (aI v38.1)]) dX4_fewestHours_62 (by decide) rfl ?_
      refine sn_mask (L' := [some (aA a), none, none, none, none, some (aI v38.2), some (aI x50), some (aI v38.1)]) [true, false, false, false, false, true, true, true] rfl ?_
      refine sn_lp (La := fun v64 : Int => [some (aA a), none, none, none, none, some (aI v38.2), some (aI x50), some (aI v64)]) ?_ n v38.1 μ57
      intro nx64 hnx64 v64 μ64
      refine sn_iload dX4_fewestHours_64 rfl ?_
      refine sn_iload dX4_fewestHours_66 rfl ?_
      refine sn_jn (pcj := 104) (La := fun v104 : Unit => [some (aA a), none, none, none, none, some (aI v38.2), some (aI x50), none]) (Sa := fun v104 : Unit => []) ?_ ?_
      · intro v104 μ104
        refine sn_aload_n dX4_fewestHours_104 rfl ?_
        refine sn_getI (ci := 4) (j := 13) dX4_fewestHours_105 fl_X4_63 rfl (fun x105 => ?_)
        refine sn_iconst dX4_fewestHours_108 ?_
        refine sn_icmp_eq (tgt := 115) dX4_fewestHours_109 (by decide) ?_ ?_
        · refine sn_aload_n dX4_fewestHours_115 rfl ?_
          refine sn_getA (ci := 4) (j := 0) dX4_fewestHours_116 fl_X4_14 (by decide) (fun x116 => ?_)
          refine sn_callVI (vs := []) (ci := 6) (cX6_overflows_ok n x116 μ104) dX4_fewestHours_119 cw_X4_74 rfl rfl rfl (by decide) (by decide) (Nat.le_of_ble_eq_true rfl) (fun p119 => ?_)
          refine sn_if_eq (tgt := 128) dX4_fewestHours_122 (by decide) ?_ ?_
          · refine sn_aload_n dX4_fewestHours_128 rfl ?_
            refine sn_getA (ci := 4) (j := 0) dX4_fewestHours_129 fl_X4_14 (by decide) (fun x129 => ?_)
            refine sn_getI (ci := 6) (j := 0) dX4_fewestHours_132 fl_X4_59 rfl (fun x132 => ?_)
            refine sn_iload dX4_fewestHours_135 rfl ?_
            refine sn_icmp_ne (tgt := 142) dX4_fewestHours_137 (by decide) ?_ ?_
            · refine sn_iload dX4_fewestHours_142 rfl ?_
              refine sn_istore (L' := [some (aA a), none, none, none, some (aI x50), some (aI v38.2), some (aI x50), none]) dX4_fewestHours_144 (by decide) rfl ?_
              refine sn_iinc (L' := [some (aA a), none, none, none, some (aI x50), some (aI (v38.2 + 1)), some (aI x50), none]) dX4_fewestHours_146 rfl (by decide) rfl ?_
              refine sn_goto (tgt := 38) dX4_fewestHours_149 (by decide) ?_
              exact sn_mask (L' := [some (aA a), none, none, none, some (aI x50), some (aI (v38.2 + 1)), none, none]) [true, false, false, false, true, true, false, false] rfl (hnx38 (x50, (v38.2 + 1)) p119.2)
            · refine sn_iconst dX4_fewestHours_140 ?_
              exact sn_iret dX4_fewestHours_141
          · refine sn_bipush dX4_fewestHours_125 (by decide) ?_
            exact sn_iret dX4_fewestHours_127
        · refine sn_iload dX4_fewestHours_112 rfl ?_
          exact sn_iret dX4_fewestHours_114
      intro j104 hj104
      refine sn_icmp_ge (tgt := 104) dX4_fewestHours_68 (by decide) ?_ ?_
      · exact sn_mask (L' := [some (aA a), none, none, none, none, some (aI v38.2), some (aI x50), none]) [true, false, false, false, false, true, true, false] rfl (hj104 () μ64)
      · refine sn_aload_n dX4_fewestHours_71 rfl ?_
        refine sn_getI (ci := 4) (j := 13) dX4_fewestHours_72 fl_X4_63 rfl (fun x72 => ?_)
        refine sn_iconst dX4_fewestHours_75 ?_
        refine sn_icmp_ne (tgt := 104) dX4_fewestHours_76 (by decide) ?_ ?_
        · exact sn_mask (L' := [some (aA a), none, none, none, none, some (aI v38.2), some (aI x50), none]) [true, false, false, false, false, true, true, false] rfl (hj104 () μ64)
        · refine sn_aload_n dX4_fewestHours_79 rfl ?_
          refine sn_aload_n dX4_fewestHours_80 rfl ?_
          refine sn_getA (ci := 4) (j := 0) dX4_fewestHours_81 fl_X4_14 (by decide) (fun x81 => ?_)
          refine sn_getA (ci := 6) (j := 1) dX4_fewestHours_84 fl_X4_66 (by decide) (fun x84 => ?_)
          refine sn_iload dX4_fewestHours_87 rfl ?_
          refine sn_lald dX4_fewestHours_89 (fun x89 => ?_)
          refine sn_iconst dX4_fewestHours_90 ?_
          refine sn_aload_n dX4_fewestHours_91 rfl ?_
          refine sn_getA (ci := 4) (j := 0) dX4_fewestHours_92 fl_X4_14 (by decide) (fun x92 => ?_)
          refine sn_callVV (vs := [aJ x89, aI 0, aA x92]) (ci := 4) (cX4_spread_ok n a x89 0 x92 μ64) dX4_fewestHours_95 cw_X4_70 rfl rfl rfl (by decide) (by decide) (Nat.le_of_ble_eq_true rfl) (fun p95 => ?_)
          refine sn_iinc (L' := [some (aA a), none, none, none, none, some (aI v38.2), some (aI x50), some (aI (v64 + 1))]) dX4_fewestHours_98 rfl (by decide) rfl ?_
          refine sn_goto (tgt := 64) dX4_fewestHours_101 (by decide) ?_
          exact hnx64 (v64 + 1) p95.2
  · refine sn_bipush dX4_fewestHours_10 (by decide) ?_
    exact sn_iret dX4_fewestHours_12
