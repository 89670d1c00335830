/-! layer 1: model5 -/
theorem dX11_refuses_0 : decode cX11_refuses 0 = .ok (.lload_n 1, 1) := by decide +kernel
theorem dX11_refuses_1 : decode cX11_refuses 1 = .ok (.lconst 0, 1) := by decide +kernel
theorem dX11_refuses_2 : decode cX11_refuses 2 = .ok (.lcmp, 1) := by decide +kernel
theorem dX11_refuses_3 : decode cX11_refuses 3 = .ok (.ifCond .lt 56, 3) := by decide +kernel
theorem dX11_refuses_6 : decode cX11_refuses 6 = .ok (.aload_n 0, 1) := by decide +kernel
theorem dX11_refuses_7 : decode cX11_refuses 7 = .ok (.lload_n 1, 1) := by decide +kernel
theorem dX11_refuses_8 : decode cX11_refuses 8 = .ok (.ldc2_w 206, 3) := by decide +kernel
theorem dX11_refuses_11 : decode cX11_refuses 11 = .ok (.ldiv, 1) := by decide +kernel
theorem dX11_refuses_12 : decode cX11_refuses 12 = .ok (.invokevirtual 170, 3) := by decide +kernel
theorem dX11_refuses_15 : decode cX11_refuses 15 = .ok (.ifCond .eq 44, 3) := by decide +kernel
theorem dX11_refuses_18 : decode cX11_refuses 18 = .ok (.aload_n 0, 1) := by decide +kernel
theorem dX11_refuses_19 : decode cX11_refuses 19 = .ok (.lload_n 1, 1) := by decide +kernel
theorem dX11_refuses_20 : decode cX11_refuses 20 = .ok (.ldc2_w 206, 3) := by decide +kernel
theorem dX11_refuses_23 : decode cX11_refuses 23 = .ok (.lrem, 1) := by decide +kernel
theorem dX11_refuses_24 : decode cX11_refuses 24 = .ok (.invokevirtual 179, 3) := by decide +kernel
theorem dX11_refuses_27 : decode cX11_refuses 27 = .ok (.ifCond .eq 32, 3) := by decide +kernel
theorem dX11_refuses_30 : decode cX11_refuses 30 = .ok (.aload_n 0, 1) := by decide +kernel
theorem dX11_refuses_31 : decode cX11_refuses 31 = .ok (.lload_n 1, 1) := by decide +kernel
theorem dX11_refuses_32 : decode cX11_refuses 32 = .ok (.l2i, 1) := by decide +kernel
theorem dX11_refuses_33 : decode cX11_refuses 33 = .ok (.bipush 20, 2) := by decide +kernel
theorem dX11_refuses_35 : decode cX11_refuses 35 = .ok (.idiv, 1) := by decide +kernel
theorem dX11_refuses_36 : decode cX11_refuses 36 = .ok (.lload_n 1, 1) := by decide +kernel
theorem dX11_refuses_37 : decode cX11_refuses 37 = .ok (.l2i, 1) := by decide +kernel
theorem dX11_refuses_38 : decode cX11_refuses 38 = .ok (.bipush 20, 2) := by decide +kernel
theorem dX11_refuses_40 : decode cX11_refuses 40 = .ok (.irem, 1) := by decide +kernel
theorem dX11_refuses_41 : decode cX11_refuses 41 = .ok (.invokevirtual 166, 3) := by decide +kernel
theorem dX11_refuses_44 : decode cX11_refuses 44 = .ok (.ifCond .eq 15, 3) := by decide +kernel
theorem dX11_refuses_47 : decode cX11_refuses 47 = .ok (.aload_n 0, 1) := by decide +kernel
theorem dX11_refuses_48 : decode cX11_refuses 48 = .ok (.lload_n 1, 1) := by decide +kernel
theorem dX11_refuses_49 : decode cX11_refuses 49 = .ok (.l2i, 1) := by decide +kernel
theorem dX11_refuses_50 : decode cX11_refuses 50 = .ok (.bipush 20, 2) := by decide +kernel
theorem dX11_refuses_52 : decode cX11_refuses 52 = .ok (.irem, 1) := by decide +kernel
theorem dX11_refuses_53 : decode cX11_refuses 53 = .ok (.invokevirtual 191, 3) := by decide +kernel
theorem dX11_refuses_56 : decode cX11_refuses 56 = .ok (.ifCond .ne 5, 3) := by decide +kernel
theorem dX11_refuses_59 : decode cX11_refuses 59 = .ok (.iconst 1, 1) := by decide +kernel
theorem dX11_refuses_60 : decode cX11_refuses 60 = .ok (.ireturn, 1) := by decide +kernel
theorem dX11_refuses_61 : decode cX11_refuses 61 = .ok (.aload_n 0, 1) := by decide +kernel
theorem dX11_refuses_62 : decode cX11_refuses 62 = .ok (.getfield 30, 3) := by decide +kernel
theorem dX11_refuses_65 : decode cX11_refuses 65 = .ok (.lload_n 1, 1) := by decide +kernel
theorem dX11_refuses_66 : decode cX11_refuses 66 = .ok (.l2i, 1) := by decide +kernel
theorem dX11_refuses_67 : decode cX11_refuses 67 = .ok (.bipush 20, 2) := by decide +kernel
theorem dX11_refuses_69 : decode cX11_refuses 69 = .ok (.idiv, 1) := by decide +kernel
theorem dX11_refuses_70 : decode cX11_refuses 70 = .ok (.iaload, 1) := by decide +kernel
theorem dX11_refuses_71 : decode cX11_refuses 71 = .ok (.iconst (-1), 1) := by decide +kernel
theorem dX11_refuses_72 : decode cX11_refuses 72 = .ok (.if_icmp .ne 7, 3) := by decide +kernel
theorem dX11_refuses_75 : decode cX11_refuses 75 = .ok (.iconst 0, 1) := by decide +kernel
theorem dX11_refuses_76 : decode cX11_refuses 76 = .ok (.goto 4, 3) := by decide +kernel
theorem dX11_refuses_79 : decode cX11_refuses 79 = .ok (.iconst 2, 1) := by decide +kernel
theorem dX11_refuses_80 : decode cX11_refuses 80 = .ok (.ireturn, 1) := by decide +kernel
def mX11_refuses (n : Nat) (a : Nat) (b1 : Int) (μ : Mem) : Option (Int × Mem) :=
  if lt32 (oLcmp b1 0) 0 then
    some (1, μ)
  else
  (inv μ 12 a (mX11_isHouse n a (lDiv b1 20) μ)).bind fun p12 =>
  if eq32 p12.1 0 then
    some (1, p12.2)
  else
  (inv p12.2 12 a (mX11_isRope n a (lRem b1 20) p12.2)).bind fun p24 =>
  if eq32 p24.1 0 then
    some (1, p24.2)
  else
  (inv p24.2 12 a (mX11_isEnd n a (oDiv b1 20) (oRem b1 20) p24.2)).bind fun p41 =>
  if eq32 p41.1 0 then
    some (1, p41.2)
  else
  (inv p41.2 12 a (mX11_hangs n a (oRem b1 20) p41.2)).bind fun p53 =>
  if eq32 p53.1 0 then
    some (1, p53.2)
  else
  (gA p53.2 12 a 15).bind fun x62 =>
  (ldI p53.2 0 x62 (oDiv b1 20)).bind fun x70 =>
  if eq32 x70 (-1) then
    some (0, p53.2)
  else
  some (2, p53.2)
set_option maxRecDepth 100000 in
set_option maxHeartbeats 4000000 in
theorem cX11_refuses_ok (n : Nat) (a : Nat) (b1 : Int) (μ : Mem) : Mc yX11_refuses cX11_refuses 3 (some .int) 2 47 eI [aA a, aJ b1] μ (mX11_refuses n a b1 μ) := by
  refine mc_of (L0 := [some (aA a), some (aJ b1), none]) (k := 0) (by decide) rfl rfl (fun X Γ => ?_)
  unfold mX11_refuses
  refine sn_lload_n dX11_refuses_0 rfl ?_
  refine sn_lconst (v := 0) dX11_refuses_1 (by decide) ?_
  refine sn_lcmp dX11_refuses_2 ?_
  refine sn_if_lt (tgt := 59) dX11_refuses_3 (by decide) ?_ ?_
  · refine sn_iconst dX11_refuses_59 ?_
    exact sn_iret dX11_refuses_60
  · refine sn_aload_n dX11_refuses_6 rfl ?_
    refine sn_lload_n dX11_refuses_7 rfl ?_
    refine sn_ldc2 (v := 20) dX11_refuses_8 k_X11_206 (by decide) ?_
    refine sn_ldivK dX11_refuses_11 (by decide) ?_
    refine sn_callVI (vs := [aJ (lDiv b1 20)]) (ci := 11) (cX11_isHouse_ok n a (lDiv b1 20) μ) dX11_refuses_12 cw_X11_170 rfl rfl rfl (by decide) (by decide) (Nat.le_of_ble_eq_true rfl) (fun p12 => ?_)
    refine sn_if_eq (tgt := 59) dX11_refuses_15 (by decide) ?_ ?_
    · refine sn_iconst dX11_refuses_59 ?_
      exact sn_iret dX11_refuses_60
    · refine sn_aload_n dX11_refuses_18 rfl ?_
      refine sn_lload_n dX11_refuses_19 rfl ?_
      refine sn_ldc2 (v := 20) dX11_refuses_20 k_X11_206 (by decide) ?_
      refine sn_lremK dX11_refuses_23 (by decide) ?_
      refine sn_callVI (vs := [aJ (lRem b1 20)]) (ci := 11) (cX11_isRope_ok n a (lRem b1 20) p12.2) dX11_refuses_24 cw_X11_179 rfl rfl rfl (by decide) (by decide) (Nat.le_of_ble_eq_true rfl) (fun p24 => ?_)
      refine sn_if_eq (tgt := 59) dX11_refuses_27 (by decide) ?_ ?_
      · refine sn_iconst dX11_refuses_59 ?_
        exact sn_iret dX11_refuses_60
      · refine sn_aload_n dX11_refuses_30 rfl ?_
        refine sn_lload_n dX11_refuses_31 rfl ?_
        refine sn_l2i dX11_refuses_32 ?_
        refine sn_bipush dX11_refuses_33 (by decide) ?_
        refine sn_idivK dX11_refuses_35 (by decide) ?_
        refine sn_lload_n dX11_refuses_36 rfl ?_
        refine sn_l2i dX11_refuses_37 ?_
        refine sn_bipush dX11_refuses_38 (by decide) ?_
        refine sn_iremK dX11_refuses_40 (by decide) ?_
        refine sn_callVI (vs := [aI (oDiv b1 20), aI (oRem b1 20)]) (ci := 11) (cX11_isEnd_ok n a (oDiv b1 20) (oRem b1 20) p24.2) dX11_refuses_41 cw_X11_166 rfl rfl rfl (by decide) (by decide) (Nat.le_of_ble_eq_true rfl) (fun p41 => ?_)
        refine sn_if_eq (tgt := 59) dX11_refuses_44 (by decide) ?_ ?_
        · refine sn_iconst dX11_refuses_59 ?_
          exact sn_iret dX11_refuses_60
        · refine sn_aload_n dX11_refuses_47 rfl ?_
          refine sn_lload_n dX11_refuses_48 rfl ?_
          refine sn_l2i dX11_refuses_49 ?_
          refine sn_bipush dX11_refuses_50 (by decide) ?_
          refine sn_iremK dX11_refuses_52 (by decide) ?_
          refine sn_callVI (vs := [aI (oRem b1 20)]) (ci := 11) (cX11_hangs_ok n a (oRem b1 20) p41.2) dX11_refuses_53 cw_X11_191 rfl rfl rfl (by decide) (by decide) (Nat.le_of_ble_eq_true rfl) (fun p53 => ?_)
          refine sn_if_ne (tgt := 61) dX11_refuses_56 (by decide) ?_ ?_
          · refine sn_aload_n dX11_refuses_61 rfl ?_
            refine sn_getA (ci := 11) (j := 15) dX11_refuses_62 fl_X11_30 (by decide) (fun x62 => ?_)
            refine sn_lload_n dX11_refuses_65 rfl ?_
            refine sn_l2i dX11_refuses_66 ?_
            refine sn_bipush dX11_refuses_67 (by decide) ?_
            refine sn_idivK dX11_refuses_69 (by decide) ?_
            refine sn_iald dX11_refuses_70 (fun x70 => ?_)
            refine sn_iconst dX11_refuses_71 ?_
            refine sn_icmp_ne (tgt := 79) dX11_refuses_72 (by decide) ?_ ?_
            · refine sn_iconst dX11_refuses_79 ?_
              exact sn_iret dX11_refuses_80
            · refine sn_iconst dX11_refuses_75 ?_
              refine sn_goto (tgt := 80) dX11_refuses_76 (by decide) ?_
              exact sn_iret dX11_refuses_80
          · refine sn_iconst dX11_refuses_59 ?_
            exact sn_iret dX11_refuses_60
theorem dX11_hoursOf_0 : decode cX11_hoursOf 0 = .ok (.aload_n 0, 1) := by decide +kernel
theorem dX11_hoursOf_1 : decode cX11_hoursOf 1 = .ok (.iconst 0, 1) := by decide +kernel
theorem dX11_hoursOf_2 : decode cX11_hoursOf 2 = .ok (.putfield 208, 3) := by decide +kernel
theorem dX11_hoursOf_5 : decode cX11_hoursOf 5 = .ok (.aload_n 0, 1) := by decide +kernel
theorem dX11_hoursOf_6 : decode cX11_hoursOf 6 = .ok (.iconst 0, 1) := by decide +kernel
theorem dX11_hoursOf_7 : decode cX11_hoursOf 7 = .ok (.putfield 211, 3) := by decide +kernel
theorem dX11_hoursOf_10 : decode cX11_hoursOf 10 = .ok (.aload_n 0, 1) := by decide +kernel
theorem dX11_hoursOf_11 : decode cX11_hoursOf 11 = .ok (.iconst 0, 1) := by decide +kernel
theorem dX11_hoursOf_12 : decode cX11_hoursOf 12 = .ok (.putfield 214, 3) := by decide +kernel
theorem dX11_hoursOf_15 : decode cX11_hoursOf 15 = .ok (.aload_n 0, 1) := by decide +kernel
theorem dX11_hoursOf_16 : decode cX11_hoursOf 16 = .ok (.iconst 0, 1) := by decide +kernel
theorem dX11_hoursOf_17 : decode cX11_hoursOf 17 = .ok (.putfield 217, 3) := by decide +kernel
theorem dX11_hoursOf_20 : decode cX11_hoursOf 20 = .ok (.iconst 0, 1) := by decide +kernel
theorem dX11_hoursOf_21 : decode cX11_hoursOf 21 = .ok (.istore_n 2, 1) := by decide +kernel
theorem dX11_hoursOf_22 : decode cX11_hoursOf 22 = .ok (.aload_n 0, 1) := by decide +kernel
theorem dX11_hoursOf_23 : decode cX11_hoursOf 23 = .ok (.invokevirtual 200, 3) := by decide +kernel
theorem dX11_hoursOf_26 : decode cX11_hoursOf 26 = .ok (.iconst 0, 1) := by decide +kernel
theorem dX11_hoursOf_27 : decode cX11_hoursOf 27 = .ok (.istore_n 3, 1) := by decide +kernel
theorem dX11_hoursOf_28 : decode cX11_hoursOf 28 = .ok (.iload_n 3, 1) := by decide +kernel
theorem dX11_hoursOf_29 : decode cX11_hoursOf 29 = .ok (.aload_n 0, 1) := by decide +kernel
theorem dX11_hoursOf_30 : decode cX11_hoursOf 30 = .ok (.getfield 76, 3) := by decide +kernel
theorem dX11_hoursOf_33 : decode cX11_hoursOf 33 = .ok (.iload_n 1, 1) := by decide +kernel
theorem dX11_hoursOf_34 : decode cX11_hoursOf 34 = .ok (.iaload, 1) := by decide +kernel
theorem dX11_hoursOf_35 : decode cX11_hoursOf 35 = .ok (.if_icmp .gt 164, 3) := by decide +kernel
theorem dX11_hoursOf_38 : decode cX11_hoursOf 38 = .ok (.iload_n 3, 1) := by decide +kernel
theorem dX11_hoursOf_39 : decode cX11_hoursOf 39 = .ok (.aload_n 0, 1) := by decide +kernel
theorem dX11_hoursOf_40 : decode cX11_hoursOf 40 = .ok (.getfield 76, 3) := by decide +kernel
theorem dX11_hoursOf_43 : decode cX11_hoursOf 43 = .ok (.iload_n 1, 1) := by decide +kernel
theorem dX11_hoursOf_44 : decode cX11_hoursOf 44 = .ok (.iaload, 1) := by decide +kernel
theorem dX11_hoursOf_45 : decode cX11_hoursOf 45 = .ok (.if_icmp .ge 90, 3) := by decide +kernel
theorem dX11_hoursOf_48 : decode cX11_hoursOf 48 = .ok (.aload_n 0, 1) := by decide +kernel
theorem dX11_hoursOf_49 : decode cX11_hoursOf 49 = .ok (.getfield 79, 3) := by decide +kernel
theorem dX11_hoursOf_52 : decode cX11_hoursOf 52 = .ok (.bipush 60, 2) := by decide +kernel
theorem dX11_hoursOf_54 : decode cX11_hoursOf 54 = .ok (.iload_n 1, 1) := by decide +kernel
theorem dX11_hoursOf_55 : decode cX11_hoursOf 55 = .ok (.imul, 1) := by decide +kernel
theorem dX11_hoursOf_56 : decode cX11_hoursOf 56 = .ok (.iload_n 3, 1) := by decide +kernel
theorem dX11_hoursOf_57 : decode cX11_hoursOf 57 = .ok (.iadd, 1) := by decide +kernel
theorem dX11_hoursOf_58 : decode cX11_hoursOf 58 = .ok (.laload, 1) := by decide +kernel
theorem dX11_hoursOf_59 : decode cX11_hoursOf 59 = .ok (.ldc2_w 220, 3) := by decide +kernel
theorem dX11_hoursOf_62 : decode cX11_hoursOf 62 = .ok (.lcmp, 1) := by decide +kernel
theorem dX11_hoursOf_63 : decode cX11_hoursOf 63 = .ok (.ifCond .eq 72, 3) := by decide +kernel
theorem dX11_hoursOf_66 : decode cX11_hoursOf 66 = .ok (.aload_n 0, 1) := by decide +kernel
theorem dX11_hoursOf_67 : decode cX11_hoursOf 67 = .ok (.aload_n 0, 1) := by decide +kernel
theorem dX11_hoursOf_68 : decode cX11_hoursOf 68 = .ok (.aload_n 0, 1) := by decide +kernel
theorem dX11_hoursOf_69 : decode cX11_hoursOf 69 = .ok (.getfield 79, 3) := by decide +kernel
theorem dX11_hoursOf_72 : decode cX11_hoursOf 72 = .ok (.bipush 60, 2) := by decide +kernel
theorem dX11_hoursOf_74 : decode cX11_hoursOf 74 = .ok (.iload_n 1, 1) := by decide +kernel
theorem dX11_hoursOf_75 : decode cX11_hoursOf 75 = .ok (.imul, 1) := by decide +kernel
theorem dX11_hoursOf_76 : decode cX11_hoursOf 76 = .ok (.iload_n 3, 1) := by decide +kernel
theorem dX11_hoursOf_77 : decode cX11_hoursOf 77 = .ok (.iadd, 1) := by decide +kernel
theorem dX11_hoursOf_78 : decode cX11_hoursOf 78 = .ok (.laload, 1) := by decide +kernel
theorem dX11_hoursOf_79 : decode cX11_hoursOf 79 = .ok (.invokevirtual 222, 3) := by decide +kernel
theorem dX11_hoursOf_82 : decode cX11_hoursOf 82 = .ok (.putfield 208, 3) := by decide +kernel
theorem dX11_hoursOf_85 : decode cX11_hoursOf 85 = .ok (.aload_n 0, 1) := by decide +kernel
theorem dX11_hoursOf_86 : decode cX11_hoursOf 86 = .ok (.getfield 208, 3) := by decide +kernel
theorem dX11_hoursOf_89 : decode cX11_hoursOf 89 = .ok (.ifCond .eq 5, 3) := by decide +kernel
theorem dX11_hoursOf_92 : decode cX11_hoursOf 92 = .ok (.iload_n 3, 1) := by decide +kernel
theorem dX11_hoursOf_93 : decode cX11_hoursOf 93 = .ok (.ireturn, 1) := by decide +kernel
theorem dX11_hoursOf_94 : decode cX11_hoursOf 94 = .ok (.aload_n 0, 1) := by decide +kernel
theorem dX11_hoursOf_95 : decode cX11_hoursOf 95 = .ok (.getfield 30, 3) := by decide +kernel
theorem dX11_hoursOf_98 : decode cX11_hoursOf 98 = .ok (.aload_n 0, 1) := by decide +kernel
theorem dX11_hoursOf_99 : decode cX11_hoursOf 99 = .ok (.getfield 79, 3) := by decide +kernel
theorem dX11_hoursOf_102 : decode cX11_hoursOf 102 = .ok (.bipush 60, 2) := by decide +kernel
theorem dX11_hoursOf_104 : decode cX11_hoursOf 104 = .ok (.iload_n 1, 1) := by decide +kernel
theorem dX11_hoursOf_105 : decode cX11_hoursOf 105 = .ok (.imul, 1) := by decide +kernel
theorem dX11_hoursOf_106 : decode cX11_hoursOf 106 = .ok (.iload_n 3, 1) := by decide +kernel
theorem dX11_hoursOf_107 : decode cX11_hoursOf 107 = .ok (.iadd, 1) := by decide +kernel
theorem dX11_hoursOf_108 : decode cX11_hoursOf 108 = .ok (.laload, 1) := by decide +kernel
theorem dX11_hoursOf_109 : decode cX11_hoursOf 109 = .ok (.l2i, 1) := by decide +kernel
theorem dX11_hoursOf_110 : decode cX11_hoursOf 110 = .ok (.bipush 20, 2) := by decide +kernel
theorem dX11_hoursOf_112 : decode cX11_hoursOf 112 = .ok (.idiv, 1) := by decide +kernel
theorem dX11_hoursOf_113 : decode cX11_hoursOf 113 = .ok (.aload_n 0, 1) := by decide +kernel
theorem dX11_hoursOf_114 : decode cX11_hoursOf 114 = .ok (.getfield 79, 3) := by decide +kernel
theorem dX11_hoursOf_117 : decode cX11_hoursOf 117 = .ok (.bipush 60, 2) := by decide +kernel
theorem dX11_hoursOf_119 : decode cX11_hoursOf 119 = .ok (.iload_n 1, 1) := by decide +kernel
theorem dX11_hoursOf_120 : decode cX11_hoursOf 120 = .ok (.imul, 1) := by decide +kernel
theorem dX11_hoursOf_121 : decode cX11_hoursOf 121 = .ok (.iload_n 3, 1) := by decide +kernel
theorem dX11_hoursOf_122 : decode cX11_hoursOf 122 = .ok (.iadd, 1) := by decide +kernel
theorem dX11_hoursOf_123 : decode cX11_hoursOf 123 = .ok (.laload, 1) := by decide +kernel
theorem dX11_hoursOf_124 : decode cX11_hoursOf 124 = .ok (.l2i, 1) := by decide +kernel
theorem dX11_hoursOf_125 : decode cX11_hoursOf 125 = .ok (.bipush 20, 2) := by decide +kernel
theorem dX11_hoursOf_127 : decode cX11_hoursOf 127 = .ok (.irem, 1) := by decide +kernel
theorem dX11_hoursOf_128 : decode cX11_hoursOf 128 = .ok (.iastore, 1) := by decide +kernel
theorem dX11_hoursOf_129 : decode cX11_hoursOf 129 = .ok (.iinc 2 1, 3) := by decide +kernel
theorem dX11_hoursOf_132 : decode cX11_hoursOf 132 = .ok (.goto 61, 3) := by decide +kernel
theorem dX11_hoursOf_135 : decode cX11_hoursOf 135 = .ok (.aload_n 0, 1) := by decide +kernel
theorem dX11_hoursOf_136 : decode cX11_hoursOf 136 = .ok (.getfield 13, 3) := by decide +kernel
theorem dX11_hoursOf_139 : decode cX11_hoursOf 139 = .ok (.iconst 2, 1) := by decide +kernel
theorem dX11_hoursOf_140 : decode cX11_hoursOf 140 = .ok (.iaload, 1) := by decide +kernel
theorem dX11_hoursOf_141 : decode cX11_hoursOf 141 = .ok (.sipush 9999, 3) := by decide +kernel
theorem dX11_hoursOf_144 : decode cX11_hoursOf 144 = .ok (.if_icmp .ne 10, 3) := by decide +kernel
theorem dX11_hoursOf_147 : decode cX11_hoursOf 147 = .ok (.aload_n 0, 1) := by decide +kernel
theorem dX11_hoursOf_148 : decode cX11_hoursOf 148 = .ok (.iconst 3, 1) := by decide +kernel
theorem dX11_hoursOf_149 : decode cX11_hoursOf 149 = .ok (.putfield 208, 3) := by decide +kernel
theorem dX11_hoursOf_152 : decode cX11_hoursOf 152 = .ok (.iload_n 3, 1) := by decide +kernel
theorem dX11_hoursOf_153 : decode cX11_hoursOf 153 = .ok (.ireturn, 1) := by decide +kernel
theorem dX11_hoursOf_154 : decode cX11_hoursOf 154 = .ok (.aload_n 0, 1) := by decide +kernel
theorem dX11_hoursOf_155 : decode cX11_hoursOf 155 = .ok (.dup, 1) := by decide +kernel
theorem dX11_hoursOf_156 : decode cX11_hoursOf 156 = .ok (.getfield 214, 3) := by decide +kernel
theorem dX11_hoursOf_159 : decode cX11_hoursOf 159 = .ok (.aload_n 0, 1) := by decide +kernel
theorem dX11_hoursOf_160 : decode cX11_hoursOf 160 = .ok (.invokevirtual 203, 3) := by decide +kernel
theorem dX11_hoursOf_163 : decode cX11_hoursOf 163 = .ok (.iadd, 1) := by decide +kernel
theorem dX11_hoursOf_164 : decode cX11_hoursOf 164 = .ok (.putfield 214, 3) := by decide +kernel
theorem dX11_hoursOf_167 : decode cX11_hoursOf 167 = .ok (.aload_n 0, 1) := by decide +kernel
theorem dX11_hoursOf_168 : decode cX11_hoursOf 168 = .ok (.dup, 1) := by decide +kernel
theorem dX11_hoursOf_169 : decode cX11_hoursOf 169 = .ok (.getfield 217, 3) := by decide +kernel
theorem dX11_hoursOf_172 : decode cX11_hoursOf 172 = .ok (.iload_n 2, 1) := by decide +kernel
theorem dX11_hoursOf_173 : decode cX11_hoursOf 173 = .ok (.iadd, 1) := by decide +kernel
theorem dX11_hoursOf_174 : decode cX11_hoursOf 174 = .ok (.putfield 217, 3) := by decide +kernel
theorem dX11_hoursOf_177 : decode cX11_hoursOf 177 = .ok (.aload_n 0, 1) := by decide +kernel
theorem dX11_hoursOf_178 : decode cX11_hoursOf 178 = .ok (.dup, 1) := by decide +kernel
theorem dX11_hoursOf_179 : decode cX11_hoursOf 179 = .ok (.getfield 211, 3) := by decide +kernel
theorem dX11_hoursOf_182 : decode cX11_hoursOf 182 = .ok (.iconst 1, 1) := by decide +kernel
theorem dX11_hoursOf_183 : decode cX11_hoursOf 183 = .ok (.iadd, 1) := by decide +kernel
theorem dX11_hoursOf_184 : decode cX11_hoursOf 184 = .ok (.putfield 211, 3) := by decide +kernel
theorem dX11_hoursOf_187 : decode cX11_hoursOf 187 = .ok (.iconst 0, 1) := by decide +kernel
theorem dX11_hoursOf_188 : decode cX11_hoursOf 188 = .ok (.istore_n 2, 1) := by decide +kernel
theorem dX11_hoursOf_189 : decode cX11_hoursOf 189 = .ok (.aload_n 0, 1) := by decide +kernel
theorem dX11_hoursOf_190 : decode cX11_hoursOf 190 = .ok (.invokevirtual 200, 3) := by decide +kernel
theorem dX11_hoursOf_193 : decode cX11_hoursOf 193 = .ok (.iinc 3 1, 3) := by decide +kernel
theorem dX11_hoursOf_196 : decode cX11_hoursOf 196 = .ok (.goto (-168), 3) := by decide +kernel
theorem dX11_hoursOf_199 : decode cX11_hoursOf 199 = .ok (.iconst (-1), 1) := by decide +kernel
theorem dX11_hoursOf_200 : decode cX11_hoursOf 200 = .ok (.ireturn, 1) := by decide +kernel
def mX11_hoursOf (n : Nat) (a : Nat) (b1 : Int) (μ : Mem) : Option (Int × Mem) :=
  (pI μ 12 a 17 0).bind fun μ2 =>
  (pI μ2 12 a 18 0).bind fun μ7 =>
  (pI μ7 12 a 19 0).bind fun μ12 =>
  (pI μ12 12 a 20 0).bind fun μ17 =>
  (inv μ17 12 a (mX11_nobody n a μ17)).bind fun p23 =>
  lp (fun nx28 (v28 : Int × Int) (μ28 : Mem) =>
  (gA μ28 12 a 42).bind fun x30 =>
  (ldI μ28 0 x30 b1).bind fun x34 =>
  if lt32 x34 v28.2 then
    some ((-1), μ28)
  else
  (gA μ28 12 a 42).bind fun x40 =>
  (ldI μ28 0 x40 b1).bind fun x44 =>
  jn (fun (v135 : Int × Int) (μ135 : Mem) =>
  (gA μ135 12 a 1).bind fun x136 =>
  (ldI μ135 0 x136 2).bind fun x140 =>
  if eq32 x140 9999 then
    (pI μ135 12 a 17 3).bind fun μ149 =>
    some (v135.2, μ149)
  else
  (gI μ135 12 a 19).bind fun x156 =>
  (inv μ135 12 a (mX11_goes n a μ135)).bind fun p160 =>
  (pI p160.2 12 a 19 (x156 + p160.1)).bind fun μ164 =>
  (gI μ164 12 a 20).bind fun x169 =>
  (pI μ164 12 a 20 (x169 + v135.1)).bind fun μ174 =>
  (gI μ174 12 a 18).bind fun x179 =>
  (pI μ174 12 a 18 (x179 + 1)).bind fun μ184 =>
  (inv μ184 12 a (mX11_nobody n a μ184)).bind fun p190 =>
  nx28 (0, (v135.2 + 1)) p190.2) (fun j135 =>
  if lt32 v28.2 x44 then
    (gA μ28 12 a 43).bind fun x49 =>
    (ldI μ28 3 x49 ((60 * b1) + v28.2)).bind fun x58 =>
    if eq32 (oLcmp x58 (-1)) 0 then
      j135 (v28.1, v28.2) μ28
    else
    (gA μ28 12 a 43).bind fun x69 =>
    (ldI μ28 3 x69 ((60 * b1) + v28.2)).bind fun x78 =>
    (inv μ28 12 a (mX11_refuses n a x78 μ28)).bind fun p79 =>
    (pI p79.2 12 a 17 p79.1).bind fun μ82 =>
    (gI μ82 12 a 17).bind fun x86 =>
    if eq32 x86 0 then
      (gA μ82 12 a 15).bind fun x95 =>
      (gA μ82 12 a 43).bind fun x99 =>
      (ldI μ82 3 x99 ((60 * b1) + v28.2)).bind fun x108 =>
      (gA μ82 12 a 43).bind fun x114 =>
      (ldI μ82 3 x114 ((60 * b1) + v28.2)).bind fun x123 =>
      (stI μ82 0 x95 (oDiv x108 20) (oRem x123 20)).bind fun μ128 =>
      nx28 ((v28.1 + 1), (v28.2 + 1)) μ128
    else
    some (v28.2, μ82)
  else
  j135 (v28.1, v28.2) μ28)) n (0, 0) p23.2
set_option maxRecDepth 100000 in
set_option maxHeartbeats 4000000 in
theorem cX11_hoursOf_ok (n : Nat) (a : Nat) (b1 : Int) (μ : Mem) : Mc yX11_hoursOf cX11_hoursOf 4 (some .int) 3 72 eI [aA a, aI b1] μ (mX11_hoursOf n a b1 μ) := by
  refine mc_of (L0 := [some (aA a), some (aI b1), none, none]) (k := 2) (by decide) rfl rfl (fun X Γ => ?_)
  unfold mX11_hoursOf
  refine sn_aload_n dX11_hoursOf_0 rfl ?_
  refine sn_iconst dX11_hoursOf_1 ?_
  refine sn_putI (ci := 11) (j := 17) dX11_hoursOf_2 fl_X11_208 rfl (fun q h => by cases h; rfl) (fun μ2 => ?_)
  refine sn_aload_n dX11_hoursOf_5 rfl ?_
  refine sn_iconst dX11_hoursOf_6 ?_
  refine sn_putI (ci := 11) (j := 18) dX11_hoursOf_7 fl_X11_211 rfl (fun q h => by cases h; rfl) (fun μ7 => ?_)
  refine sn_aload_n dX11_hoursOf_10 rfl ?_
  refine sn_iconst dX11_hoursOf_11 ?_
  refine sn_putI (ci := 11) (j := 19) dX11_hoursOf_12 fl_X11_214 rfl (fun q h => by cases h; rfl) (fun μ12 => ?_)
  refine sn_aload_n dX11_hoursOf_15 rfl ?_
  refine sn_iconst dX11_hoursOf_16 ?_
  refine sn_putI (ci := 11) (j := 20) dX11_hoursOf_17 fl_X11_217 rfl (fun q h => by cases h; rfl) (fun μ17 => ?_)
  refine sn_iconst dX11_hoursOf_20 ?_
  refine sn_istore_n (L' := [some (aA a), some (aI b1), some (aI 0), none]) dX11_hoursOf_21 (by decide) rfl ?_
  refine sn_aload_n dX11_hoursOf_22 rfl ?_
  refine sn_callVV (vs := []) (ci := 11) (cX11_nobody_ok n a μ17) dX11_hoursOf_23 cw_X11_200 rfl rfl rfl (by decide) (by decide) (Nat.le_of_ble_eq_true rfl) (fun p23 => ?_)
  refine sn_iconst dX11_hoursOf_26 ?_
  refine sn_istore_n (L' := [some (aA a), some (aI b1), some (aI 0), some (aI 0)]) dX11_hoursOf_27 (by decide) rfl ?_
  refine sn_lp (La := fun v28 : Int × Int => [some (aA a), some (aI b1), some (aI v28.1), some (aI v28.2)]) ?_ n (0, 0) p23.2
  intro nx28 hnx28 v28 μ28
  refine sn_iload_n dX11_hoursOf_28 rfl ?_
  refine sn_aload_n dX11_hoursOf_29 rfl ?_
  refine sn_getA (ci := 11) (j := 42) dX11_hoursOf_30 fl_X11_76 (by decide) (fun x30 => ?_)
  refine sn_iload_n dX11_hoursOf_33 rfl ?_
  refine sn_iald dX11_hoursOf_34 (fun x34 => ?_)
  refine sn_icmp_gt (tgt := 199) dX11_hoursOf_35 (by decide) ?_ ?_
  · refine sn_iconst dX11_hoursOf_199 ?_
    exact sn_iret dX11_hoursOf_200
  · refine sn_iload_n dX11_hoursOf_38 rfl ?_
    refine sn_aload_n dX11_hoursOf_39 rfl ?_
    refine sn_getA (ci := 11) (j := 42) dX11_hoursOf_40 fl_X11_76 (by decide) (fun x40 => ?_)
    refine sn_iload_n dX11_hoursOf_43 rfl ?_
    refine sn_iald dX11_hoursOf_44 (fun x44 => ?_)
    refine sn_jn (pcj := 135) (La := fun v135 : Int × Int => [some (aA a), some (aI b1), some (aI v135.1), some (aI v135.2)]) (Sa := fun v135 : Int × Int => []) ?_ ?_
    · intro v135 μ135
      refine sn_aload_n dX11_hoursOf_135 rfl ?_
      refine sn_getA (ci := 11) (j := 1) dX11_hoursOf_136 fl_X11_13 (by decide) (fun x136 => ?_)
      refine sn_iconst dX11_hoursOf_139 ?_
      refine sn_iald dX11_hoursOf_140 (fun x140 => ?_)
      refine sn_sipush dX11_hoursOf_141 (by decide) ?_
      refine sn_icmp_ne (tgt := 154) dX11_hoursOf_144 (by decide) ?_ ?_
      · refine sn_aload_n dX11_hoursOf_154 rfl ?_
        refine sn_dup dX11_hoursOf_155 rfl ?_
        refine sn_getI (ci := 11) (j := 19) dX11_hoursOf_156 fl_X11_214 rfl (fun x156 => ?_)
        refine sn_aload_n dX11_hoursOf_159 rfl ?_
        refine sn_callVI (vs := []) (ci := 11) (cX11_goes_ok n a μ135) dX11_hoursOf_160 cw_X11_203 rfl rfl rfl (by decide) (by decide) (Nat.le_of_ble_eq_true rfl) (fun p160 => ?_)
        refine sn_iadd dX11_hoursOf_163 ?_
        refine sn_putI (ci := 11) (j := 19) dX11_hoursOf_164 fl_X11_214 rfl (fun q h => by cases h; rfl) (fun μ164 => ?_)
        refine sn_aload_n dX11_hoursOf_167 rfl ?_
        refine sn_dup dX11_hoursOf_168 rfl ?_
        refine sn_getI (ci := 11) (j := 20) dX11_hoursOf_169 fl_X11_217 rfl (fun x169 => ?_)
        refine sn_iload_n dX11_hoursOf_172 rfl ?_
        refine sn_iadd dX11_hoursOf_173 ?_
        refine sn_putI (ci := 11) (j := 20) dX11_hoursOf_174 fl_X11_217 rfl (fun q h => by cases h; rfl) (fun μ174 => ?_)
        refine sn_aload_n dX11_hoursOf_177 rfl ?_
        refine sn_dup dX11_hoursOf_178 rfl ?_
        refine sn_getI (ci := 11) (j := 18) dX11_hoursOf_179 fl_X11_211 rfl (fun x179 => ?_)
        refine sn_iconst dX11_hoursOf_182 ?_
        refine sn_iadd dX11_hoursOf_183 ?_
        refine sn_putI (ci := 11) (j := 18) dX11_hoursOf_184 fl_X11_211 rfl (fun q h => by cases h; rfl) (fun μ184 => ?_)
        refine sn_iconst dX11_hoursOf_187 ?_
        refine sn_istore_n (L' := [some (aA a), some (aI b1), some (aI 0), some (aI v135.2)]) dX11_hoursOf_188 (by decide) rfl ?_
        refine sn_aload_n dX11_hoursOf_189 rfl ?_
        refine sn_callVV (vs := []) (ci := 11) (cX11_nobody_ok n a μ184) dX11_hoursOf_190 cw_X11_200 rfl rfl rfl (by decide) (by decide) (Nat.le_of_ble_eq_true rfl) (fun p190 => ?_)
        refine sn_iinc (L' := [some (aA a), some (aI b1), some (aI 0), some (aI (v135.2 + 1))]) dX11_hoursOf_193 rfl (by decide) rfl ?_
        refine sn_goto (tgt := 28) dX11_hoursOf_196 (by decide) ?_
        exact hnx28 (0, (v135.2 + 1)) p190.2
      · refine sn_aload_n dX11_hoursOf_147 rfl ?_
        refine sn_iconst dX11_hoursOf_148 ?_
        refine sn_putI (ci := 11) (j := 17) dX11_hoursOf_149 fl_X11_208 rfl (fun q h => by cases h; rfl) (fun μ149 => ?_)
        refine sn_iload_n dX11_hoursOf_152 rfl ?_
        exact sn_iret dX11_hoursOf_153
    intro j135 hj135
    refine sn_icmp_ge (tgt := 135) dX11_hoursOf_45 (by decide) ?_ ?_
    · exact hj135 (v28.1, v28.2) μ28
    · refine sn_aload_n dX11_hoursOf_48 rfl ?_
      refine sn_getA (ci := 11) (j := 43) dX11_hoursOf_49 fl_X11_79 (by decide) (fun x49 => ?_)
      refine sn_bipush dX11_hoursOf_52 (by decide) ?_
      refine sn_iload_n dX11_hoursOf_54 rfl ?_
      refine sn_imul dX11_hoursOf_55 ?_
      refine sn_iload_n dX11_hoursOf_56 rfl ?_
      refine sn_iadd dX11_hoursOf_57 ?_
      refine sn_lald dX11_hoursOf_58 (fun x58 => ?_)
      refine sn_ldc2 (v := (-1)) dX11_hoursOf_59 k_X11_220 (by decide) ?_
      refine sn_lcmp dX11_hoursOf_62 ?_
      refine sn_if_eq (tgt := 135) dX11_hoursOf_63 (by decide) ?_ ?_
      · exact hj135 (v28.1, v28.2) μ28
      · refine sn_aload_n dX11_hoursOf_66 rfl ?_
        refine sn_aload_n dX11_hoursOf_67 rfl ?_
        refine sn_aload_n dX11_hoursOf_68 rfl ?_
        refine sn_getA (ci := 11) (j := 43) dX11_hoursOf_69 fl_X11_79 (by decide) (fun x69 => ?_)
        refine sn_bipush dX11_hoursOf_72 (by decide) ?_
        refine sn_iload_n dX11_hoursOf_74 rfl ?_
        refine sn_imul dX11_hoursOf_75 ?_
        refine sn_iload_n dX11_hoursOf_76 rfl ?_
        refine sn_iadd dX11_hoursOf_77 ?_
        refine sn_lald dX11_hoursOf_78 (fun x78 => ?_)
        refine sn_callVI (vs := [aJ x78]) (ci := 11) (cX11_refuses_ok n a x78 μ28) dX11_hoursOf_79 cw_X11_222 rfl rfl rfl (by decide) (by decide) (Nat.le_of_ble_eq_true rfl) (fun p79 => ?_)
        refine sn_putI (ci := 11) (j := 17) dX11_hoursOf_82 fl_X11_208 rfl (fun q h => by cases h; rfl) (fun μ82 => ?_)
        refine sn_aload_n dX11_hoursOf_85 rfl ?_
        refine sn_getI (ci := 11) (j := 17) dX11_hoursOf_86 fl_X11_208 rfl (fun x86 => ?_)
        refine sn_if_eq (tgt := 94) dX11_hoursOf_89 (by decide) ?_ ?_
        · refine sn_aload_n dX11_hoursOf_94 rfl ?_
          refine sn_getA (ci := 11) (j := 15) dX11_hoursOf_95 fl_X11_30 (by decide) (fun x95 => ?_)
          refine sn_aload_n dX11_hoursOf_98 rfl ?_
          refine sn_getA (ci := 11) (j := 43) dX11_hoursOf_99 fl_X11_79 (by decide) (fun x99 => ?_)
          refine sn_bipush dX11_hoursOf_102 (by decide) ?_
          refine sn_iload_n dX11_hoursOf_104 rfl ?_
          refine sn_imul dX11_hoursOf_105 ?_
          refine sn_iload_n dX11_hoursOf_106 rfl ?_
          refine sn_iadd dX11_hoursOf_107 ?_
          refine sn_lald dX11_hoursOf_108 (fun x108 => ?_)
          refine sn_l2i dX11_hoursOf_109 ?_
          refine sn_bipush dX11_hoursOf_110 (by decide) ?_
          refine sn_idivK dX11_hoursOf_112 (by decide) ?_
          refine sn_aload_n dX11_hoursOf_113 rfl ?_
          refine sn_getA (ci := 11) (j := 43) dX11_hoursOf_114 fl_X11_79 (by decide) (fun x114 => ?_)
          refine sn_bipush dX11_hoursOf_117 (by decide) ?_
          refine sn_iload_n dX11_hoursOf_119 rfl ?_
          refine sn_imul dX11_hoursOf_120 ?_
          refine sn_iload_n dX11_hoursOf_121 rfl ?_
          refine sn_iadd dX11_hoursOf_122 ?_
          refine sn_lald dX11_hoursOf_123 (fun x123 => ?_)
          refine sn_l2i dX11_hoursOf_124 ?_
          refine sn_bipush dX11_hoursOf_125 (by decide) ?_
          refine sn_iremK dX11_hoursOf_127 (by decide) ?_
          refine sn_iast dX11_hoursOf_128 (fun μ128 => ?_)
          refine sn_iinc (L' := [some (aA a), some (aI b1), some (aI (v28.1 + 1)), some (aI v28.2)]) dX11_hoursOf_129 rfl (by decide) rfl ?_
          refine sn_goto (tgt := 193) dX11_hoursOf_132 (by decide) ?_
          refine sn_iinc (L' := [some (aA a), some (aI b1), some (aI (v28.1 + 1)), some (aI (v28.2 + 1))]) dX11_hoursOf_193 rfl (by decide) rfl ?_
          refine sn_goto (tgt := 28) dX11_hoursOf_196 (by decide) ?_
          exact hnx28 ((v28.1 + 1), (v28.2 + 1)) μ128
        · refine sn_iload_n dX11_hoursOf_92 rfl ?_
          exact sn_iret dX11_hoursOf_93
theorem dX11_ropesOf_0 : decode cX11_ropesOf 0 = .ok (.iconst 0, 1) := by decide +kernel
theorem dX11_ropesOf_1 : decode cX11_ropesOf 1 = .ok (.istore_n 2, 1) := by decide +kernel
theorem dX11_ropesOf_2 : decode cX11_ropesOf 2 = .ok (.iconst 0, 1) := by decide +kernel
theorem dX11_ropesOf_3 : decode cX11_ropesOf 3 = .ok (.istore_n 3, 1) := by decide +kernel
theorem dX11_ropesOf_4 : decode cX11_ropesOf 4 = .ok (.iload_n 3, 1) := by decide +kernel
theorem dX11_ropesOf_5 : decode cX11_ropesOf 5 = .ok (.aload_n 0, 1) := by decide +kernel
theorem dX11_ropesOf_6 : decode cX11_ropesOf 6 = .ok (.getfield 13, 3) := by decide +kernel
theorem dX11_ropesOf_9 : decode cX11_ropesOf 9 = .ok (.iconst 1, 1) := by decide +kernel
theorem dX11_ropesOf_10 : decode cX11_ropesOf 10 = .ok (.iaload, 1) := by decide +kernel
theorem dX11_ropesOf_11 : decode cX11_ropesOf 11 = .ok (.if_icmp .ge 28, 3) := by decide +kernel
theorem dX11_ropesOf_14 : decode cX11_ropesOf 14 = .ok (.iload_n 2, 1) := by decide +kernel
theorem dX11_ropesOf_15 : decode cX11_ropesOf 15 = .ok (.aload_n 0, 1) := by decide +kernel
theorem dX11_ropesOf_16 : decode cX11_ropesOf 16 = .ok (.iload_n 1, 1) := by decide +kernel
theorem dX11_ropesOf_17 : decode cX11_ropesOf 17 = .ok (.iload_n 3, 1) := by decide +kernel
theorem dX11_ropesOf_18 : decode cX11_ropesOf 18 = .ok (.invokevirtual 166, 3) := by decide +kernel
theorem dX11_ropesOf_21 : decode cX11_ropesOf 21 = .ok (.ifCond .eq 9, 3) := by decide +kernel
theorem dX11_ropesOf_24 : decode cX11_ropesOf 24 = .ok (.iconst 1, 1) := by decide +kernel
theorem dX11_ropesOf_25 : decode cX11_ropesOf 25 = .ok (.iload_n 3, 1) := by decide +kernel
theorem dX11_ropesOf_26 : decode cX11_ropesOf 26 = .ok (.ishl, 1) := by decide +kernel
theorem dX11_ropesOf_27 : decode cX11_ropesOf 27 = .ok (.goto 4, 3) := by decide +kernel
theorem dX11_ropesOf_30 : decode cX11_ropesOf 30 = .ok (.iconst 0, 1) := by decide +kernel
theorem dX11_ropesOf_31 : decode cX11_ropesOf 31 = .ok (.ior, 1) := by decide +kernel
theorem dX11_ropesOf_32 : decode cX11_ropesOf 32 = .ok (.istore_n 2, 1) := by decide +kernel
theorem dX11_ropesOf_33 : decode cX11_ropesOf 33 = .ok (.iinc 3 1, 3) := by decide +kernel
theorem dX11_ropesOf_36 : decode cX11_ropesOf 36 = .ok (.goto (-32), 3) := by decide +kernel
theorem dX11_ropesOf_39 : decode cX11_ropesOf 39 = .ok (.iload_n 2, 1) := by decide +kernel
theorem dX11_ropesOf_40 : decode cX11_ropesOf 40 = .ok (.ireturn, 1) := by decide +kernel
def mX11_ropesOf (n : Nat) (a : Nat) (b1 : Int) (μ : Mem) : Option (Int × Mem) :=
  lp (fun nx4 (v4 : Int × Int) (μ4 : Mem) =>
  (gA μ4 12 a 1).bind fun x6 =>
  (ldI μ4 0 x6 1).bind fun x10 =>
  if lt32 v4.2 x10 then
    (inv μ4 12 a (mX11_isEnd n a b1 v4.2 μ4)).bind fun p18 =>
    jn (fun (v31 : Int) (μ31 : Mem) =>
    nx4 ((oOr v4.1 v31), (v4.2 + 1)) μ31) (fun j31 =>
    if eq32 p18.1 0 then
      j31 0 p18.2
    else
    j31 (oShl 1 v4.2) p18.2)
  else
  some (v4.1, μ4)) n (0, 0) μ
set_option maxRecDepth 100000 in
set_option maxHeartbeats 4000000 in
theorem cX11_ropesOf_ok (n : Nat) (a : Nat) (b1 : Int) (μ : Mem) : Mc yX11_ropesOf cX11_ropesOf 4 (some .int) 1 22 eI [aA a, aI b1] μ (mX11_ropesOf n a b1 μ) := by
  refine mc_of (L0 := [some (aA a), some (aI b1), none, none]) (k := 2) (by decide) rfl rfl (fun X Γ => ?_)
  unfold mX11_ropesOf
  refine sn_iconst dX11_ropesOf_0 ?_
  refine sn_istore_n (L' := [some (aA a), some (aI b1), some (aI 0), none]) dX11_ropesOf_1 (by decide) rfl ?_
  refine sn_iconst dX11_ropesOf_2 ?_
  refine sn_istore_n (L' := [some (aA a), some (aI b1), some (aI 0), some (aI 0)]) dX11_ropesOf_3 (by decide) rfl ?_
  refine sn_lp (La := fun v4 : Int × Int => [some (aA a), some (aI b1), some (aI v4.1), some (aI v4.2)]) ?_ n (0, 0) μ
  intro nx4 hnx4 v4 μ4
  refine sn_iload_n dX11_ropesOf_4 rfl ?_
  refine sn_aload_n dX11_ropesOf_5 rfl ?_
  refine sn_getA (ci := 11) (j := 1) dX11_ropesOf_6 fl_X11_13 (by decide) (fun x6 => ?_)
  refine sn_iconst dX11_ropesOf_9 ?_
  refine sn_iald dX11_ropesOf_10 (fun x10 => ?_)
  refine sn_icmp_ge (tgt := 39) dX11_ropesOf_11 (by decide) ?_ ?_
  · refine sn_iload_n dX11_ropesOf_39 rfl ?_
    exact sn_iret dX11_ropesOf_40
  · refine sn_iload_n dX11_ropesOf_14 rfl ?_
    refine sn_aload_n dX11_ropesOf_15 rfl ?_
    refine sn_iload_n dX11_ropesOf_16 rfl ?_
    refine sn_iload_n dX11_ropesOf_17 rfl ?_
    refine sn_callVI (vs := [aI b1, aI v4.2]) (ci := 11) (cX11_isEnd_ok n a b1 v4.2 μ4) dX11_ropesOf_18 cw_X11_166 rfl rfl rfl (by decide) (by decide) (Nat.le_of_ble_eq_true rfl) (fun p18 => ?_)
    refine sn_jn (pcj := 31) (La := fun v31 : Int => [some (aA a), some (aI b1), none, some (aI v4.2)]) (Sa := fun v31 : Int => [aI v31, aI v4.1]) ?_ ?_
    · intro v31 μ31
      refine sn_ior dX11_ropesOf_31 ?_
      refine sn_istore_n (L' := [some (aA a), some (aI b1), some (aI (oOr v4.1 v31)), some (aI v4.2)]) dX11_ropesOf_32 (by decide) rfl ?_
      refine sn_iinc (L' := [some (aA a), some (aI b1), some (aI (oOr v4.1 v31)), some (aI (v4.2 + 1))]) dX11_ropesOf_33 rfl (by decide) rfl ?_
      refine sn_goto (tgt := 4) dX11_ropesOf_36 (by decide) ?_
      exact hnx4 ((oOr v4.1 v31), (v4.2 + 1)) μ31
    intro j31 hj31
    refine sn_if_eq (tgt := 30) dX11_ropesOf_21 (by decide) ?_ ?_
    · refine sn_iconst dX11_ropesOf_30 ?_
      exact sn_mask (L' := [some (aA a), some (aI b1), none, some (aI v4.2)]) [true, true, false, true] rfl (hj31 0 p18.2)
    · refine sn_iconst dX11_ropesOf_24 ?_
      refine sn_iload_n dX11_ropesOf_25 rfl ?_
      refine sn_ishl dX11_ropesOf_26 ?_
      refine sn_goto (tgt := 31) dX11_ropesOf_27 (by decide) ?_
      exact sn_mask (L' := [some (aA a), some (aI b1), none, some (aI v4.2)]) [true, true, false, true] rfl (hj31 (oShl 1 v4.2) p18.2)
theorem dX11_house_0 : decode cX11_house 0 = .ok (.aload_n 0, 1) := by decide +kernel
theorem dX11_house_1 : decode cX11_house 1 = .ok (.iconst 0, 1) := by decide +kernel
theorem dX11_house_2 : decode cX11_house 2 = .ok (.putfield 1, 3) := by decide +kernel
theorem dX11_house_5 : decode cX11_house 5 = .ok (.aload_n 0, 1) := by decide +kernel
theorem dX11_house_6 : decode cX11_house 6 = .ok (.iload_n 1, 1) := by decide +kernel
theorem dX11_house_7 : decode cX11_house 7 = .ok (.i2l, 1) := by decide +kernel
theorem dX11_house_8 : decode cX11_house 8 = .ok (.invokevirtual 170, 3) := by decide +kernel
theorem dX11_house_11 : decode cX11_house 11 = .ok (.ifCond .eq 15, 3) := by decide +kernel
theorem dX11_house_14 : decode cX11_house 14 = .ok (.iload_n 2, 1) := by decide +kernel
theorem dX11_house_15 : decode cX11_house 15 = .ok (.i2l, 1) := by decide +kernel
theorem dX11_house_16 : decode cX11_house 16 = .ok (.lconst 0, 1) := by decide +kernel
theorem dX11_house_17 : decode cX11_house 17 = .ok (.ldc2_w 174, 3) := by decide +kernel
theorem dX11_house_20 : decode cX11_house 20 = .ok (.invokestatic 146, 3) := by decide +kernel
theorem dX11_house_23 : decode cX11_house 23 = .ok (.ifCond .ne 6, 3) := by decide +kernel
theorem dX11_house_26 : decode cX11_house 26 = .ok (.bipush (-2), 2) := by decide +kernel
theorem dX11_house_28 : decode cX11_house 28 = .ok (.ireturn, 1) := by decide +kernel
theorem dX11_house_29 : decode cX11_house 29 = .ok (.iload_n 2, 1) := by decide +kernel
theorem dX11_house_30 : decode cX11_house 30 = .ok (.bipush 7, 2) := by decide +kernel
theorem dX11_house_32 : decode cX11_house 32 = .ok (.if_icmp .ne 11, 3) := by decide +kernel
theorem dX11_house_35 : decode cX11_house 35 = .ok (.aload_n 0, 1) := by decide +kernel
theorem dX11_house_36 : decode cX11_house 36 = .ok (.iload_n 1, 1) := by decide +kernel
theorem dX11_house_37 : decode cX11_house 37 = .ok (.invokevirtual 176, 3) := by decide +kernel
theorem dX11_house_40 : decode cX11_house 40 = .ok (.goto 17, 3) := by decide +kernel
theorem dX11_house_43 : decode cX11_house 43 = .ok (.aload_n 0, 1) := by decide +kernel
theorem dX11_house_44 : decode cX11_house 44 = .ok (.getfield 13, 3) := by decide +kernel
theorem dX11_house_47 : decode cX11_house 47 = .ok (.bipush 6, 2) := by decide +kernel
theorem dX11_house_49 : decode cX11_house 49 = .ok (.bipush 10, 2) := by decide +kernel
theorem dX11_house_51 : decode cX11_house 51 = .ok (.iload_n 2, 1) := by decide +kernel
theorem dX11_house_52 : decode cX11_house 52 = .ok (.imul, 1) := by decide +kernel
theorem dX11_house_53 : decode cX11_house 53 = .ok (.iadd, 1) := by decide +kernel
theorem dX11_house_54 : decode cX11_house 54 = .ok (.iload_n 1, 1) := by decide +kernel
theorem dX11_house_55 : decode cX11_house 55 = .ok (.iadd, 1) := by decide +kernel
theorem dX11_house_56 : decode cX11_house 56 = .ok (.iaload, 1) := by decide +kernel
theorem dX11_house_57 : decode cX11_house 57 = .ok (.ireturn, 1) := by decide +kernel
def mX11_house (n : Nat) (a : Nat) (b1 : Int) (b2 : Int) (μ : Mem) : Option (Int × Mem) :=
  (pI μ 12 a 0 0).bind fun μ2 =>
  (inv μ2 12 a (mX11_isHouse n a (oI2l b1) μ2)).bind fun p8 =>
  if eq32 p8.1 0 then
    some ((-2), p8.2)
  else
  (mX11_within n (oI2l b2) 0 7 p8.2).bind fun p20 =>
  if eq32 p20.1 0 then
    some ((-2), p20.2)
  else
  if eq32 b2 7 then
    (inv p20.2 12 a (mX11_ropesOf n a b1 p20.2)).bind fun p37 =>
    some (p37.1, p37.2)
  else
  (gA p20.2 12 a 1).bind fun x44 =>
  (ldI p20.2 0 x44 ((6 + (10 * b2)) + b1)).bind fun x56 =>
  some (x56, p20.2)
set_option maxRecDepth 100000 in
set_option maxHeartbeats 4000000 in
theorem cX11_house_ok (n : Nat) (a : Nat) (b1 : Int) (b2 : Int) (μ : Mem) : Mc yX11_house cX11_house 3 (some .int) 2 47 eI [aA a, aI b1, aI b2] μ (mX11_house n a b1 b2 μ) := by
  refine mc_of (L0 := [some (aA a), some (aI b1), some (aI b2)]) (k := 0) (by decide) rfl rfl (fun X Γ => ?_)
  unfold mX11_house
  refine sn_aload_n dX11_house_0 rfl ?_
  refine sn_iconst dX11_house_1 ?_
  refine sn_putI (ci := 11) (j := 0) dX11_house_2 fl_X11_1 rfl (fun q h => by cases h; rfl) (fun μ2 => ?_)
  refine sn_aload_n dX11_house_5 rfl ?_
  refine sn_iload_n dX11_house_6 rfl ?_
  refine sn_i2l dX11_house_7 ?_
  refine sn_callVI (vs := [aJ (oI2l b1)]) (ci := 11) (cX11_isHouse_ok n a (oI2l b1) μ2) dX11_house_8 cw_X11_170 rfl rfl rfl (by decide) (by decide) (Nat.le_of_ble_eq_true rfl) (fun p8 => ?_)
  refine sn_if_eq (tgt := 26) dX11_house_11 (by decide) ?_ ?_
  · refine sn_bipush dX11_house_26 (by decide) ?_
    exact sn_iret dX11_house_28
  · refine sn_iload_n dX11_house_14 rfl ?_
    refine sn_i2l dX11_house_15 ?_
    refine sn_lconst (v := 0) dX11_house_16 (by decide) ?_
    refine sn_ldc2 (v := 7) dX11_house_17 k_X11_174 (by decide) ?_
    refine sn_callSI (vs := [aJ (oI2l b2), aJ 0, aJ 7]) (cX11_within_ok n (oI2l b2) 0 7 p8.2) dX11_house_20 cw_X11_146 rfl (by decide) (by decide) (Nat.le_of_ble_eq_true rfl) (fun p20 => ?_)
    refine sn_if_ne (tgt := 29) dX11_house_23 (by decide) ?_ ?_
    · refine sn_iload_n dX11_house_29 rfl ?_
      refine sn_bipush dX11_house_30 (by decide) ?_
      refine sn_icmp_ne (tgt := 43) dX11_house_32 (by decide) ?_ ?_
      · refine sn_aload_n dX11_house_43 rfl ?_
        refine sn_getA (ci := 11) (j := 1) dX11_house_44 fl_X11_13 (by decide) (fun x44 => ?_)
        refine sn_bipush dX11_house_47 (by decide) ?_
        refine sn_bipush dX11_house_49 (by decide) ?_
        refine sn_iload_n dX11_house_51 rfl ?_
        refine sn_imul dX11_house_52 ?_
        refine sn_iadd dX11_house_53 ?_
        refine sn_iload_n dX11_house_54 rfl ?_
        refine sn_iadd dX11_house_55 ?_
        refine sn_iald dX11_house_56 (fun x56 => ?_)
        exact sn_iret dX11_house_57
      · refine sn_aload_n dX11_house_35 rfl ?_
        refine sn_iload_n dX11_house_36 rfl ?_
        refine sn_callVI (vs := [aI b1]) (ci := 11) (cX11_ropesOf_ok n a b1 p20.2) dX11_house_37 cw_X11_176 rfl rfl rfl (by decide) (by decide) (Nat.le_of_ble_eq_true rfl) (fun p37 => ?_)
        refine sn_goto (tgt := 57) dX11_house_40 (by decide) ?_
        exact sn_iret dX11_house_57
    · refine sn_bipush dX11_house_26 (by decide) ?_
      exact sn_iret dX11_house_28
theorem dX11_image_0 : decode cX11_image 0 = .ok (.aload_n 0, 1) := by decide +kernel
theorem dX11_image_1 : decode cX11_image 1 = .ok (.iconst 0, 1) := by decide +kernel
theorem dX11_image_2 : decode cX11_image 2 = .ok (.putfield 1, 3) := by decide +kernel
theorem dX11_image_5 : decode cX11_image 5 = .ok (.iload_n 1, 1) := by decide +kernel
theorem dX11_image_6 : decode cX11_image 6 = .ok (.i2l, 1) := by decide +kernel
theorem dX11_image_7 : decode cX11_image 7 = .ok (.lconst 0, 1) := by decide +kernel
theorem dX11_image_8 : decode cX11_image 8 = .ok (.lconst 1, 1) := by decide +kernel
theorem dX11_image_9 : decode cX11_image 9 = .ok (.invokestatic 146, 3) := by decide +kernel
theorem dX11_image_12 : decode cX11_image 12 = .ok (.ifCond .ne 6, 3) := by decide +kernel
theorem dX11_image_15 : decode cX11_image 15 = .ok (.bipush (-2), 2) := by decide +kernel
theorem dX11_image_17 : decode cX11_image 17 = .ok (.ireturn, 1) := by decide +kernel
theorem dX11_image_18 : decode cX11_image 18 = .ok (.iconst 0, 1) := by decide +kernel
theorem dX11_image_19 : decode cX11_image 19 = .ok (.istore_n 2, 1) := by decide +kernel
theorem dX11_image_20 : decode cX11_image 20 = .ok (.iload_n 2, 1) := by decide +kernel
theorem dX11_image_21 : decode cX11_image 21 = .ok (.sipush 220, 3) := by decide +kernel
theorem dX11_image_24 : decode cX11_image 24 = .ok (.if_icmp .ge 29, 3) := by decide +kernel
theorem dX11_image_27 : decode cX11_image 27 = .ok (.aload_n 0, 1) := by decide +kernel
theorem dX11_image_28 : decode cX11_image 28 = .ok (.getfield 13, 3) := by decide +kernel
theorem dX11_image_31 : decode cX11_image 31 = .ok (.sipush 220, 3) := by decide +kernel
theorem dX11_image_34 : decode cX11_image 34 = .ok (.iload_n 1, 1) := by decide +kernel
theorem dX11_image_35 : decode cX11_image 35 = .ok (.iconst 1, 1) := by decide +kernel
theorem dX11_image_36 : decode cX11_image 36 = .ok (.iadd, 1) := by decide +kernel
theorem dX11_image_37 : decode cX11_image 37 = .ok (.imul, 1) := by decide +kernel
theorem dX11_image_38 : decode cX11_image 38 = .ok (.iload_n 2, 1) := by decide +kernel
theorem dX11_image_39 : decode cX11_image 39 = .ok (.iadd, 1) := by decide +kernel
theorem dX11_image_40 : decode cX11_image 40 = .ok (.aload_n 0, 1) := by decide +kernel
theorem dX11_image_41 : decode cX11_image 41 = .ok (.getfield 13, 3) := by decide +kernel
theorem dX11_image_44 : decode cX11_image 44 = .ok (.iload_n 2, 1) := by decide +kernel
theorem dX11_image_45 : decode cX11_image 45 = .ok (.iaload, 1) := by decide +kernel
theorem dX11_image_46 : decode cX11_image 46 = .ok (.iastore, 1) := by decide +kernel
theorem dX11_image_47 : decode cX11_image 47 = .ok (.iinc 2 1, 3) := by decide +kernel
theorem dX11_image_50 : decode cX11_image 50 = .ok (.goto (-30), 3) := by decide +kernel
theorem dX11_image_53 : decode cX11_image 53 = .ok (.aload_n 0, 1) := by decide +kernel
theorem dX11_image_54 : decode cX11_image 54 = .ok (.getfield 17, 3) := by decide +kernel
theorem dX11_image_57 : decode cX11_image 57 = .ok (.iload_n 1, 1) := by decide +kernel
theorem dX11_image_58 : decode cX11_image 58 = .ok (.iconst 1, 1) := by decide +kernel
theorem dX11_image_59 : decode cX11_image 59 = .ok (.bastore, 1) := by decide +kernel
theorem dX11_image_60 : decode cX11_image 60 = .ok (.iconst 0, 1) := by decide +kernel
theorem dX11_image_61 : decode cX11_image 61 = .ok (.ireturn, 1) := by decide +kernel
def mX11_image (n : Nat) (a : Nat) (b1 : Int) (μ : Mem) : Option (Int × Mem) :=
  (pI μ 12 a 0 0).bind fun μ2 =>
  (mX11_within n (oI2l b1) 0 1 μ2).bind fun p9 =>
  if eq32 p9.1 0 then
    some ((-2), p9.2)
  else
  lp (fun nx20 (v20 : Int) (μ20 : Mem) =>
  if lt32 v20 220 then
    (gA μ20 12 a 1).bind fun x28 =>
    (gA μ20 12 a 1).bind fun x41 =>
    (ldI μ20 0 x41 v20).bind fun x45 =>
    (stI μ20 0 x28 ((220 * (b1 + 1)) + v20) x45).bind fun μ46 =>
    nx20 (v20 + 1) μ46
  else
  (gA μ20 12 a 2).bind fun x54 =>
  (stZ μ20 x54 b1 1).bind fun μ59 =>
  some (0, μ59)) n 0 p9.2
set_option maxRecDepth 100000 in
set_option maxHeartbeats 4000000 in
theorem cX11_image_ok (n : Nat) (a : Nat) (b1 : Int) (μ : Mem) : Mc yX11_image cX11_image 3 (some .int) 1 25 eI [aA a, aI b1] μ (mX11_image n a b1 μ) := by
  refine mc_of (L0 := [some (aA a), some (aI b1), none]) (k := 1) (by decide) rfl rfl (fun X Γ => ?_)
  unfold mX11_image
  refine sn_aload_n dX11_image_0 rfl ?_
  refine sn_iconst dX11_image_1 ?_
  refine sn_putI (ci := 11) (j := 0) dX11_image_2 fl_X11_1 rfl (fun q h => by cases h; rfl) (fun μ2 => ?_)
  refine sn_iload_n dX11_image_5 rfl ?_
  refine sn_i2l dX11_image_6 ?_
  refine sn_lconst (v := 0) dX11_image_7 (by decide) ?_
  refine sn_lconst (v := 1) dX11_image_8 (by decide) ?_
  refine sn_callSI (vs := [aJ (oI2l b1), aJ 0, aJ 1]) (cX11_within_ok n (oI2l b1) 0 1 μ2) dX11_image_9 cw_X11_146 rfl (by decide) (by decide) (Nat.le_of_ble_eq_true rfl) (fun p9 => ?_)
  refine sn_if_ne (tgt := 18) dX11_image_12 (by decide) ?_ ?_
  · refine sn_iconst dX11_image_18 ?_
    refine sn_istore_n (L' := [some (aA a), some (aI b1), some (aI 0)]) dX11_image_19 (by decide) rfl ?_
    refine sn_lp (La := fun v20 : Int => [some (aA a), some (aI b1), some (aI v20)]) ?_ n 0 p9.2
    intro nx20 hnx20 v20 μ20
    refine sn_iload_n dX11_image_20 rfl ?_
    refine sn_sipush dX11_image_21 (by decide) ?_
    refine sn_icmp_ge (tgt := 53) dX11_image_24 (by decide) ?_ ?_
    · refine sn_aload_n dX11_image_53 rfl ?_
      refine sn_getA (ci := 11) (j := 2) dX11_image_54 fl_X11_17 (by decide) (fun x54 => ?_)
      refine sn_iload_n dX11_image_57 rfl ?_
      refine sn_iconst dX11_image_58 ?_
      refine sn_zast dX11_image_59 (fun μ59 => ?_)
      refine sn_iconst dX11_image_60 ?_
      exact sn_iret dX11_image_61
    · refine sn_aload_n dX11_image_27 rfl ?_
      refine sn_getA (ci := 11) (j := 1) dX11_image_28 fl_X11_13 (by decide) (fun x28 => ?_)
      refine sn_sipush dX11_image_31 (by decide) ?_
      refine sn_iload_n dX11_image_34 rfl ?_
      refine sn_iconst dX11_image_35 ?_
      refine sn_iadd dX11_image_36 ?_
      refine sn_imul dX11_image_37 ?_
      refine sn_iload_n dX11_image_38 rfl ?_
      refine sn_iadd dX11_image_39 ?_
      refine sn_aload_n dX11_image_40 rfl ?_
      refine sn_getA (ci := 11) (j := 1) dX11_image_41 fl_X11_13 (by decide) (fun x41 => ?_)
      refine sn_iload_n dX11_image_44 rfl ?_
      refine sn_iald dX11_image_45 (fun x45 => ?_)
      refine sn_iast dX11_image_46 (fun μ46 => ?_)
      refine sn_iinc (L' := [some (aA a), some (aI b1), some (aI (v20 + 1))]) dX11_image_47 rfl (by decide) rfl ?_
      refine sn_goto (tgt := 20) dX11_image_50 (by decide) ?_
      exact hnx20 (v20 + 1) μ46
  · refine sn_bipush dX11_image_15 (by decide) ?_
    exact sn_iret dX11_image_17
theorem dX11_plain_0 : decode cX11_plain 0 = .ok (.iconst 0, 1) := by decide +kernel
theorem dX11_plain_1 : decode cX11_plain 1 = .ok (.istore_n 1, 1) := by decide +kernel
theorem dX11_plain_2 : decode cX11_plain 2 = .ok (.iload_n 1, 1) := by decide +kernel
theorem dX11_plain_3 : decode cX11_plain 3 = .ok (.sipush 220, 3) := by decide +kernel
theorem dX11_plain_6 : decode cX11_plain 6 = .ok (.if_icmp .ge 13, 3) := by decide +kernel
theorem dX11_plain_9 : decode cX11_plain 9 = .ok (.aload_n 0, 1) := by decide +kernel
theorem dX11_plain_10 : decode cX11_plain 10 = .ok (.iload_n 1, 1) := by decide +kernel
theorem dX11_plain_11 : decode cX11_plain 11 = .ok (.iconst 0, 1) := by decide +kernel
theorem dX11_plain_12 : decode cX11_plain 12 = .ok (.iastore, 1) := by decide +kernel
theorem dX11_plain_13 : decode cX11_plain 13 = .ok (.iinc 1 1, 3) := by decide +kernel
theorem dX11_plain_16 : decode cX11_plain 16 = .ok (.goto (-14), 3) := by decide +kernel
theorem dX11_plain_19 : decode cX11_plain 19 = .ok (.aload_n 0, 1) := by decide +kernel
theorem dX11_plain_20 : decode cX11_plain 20 = .ok (.iconst 3, 1) := by decide +kernel
theorem dX11_plain_21 : decode cX11_plain 21 = .ok (.iconst 5, 1) := by decide +kernel
theorem dX11_plain_22 : decode cX11_plain 22 = .ok (.iastore, 1) := by decide +kernel
theorem dX11_plain_23 : decode cX11_plain 23 = .ok (.aload_n 0, 1) := by decide +kernel
theorem dX11_plain_24 : decode cX11_plain 24 = .ok (.iconst 4, 1) := by decide +kernel
theorem dX11_plain_25 : decode cX11_plain 25 = .ok (.bipush 8, 2) := by decide +kernel
theorem dX11_plain_27 : decode cX11_plain 27 = .ok (.iastore, 1) := by decide +kernel
theorem dX11_plain_28 : decode cX11_plain 28 = .ok (.return_, 1) := by decide +kernel
def mX11_plain (n : Nat) (b1 : Nat) (μ : Mem) : Option (Unit × Mem) :=
  lp (fun nx2 (v2 : Int) (μ2 : Mem) =>
  if lt32 v2 220 then
    (stI μ2 0 b1 v2 0).bind fun μ12 =>
    nx2 (v2 + 1) μ12
  else
  (stI μ2 0 b1 3 5).bind fun μ22 =>
  (stI μ22 0 b1 4 8).bind fun μ27 =>
  some ((), μ27)) n 0 μ
set_option maxRecDepth 100000 in
set_option maxHeartbeats 4000000 in
theorem cX11_plain_ok (n : Nat) (b1 : Nat) (μ : Mem) : Mc yX11_plain cX11_plain 2 none 0 0 eV [aA b1] μ (mX11_plain n b1 μ) := by
  refine mc_of (L0 := [some (aA b1), none]) (k := 1) (by decide) rfl rfl (fun X Γ => ?_)
  unfold mX11_plain
  refine sn_iconst dX11_plain_0 ?_
  refine sn_istore_n (L' := [some (aA b1), some (aI 0)]) dX11_plain_1 (by decide) rfl ?_
  refine sn_lp (La := fun v2 : Int => [some (aA b1), some (aI v2)]) ?_ n 0 μ
  intro nx2 hnx2 v2 μ2
  refine sn_iload_n dX11_plain_2 rfl ?_
  refine sn_sipush dX11_plain_3 (by decide) ?_
  refine sn_icmp_ge (tgt := 19) dX11_plain_6 (by decide) ?_ ?_
  · refine sn_aload_n dX11_plain_19 rfl ?_
    refine sn_iconst dX11_plain_20 ?_
    refine sn_iconst dX11_plain_21 ?_
    refine sn_iast dX11_plain_22 (fun μ22 => ?_)
    refine sn_aload_n dX11_plain_23 rfl ?_
    refine sn_iconst dX11_plain_24 ?_
    refine sn_bipush dX11_plain_25 (by decide) ?_
    refine sn_iast dX11_plain_27 (fun μ27 => ?_)
    exact sn_vret dX11_plain_28
  · refine sn_aload_n dX11_plain_9 rfl ?_
    refine sn_iload_n dX11_plain_10 rfl ?_
    refine sn_iconst dX11_plain_11 ?_
    refine sn_iast dX11_plain_12 (fun μ12 => ?_)
    refine sn_iinc (L' := [some (aA b1), some (aI (v2 + 1))]) dX11_plain_13 rfl (by decide) rfl ?_
    refine sn_goto (tgt := 2) dX11_plain_16 (by decide) ?_
    exact hnx2 (v2 + 1) μ12
theorem dX11_init_0 : decode cX11_init 0 = .ok (.aload_n 0, 1) := by decide +kernel
theorem dX11_init_1 : decode cX11_init 1 = .ok (.invokespecial 7, 3) := by decide +kernel
theorem dX11_init_4 : decode cX11_init 4 = .ok (.aload_n 0, 1) := by decide +kernel
theorem dX11_init_5 : decode cX11_init 5 = .ok (.sipush 660, 3) := by decide +kernel
theorem dX11_init_8 : decode cX11_init 8 = .ok (.newarray .int, 2) := by decide +kernel
theorem dX11_init_10 : decode cX11_init 10 = .ok (.putfield 13, 3) := by decide +kernel
theorem dX11_init_13 : decode cX11_init 13 = .ok (.aload_n 0, 1) := by decide +kernel
theorem dX11_init_14 : decode cX11_init 14 = .ok (.iconst 2, 1) := by decide +kernel
theorem dX11_init_15 : decode cX11_init 15 = .ok (.newarray .boolean, 2) := by decide +kernel
theorem dX11_init_17 : decode cX11_init 17 = .ok (.putfield 17, 3) := by decide +kernel
theorem dX11_init_20 : decode cX11_init 20 = .ok (.aload_n 0, 1) := by decide +kernel
theorem dX11_init_21 : decode cX11_init 21 = .ok (.sipush 900, 3) := by decide +kernel
theorem dX11_init_24 : decode cX11_init 24 = .ok (.newarray .int, 2) := by decide +kernel
theorem dX11_init_26 : decode cX11_init 26 = .ok (.putfield 21, 3) := by decide +kernel
theorem dX11_init_29 : decode cX11_init 29 = .ok (.aload_n 0, 1) := by decide +kernel
theorem dX11_init_30 : decode cX11_init 30 = .ok (.sipush 220, 3) := by decide +kernel
theorem dX11_init_33 : decode cX11_init 33 = .ok (.newarray .int, 2) := by decide +kernel
theorem dX11_init_35 : decode cX11_init 35 = .ok (.putfield 24, 3) := by decide +kernel
theorem dX11_init_38 : decode cX11_init 38 = .ok (.aload_n 0, 1) := by decide +kernel
theorem dX11_init_39 : decode cX11_init 39 = .ok (.iconst (-1), 1) := by decide +kernel
theorem dX11_init_40 : decode cX11_init 40 = .ok (.putfield 27, 3) := by decide +kernel
theorem dX11_init_43 : decode cX11_init 43 = .ok (.aload_n 0, 1) := by decide +kernel
theorem dX11_init_44 : decode cX11_init 44 = .ok (.bipush 10, 2) := by decide +kernel
theorem dX11_init_46 : decode cX11_init 46 = .ok (.newarray .int, 2) := by decide +kernel
theorem dX11_init_48 : decode cX11_init 48 = .ok (.putfield 30, 3) := by decide +kernel
theorem dX11_init_51 : decode cX11_init 51 = .ok (.aload_n 0, 1) := by decide +kernel
theorem dX11_init_52 : decode cX11_init 52 = .ok (.sipush 220, 3) := by decide +kernel
theorem dX11_init_55 : decode cX11_init 55 = .ok (.newarray .int, 2) := by decide +kernel
theorem dX11_init_57 : decode cX11_init 57 = .ok (.putfield 33, 3) := by decide +kernel
theorem dX11_init_60 : decode cX11_init 60 = .ok (.aload_n 0, 1) := by decide +kernel
theorem dX11_init_61 : decode cX11_init 61 = .ok (.bipush 10, 2) := by decide +kernel
theorem dX11_init_63 : decode cX11_init 63 = .ok (.newarray .int, 2) := by decide +kernel
theorem dX11_init_65 : decode cX11_init 65 = .ok (.putfield 36, 3) := by decide +kernel
theorem dX11_init_68 : decode cX11_init 68 = .ok (.aload_n 0, 1) := by decide +kernel
theorem dX11_init_69 : decode cX11_init 69 = .ok (.sipush 3001, 3) := by decide +kernel
theorem dX11_init_72 : decode cX11_init 72 = .ok (.newarray .long, 2) := by decide +kernel
theorem dX11_init_74 : decode cX11_init 74 = .ok (.putfield 39, 3) := by decide +kernel
theorem dX11_init_77 : decode cX11_init 77 = .ok (.aload_n 0, 1) := by decide +kernel
theorem dX11_init_78 : decode cX11_init 78 = .ok (.sipush 8192, 3) := by decide +kernel
theorem dX11_init_81 : decode cX11_init 81 = .ok (.newarray .int, 2) := by decide +kernel
theorem dX11_init_83 : decode cX11_init 83 = .ok (.putfield 43, 3) := by decide +kernel
theorem dX11_init_86 : decode cX11_init 86 = .ok (.aload_n 0, 1) := by decide +kernel
theorem dX11_init_87 : decode cX11_init 87 = .ok (.iconst 3, 1) := by decide +kernel
theorem dX11_init_88 : decode cX11_init 88 = .ok (.newarray .int, 2) := by decide +kernel
theorem dX11_init_90 : decode cX11_init 90 = .ok (.putfield 46, 3) := by decide +kernel
theorem dX11_init_93 : decode cX11_init 93 = .ok (.aload_n 0, 1) := by decide +kernel
theorem dX11_init_94 : decode cX11_init 94 = .ok (.sipush 3001, 3) := by decide +kernel
theorem dX11_init_97 : decode cX11_init 97 = .ok (.newarray .long, 2) := by decide +kernel
theorem dX11_init_99 : decode cX11_init 99 = .ok (.putfield 49, 3) := by decide +kernel
theorem dX11_init_102 : decode cX11_init 102 = .ok (.aload_n 0, 1) := by decide +kernel
theorem dX11_init_103 : decode cX11_init 103 = .ok (.sipush 3001, 3) := by decide +kernel
theorem dX11_init_106 : decode cX11_init 106 = .ok (.newarray .int, 2) := by decide +kernel
theorem dX11_init_108 : decode cX11_init 108 = .ok (.putfield 52, 3) := by decide +kernel
theorem dX11_init_111 : decode cX11_init 111 = .ok (.aload_n 0, 1) := by decide +kernel
theorem dX11_init_112 : decode cX11_init 112 = .ok (.sipush 3001, 3) := by decide +kernel
theorem dX11_init_115 : decode cX11_init 115 = .ok (.newarray .int, 2) := by decide +kernel
theorem dX11_init_117 : decode cX11_init 117 = .ok (.putfield 55, 3) := by decide +kernel
theorem dX11_init_120 : decode cX11_init 120 = .ok (.aload_n 0, 1) := by decide +kernel
theorem dX11_init_121 : decode cX11_init 121 = .ok (.bipush 7, 2) := by decide +kernel
theorem dX11_init_123 : decode cX11_init 123 = .ok (.newarray .int, 2) := by decide +kernel
theorem dX11_init_125 : decode cX11_init 125 = .ok (.putfield 58, 3) := by decide +kernel
theorem dX11_init_128 : decode cX11_init 128 = .ok (.aload_n 0, 1) := by decide +kernel
theorem dX11_init_129 : decode cX11_init 129 = .ok (.bipush 7, 2) := by decide +kernel
theorem dX11_init_131 : decode cX11_init 131 = .ok (.newarray .int, 2) := by decide +kernel
theorem dX11_init_133 : decode cX11_init 133 = .ok (.putfield 61, 3) := by decide +kernel
theorem dX11_init_136 : decode cX11_init 136 = .ok (.aload_n 0, 1) := by decide +kernel
theorem dX11_init_137 : decode cX11_init 137 = .ok (.sipush 1760, 3) := by decide +kernel
theorem dX11_init_140 : decode cX11_init 140 = .ok (.newarray .int, 2) := by decide +kernel
theorem dX11_init_142 : decode cX11_init 142 = .ok (.putfield 64, 3) := by decide +kernel
theorem dX11_init_145 : decode cX11_init 145 = .ok (.aload_n 0, 1) := by decide +kernel
theorem dX11_init_146 : decode cX11_init 146 = .ok (.bipush 7, 2) := by decide +kernel
theorem dX11_init_148 : decode cX11_init 148 = .ok (.newarray .int, 2) := by decide +kernel
theorem dX11_init_150 : decode cX11_init 150 = .ok (.putfield 67, 3) := by decide +kernel
theorem dX11_init_153 : decode cX11_init 153 = .ok (.aload_n 0, 1) := by decide +kernel
theorem dX11_init_154 : decode cX11_init 154 = .ok (.bipush 7, 2) := by decide +kernel
theorem dX11_init_156 : decode cX11_init 156 = .ok (.newarray .int, 2) := by decide +kernel
theorem dX11_init_158 : decode cX11_init 158 = .ok (.putfield 70, 3) := by decide +kernel
theorem dX11_init_161 : decode cX11_init 161 = .ok (.aload_n 0, 1) := by decide +kernel
theorem dX11_init_162 : decode cX11_init 162 = .ok (.iconst 4, 1) := by decide +kernel
theorem dX11_init_163 : decode cX11_init 163 = .ok (.newarray .int, 2) := by decide +kernel
theorem dX11_init_165 : decode cX11_init 165 = .ok (.dup, 1) := by decide +kernel
theorem dX11_init_166 : decode cX11_init 166 = .ok (.iconst 0, 1) := by decide +kernel
theorem dX11_init_167 : decode cX11_init 167 = .ok (.iconst (-1), 1) := by decide +kernel
theorem dX11_init_168 : decode cX11_init 168 = .ok (.iastore, 1) := by decide +kernel
theorem dX11_init_169 : decode cX11_init 169 = .ok (.dup, 1) := by decide +kernel
theorem dX11_init_170 : decode cX11_init 170 = .ok (.iconst 1, 1) := by decide +kernel
theorem dX11_init_171 : decode cX11_init 171 = .ok (.iconst (-1), 1) := by decide +kernel
theorem dX11_init_172 : decode cX11_init 172 = .ok (.iastore, 1) := by decide +kernel
theorem dX11_init_173 : decode cX11_init 173 = .ok (.dup, 1) := by decide +kernel
theorem dX11_init_174 : decode cX11_init 174 = .ok (.iconst 2, 1) := by decide +kernel
theorem dX11_init_175 : decode cX11_init 175 = .ok (.iconst (-1), 1) := by decide +kernel
theorem dX11_init_176 : decode cX11_init 176 = .ok (.iastore, 1) := by decide +kernel
theorem dX11_init_177 : decode cX11_init 177 = .ok (.dup, 1) := by decide +kernel
theorem dX11_init_178 : decode cX11_init 178 = .ok (.iconst 3, 1) := by decide +kernel
theorem dX11_init_179 : decode cX11_init 179 = .ok (.iconst (-1), 1) := by decide +kernel
theorem dX11_init_180 : decode cX11_init 180 = .ok (.iastore, 1) := by decide +kernel
theorem dX11_init_181 : decode cX11_init 181 = .ok (.putfield 73, 3) := by decide +kernel
theorem dX11_init_184 : decode cX11_init 184 = .ok (.aload_n 0, 1) := by decide +kernel
theorem dX11_init_185 : decode cX11_init 185 = .ok (.iconst 4, 1) := by decide +kernel
theorem dX11_init_186 : decode cX11_init 186 = .ok (.newarray .int, 2) := by decide +kernel
theorem dX11_init_188 : decode cX11_init 188 = .ok (.putfield 76, 3) := by decide +kernel
theorem dX11_init_191 : decode cX11_init 191 = .ok (.aload_n 0, 1) := by decide +kernel
theorem dX11_init_192 : decode cX11_init 192 = .ok (.sipush 240, 3) := by decide +kernel
theorem dX11_init_195 : decode cX11_init 195 = .ok (.newarray .long, 2) := by decide +kernel
theorem dX11_init_197 : decode cX11_init 197 = .ok (.putfield 79, 3) := by decide +kernel
theorem dX11_init_200 : decode cX11_init 200 = .ok (.aload_n 0, 1) := by decide +kernel
theorem dX11_init_201 : decode cX11_init 201 = .ok (.getfield 13, 3) := by decide +kernel
theorem dX11_init_204 : decode cX11_init 204 = .ok (.invokestatic 82, 3) := by decide +kernel
theorem dX11_init_207 : decode cX11_init 207 = .ok (.return_, 1) := by decide +kernel
def mX11_init (n : Nat) (a : Nat) (μ : Mem) : Option (Unit × Mem) :=
  inv μ 12 a
  ((nwA μ 0 660).bind fun p8 =>
  (pA p8.2 12 a 1 p8.1).bind fun μ10 =>
  (nwA μ10 2 2).bind fun p15 =>
  (pA p15.2 12 a 2 p15.1).bind fun μ17 =>
  (nwA μ17 0 900).bind fun p24 =>
  (pA p24.2 12 a 3 p24.1).bind fun μ26 =>
  (nwA μ26 0 220).bind fun p33 =>
  (pA p33.2 12 a 4 p33.1).bind fun μ35 =>
  (pI μ35 12 a 14 (-1)).bind fun μ40 =>
  (nwA μ40 0 10).bind fun p46 =>
  (pA p46.2 12 a 15 p46.1).bind fun μ48 =>
  (nwA μ48 0 220).bind fun p55 =>
  (pA p55.2 12 a 16 p55.1).bind fun μ57 =>
  (nwA μ57 0 10).bind fun p63 =>
  (pA p63.2 12 a 22 p63.1).bind fun μ65 =>
  (nwA μ65 3 3001).bind fun p72 =>
  (pA p72.2 12 a 23 p72.1).bind fun μ74 =>
  (nwA μ74 0 8192).bind fun p81 =>
  (pA p81.2 12 a 24 p81.1).bind fun μ83 =>
  (nwA μ83 0 3).bind fun p88 =>
  (pA p88.2 12 a 25 p88.1).bind fun μ90 =>
  (nwA μ90 3 3001).bind fun p97 =>
  (pA p97.2 12 a 28 p97.1).bind fun μ99 =>
  (nwA μ99 0 3001).bind fun p106 =>
  (pA p106.2 12 a 29 p106.1).bind fun μ108 =>
  (nwA μ108 0 3001).bind fun p115 =>
  (pA p115.2 12 a 30 p115.1).bind fun μ117 =>
  (nwA μ117 0 7).bind fun p123 =>
  (pA p123.2 12 a 32 p123.1).bind fun μ125 =>
  (nwA μ125 0 7).bind fun p131 =>
  (pA p131.2 12 a 33 p131.1).bind fun μ133 =>
  (nwA μ133 0 1760).bind fun p140 =>
  (pA p140.2 12 a 34 p140.1).bind fun μ142 =>
  (nwA μ142 0 7).bind fun p148 =>
  (pA p148.2 12 a 36 p148.1).bind fun μ150 =>
  (nwA μ150 0 7).bind fun p156 =>
  (pA p156.2 12 a 37 p156.1).bind fun μ158 =>
  (nwA μ158 0 4).bind fun p163 =>
  (stI p163.2 0 p163.1 0 (-1)).bind fun μ168 =>
  (stI μ168 0 p163.1 1 (-1)).bind fun μ172 =>
  (stI μ172 0 p163.1 2 (-1)).bind fun μ176 =>
  (stI μ176 0 p163.1 3 (-1)).bind fun μ180 =>
  (pA μ180 12 a 41 p163.1).bind fun μ181 =>
  (nwA μ181 0 4).bind fun p186 =>
  (pA p186.2 12 a 42 p186.1).bind fun μ188 =>
  (nwA μ188 3 240).bind fun p195 =>
  (pA p195.2 12 a 43 p195.1).bind fun μ197 =>
  (gA μ197 12 a 1).bind fun x201 =>
  (mX11_plain n x201 μ197).bind fun p204 =>
  some ((), p204.2))
set_option maxRecDepth 100000 in
set_option maxHeartbeats 4000000 in
theorem cX11_init_ok (n : Nat) (a : Nat) (μ : Mem) : Mc yX11_init cX11_init 1 none 1 21 eV [aA a] μ (mX11_init n a μ) := by
  refine mc_of (L0 := [some (aA a)]) (k := 0) (by decide) rfl rfl (fun X Γ => ?_)
  unfold mX11_init
  refine sn_aload_n dX11_init_0 rfl ?_
  refine sn_objInit (ci := 11) dX11_init_1 (by decide) ml_X11_7 im_obj co_obj (by decide) (by decide) (Nat.le_of_ble_eq_true rfl) ?_
  refine sn_aload_n dX11_init_4 rfl ?_
  refine sn_sipush dX11_init_5 (by decide) ?_
  refine sn_newa (t := 0) dX11_init_8 (by decide) rfl ac_0 (fun p8 => ?_)
  refine sn_putA (ci := 11) (j := 1) dX11_init_10 fl_X11_13 (Or.inr ⟨_, rfl⟩) (Or.inr ⟨rfl, fun q h => by cases h; exact ⟨rfl, rfl⟩⟩) (fun μ10 => ?_)
  refine sn_aload_n dX11_init_13 rfl ?_
  refine sn_iconst dX11_init_14 ?_
  refine sn_newa (t := 2) dX11_init_15 (by decide) rfl ac_2 (fun p15 => ?_)
  refine sn_putA (ci := 11) (j := 2) dX11_init_17 fl_X11_17 (Or.inr ⟨_, rfl⟩) (Or.inr ⟨rfl, fun q h => by cases h; exact ⟨rfl, rfl⟩⟩) (fun μ17 => ?_)
  refine sn_aload_n dX11_init_20 rfl ?_
  refine sn_sipush dX11_init_21 (by decide) ?_
  refine sn_newa (t := 0) dX11_init_24 (by decide) rfl ac_0 (fun p24 => ?_)
  refine sn_putA (ci := 11) (j := 3) dX11_init_26 fl_X11_21 (Or.inr ⟨_, rfl⟩) (Or.inr ⟨rfl, fun q h => by cases h; exact ⟨rfl, rfl⟩⟩) (fun μ26 => ?_)
  refine sn_aload_n dX11_init_29 rfl ?_
  refine sn_sipush dX11_init_30 (by decide) ?_
  refine sn_newa (t := 0) dX11_init_33 (by decide) rfl ac_0 (fun p33 => ?_)
  refine sn_putA (ci := 11) (j := 4) dX11_init_35 fl_X11_24 (Or.inr ⟨_, rfl⟩) (Or.inr ⟨rfl, fun q h => by cases h; exact ⟨rfl, rfl⟩⟩) (fun μ35 => ?_)
  refine sn_aload_n dX11_init_38 rfl ?_
  refine sn_iconst dX11_init_39 ?_
  refine sn_putI (ci := 11) (j := 14) dX11_init_40 fl_X11_27 rfl (fun q h => by cases h; rfl) (fun μ40 => ?_)
  refine sn_aload_n dX11_init_43 rfl ?_
  refine sn_bipush dX11_init_44 (by decide) ?_
  refine sn_newa (t := 0) dX11_init_46 (by decide) rfl ac_0 (fun p46 => ?_)
  refine sn_putA (ci := 11) (j := 15) dX11_init_48 fl_X11_30 (Or.inr ⟨_, rfl⟩) (Or.inr ⟨rfl, fun q h => by cases h; exact ⟨rfl, rfl⟩⟩) (fun μ48 => ?_)
  refine sn_aload_n dX11_init_51 rfl ?_
  refine sn_sipush dX11_init_52 (by decide) ?_
  refine sn_newa (t := 0) dX11_init_55 (by decide) rfl ac_0 (fun p55 => ?_)
  refine sn_putA (ci := 11) (j := 16) dX11_init_57 fl_X11_33 (Or.inr ⟨_, rfl⟩) (Or.inr ⟨rfl, fun q h => by cases h; exact ⟨rfl, rfl⟩⟩) (fun μ57 => ?_)
  refine sn_aload_n dX11_init_60 rfl ?_
  refine sn_bipush dX11_init_61 (by decide) ?_
  refine sn_newa (t := 0) dX11_init_63 (by decide) rfl ac_0 (fun p63 => ?_)
  refine sn_putA (ci := 11) (j := 22) dX11_init_65 fl_X11_36 (Or.inr ⟨_, rfl⟩) (Or.inr ⟨rfl, fun q h => by cases h; exact ⟨rfl, rfl⟩⟩) (fun μ65 => ?_)
  refine sn_aload_n dX11_init_68 rfl ?_
  refine sn_sipush dX11_init_69 (by decide) ?_
  refine sn_newa (t := 3) dX11_init_72 (by decide) rfl ac_3 (fun p72 => ?_)
  refine sn_putA (ci := 11) (j := 23) dX11_init_74 fl_X11_39 (Or.inr ⟨_, rfl⟩) (Or.inr ⟨rfl, fun q h => by cases h; exact ⟨rfl, rfl⟩⟩) (fun μ74 => ?_)
  refine sn_aload_n dX11_init_77 rfl ?_
  refine sn_sipush dX11_init_78 (by decide) ?_
  refine sn_newa (t := 0) dX11_init_81 (by decide) rfl ac_0 (fun p81 => ?_)
  refine sn_putA (ci := 11) (j := 24) dX11_init_83 fl_X11_43 (Or.inr ⟨_, rfl⟩) (Or.inr ⟨rfl, fun q h => by cases h; exact ⟨rfl, rfl⟩⟩) (fun μ83 => ?_)
  refine sn_aload_n dX11_init_86 rfl ?_
  refine sn_iconst dX11_init_87 ?_
  refine sn_newa (t := 0) dX11_init_88 (by decide) rfl ac_0 (fun p88 => ?_)
  refine sn_putA (ci := 11) (j := 25) dX11_init_90 fl_X11_46 (Or.inr ⟨_, rfl⟩) (Or.inr ⟨rfl, fun q h => by cases h; exact ⟨rfl, rfl⟩⟩) (fun μ90 => ?_)
  refine sn_aload_n dX11_init_93 rfl ?_
  refine sn_sipush dX11_init_94 (by decide) ?_
  refine sn_newa (t := 3) dX11_init_97 (by decide) rfl ac_3 (fun p97 => ?_)
  refine sn_putA (ci := 11) (j := 28) dX11_init_99 fl_X11_49 (Or.inr ⟨_, rfl⟩) (Or.inr ⟨rfl, fun q h => by cases h; exact ⟨rfl, rfl⟩⟩) (fun μ99 => ?_)
  refine sn_aload_n dX11_init_102 rfl ?_
  refine sn_sipush dX11_init_103 (by decide) ?_
  refine sn_newa (t := 0) dX11_init_106 (by decide) rfl ac_0 (fun p106 => ?_)
  refine sn_putA (ci := 11) (j := 29) dX11_init_108 fl_X11_52 (Or.inr ⟨_, rfl⟩) (Or.inr ⟨rfl, fun q h => by cases h; exact ⟨rfl, rfl⟩⟩) (fun μ108 => ?_)
  refine sn_aload_n dX11_init_111 rfl ?_
  refine sn_sipush dX11_init_112 (by decide) ?_
  refine sn_newa (t := 0) dX11_init_115 (by decide) rfl ac_0 (fun p115 => ?_)
  refine sn_putA (ci := 11) (j := 30) dX11_init_117 fl_X11_55 (Or.inr ⟨_, rfl⟩) (Or.inr ⟨rfl, fun q h => by cases h; exact ⟨rfl, rfl⟩⟩) (fun μ117 => ?_)
  refine sn_aload_n dX11_init_120 rfl ?_
  refine sn_bipush dX11_init_121 (by decide) ?_
  refine sn_newa (t := 0) dX11_init_123 (by decide) rfl ac_0 (fun p123 => ?_)
  refine sn_putA (ci := 11) (j := 32) dX11_init_125 fl_X11_58 (Or.inr ⟨_, rfl⟩) (Or.inr ⟨rfl, fun q h => by cases h; exact ⟨rfl, rfl⟩⟩) (fun μ125 => ?_)
  refine sn_aload_n dX11_init_128 rfl ?_
  refine sn_bipush dX11_init_129 (by decide) ?_
  refine sn_newa (t := 0) dX11_init_131 (by decide) rfl ac_0 (fun p131 => ?_)
  refine sn_putA (ci := 11) (j := 33) dX11_init_133 fl_X11_61 (Or.inr ⟨_, rfl⟩) (Or.inr ⟨rfl, fun q h => by cases h; exact ⟨rfl, rfl⟩⟩) (fun μ133 => ?_)
  refine sn_aload_n dX11_init_136 rfl ?_
  refine sn_sipush dX11_init_137 (by decide) ?_
  refine sn_newa (t := 0) dX11_init_140 (by decide) rfl ac_0 (fun p140 => ?_)
  refine sn_putA (ci := 11) (j := 34) dX11_init_142 fl_X11_64 (Or.inr ⟨_, rfl⟩) (Or.inr ⟨rfl, fun q h => by cases h; exact ⟨rfl, rfl⟩⟩) (fun μ142 => ?_)
  refine sn_aload_n dX11_init_145 rfl ?_
  refine sn_bipush dX11_init_146 (by decide) ?_
  refine sn_newa (t := 0) dX11_init_148 (by decide) rfl ac_0 (fun p148 => ?_)
  refine sn_putA (ci := 11) (j := 36) dX11_init_150 fl_X11_67 (Or.inr ⟨_, rfl⟩) (Or.inr ⟨rfl, fun q h => by cases h; exact ⟨rfl, rfl⟩⟩) (fun μ150 => ?_)
  refine sn_aload_n dX11_init_153 rfl ?_
  refine sn_bipush dX11_init_154 (by decide) ?_
  refine sn_newa (t := 0) dX11_init_156 (by decide) rfl ac_0 (fun p156 => ?_)
  refine sn_putA (ci := 11) (j := 37) dX11_init_158 fl_X11_70 (Or.inr ⟨_, rfl⟩) (Or.inr ⟨rfl, fun q h => by cases h; exact ⟨rfl, rfl⟩⟩) (fun μ158 => ?_)
  refine sn_aload_n dX11_init_161 rfl ?_
  refine sn_iconst dX11_init_162 ?_
  refine sn_newa (t := 0) dX11_init_163 (by decide) rfl ac_0 (fun p163 => ?_)
  refine sn_dup dX11_init_165 rfl ?_
  refine sn_iconst dX11_init_166 ?_
  refine sn_iconst dX11_init_167 ?_
  refine sn_iast dX11_init_168 (fun μ168 => ?_)
  refine sn_dup dX11_init_169 rfl ?_
  refine sn_iconst dX11_init_170 ?_
  refine sn_iconst dX11_init_171 ?_
  refine sn_iast dX11_init_172 (fun μ172 => ?_)
  refine sn_dup dX11_init_173 rfl ?_
  refine sn_iconst dX11_init_174 ?_
  refine sn_iconst dX11_init_175 ?_
  refine sn_iast dX11_init_176 (fun μ176 => ?_)
  refine sn_dup dX11_init_177 rfl ?_
  refine sn_iconst dX11_init_178 ?_
  refine sn_iconst dX11_init_179 ?_
  refine sn_iast dX11_init_180 (fun μ180 => ?_)
  refine sn_putA (ci := 11) (j := 41) dX11_init_181 fl_X11_73 (Or.inr ⟨_, rfl⟩) (Or.inr ⟨rfl, fun q h => by cases h; exact ⟨rfl, rfl⟩⟩) (fun μ181 => ?_)
  refine sn_aload_n dX11_init_184 rfl ?_
  refine sn_iconst dX11_init_185 ?_
  refine sn_newa (t := 0) dX11_init_186 (by decide) rfl ac_0 (fun p186 => ?_)
  refine sn_putA (ci := 11) (j := 42) dX11_init_188 fl_X11_76 (Or.inr ⟨_, rfl⟩) (Or.inr ⟨rfl, fun q h => by cases h; exact ⟨rfl, rfl⟩⟩) (fun μ188 => ?_)
  refine sn_aload_n dX11_init_191 rfl ?_
  refine sn_sipush dX11_init_192 (by decide) ?_
  refine sn_newa (t := 3) dX11_init_195 (by decide) rfl ac_3 (fun p195 => ?_)
  refine sn_putA (ci := 11) (j := 43) dX11_init_197 fl_X11_79 (Or.inr ⟨_, rfl⟩) (Or.inr ⟨rfl, fun q h => by cases h; exact ⟨rfl, rfl⟩⟩) (fun μ197 => ?_)
  refine sn_aload_n dX11_init_200 rfl ?_
  refine sn_getA (ci := 11) (j := 1) dX11_init_201 fl_X11_13 (by decide) (fun x201 => ?_)
  refine sn_callSV (vs := [aA x201]) (cX11_plain_ok n x201 μ197) dX11_init_204 cw_X11_82 rfl (by decide) (by decide) (Nat.le_of_ble_eq_true rfl) (fun p204 => ?_)
  exact sn_vret dX11_init_207
theorem dX11_judge_0 : decode cX11_judge 0 = .ok (.aload_n 0, 1) := by decide +kernel
theorem dX11_judge_1 : decode cX11_judge 1 = .ok (.iconst 0, 1) := by decide +kernel
theorem dX11_judge_2 : decode cX11_judge 2 = .ok (.putfield 1, 3) := by decide +kernel
theorem dX11_judge_5 : decode cX11_judge 5 = .ok (.iload_n 1, 1) := by decide +kernel
theorem dX11_judge_6 : decode cX11_judge 6 = .ok (.i2l, 1) := by decide +kernel
theorem dX11_judge_7 : decode cX11_judge 7 = .ok (.lconst 0, 1) := by decide +kernel
theorem dX11_judge_8 : decode cX11_judge 8 = .ok (.ldc2_w 226, 3) := by decide +kernel
theorem dX11_judge_11 : decode cX11_judge 11 = .ok (.invokestatic 146, 3) := by decide +kernel
theorem dX11_judge_14 : decode cX11_judge 14 = .ok (.ifCond .eq 15, 3) := by decide +kernel
theorem dX11_judge_17 : decode cX11_judge 17 = .ok (.iload_n 2, 1) := by decide +kernel
theorem dX11_judge_18 : decode cX11_judge 18 = .ok (.i2l, 1) := by decide +kernel
theorem dX11_judge_19 : decode cX11_judge 19 = .ok (.lconst 0, 1) := by decide +kernel
theorem dX11_judge_20 : decode cX11_judge 20 = .ok (.ldc2_w 228, 3) := by decide +kernel
theorem dX11_judge_23 : decode cX11_judge 23 = .ok (.invokestatic 146, 3) := by decide +kernel
theorem dX11_judge_26 : decode cX11_judge 26 = .ok (.ifCond .ne 6, 3) := by decide +kernel
theorem dX11_judge_29 : decode cX11_judge 29 = .ok (.bipush (-2), 2) := by decide +kernel
theorem dX11_judge_31 : decode cX11_judge 31 = .ok (.ireturn, 1) := by decide +kernel
theorem dX11_judge_32 : decode cX11_judge 32 = .ok (.aload_n 0, 1) := by decide +kernel
theorem dX11_judge_33 : decode cX11_judge 33 = .ok (.getfield 73, 3) := by decide +kernel
theorem dX11_judge_36 : decode cX11_judge 36 = .ok (.iload_n 1, 1) := by decide +kernel
theorem dX11_judge_37 : decode cX11_judge 37 = .ok (.iaload, 1) := by decide +kernel
theorem dX11_judge_38 : decode cX11_judge 38 = .ok (.iconst (-1), 1) := by decide +kernel
theorem dX11_judge_39 : decode cX11_judge 39 = .ok (.if_icmp .ne 6, 3) := by decide +kernel
theorem dX11_judge_42 : decode cX11_judge 42 = .ok (.bipush (-6), 2) := by decide +kernel
theorem dX11_judge_44 : decode cX11_judge 44 = .ok (.ireturn, 1) := by decide +kernel
theorem dX11_judge_45 : decode cX11_judge 45 = .ok (.aload_n 0, 1) := by decide +kernel
theorem dX11_judge_46 : decode cX11_judge 46 = .ok (.invokevirtual 230, 3) := by decide +kernel
theorem dX11_judge_49 : decode cX11_judge 49 = .ok (.aload_n 0, 1) := by decide +kernel
theorem dX11_judge_50 : decode cX11_judge 50 = .ok (.iload_n 1, 1) := by decide +kernel
theorem dX11_judge_51 : decode cX11_judge 51 = .ok (.invokevirtual 233, 3) := by decide +kernel
theorem dX11_judge_54 : decode cX11_judge 54 = .ok (.istore_n 3, 1) := by decide +kernel
theorem dX11_judge_55 : decode cX11_judge 55 = .ok (.aload_n 0, 1) := by decide +kernel
theorem dX11_judge_56 : decode cX11_judge 56 = .ok (.invokevirtual 236, 3) := by decide +kernel
theorem dX11_judge_59 : decode cX11_judge 59 = .ok (.iload_n 2, 1) := by decide +kernel
theorem dX11_judge_60 : decode cX11_judge 60 = .ok (.ifCond .ne 7, 3) := by decide +kernel
theorem dX11_judge_63 : decode cX11_judge 63 = .ok (.iload_n 3, 1) := by decide +kernel
theorem dX11_judge_64 : decode cX11_judge 64 = .ok (.goto 43, 3) := by decide +kernel
theorem dX11_judge_67 : decode cX11_judge 67 = .ok (.iload_n 2, 1) := by decide +kernel
theorem dX11_judge_68 : decode cX11_judge 68 = .ok (.iconst 1, 1) := by decide +kernel
theorem dX11_judge_69 : decode cX11_judge 69 = .ok (.if_icmp .ne 10, 3) := by decide +kernel
theorem dX11_judge_72 : decode cX11_judge 72 = .ok (.aload_n 0, 1) := by decide +kernel
theorem dX11_judge_73 : decode cX11_judge 73 = .ok (.getfield 208, 3) := by decide +kernel
theorem dX11_judge_76 : decode cX11_judge 76 = .ok (.goto 31, 3) := by decide +kernel
theorem dX11_judge_79 : decode cX11_judge 79 = .ok (.iload_n 2, 1) := by decide +kernel
theorem dX11_judge_80 : decode cX11_judge 80 = .ok (.iconst 2, 1) := by decide +kernel
theorem dX11_judge_81 : decode cX11_judge 81 = .ok (.if_icmp .ne 10, 3) := by decide +kernel
theorem dX11_judge_84 : decode cX11_judge 84 = .ok (.aload_n 0, 1) := by decide +kernel
theorem dX11_judge_85 : decode cX11_judge 85 = .ok (.getfield 211, 3) := by decide +kernel
theorem dX11_judge_88 : decode cX11_judge 88 = .ok (.goto 19, 3) := by decide +kernel
theorem dX11_judge_91 : decode cX11_judge 91 = .ok (.iload_n 2, 1) := by decide +kernel
theorem dX11_judge_92 : decode cX11_judge 92 = .ok (.iconst 3, 1) := by decide +kernel
theorem dX11_judge_93 : decode cX11_judge 93 = .ok (.if_icmp .ne 10, 3) := by decide +kernel
theorem dX11_judge_96 : decode cX11_judge 96 = .ok (.aload_n 0, 1) := by decide +kernel
theorem dX11_judge_97 : decode cX11_judge 97 = .ok (.getfield 214, 3) := by decide +kernel
theorem dX11_judge_100 : decode cX11_judge 100 = .ok (.goto 7, 3) := by decide +kernel
theorem dX11_judge_103 : decode cX11_judge 103 = .ok (.aload_n 0, 1) := by decide +kernel
theorem dX11_judge_104 : decode cX11_judge 104 = .ok (.getfield 217, 3) := by decide +kernel
theorem dX11_judge_107 : decode cX11_judge 107 = .ok (.ireturn, 1) := by decide +kernel
def mX11_judge (n : Nat) (a : Nat) (b1 : Int) (b2 : Int) (μ : Mem) : Option (Int × Mem) :=
  (pI μ 12 a 0 0).bind fun μ2 =>
  (mX11_within n (oI2l b1) 0 3 μ2).bind fun p11 =>
  if eq32 p11.1 0 then
    some ((-2), p11.2)
  else
  (mX11_within n (oI2l b2) 0 4 p11.2).bind fun p23 =>
  if eq32 p23.1 0 then
    some ((-2), p23.2)
  else
  (gA p23.2 12 a 41).bind fun x33 =>
  (ldI p23.2 0 x33 b1).bind fun x37 =>
  if eq32 x37 (-1) then
    some ((-6), p23.2)
  else
  (inv p23.2 12 a (mX11_keeps n a p23.2)).bind fun p46 =>
  (inv p46.2 12 a (mX11_hoursOf n a b1 p46.2)).bind fun p51 =>
  (inv p51.2 12 a (mX11_isAgain n a p51.2)).bind fun p56 =>
  if eq32 b2 0 then
    some (p51.1, p56.2)
  else
  if eq32 b2 1 then
    (gI p56.2 12 a 17).bind fun x73 =>
    some (x73, p56.2)
  else
  if eq32 b2 2 then
    (gI p56.2 12 a 18).bind fun x85 =>
    some (x85, p56.2)
  else
  if eq32 b2 3 then
    (gI p56.2 12 a 19).bind fun x97 =>
    some (x97, p56.2)
  else
  (gI p56.2 12 a 20).bind fun x104 =>
  some (x104, p56.2)
set_option maxRecDepth 100000 in
set_option maxHeartbeats 4000000 in
theorem cX11_judge_ok (n : Nat) (a : Nat) (b1 : Int) (b2 : Int) (μ : Mem) : Mc yX11_judge cX11_judge 4 (some .int) 4 95 eI [aA a, aI b1, aI b2] μ (mX11_judge n a b1 b2 μ) := by
  refine mc_of (L0 := [some (aA a), some (aI b1), some (aI b2), none]) (k := 1) (by decide) rfl rfl (fun X Γ => ?_)
  unfold mX11_judge
  refine sn_aload_n dX11_judge_0 rfl ?_
  refine sn_iconst dX11_judge_1 ?_
  refine sn_putI (ci := 11) (j := 0) dX11_judge_2 fl_X11_1 rfl (fun q h => by cases h; rfl) (fun μ2 => ?_)
  refine sn_iload_n dX11_judge_5 rfl ?_
  refine sn_i2l dX11_judge_6 ?_
  refine sn_lconst (v := 0) dX11_judge_7 (by decide) ?_
  refine sn_ldc2 (v := 3) dX11_judge_8 k_X11_226 (by decide) ?_
  refine sn_callSI (vs := [aJ (oI2l b1), aJ 0, aJ 3]) (cX11_within_ok n (oI2l b1) 0 3 μ2) dX11_judge_11 cw_X11_146 rfl (by decide) (by decide) (Nat.le_of_ble_eq_true rfl) (fun p11 => ?_)
  refine sn_if_eq (tgt := 29) dX11_judge_14 (by decide) ?_ ?_
  · refine sn_bipush dX11_judge_29 (by decide) ?_
    exact sn_iret dX11_judge_31
  · refine sn_iload_n dX11_judge_17 rfl ?_
    refine sn_i2l dX11_judge_18 ?_
    refine sn_lconst (v := 0) dX11_judge_19 (by decide) ?_
    refine sn_ldc2 (v := 4) dX11_judge_20 k_X11_228 (by decide) ?_
    refine sn_callSI (vs := [aJ (oI2l b2), aJ 0, aJ 4]) (cX11_within_ok n (oI2l b2) 0 4 p11.2) dX11_judge_23 cw_X11_146 rfl (by decide) (by decide) (Nat.le_of_ble_eq_true rfl) (fun p23 => ?_)
    refine sn_if_ne (tgt := 32) dX11_judge_26 (by decide) ?_ ?_
    · refine sn_aload_n dX11_judge_32 rfl ?_
      refine sn_getA (ci := 11) (j := 41) dX11_judge_33 fl_X11_73 (by decide) (fun x33 => ?_)
      refine sn_iload_n dX11_judge_36 rfl ?_
      refine sn_iald dX11_judge_37 (fun x37 => ?_)
      refine sn_iconst dX11_judge_38 ?_
      refine sn_icmp_ne (tgt := 45) dX11_judge_39 (by decide) ?_ ?_
      · refine sn_aload_n dX11_judge_45 rfl ?_
        refine sn_callVV (vs := []) (ci := 11) (cX11_keeps_ok n a p23.2) dX11_judge_46 cw_X11_230 rfl rfl rfl (by decide) (by decide) (Nat.le_of_ble_eq_true rfl) (fun p46 => ?_)
        refine sn_aload_n dX11_judge_49 rfl ?_
        refine sn_iload_n dX11_judge_50 rfl ?_
        refine sn_callVI (vs := [aI b1]) (ci := 11) (cX11_hoursOf_ok n a b1 p46.2) dX11_judge_51 cw_X11_233 rfl rfl rfl (by decide) (by decide) (Nat.le_of_ble_eq_true rfl) (fun p51 => ?_)
        refine sn_istore_n (L' := [some (aA a), some (aI b1), some (aI b2), some (aI p51.1)]) dX11_judge_54 (by decide) rfl ?_
        refine sn_aload_n dX11_judge_55 rfl ?_
        refine sn_callVV (vs := []) (ci := 11) (cX11_isAgain_ok n a p51.2) dX11_judge_56 cw_X11_236 rfl rfl rfl (by decide) (by decide) (Nat.le_of_ble_eq_true rfl) (fun p56 => ?_)
        refine sn_iload_n dX11_judge_59 rfl ?_
        refine sn_if_ne (tgt := 67) dX11_judge_60 (by decide) ?_ ?_
        · refine sn_iload_n dX11_judge_67 rfl ?_
          refine sn_iconst dX11_judge_68 ?_
          refine sn_icmp_ne (tgt := 79) dX11_judge_69 (by decide) ?_ ?_
          · refine sn_iload_n dX11_judge_79 rfl ?_
            refine sn_iconst dX11_judge_80 ?_
            refine sn_icmp_ne (tgt := 91) dX11_judge_81 (by decide) ?_ ?_
            · refine sn_iload_n dX11_judge_91 rfl ?_
              refine sn_iconst dX11_judge_92 ?_
              refine sn_icmp_ne (tgt := 103) dX11_judge_93 (by decide) ?_ ?_
              · refine sn_aload_n dX11_judge_103 rfl ?_
                refine sn_getI (ci := 11) (j := 20) dX11_judge_104 fl_X11_217 rfl (fun x104 => ?_)
                exact sn_iret dX11_judge_107
              · refine sn_aload_n dX11_judge_96 rfl ?_
                refine sn_getI (ci := 11) (j := 19) dX11_judge_97 fl_X11_214 rfl (fun x97 => ?_)
                refine sn_goto (tgt := 107) dX11_judge_100 (by decide) ?_
                exact sn_iret dX11_judge_107
            · refine sn_aload_n dX11_judge_84 rfl ?_
              refine sn_getI (ci := 11) (j := 18) dX11_judge_85 fl_X11_211 rfl (fun x85 => ?_)
              refine sn_goto (tgt := 107) dX11_judge_88 (by decide) ?_
              exact sn_iret dX11_judge_107
          · refine sn_aload_n dX11_judge_72 rfl ?_
            refine sn_getI (ci := 11) (j := 17) dX11_judge_73 fl_X11_208 rfl (fun x73 => ?_)
            refine sn_goto (tgt := 107) dX11_judge_76 (by decide) ?_
            exact sn_iret dX11_judge_107
        · refine sn_iload_n dX11_judge_63 rfl ?_
          refine sn_goto (tgt := 107) dX11_judge_64 (by decide) ?_
          exact sn_iret dX11_judge_107
      · refine sn_bipush dX11_judge_42 (by decide) ?_
        exact sn_iret dX11_judge_44
    · refine sn_bipush dX11_judge_29 (by decide) ?_
      exact sn_iret dX11_judge_31
theorem dX11_takes_0 : decode cX11_takes 0 = .ok (.aload_n 0, 1) := by decide +kernel
theorem dX11_takes_1 : decode cX11_takes 1 = .ok (.bipush 11, 2) := by decide +kernel
theorem dX11_takes_3 : decode cX11_takes 3 = .ok (.invokevirtual 136, 3) := by decide +kernel
theorem dX11_takes_6 : decode cX11_takes 6 = .ok (.ifCond .ne 11, 3) := by decide +kernel
theorem dX11_takes_9 : decode cX11_takes 9 = .ok (.aload_n 0, 1) := by decide +kernel
theorem dX11_takes_10 : decode cX11_takes 10 = .ok (.iconst 2, 1) := by decide +kernel
theorem dX11_takes_11 : decode cX11_takes 11 = .ok (.invokevirtual 142, 3) := by decide +kernel
theorem dX11_takes_14 : decode cX11_takes 14 = .ok (.goto 23, 3) := by decide +kernel
theorem dX11_takes_17 : decode cX11_takes 17 = .ok (.aload_n 0, 1) := by decide +kernel
theorem dX11_takes_18 : decode cX11_takes 18 = .ok (.getfield 127, 3) := by decide +kernel
theorem dX11_takes_21 : decode cX11_takes 21 = .ok (.i2l, 1) := by decide +kernel
theorem dX11_takes_22 : decode cX11_takes 22 = .ok (.iload_n 1, 1) := by decide +kernel
theorem dX11_takes_23 : decode cX11_takes 23 = .ok (.i2l, 1) := by decide +kernel
theorem dX11_takes_24 : decode cX11_takes 24 = .ok (.iload_n 2, 1) := by decide +kernel
theorem dX11_takes_25 : decode cX11_takes 25 = .ok (.i2l, 1) := by decide +kernel
theorem dX11_takes_26 : decode cX11_takes 26 = .ok (.invokestatic 146, 3) := by decide +kernel
theorem dX11_takes_29 : decode cX11_takes 29 = .ok (.ifCond .ne 8, 3) := by decide +kernel
theorem dX11_takes_32 : decode cX11_takes 32 = .ok (.aload_n 0, 1) := by decide +kernel
theorem dX11_takes_33 : decode cX11_takes 33 = .ok (.iconst 3, 1) := by decide +kernel
theorem dX11_takes_34 : decode cX11_takes 34 = .ok (.invokevirtual 142, 3) := by decide +kernel
theorem dX11_takes_37 : decode cX11_takes 37 = .ok (.aload_n 0, 1) := by decide +kernel
theorem dX11_takes_38 : decode cX11_takes 38 = .ok (.getfield 127, 3) := by decide +kernel
theorem dX11_takes_41 : decode cX11_takes 41 = .ok (.istore_n 3, 1) := by decide +kernel
theorem dX11_takes_42 : decode cX11_takes 42 = .ok (.aload_n 0, 1) := by decide +kernel
theorem dX11_takes_43 : decode cX11_takes 43 = .ok (.getfield 130, 3) := by decide +kernel
theorem dX11_takes_46 : decode cX11_takes 46 = .ok (.ifCond .ne 7, 3) := by decide +kernel
theorem dX11_takes_49 : decode cX11_takes 49 = .ok (.aload_n 0, 1) := by decide +kernel
theorem dX11_takes_50 : decode cX11_takes 50 = .ok (.invokevirtual 139, 3) := by decide +kernel
theorem dX11_takes_53 : decode cX11_takes 53 = .ok (.iload_n 3, 1) := by decide +kernel
theorem dX11_takes_54 : decode cX11_takes 54 = .ok (.ireturn, 1) := by decide +kernel
def mX11_takes (n : Nat) (a : Nat) (b1 : Int) (b2 : Int) (μ : Mem) : Option (Int × Mem) :=
  (inv μ 12 a (mX11_is n a 11 μ)).bind fun p3 =>
  jn (fun (v37 : Unit) (μ37 : Mem) =>
  (gI μ37 12 a 10).bind fun x38 =>
  (gI μ37 12 a 11).bind fun x43 =>
  if eq32 x43 0 then
    (inv μ37 12 a (mX11_next n a μ37)).bind fun p50 =>
    some (x38, p50.2)
  else
  some (x38, μ37)) (fun j37 =>
  if eq32 p3.1 0 then
    (inv p3.2 12 a (mX11_fails n a 2 p3.2)).bind fun p11 =>
    j37 () p11.2
  else
  (gI p3.2 12 a 10).bind fun x18 =>
  (mX11_within n (oI2l x18) (oI2l b1) (oI2l b2) p3.2).bind fun p26 =>
  if eq32 p26.1 0 then
    (inv p26.2 12 a (mX11_fails n a 3 p26.2)).bind fun p34 =>
    j37 () p34.2
  else
  j37 () p26.2)
set_option maxRecDepth 100000 in
set_option maxHeartbeats 4000000 in
theorem cX11_takes_ok (n : Nat) (a : Nat) (b1 : Int) (b2 : Int) (μ : Mem) : Mc yX11_takes cX11_takes 4 (some .int) 6 128 eI [aA a, aI b1, aI b2] μ (mX11_takes n a b1 b2 μ) := by
  refine mc_of (L0 := [some (aA a), some (aI b1), some (aI b2), none]) (k := 1) (by decide) rfl rfl (fun X Γ => ?_)
  unfold mX11_takes
  refine sn_aload_n dX11_takes_0 rfl ?_
  refine sn_bipush dX11_takes_1 (by decide) ?_
  refine sn_callVI (vs := [aI 11]) (ci := 11) (cX11_is_ok n a 11 μ) dX11_takes_3 cw_X11_136 rfl rfl rfl (by decide) (by decide) (Nat.le_of_ble_eq_true rfl) (fun p3 => ?_)
  refine sn_jn (pcj := 37) (La := fun v37 : Unit => [some (aA a), none, none, none]) (Sa := fun v37 : Unit => []) ?_ ?_
  · intro v37 μ37
    refine sn_aload_n dX11_takes_37 rfl ?_
    refine sn_getI (ci := 11) (j := 10) dX11_takes_38 fl_X11_127 rfl (fun x38 => ?_)
    refine sn_istore_n (L' := [some (aA a), none, none, some (aI x38)]) dX11_takes_41 (by decide) rfl ?_
    refine sn_aload_n dX11_takes_42 rfl ?_
    refine sn_getI (ci := 11) (j := 11) dX11_takes_43 fl_X11_130 rfl (fun x43 => ?_)
    refine sn_if_ne (tgt := 53) dX11_takes_46 (by decide) ?_ ?_
    · refine sn_iload_n dX11_takes_53 rfl ?_
      exact sn_iret dX11_takes_54
    · refine sn_aload_n dX11_takes_49 rfl ?_
      refine sn_callVV (vs := []) (ci := 11) (cX11_next_ok n a μ37) dX11_takes_50 cw_X11_139 rfl rfl rfl (by decide) (by decide) (Nat.le_of_ble_eq_true rfl) (fun p50 => ?_)
      refine sn_iload_n dX11_takes_53 rfl ?_
      exact sn_iret dX11_takes_54
  intro j37 hj37
  refine sn_if_ne (tgt := 17) dX11_takes_6 (by decide) ?_ ?_
  · refine sn_aload_n dX11_takes_17 rfl ?_
    refine sn_getI (ci := 11) (j := 10) dX11_takes_18 fl_X11_127 rfl (fun x18 => ?_)
    refine sn_i2l dX11_takes_21 ?_
    refine sn_iload_n dX11_takes_22 rfl ?_
    refine sn_i2l dX11_takes_23 ?_
    refine sn_iload_n dX11_takes_24 rfl ?_
    refine sn_i2l dX11_takes_25 ?_
    refine sn_callSI (vs := [aJ (oI2l x18), aJ (oI2l b1), aJ (oI2l b2)]) (cX11_within_ok n (oI2l x18) (oI2l b1) (oI2l b2) p3.2) dX11_takes_26 cw_X11_146 rfl (by decide) (by decide) (Nat.le_of_ble_eq_true rfl) (fun p26 => ?_)
    refine sn_if_ne (tgt := 37) dX11_takes_29 (by decide) ?_ ?_
    · exact sn_mask (L' := [some (aA a), none, none, none]) [true, false, false, false] rfl (hj37 () p26.2)
    · refine sn_aload_n dX11_takes_32 rfl ?_
      refine sn_iconst dX11_takes_33 ?_
      refine sn_callVV (vs := [aI 3]) (ci := 11) (cX11_fails_ok n a 3 p26.2) dX11_takes_34 cw_X11_142 rfl rfl rfl (by decide) (by decide) (Nat.le_of_ble_eq_true rfl) (fun p34 => ?_)
      exact sn_mask (L' := [some (aA a), none, none, none]) [true, false, false, false] rfl (hj37 () p34.2)
  · refine sn_aload_n dX11_takes_9 rfl ?_
    refine sn_iconst dX11_takes_10 ?_
    refine sn_callVV (vs := [aI 2]) (ci := 11) (cX11_fails_ok n a 2 p3.2) dX11_takes_11 cw_X11_142 rfl rfl rfl (by decide) (by decide) (Nat.le_of_ble_eq_true rfl) (fun p11 => ?_)
    refine sn_goto (tgt := 37) dX11_takes_14 (by decide) ?_
    exact sn_mask (L' := [some (aA a), none, none, none]) [true, false, false, false] rfl (hj37 () p11.2)
theorem dX11_readHouse_0 : decode cX11_readHouse 0 = .ok (.aload_n 0, 1) := by decide +kernel
theorem dX11_readHouse_1 : decode cX11_readHouse 1 = .ok (.getfield 24, 3) := by decide +kernel
theorem dX11_readHouse_4 : decode cX11_readHouse 4 = .ok (.iconst 0, 1) := by decide +kernel
theorem dX11_readHouse_5 : decode cX11_readHouse 5 = .ok (.iaload, 1) := by decide +kernel
theorem dX11_readHouse_6 : decode cX11_readHouse 6 = .ok (.istore_n 1, 1) := by decide +kernel
theorem dX11_readHouse_7 : decode cX11_readHouse 7 = .ok (.iload_n 1, 1) := by decide +kernel
theorem dX11_readHouse_8 : decode cX11_readHouse 8 = .ok (.bipush 10, 2) := by decide +kernel
theorem dX11_readHouse_10 : decode cX11_readHouse 10 = .ok (.if_icmp .ne 8, 3) := by decide +kernel
theorem dX11_readHouse_13 : decode cX11_readHouse 13 = .ok (.aload_n 0, 1) := by decide +kernel
theorem dX11_readHouse_14 : decode cX11_readHouse 14 = .ok (.iconst 4, 1) := by decide +kernel
theorem dX11_readHouse_15 : decode cX11_readHouse 15 = .ok (.invokevirtual 142, 3) := by decide +kernel
theorem dX11_readHouse_18 : decode cX11_readHouse 18 = .ok (.aload_n 0, 1) := by decide +kernel
theorem dX11_readHouse_19 : decode cX11_readHouse 19 = .ok (.getfield 130, 3) := by decide +kernel
theorem dX11_readHouse_22 : decode cX11_readHouse 22 = .ok (.ifCond .eq 4, 3) := by decide +kernel
theorem dX11_readHouse_25 : decode cX11_readHouse 25 = .ok (.return_, 1) := by decide +kernel
theorem dX11_readHouse_26 : decode cX11_readHouse 26 = .ok (.aload_n 0, 1) := by decide +kernel
theorem dX11_readHouse_27 : decode cX11_readHouse 27 = .ok (.invokevirtual 139, 3) := by decide +kernel
theorem dX11_readHouse_30 : decode cX11_readHouse 30 = .ok (.aload_n 0, 1) := by decide +kernel
theorem dX11_readHouse_31 : decode cX11_readHouse 31 = .ok (.iconst 0, 1) := by decide +kernel
theorem dX11_readHouse_32 : decode cX11_readHouse 32 = .ok (.bipush 20, 2) := by decide +kernel
theorem dX11_readHouse_34 : decode cX11_readHouse 34 = .ok (.invokevirtual 150, 3) := by decide +kernel
theorem dX11_readHouse_37 : decode cX11_readHouse 37 = .ok (.istore_n 2, 1) := by decide +kernel
theorem dX11_readHouse_38 : decode cX11_readHouse 38 = .ok (.aload_n 0, 1) := by decide +kernel
theorem dX11_readHouse_39 : decode cX11_readHouse 39 = .ok (.iconst 1, 1) := by decide +kernel
theorem dX11_readHouse_40 : decode cX11_readHouse 40 = .ok (.invokevirtual 154, 3) := by decide +kernel
theorem dX11_readHouse_43 : decode cX11_readHouse 43 = .ok (.ifCond .eq 13, 3) := by decide +kernel
theorem dX11_readHouse_46 : decode cX11_readHouse 46 = .ok (.aload_n 0, 1) := by decide +kernel
theorem dX11_readHouse_47 : decode cX11_readHouse 47 = .ok (.iconst 1, 1) := by decide +kernel
theorem dX11_readHouse_48 : decode cX11_readHouse 48 = .ok (.bipush 9, 2) := by decide +kernel
theorem dX11_readHouse_50 : decode cX11_readHouse 50 = .ok (.invokevirtual 150, 3) := by decide +kernel
theorem dX11_readHouse_53 : decode cX11_readHouse 53 = .ok (.goto 4, 3) := by decide +kernel
theorem dX11_readHouse_56 : decode cX11_readHouse 56 = .ok (.iconst 3, 1) := by decide +kernel
theorem dX11_readHouse_57 : decode cX11_readHouse 57 = .ok (.istore_n 3, 1) := by decide +kernel
theorem dX11_readHouse_58 : decode cX11_readHouse 58 = .ok (.aload_n 0, 1) := by decide +kernel
theorem dX11_readHouse_59 : decode cX11_readHouse 59 = .ok (.iconst 2, 1) := by decide +kernel
theorem dX11_readHouse_60 : decode cX11_readHouse 60 = .ok (.invokevirtual 154, 3) := by decide +kernel
theorem dX11_readHouse_63 : decode cX11_readHouse 63 = .ok (.ifCond .eq 13, 3) := by decide +kernel
theorem dX11_readHouse_66 : decode cX11_readHouse 66 = .ok (.aload_n 0, 1) := by decide +kernel
theorem dX11_readHouse_67 : decode cX11_readHouse 67 = .ok (.iconst 0, 1) := by decide +kernel
theorem dX11_readHouse_68 : decode cX11_readHouse 68 = .ok (.bipush 99, 2) := by decide +kernel
theorem dX11_readHouse_70 : decode cX11_readHouse 70 = .ok (.invokevirtual 150, 3) := by decide +kernel
theorem dX11_readHouse_73 : decode cX11_readHouse 73 = .ok (.goto 5, 3) := by decide +kernel
theorem dX11_readHouse_76 : decode cX11_readHouse 76 = .ok (.bipush 9, 2) := by decide +kernel
theorem dX11_readHouse_78 : decode cX11_readHouse 78 = .ok (.istore 4, 2) := by decide +kernel
theorem dX11_readHouse_80 : decode cX11_readHouse 80 = .ok (.aload_n 0, 1) := by decide +kernel
theorem dX11_readHouse_81 : decode cX11_readHouse 81 = .ok (.iconst 3, 1) := by decide +kernel
theorem dX11_readHouse_82 : decode cX11_readHouse 82 = .ok (.invokevirtual 154, 3) := by decide +kernel
theorem dX11_readHouse_85 : decode cX11_readHouse 85 = .ok (.ifCond .eq 14, 3) := by decide +kernel
theorem dX11_readHouse_88 : decode cX11_readHouse 88 = .ok (.aload_n 0, 1) := by decide +kernel
theorem dX11_readHouse_89 : decode cX11_readHouse 89 = .ok (.iconst 0, 1) := by decide +kernel
theorem dX11_readHouse_90 : decode cX11_readHouse 90 = .ok (.sipush 4095, 3) := by decide +kernel
theorem dX11_readHouse_93 : decode cX11_readHouse 93 = .ok (.invokevirtual 150, 3) := by decide +kernel
theorem dX11_readHouse_96 : decode cX11_readHouse 96 = .ok (.goto 4, 3) := by decide +kernel
theorem dX11_readHouse_99 : decode cX11_readHouse 99 = .ok (.iconst 0, 1) := by decide +kernel
theorem dX11_readHouse_100 : decode cX11_readHouse 100 = .ok (.istore 5, 2) := by decide +kernel
theorem dX11_readHouse_102 : decode cX11_readHouse 102 = .ok (.aload_n 0, 1) := by decide +kernel
theorem dX11_readHouse_103 : decode cX11_readHouse 103 = .ok (.getfield 130, 3) := by decide +kernel
theorem dX11_readHouse_106 : decode cX11_readHouse 106 = .ok (.ifCond .eq 4, 3) := by decide +kernel
theorem dX11_readHouse_109 : decode cX11_readHouse 109 = .ok (.return_, 1) := by decide +kernel
theorem dX11_readHouse_110 : decode cX11_readHouse 110 = .ok (.aload_n 0, 1) := by decide +kernel
theorem dX11_readHouse_111 : decode cX11_readHouse 111 = .ok (.getfield 24, 3) := by decide +kernel
theorem dX11_readHouse_114 : decode cX11_readHouse 114 = .ok (.bipush 6, 2) := by decide +kernel
theorem dX11_readHouse_116 : decode cX11_readHouse 116 = .ok (.iload_n 1, 1) := by decide +kernel
theorem dX11_readHouse_117 : decode cX11_readHouse 117 = .ok (.iadd, 1) := by decide +kernel
theorem dX11_readHouse_118 : decode cX11_readHouse 118 = .ok (.iload_n 2, 1) := by decide +kernel
theorem dX11_readHouse_119 : decode cX11_readHouse 119 = .ok (.iastore, 1) := by decide +kernel
theorem dX11_readHouse_120 : decode cX11_readHouse 120 = .ok (.aload_n 0, 1) := by decide +kernel
theorem dX11_readHouse_121 : decode cX11_readHouse 121 = .ok (.getfield 24, 3) := by decide +kernel
theorem dX11_readHouse_124 : decode cX11_readHouse 124 = .ok (.bipush 16, 2) := by decide +kernel
theorem dX11_readHouse_126 : decode cX11_readHouse 126 = .ok (.iload_n 1, 1) := by decide +kernel
theorem dX11_readHouse_127 : decode cX11_readHouse 127 = .ok (.iadd, 1) := by decide +kernel
theorem dX11_readHouse_128 : decode cX11_readHouse 128 = .ok (.iload_n 3, 1) := by decide +kernel
theorem dX11_readHouse_129 : decode cX11_readHouse 129 = .ok (.iastore, 1) := by decide +kernel
theorem dX11_readHouse_130 : decode cX11_readHouse 130 = .ok (.aload_n 0, 1) := by decide +kernel
theorem dX11_readHouse_131 : decode cX11_readHouse 131 = .ok (.getfield 24, 3) := by decide +kernel
theorem dX11_readHouse_134 : decode cX11_readHouse 134 = .ok (.bipush 26, 2) := by decide +kernel
theorem dX11_readHouse_136 : decode cX11_readHouse 136 = .ok (.iload_n 1, 1) := by decide +kernel
theorem dX11_readHouse_137 : decode cX11_readHouse 137 = .ok (.iadd, 1) := by decide +kernel
theorem dX11_readHouse_138 : decode cX11_readHouse 138 = .ok (.iload 4, 2) := by decide +kernel
theorem dX11_readHouse_140 : decode cX11_readHouse 140 = .ok (.iastore, 1) := by decide +kernel
theorem dX11_readHouse_141 : decode cX11_readHouse 141 = .ok (.aload_n 0, 1) := by decide +kernel
theorem dX11_readHouse_142 : decode cX11_readHouse 142 = .ok (.getfield 24, 3) := by decide +kernel
theorem dX11_readHouse_145 : decode cX11_readHouse 145 = .ok (.bipush 36, 2) := by decide +kernel
theorem dX11_readHouse_147 : decode cX11_readHouse 147 = .ok (.iload_n 1, 1) := by decide +kernel
theorem dX11_readHouse_148 : decode cX11_readHouse 148 = .ok (.iadd, 1) := by decide +kernel
theorem dX11_readHouse_149 : decode cX11_readHouse 149 = .ok (.iload 5, 2) := by decide +kernel
theorem dX11_readHouse_151 : decode cX11_readHouse 151 = .ok (.iastore, 1) := by decide +kernel
theorem dX11_readHouse_152 : decode cX11_readHouse 152 = .ok (.aload_n 0, 1) := by decide +kernel
theorem dX11_readHouse_153 : decode cX11_readHouse 153 = .ok (.getfield 24, 3) := by decide +kernel
theorem dX11_readHouse_156 : decode cX11_readHouse 156 = .ok (.iconst 0, 1) := by decide +kernel
theorem dX11_readHouse_157 : decode cX11_readHouse 157 = .ok (.dup2, 1) := by decide +kernel
theorem dX11_readHouse_158 : decode cX11_readHouse 158 = .ok (.iaload, 1) := by decide +kernel
theorem dX11_readHouse_159 : decode cX11_readHouse 159 = .ok (.iconst 1, 1) := by decide +kernel
theorem dX11_readHouse_160 : decode cX11_readHouse 160 = .ok (.iadd, 1) := by decide +kernel
theorem dX11_readHouse_161 : decode cX11_readHouse 161 = .ok (.iastore, 1) := by decide +kernel
theorem dX11_readHouse_162 : decode cX11_readHouse 162 = .ok (.return_, 1) := by decide +kernel
def mX11_readHouse (n : Nat) (a : Nat) (μ : Mem) : Option (Unit × Mem) :=
  (gA μ 12 a 4).bind fun x1 =>
  (ldI μ 0 x1 0).bind fun x5 =>
  jn (fun (v18 : Unit) (μ18 : Mem) =>
  (gI μ18 12 a 11).bind fun x19 =>
  if eq32 x19 0 then
    (inv μ18 12 a (mX11_next n a μ18)).bind fun p27 =>
    (inv p27.2 12 a (mX11_takes n a 0 20 p27.2)).bind fun p34 =>
    (inv p34.2 12 a (mX11_eats n a 1 p34.2)).bind fun p40 =>
    jn (fun (v57 : Int) (μ57 : Mem) =>
    (inv μ57 12 a (mX11_eats n a 2 μ57)).bind fun p60 =>
    jn (fun (v78 : Int) (μ78 : Mem) =>
    (inv μ78 12 a (mX11_eats n a 3 μ78)).bind fun p82 =>
    jn (fun (v100 : Int) (μ100 : Mem) =>
    (gI μ100 12 a 11).bind fun x103 =>
    if eq32 x103 0 then
      (gA μ100 12 a 4).bind fun x111 =>
      (stI μ100 0 x111 (6 + x5) p34.1).bind fun μ119 =>
      (gA μ119 12 a 4).bind fun x121 =>
      (stI μ119 0 x121 (16 + x5) v57).bind fun μ129 =>
      (gA μ129 12 a 4).bind fun x131 =>
      (stI μ129 0 x131 (26 + x5) v78).bind fun μ140 =>
      (gA μ140 12 a 4).bind fun x142 =>
      (stI μ140 0 x142 (36 + x5) v100).bind fun μ151 =>
      (gA μ151 12 a 4).bind fun x153 =>
      (ldI μ151 0 x153 0).bind fun x158 =>
      (stI μ151 0 x153 0 (x158 + 1)).bind fun μ161 =>
      some ((), μ161)
    else
    some ((), μ100)) (fun j100 =>
    if eq32 p82.1 0 then
      j100 0 p82.2
    else
    (inv p82.2 12 a (mX11_takes n a 0 4095 p82.2)).bind fun p93 =>
    j100 p93.1 p93.2)) (fun j78 =>
    if eq32 p60.1 0 then
      j78 9 p60.2
    else
    (inv p60.2 12 a (mX11_takes n a 0 99 p60.2)).bind fun p70 =>
    j78 p70.1 p70.2)) (fun j57 =>
    if eq32 p40.1 0 then
      j57 3 p40.2
    else
    (inv p40.2 12 a (mX11_takes n a 1 9 p40.2)).bind fun p50 =>
    j57 p50.1 p50.2)
  else
  some ((), μ18)) (fun j18 =>
  if eq32 x5 10 then
    (inv μ 12 a (mX11_fails n a 4 μ)).bind fun p15 =>
    j18 () p15.2
  else
  j18 () μ)
set_option maxRecDepth 100000 in
set_option maxHeartbeats 4000000 in
theorem cX11_readHouse_ok (n : Nat) (a : Nat) (μ : Mem) : Mc yX11_readHouse cX11_readHouse 6 none 7 151 eV [aA a] μ (mX11_readHouse n a μ) := by
  refine mc_of (L0 := [some (aA a), none, none, none, none, none]) (k := 5) (by decide) rfl rfl (fun X Γ => ?_)
  unfold mX11_readHouse
  refine sn_aload_n dX11_readHouse_0 rfl ?_
  refine sn_getA (ci := 11) (j := 4) dX11_readHouse_1 fl_X11_24 (by decide) (fun x1 => ?_)
  refine sn_iconst dX11_readHouse_4 ?_
  refine sn_iald dX11_readHouse_5 (fun x5 => ?_)
  refine sn_istore_n (L' := [some (aA a), some (aI x5), none, none, none, none]) dX11_readHouse_6 (by decide) rfl ?_
  refine sn_iload_n dX11_readHouse_7 rfl ?_
  refine sn_bipush dX11_readHouse_8 (by decide) ?_
  refine sn_jn (pcj := 18) (La := fun v18 : Unit => [some (aA a), some (aI x5), none, none, none, none]) (Sa := fun v18 : Unit => []) ?_ ?_
  · intro v18 μ18
    refine sn_aload_n dX11_readHouse_18 rfl ?_
    refine sn_getI (ci := 11) (j := 11) dX11_readHouse_19 fl_X11_130 rfl (fun x19 => ?_)
    refine sn_if_eq (tgt := 26) dX11_readHouse_22 (by decide) ?_ ?_
    · refine sn_aload_n dX11_readHouse_26 rfl ?_
      refine sn_callVV (vs := []) (ci := 11) (cX11_next_ok n a μ18) dX11_readHouse_27 cw_X11_139 rfl rfl rfl (by decide) (by decide) (Nat.le_of_ble_eq_true rfl) (fun p27 => ?_)
      refine sn_aload_n dX11_readHouse_30 rfl ?_
      refine sn_iconst dX11_readHouse_31 ?_
      refine sn_bipush dX11_readHouse_32 (by decide) ?_
      refine sn_callVI (vs := [aI 0, aI 20]) (ci := 11) (cX11_takes_ok n a 0 20 p27.2) dX11_readHouse_34 cw_X11_150 rfl rfl rfl (by decide) (by decide) (Nat.le_of_ble_eq_true rfl) (fun p34 => ?_)
      refine sn_istore_n (L' := [some (aA a), some (aI x5), some (aI p34.1), none, none, none]) dX11_readHouse_37 (by decide) rfl ?_
      refine sn_aload_n dX11_readHouse_38 rfl ?_
      refine sn_iconst dX11_readHouse_39 ?_
      refine sn_callVI (vs := [aI 1]) (ci := 11) (cX11_eats_ok n a 1 p34.2) dX11_readHouse_40 cw_X11_154 rfl rfl rfl (by decide) (by decide) (Nat.le_of_ble_eq_true rfl) (fun p40 => ?_)
      refine sn_jn (pcj := 57) (La := fun v57 : Int => [some (aA a), some (aI x5), some (aI p34.1), none, none, none]) (Sa := fun v57 : Int => [aI v57]) ?_ ?_
      · intro v57 μ57
        refine sn_istore_n (L' := [some (aA a), some (aI x5), some (aI p34.1), some (aI v57), none, none]) dX11_readHouse_57 (by decide) rfl ?_
        refine sn_aload_n dX11_readHouse_58 rfl ?_
        refine sn_iconst dX11_readHouse_59 ?_
        refine sn_callVI (vs := [aI 2]) (ci := 11) (cX11_eats_ok n a 2 μ57) dX11_readHouse_60 cw_X11_154 rfl rfl rfl (by decide) (by decide) (Nat.le_of_ble_eq_true rfl) (fun p60 => ?_)
        refine sn_jn (pcj := 78) (La := fun v78 : Int => [some (aA a), some (aI x5), some (aI p34.1), some (aI v57), none, none]) (Sa := fun v78 : Int => [aI v78]) ?_ ?_
        · intro v78 μ78
          refine sn_istore (L' := [some (aA a), some (aI x5), some (aI p34.1), some (aI v57), some (aI v78), none]) dX11_readHouse_78 (by decide) rfl ?_
          refine sn_aload_n dX11_readHouse_80 rfl ?_
          refine sn_iconst dX11_readHouse_81 ?_
          refine sn_callVI (vs := [aI 3]) (ci := 11) (cX11_eats_ok n a 3 μ78) dX11_readHouse_82 cw_X11_154 rfl rfl rfl (by decide) (by decide) (Nat.le_of_ble_eq_true rfl) (fun p82 => ?_)
          refine sn_jn (pcj := 100) (La := fun v100 : Int => [some (aA a), some (aI x5), some (aI p34.1), some (aI v57), some (aI v78), none]) (Sa := fun v100 : Int => [aI v100]) ?_ ?_
          · intro v100 μ100
            refine sn_istore (L' := [some (aA a), some (aI x5), some (aI p34.1), some (aI v57), some (aI v78), some (aI v100)]) dX11_readHouse_100 (by decide) rfl ?_
            refine sn_aload_n dX11_readHouse_102 rfl ?_
            refine sn_getI (ci := 11) (j := 11) dX11_readHouse_103 fl_X11_130 rfl (fun x103 => ?_)
            refine sn_if_eq (tgt := 110) dX11_readHouse_106 (by decide) ?_ ?_
            · refine sn_aload_n dX11_readHouse_110 rfl ?_
              refine sn_getA (ci := 11) (j := 4) dX11_readHouse_111 fl_X11_24 (by decide) (fun x111 => ?_)
              refine sn_bipush dX11_readHouse_114 (by decide) ?_
              refine sn_iload_n dX11_readHouse_116 rfl ?_
              refine sn_iadd dX11_readHouse_117 ?_
              refine sn_iload_n dX11_readHouse_118 rfl ?_
              refine sn_iast dX11_readHouse_119 (fun μ119 => ?_)
              refine sn_aload_n dX11_readHouse_120 rfl ?_
              refine sn_getA (ci := 11) (j := 4) dX11_readHouse_121 fl_X11_24 (by decide) (fun x121 => ?_)
              refine sn_bipush dX11_readHouse_124 (by decide) ?_
              refine sn_iload_n dX11_readHouse_126 rfl ?_
              refine sn_iadd dX11_readHouse_127 ?_
              refine sn_iload_n dX11_readHouse_128 rfl ?_
              refine sn_iast dX11_readHouse_129 (fun μ129 => ?_)
              refine sn_aload_n dX11_readHouse_130 rfl ?_
              refine sn_getA (ci := 11) (j := 4) dX11_readHouse_131 fl_X11_24 (by decide) (fun x131 => ?_)
              refine sn_bipush dX11_readHouse_134 (by decide) ?_
              refine sn_iload_n dX11_readHouse_136 rfl ?_
              refine sn_iadd dX11_readHouse_137 ?_
              refine sn_iload dX11_readHouse_138 rfl ?_
              refine sn_iast dX11_readHouse_140 (fun μ140 => ?_)
              refine sn_aload_n dX11_readHouse_141 rfl ?_
              refine sn_getA (ci := 11) (j := 4) dX11_readHouse_142 fl_X11_24 (by decide) (fun x142 => ?_)
              refine sn_bipush dX11_readHouse_145 (by decide) ?_
              refine sn_iload_n dX11_readHouse_147 rfl ?_
              refine sn_iadd dX11_readHouse_148 ?_
              refine sn_iload dX11_readHouse_149 rfl ?_
              refine sn_iast dX11_readHouse_151 (fun μ151 => ?_)
              refine sn_aload_n dX11_readHouse_152 rfl ?_
              refine sn_getA (ci := 11) (j := 4) dX11_readHouse_153 fl_X11_24 (by decide) (fun x153 => ?_)
              refine sn_iconst dX11_readHouse_156 ?_
              refine sn_dup2 dX11_readHouse_157 rfl rfl ?_
              refine sn_iald dX11_readHouse_158 (fun x158 => ?_)
              refine sn_iconst dX11_readHouse_159 ?_
              refine sn_iadd dX11_readHouse_160 ?_
              refine sn_iast dX11_readHouse_161 (fun μ161 => ?_)
              exact sn_vret dX11_readHouse_162
            · exact sn_vret dX11_readHouse_109
          intro j100 hj100
          refine sn_if_eq (tgt := 99) dX11_readHouse_85 (by decide) ?_ ?_
          · refine sn_iconst dX11_readHouse_99 ?_
            exact hj100 0 p82.2
          · refine sn_aload_n dX11_readHouse_88 rfl ?_
            refine sn_iconst dX11_readHouse_89 ?_
            refine sn_sipush dX11_readHouse_90 (by decide) ?_
            refine sn_callVI (vs := [aI 0, aI 4095]) (ci := 11) (cX11_takes_ok n a 0 4095 p82.2) dX11_readHouse_93 cw_X11_150 rfl rfl rfl (by decide) (by decide) (Nat.le_of_ble_eq_true rfl) (fun p93 => ?_)
            refine sn_goto (tgt := 100) dX11_readHouse_96 (by decide) ?_
            exact hj100 p93.1 p93.2
        intro j78 hj78
        refine sn_if_eq (tgt := 76) dX11_readHouse_63 (by decide) ?_ ?_
        · refine sn_bipush dX11_readHouse_76 (by decide) ?_
          exact hj78 9 p60.2
        · refine sn_aload_n dX11_readHouse_66 rfl ?_
          refine sn_iconst dX11_readHouse_67 ?_
          refine sn_bipush dX11_readHouse_68 (by decide) ?_
          refine sn_callVI (vs := [aI 0, aI 99]) (ci := 11) (cX11_takes_ok n a 0 99 p60.2) dX11_readHouse_70 cw_X11_150 rfl rfl rfl (by decide) (by decide) (Nat.le_of_ble_eq_true rfl) (fun p70 => ?_)
          refine sn_goto (tgt := 78) dX11_readHouse_73 (by decide) ?_
          exact hj78 p70.1 p70.2
      intro j57 hj57
      refine sn_if_eq (tgt := 56) dX11_readHouse_43 (by decide) ?_ ?_
      · refine sn_iconst dX11_readHouse_56 ?_
        exact hj57 3 p40.2
      · refine sn_aload_n dX11_readHouse_46 rfl ?_
        refine sn_iconst dX11_readHouse_47 ?_
        refine sn_bipush dX11_readHouse_48 (by decide) ?_
        refine sn_callVI (vs := [aI 1, aI 9]) (ci := 11) (cX11_takes_ok n a 1 9 p40.2) dX11_readHouse_50 cw_X11_150 rfl rfl rfl (by decide) (by decide) (Nat.le_of_ble_eq_true rfl) (fun p50 => ?_)
        refine sn_goto (tgt := 57) dX11_readHouse_53 (by decide) ?_
        exact hj57 p50.1 p50.2
    · exact sn_vret dX11_readHouse_25
  intro j18 hj18
  refine sn_icmp_ne (tgt := 18) dX11_readHouse_10 (by decide) ?_ ?_
  · exact hj18 () μ
  · refine sn_aload_n dX11_readHouse_13 rfl ?_
    refine sn_iconst dX11_readHouse_14 ?_
    refine sn_callVV (vs := [aI 4]) (ci := 11) (cX11_fails_ok n a 4 μ) dX11_readHouse_15 cw_X11_142 rfl rfl rfl (by decide) (by decide) (Nat.le_of_ble_eq_true rfl) (fun p15 => ?_)
    exact hj18 () p15.2
