/-! layer 1: model7 -/
theorem dX11_soonestOf_0 : decode cX11_soonestOf 0 = .ok (.aload_n 0, 1) := by decide +kernel
theorem dX11_soonestOf_1 : decode cX11_soonestOf 1 = .ok (.invokevirtual 312, 3) := by decide +kernel
theorem dX11_soonestOf_4 : decode cX11_soonestOf 4 = .ok (.ifCond .ne 6, 3) := by decide +kernel
theorem dX11_soonestOf_7 : decode cX11_soonestOf 7 = .ok (.bipush (-4), 2) := by decide +kernel
theorem dX11_soonestOf_9 : decode cX11_soonestOf 9 = .ok (.ireturn, 1) := by decide +kernel
theorem dX11_soonestOf_10 : decode cX11_soonestOf 10 = .ok (.aload_n 0, 1) := by decide +kernel
theorem dX11_soonestOf_11 : decode cX11_soonestOf 11 = .ok (.invokevirtual 230, 3) := by decide +kernel
theorem dX11_soonestOf_14 : decode cX11_soonestOf 14 = .ok (.aload_n 0, 1) := by decide +kernel
theorem dX11_soonestOf_15 : decode cX11_soonestOf 15 = .ok (.getfield 13, 3) := by decide +kernel
theorem dX11_soonestOf_18 : decode cX11_soonestOf 18 = .ok (.bipush 46, 2) := by decide +kernel
theorem dX11_soonestOf_20 : decode cX11_soonestOf 20 = .ok (.iload_n 1, 1) := by decide +kernel
theorem dX11_soonestOf_21 : decode cX11_soonestOf 21 = .ok (.iadd, 1) := by decide +kernel
theorem dX11_soonestOf_22 : decode cX11_soonestOf 22 = .ok (.iaload, 1) := by decide +kernel
theorem dX11_soonestOf_23 : decode cX11_soonestOf 23 = .ok (.istore_n 3, 1) := by decide +kernel
theorem dX11_soonestOf_24 : decode cX11_soonestOf 24 = .ok (.iconst 0, 1) := by decide +kernel
theorem dX11_soonestOf_25 : decode cX11_soonestOf 25 = .ok (.istore 4, 2) := by decide +kernel
theorem dX11_soonestOf_27 : decode cX11_soonestOf 27 = .ok (.iload 4, 2) := by decide +kernel
theorem dX11_soonestOf_29 : decode cX11_soonestOf 29 = .ok (.sipush 8192, 3) := by decide +kernel
theorem dX11_soonestOf_32 : decode cX11_soonestOf 32 = .ok (.if_icmp .ge 17, 3) := by decide +kernel
theorem dX11_soonestOf_35 : decode cX11_soonestOf 35 = .ok (.aload_n 0, 1) := by decide +kernel
theorem dX11_soonestOf_36 : decode cX11_soonestOf 36 = .ok (.getfield 43, 3) := by decide +kernel
theorem dX11_soonestOf_39 : decode cX11_soonestOf 39 = .ok (.iload 4, 2) := by decide +kernel
theorem dX11_soonestOf_41 : decode cX11_soonestOf 41 = .ok (.iconst 0, 1) := by decide +kernel
theorem dX11_soonestOf_42 : decode cX11_soonestOf 42 = .ok (.iastore, 1) := by decide +kernel
theorem dX11_soonestOf_43 : decode cX11_soonestOf 43 = .ok (.iinc 4 1, 3) := by decide +kernel
theorem dX11_soonestOf_46 : decode cX11_soonestOf 46 = .ok (.goto (-19), 3) := by decide +kernel
theorem dX11_soonestOf_49 : decode cX11_soonestOf 49 = .ok (.aload_n 0, 1) := by decide +kernel
theorem dX11_soonestOf_50 : decode cX11_soonestOf 50 = .ok (.iconst 0, 1) := by decide +kernel
theorem dX11_soonestOf_51 : decode cX11_soonestOf 51 = .ok (.putfield 293, 3) := by decide +kernel
theorem dX11_soonestOf_54 : decode cX11_soonestOf 54 = .ok (.aload_n 0, 1) := by decide +kernel
theorem dX11_soonestOf_55 : decode cX11_soonestOf 55 = .ok (.invokevirtual 200, 3) := by decide +kernel
theorem dX11_soonestOf_58 : decode cX11_soonestOf 58 = .ok (.aload_n 0, 1) := by decide +kernel
theorem dX11_soonestOf_59 : decode cX11_soonestOf 59 = .ok (.aload_n 0, 1) := by decide +kernel
theorem dX11_soonestOf_60 : decode cX11_soonestOf 60 = .ok (.iload_n 1, 1) := by decide +kernel
theorem dX11_soonestOf_61 : decode cX11_soonestOf 61 = .ok (.iload_n 3, 1) := by decide +kernel
theorem dX11_soonestOf_62 : decode cX11_soonestOf 62 = .ok (.invokevirtual 300, 3) := by decide +kernel
theorem dX11_soonestOf_65 : decode cX11_soonestOf 65 = .ok (.invokevirtual 304, 3) := by decide +kernel
theorem dX11_soonestOf_68 : decode cX11_soonestOf 68 = .ok (.iconst 0, 1) := by decide +kernel
theorem dX11_soonestOf_69 : decode cX11_soonestOf 69 = .ok (.istore 4, 2) := by decide +kernel
theorem dX11_soonestOf_71 : decode cX11_soonestOf 71 = .ok (.iconst (-1), 1) := by decide +kernel
theorem dX11_soonestOf_72 : decode cX11_soonestOf 72 = .ok (.istore 5, 2) := by decide +kernel
theorem dX11_soonestOf_74 : decode cX11_soonestOf 74 = .ok (.iconst 1, 1) := by decide +kernel
theorem dX11_soonestOf_75 : decode cX11_soonestOf 75 = .ok (.istore 6, 2) := by decide +kernel
theorem dX11_soonestOf_77 : decode cX11_soonestOf 77 = .ok (.iload 5, 2) := by decide +kernel
theorem dX11_soonestOf_79 : decode cX11_soonestOf 79 = .ok (.iconst (-1), 1) := by decide +kernel
theorem dX11_soonestOf_80 : decode cX11_soonestOf 80 = .ok (.if_icmp .ne 93, 3) := by decide +kernel
theorem dX11_soonestOf_83 : decode cX11_soonestOf 83 = .ok (.iload 4, 2) := by decide +kernel
theorem dX11_soonestOf_85 : decode cX11_soonestOf 85 = .ok (.aload_n 0, 1) := by decide +kernel
theorem dX11_soonestOf_86 : decode cX11_soonestOf 86 = .ok (.getfield 293, 3) := by decide +kernel
theorem dX11_soonestOf_89 : decode cX11_soonestOf 89 = .ok (.if_icmp .ge 84, 3) := by decide +kernel
theorem dX11_soonestOf_92 : decode cX11_soonestOf 92 = .ok (.aload_n 0, 1) := by decide +kernel
theorem dX11_soonestOf_93 : decode cX11_soonestOf 93 = .ok (.getfield 293, 3) := by decide +kernel
theorem dX11_soonestOf_96 : decode cX11_soonestOf 96 = .ok (.istore 7, 2) := by decide +kernel
theorem dX11_soonestOf_98 : decode cX11_soonestOf 98 = .ok (.iload 4, 2) := by decide +kernel
theorem dX11_soonestOf_100 : decode cX11_soonestOf 100 = .ok (.istore 8, 2) := by decide +kernel
theorem dX11_soonestOf_102 : decode cX11_soonestOf 102 = .ok (.iload 8, 2) := by decide +kernel
theorem dX11_soonestOf_104 : decode cX11_soonestOf 104 = .ok (.iload 7, 2) := by decide +kernel
theorem dX11_soonestOf_106 : decode cX11_soonestOf 106 = .ok (.if_icmp .ge 37, 3) := by decide +kernel
theorem dX11_soonestOf_109 : decode cX11_soonestOf 109 = .ok (.iload 5, 2) := by decide +kernel
theorem dX11_soonestOf_111 : decode cX11_soonestOf 111 = .ok (.iconst (-1), 1) := by decide +kernel
theorem dX11_soonestOf_112 : decode cX11_soonestOf 112 = .ok (.if_icmp .ne 31, 3) := by decide +kernel
theorem dX11_soonestOf_115 : decode cX11_soonestOf 115 = .ok (.aload_n 0, 1) := by decide +kernel
theorem dX11_soonestOf_116 : decode cX11_soonestOf 116 = .ok (.iconst 0, 1) := by decide +kernel
theorem dX11_soonestOf_117 : decode cX11_soonestOf 117 = .ok (.aload_n 0, 1) := by decide +kernel
theorem dX11_soonestOf_118 : decode cX11_soonestOf 118 = .ok (.getfield 39, 3) := by decide +kernel
theorem dX11_soonestOf_121 : decode cX11_soonestOf 121 = .ok (.iload 8, 2) := by decide +kernel
theorem dX11_soonestOf_123 : decode cX11_soonestOf 123 = .ok (.laload, 1) := by decide +kernel
theorem dX11_soonestOf_124 : decode cX11_soonestOf 124 = .ok (.iload_n 1, 1) := by decide +kernel
theorem dX11_soonestOf_125 : decode cX11_soonestOf 125 = .ok (.iload_n 3, 1) := by decide +kernel
theorem dX11_soonestOf_126 : decode cX11_soonestOf 126 = .ok (.iload_n 2, 1) := by decide +kernel
theorem dX11_soonestOf_127 : decode cX11_soonestOf 127 = .ok (.invokevirtual 308, 3) := by decide +kernel
theorem dX11_soonestOf_130 : decode cX11_soonestOf 130 = .ok (.ifCond .eq 7, 3) := by decide +kernel
theorem dX11_soonestOf_133 : decode cX11_soonestOf 133 = .ok (.iload 6, 2) := by decide +kernel
theorem dX11_soonestOf_135 : decode cX11_soonestOf 135 = .ok (.istore 5, 2) := by decide +kernel
theorem dX11_soonestOf_137 : decode cX11_soonestOf 137 = .ok (.iinc 8 1, 3) := by decide +kernel
theorem dX11_soonestOf_140 : decode cX11_soonestOf 140 = .ok (.goto (-38), 3) := by decide +kernel
theorem dX11_soonestOf_143 : decode cX11_soonestOf 143 = .ok (.iload 5, 2) := by decide +kernel
theorem dX11_soonestOf_145 : decode cX11_soonestOf 145 = .ok (.iconst (-1), 1) := by decide +kernel
theorem dX11_soonestOf_146 : decode cX11_soonestOf 146 = .ok (.if_icmp .ne 17, 3) := by decide +kernel
theorem dX11_soonestOf_149 : decode cX11_soonestOf 149 = .ok (.aload_n 0, 1) := by decide +kernel
theorem dX11_soonestOf_150 : decode cX11_soonestOf 150 = .ok (.getfield 293, 3) := by decide +kernel
theorem dX11_soonestOf_153 : decode cX11_soonestOf 153 = .ok (.sipush 3000, 3) := by decide +kernel
theorem dX11_soonestOf_156 : decode cX11_soonestOf 156 = .ok (.if_icmp .le 7, 3) := by decide +kernel
theorem dX11_soonestOf_159 : decode cX11_soonestOf 159 = .ok (.bipush (-4), 2) := by decide +kernel
theorem dX11_soonestOf_161 : decode cX11_soonestOf 161 = .ok (.istore 5, 2) := by decide +kernel
theorem dX11_soonestOf_163 : decode cX11_soonestOf 163 = .ok (.iload 7, 2) := by decide +kernel
theorem dX11_soonestOf_165 : decode cX11_soonestOf 165 = .ok (.istore 4, 2) := by decide +kernel
theorem dX11_soonestOf_167 : decode cX11_soonestOf 167 = .ok (.iinc 6 1, 3) := by decide +kernel
theorem dX11_soonestOf_170 : decode cX11_soonestOf 170 = .ok (.goto (-93), 3) := by decide +kernel
theorem dX11_soonestOf_173 : decode cX11_soonestOf 173 = .ok (.aload_n 0, 1) := by decide +kernel
theorem dX11_soonestOf_174 : decode cX11_soonestOf 174 = .ok (.invokevirtual 236, 3) := by decide +kernel
theorem dX11_soonestOf_177 : decode cX11_soonestOf 177 = .ok (.iload 5, 2) := by decide +kernel
theorem dX11_soonestOf_179 : decode cX11_soonestOf 179 = .ok (.ireturn, 1) := by decide +kernel
def mX11_soonestOf (n : Nat) (a : Nat) (b1 : Int) (b2 : Int) (μ : Mem) : Option (Int × Mem) :=
  (inv μ 12 a (mX11_areFew n a μ)).bind fun p1 =>
  if eq32 p1.1 0 then
    some ((-4), p1.2)
  else
  (inv p1.2 12 a (mX11_keeps n a p1.2)).bind fun p11 =>
  (gA p11.2 12 a 1).bind fun x15 =>
  (ldI p11.2 0 x15 (46 + b1)).bind fun x22 =>
  lp (fun nx27 (v27 : Int) (μ27 : Mem) =>
  if lt32 v27 8192 then
    (gA μ27 12 a 24).bind fun x36 =>
    (stI μ27 0 x36 v27 0).bind fun μ42 =>
    nx27 (v27 + 1) μ42
  else
  (pI μ27 12 a 26 0).bind fun μ51 =>
  (inv μ51 12 a (mX11_nobody n a μ51)).bind fun p55 =>
  (inv p55.2 12 a (mX11_state n a b1 x22 p55.2)).bind fun p62 =>
  (inv p62.2 12 a (mX11_meets n a p62.1 p62.2)).bind fun p65 =>
  lp (fun nx77 (v77 : Int × Int × Int) (μ77 : Mem) =>
  jn (fun (v173 : Int) (μ173 : Mem) =>
  (inv μ173 12 a (mX11_isAgain n a μ173)).bind fun p174 =>
  some (v173, p174.2)) (fun j173 =>
  if eq32 v77.2.1 (-1) then
    (gI μ77 12 a 26).bind fun x86 =>
    if lt32 v77.1 x86 then
      (gI μ77 12 a 26).bind fun x93 =>
      lp (fun nx102 (v102 : Int × Int) (μ102 : Mem) =>
      jn (fun (v143 : Int) (μ143 : Mem) =>
      if eq32 v143 (-1) then
        (gI μ143 12 a 26).bind fun x150 =>
        if lt32 3000 x150 then
          nx77 (x93, (-4), (v77.2.2 + 1)) μ143
        else
        nx77 (x93, v143, (v77.2.2 + 1)) μ143
      else
      nx77 (x93, v143, (v77.2.2 + 1)) μ143) (fun j143 =>
      if lt32 v102.2 x93 then
        if eq32 v102.1 (-1) then
          (gA μ102 12 a 23).bind fun x118 =>
          (ldI μ102 3 x118 v102.2).bind fun x123 =>
          (inv μ102 12 a (mX11_pullsAll n a 0 x123 b1 x22 b2 μ102)).bind fun p127 =>
          if eq32 p127.1 0 then
            nx102 (v102.1, (v102.2 + 1)) p127.2
          else
          nx102 (v77.2.2, (v102.2 + 1)) p127.2
        else
        j143 v102.1 μ102
      else
      j143 v102.1 μ102)) n (v77.2.1, v77.1) μ77
    else
    j173 v77.2.1 μ77
  else
  j173 v77.2.1 μ77)) n (0, (-1), 1) p65.2) n 0 p11.2
set_option maxRecDepth 100000 in
set_option maxHeartbeats 4000000 in
theorem cX11_soonestOf_ok (n : Nat) (a : Nat) (b1 : Int) (b2 : Int) (μ : Mem) : Mc yX11_soonestOf cX11_soonestOf 9 (some .int) 37 891 eI [aA a, aI b1, aI b2] μ (mX11_soonestOf n a b1 b2 μ) := by
  refine mc_of (L0 := [some (aA a), some (aI b1), some (aI b2), none, none, none, none, none, none]) (k := 6) (by decide) rfl rfl (fun X Γ => ?_)
  unfold mX11_soonestOf
  refine sn_aload_n dX11_soonestOf_0 rfl ?_
  refine sn_callVI (vs := []) (ci := 11) (cX11_areFew_ok n a μ) dX11_soonestOf_1 cw_X11_312 rfl rfl rfl (by decide) (by decide) (Nat.le_of_ble_eq_true rfl) (fun p1 => ?_)
  refine sn_if_ne (tgt := 10) dX11_soonestOf_4 (by decide) ?_ ?_
  · refine sn_aload_n dX11_soonestOf_10 rfl ?_
    refine sn_callVV (vs := []) (ci := 11) (cX11_keeps_ok n a p1.2) dX11_soonestOf_11 cw_X11_230 rfl rfl rfl (by decide) (by decide) (Nat.le_of_ble_eq_true rfl) (fun p11 => ?_)
    refine sn_aload_n dX11_soonestOf_14 rfl ?_
    refine sn_getA (ci := 11) (j := 1) dX11_soonestOf_15 fl_X11_13 (by decide) (fun x15 => ?_)
    refine sn_bipush dX11_soonestOf_18 (by decide) ?_
    refine sn_iload_n dX11_soonestOf_20 rfl ?_
    refine sn_iadd dX11_soonestOf_21 ?_
    refine sn_iald dX11_soonestOf_22 (fun x22 => ?_)
    refine sn_istore_n (L' := [some (aA a), some (aI b1), some (aI b2), some (aI x22), none, none, none, none, none]) dX11_soonestOf_23 (by decide) rfl ?_
    refine sn_iconst dX11_soonestOf_24 ?_
    refine sn_istore (L' := [some (aA a), some (aI b1), some (aI b2), some (aI x22), some (aI 0), none, none, none, none]) dX11_soonestOf_25 (by decide) rfl ?_
    refine sn_lp (La := fun v27 : Int => [some (aA a), some (aI b1), some (aI b2), some (aI x22), some (aI v27), none, none, none, none]) ?_ n 0 p11.2
    intro nx27 hnx27 v27 μ27
    refine sn_iload dX11_soonestOf_27 rfl ?_
    refine sn_sipush dX11_soonestOf_29 (by decide) ?_
    refine sn_icmp_ge (tgt := 49) dX11_soonestOf_32 (by decide) ?_ ?_
    · refine sn_aload_n dX11_soonestOf_49 rfl ?_
      refine sn_iconst dX11_soonestOf_50 ?_
      refine sn_putI (ci := 11) (j := 26) dX11_soonestOf_51 fl_X11_293 rfl (fun q h => by cases h; rfl) (fun μ51 => ?_)
      refine sn_aload_n dX11_soonestOf_54 rfl ?_
      refine sn_callVV (vs := []) (ci := 11) (cX11_nobody_ok n a μ51) dX11_soonestOf_55 cw_X11_200 rfl rfl rfl (by decide) (by decide) (Nat.le_of_ble_eq_true rfl) (fun p55 => ?_)
      refine sn_aload_n dX11_soonestOf_58 rfl ?_
      refine sn_aload_n dX11_soonestOf_59 rfl ?_
      refine sn_iload_n dX11_soonestOf_60 rfl ?_
      refine sn_iload_n dX11_soonestOf_61 rfl ?_
      refine sn_callVJ (vs := [aI b1, aI x22]) (ci := 11) (cX11_state_ok n a b1 x22 p55.2) dX11_soonestOf_62 cw_X11_300 rfl rfl rfl (by decide) (by decide) (Nat.le_of_ble_eq_true rfl) (fun p62 => ?_)
      refine sn_callVV (vs := [aJ p62.1]) (ci := 11) (cX11_meets_ok n a p62.1 p62.2) dX11_soonestOf_65 cw_X11_304 rfl rfl rfl (by decide) (by decide) (Nat.le_of_ble_eq_true rfl) (fun p65 => ?_)
      refine sn_iconst dX11_soonestOf_68 ?_
      refine sn_istore (L' := [some (aA a), some (aI b1), some (aI b2), some (aI x22), some (aI 0), none, none, none, none]) dX11_soonestOf_69 (by decide) rfl ?_
      refine sn_iconst dX11_soonestOf_71 ?_
      refine sn_istore (L' := [some (aA a), some (aI b1), some (aI b2), some (aI x22), some (aI 0), some (aI (-1)), none, none, none]) dX11_soonestOf_72 (by decide) rfl ?_
      refine sn_iconst dX11_soonestOf_74 ?_
      refine sn_istore (L' := [some (aA a), some (aI b1), some (aI b2), some (aI x22), some (aI 0), some (aI (-1)), some (aI 1), none, none]) dX11_soonestOf_75 (by decide) rfl ?_
      refine sn_lp (La := fun v77 : Int × Int × Int => [some (aA a), some (aI b1), some (aI b2), some (aI x22), some (aI v77.1), some (aI v77.2.1), some (aI v77.2.2), none, none]) ?_ n (0, (-1), 1) p65.2
      intro nx77 hnx77 v77 μ77
      refine sn_iload dX11_soonestOf_77 rfl ?_
      refine sn_iconst dX11_soonestOf_79 ?_
      refine sn_jn (pcj := 173) (La := fun v173 : Int => [some (aA a), none, none, none, none, some (aI v173), none, none, none]) (Sa := fun v173 : Int => []) ?_ ?_
      · intro v173 μ173
        refine sn_aload_n dX11_soonestOf_173 rfl ?_
        refine sn_callVV (vs := []) (ci := 11) (cX11_isAgain_ok n a μ173) dX11_soonestOf_174 cw_X11_236 rfl rfl rfl (by decide) (by decide) (Nat.le_of_ble_eq_true rfl) (fun p174 => ?_)
        refine sn_iload dX11_soonestOf_177 rfl ?_
        exact sn_iret dX11_soonestOf_179
      intro j173 hj173
      refine sn_icmp_ne (tgt := 173) dX11_soonestOf_80 (by decide) ?_ ?_
      · exact sn_mask (L' := [some (aA a), none, none, none, none, some (aI v77.2.1), none, none, none]) [true, false, false, false, false, true, false, false, false] rfl (hj173 v77.2.1 μ77)
      · refine sn_iload dX11_soonestOf_83 rfl ?_
        refine sn_aload_n dX11_soonestOf_85 rfl ?_
        refine sn_getI (ci := 11) (j := 26) dX11_soonestOf_86 fl_X11_293 rfl (fun x86 => ?_)
        refine sn_icmp_ge (tgt := 173) dX11_soonestOf_89 (by decide) ?_ ?_
        · exact sn_mask (L' := [some (aA a), none, none, none, none, some (aI v77.2.1), none, none, none]) [true, false, false, false, false, true, false, false, false] rfl (hj173 v77.2.1 μ77)
        · refine sn_aload_n dX11_soonestOf_92 rfl ?_
          refine sn_getI (ci := 11) (j := 26) dX11_soonestOf_93 fl_X11_293 rfl (fun x93 => ?_)
          refine sn_istore (L' := [some (aA a), some (aI b1), some (aI b2), some (aI x22), some (aI v77.1), some (aI v77.2.1), some (aI v77.2.2), some (aI x93), none]) dX11_soonestOf_96 (by decide) rfl ?_
          refine sn_iload dX11_soonestOf_98 rfl ?_
          refine sn_istore (L' := [some (aA a), some (aI b1), some (aI b2), some (aI x22), some (aI v77.1), some (aI v77.2.1), some (aI v77.2.2), some (aI x93), some (aI v77.1)]) dX11_soonestOf_100 (by decide) rfl ?_
          refine sn_mask (L' := [some (aA a), some (aI b1), some (aI b2), some (aI x22), none, some (aI v77.2.1), some (aI v77.2.2), some (aI x93), some (aI v77.1)]) [true, true, true, true, false, true, true, true, true] rfl ?_
          refine sn_lp (La := fun v102 : Int × Int => [some (aA a), some (aI b1), some (aI b2), some (aI x22), none, some (aI v102.1), some (aI v77.2.2), some (aI x93), some (aI v102.2)]) ?_ n (v77.2.1, v77.1) μ77
          intro nx102 hnx102 v102 μ102
          refine sn_iload dX11_soonestOf_102 rfl ?_
          refine sn_iload dX11_soonestOf_104 rfl ?_
          refine sn_jn (pcj := 143) (La := fun v143 : Int => [some (aA a), some (aI b1), some (aI b2), some (aI x22), none, some (aI v143), some (aI v77.2.2), some (aI x93), none]) (Sa := fun v143 : Int => []) ?_ ?_
          · intro v143 μ143
            refine sn_iload dX11_soonestOf_143 rfl ?_
            refine sn_iconst dX11_soonestOf_145 ?_
            refine sn_icmp_ne (tgt := 163) dX11_soonestOf_146 (by decide) ?_ ?_
            · refine sn_iload dX11_soonestOf_163 rfl ?_
              refine sn_istore (L' := [some (aA a), some (aI b1), some (aI b2), some (aI x22), some (aI x93), some (aI v143), some (aI v77.2.2), some (aI x93), none]) dX11_soonestOf_165 (by decide) rfl ?_
              refine sn_iinc (L' := [some (aA a), some (aI b1), some (aI b2), some (aI x22), some (aI x93), some (aI v143), some (aI (v77.2.2 + 1)), some (aI x93), none]) dX11_soonestOf_167 rfl (by decide) rfl ?_
              refine sn_goto (tgt := 77) dX11_soonestOf_170 (by decide) ?_
              exact sn_mask (L' := [some (aA a), some (aI b1), some (aI b2), some (aI x22), some (aI x93), some (aI v143), some (aI (v77.2.2 + 1)), none, none]) [true, true, true, true, true, true, true, false, false] rfl (hnx77 (x93, v143, (v77.2.2 + 1)) μ143)
            · refine sn_aload_n dX11_soonestOf_149 rfl ?_
              refine sn_getI (ci := 11) (j := 26) dX11_soonestOf_150 fl_X11_293 rfl (fun x150 => ?_)
              refine sn_sipush dX11_soonestOf_153 (by decide) ?_
              refine sn_icmp_le (tgt := 163) dX11_soonestOf_156 (by decide) ?_ ?_
              · refine sn_iload dX11_soonestOf_163 rfl ?_
                refine sn_istore (L' := [some (aA a), some (aI b1), some (aI b2), some (aI x22), some (aI x93), some (aI v143), some (aI v77.2.2), some (aI x93), none]) dX11_soonestOf_165 (by decide) rfl ?_
                refine sn_iinc (L' := [some (aA a), some (aI b1), some (aI b2), some (aI x22), some (aI x93), some (aI v143), some (aI (v77.2.2 + 1)), some (aI x93), none]) dX11_soonestOf_167 rfl (by decide) rfl ?_
                refine sn_goto (tgt := 77) dX11_soonestOf_170 (by decide) ?_
                exact sn_mask (L' := [some (aA a), some (aI b1), some (aI b2), some (aI x22), some (aI x93), some (aI v143), some (aI (v77.2.2 + 1)), none, none]) [true, true, true, true, true, true, true, false, false] rfl (hnx77 (x93, v143, (v77.2.2 + 1)) μ143)
              · refine sn_bipush dX11_soonestOf_159 (by decide) ?_
                refine sn_istore (L' := [some (aA a), some (aI b1), some (aI b2), some (aI x22), none, some (aI (-4)), some (aI v77.2.2), some (aI x93), none]) dX11_soonestOf_161 (by decide) rfl ?_
                refine sn_iload dX11_soonestOf_163 rfl ?_
                refine sn_istore (L' := [some (aA a), some (aI b1), some (aI b2), some (aI x22), some (aI x93), some (aI (-4)), some (aI v77.2.2), some (aI x93), none]) dX11_soonestOf_165 (by decide) rfl ?_
                refine sn_iinc (L' := [some (aA a), some (aI b1), some (aI b2), some (aI x22), some (aI x93), some (aI (-4)), some (aI (v77.2.2 + 1)), some (aI x93), none]) dX11_soonestOf_167 rfl (by decide) rfl ?_
                refine sn_goto (tgt := 77) dX11_soonestOf_170 (by decide) ?_
                exact sn_mask (L' := [some (aA a), some (aI b1), some (aI b2), some (aI x22), some (aI x93), some (aI (-4)), some (aI (v77.2.2 + 1)), none, none]) [true, true, true, true, true, true, true, false, false] rfl (hnx77 (x93, (-4), (v77.2.2 + 1)) μ143)
          intro j143 hj143
          refine sn_icmp_ge (tgt := 143) dX11_soonestOf_106 (by decide) ?_ ?_
          · exact sn_mask (L' := [some (aA a), some (aI b1), some (aI b2), some (aI x22), none, some (aI v102.1), some (aI v77.2.2), some (aI x93), none]) [true, true, true, true, false, true, true, true, false] rfl (hj143 v102.1 μ102)
          · refine sn_iload dX11_soonestOf_109 rfl ?_
            refine sn_iconst dX11_soonestOf_111 ?_
            refine sn_icmp_ne (tgt := 143) dX11_soonestOf_112 (by decide) ?_ ?_
            · exact sn_mask (L' := [some (aA a), some (aI b1), some (aI b2), some (aI x22), none, some (aI v102.1), some (aI v77.2.2), some (aI x93), none]) [true, true, true, true, false, true, true, true, false] rfl (hj143 v102.1 μ102)
            · refine sn_aload_n dX11_soonestOf_115 rfl ?_
              refine sn_iconst dX11_soonestOf_116 ?_
              refine sn_aload_n dX11_soonestOf_117 rfl ?_
              refine sn_getA (ci := 11) (j := 23) dX11_soonestOf_118 fl_X11_39 (by decide) (fun x118 => ?_)
              refine sn_iload dX11_soonestOf_121 rfl ?_
              refine sn_lald dX11_soonestOf_123 (fun x123 => ?_)
              refine sn_iload_n dX11_soonestOf_124 rfl ?_
              refine sn_iload_n dX11_soonestOf_125 rfl ?_
              refine sn_iload_n dX11_soonestOf_126 rfl ?_
              refine sn_callVI (vs := [aI 0, aJ x123, aI b1, aI x22, aI b2]) (ci := 11) (cX11_pullsAll_ok n a 0 x123 b1 x22 b2 μ102) dX11_soonestOf_127 cw_X11_308 rfl rfl rfl (by decide) (by decide) (Nat.le_of_ble_eq_true rfl) (fun p127 => ?_)
              refine sn_if_eq (tgt := 137) dX11_soonestOf_130 (by decide) ?_ ?_
              · refine sn_iinc (L' := [some (aA a), some (aI b1), some (aI b2), some (aI x22), none, some (aI v102.1), some (aI v77.2.2), some (aI x93), some (aI (v102.2 + 1))]) dX11_soonestOf_137 rfl (by decide) rfl ?_
                refine sn_goto (tgt := 102) dX11_soonestOf_140 (by decide) ?_
                exact hnx102 (v102.1, (v102.2 + 1)) p127.2
              · refine sn_iload dX11_soonestOf_133 rfl ?_
                refine sn_istore (L' := [some (aA a), some (aI b1), some (aI b2), some (aI x22), none, some (aI v77.2.2), some (aI v77.2.2), some (aI x93), some (aI v102.2)]) dX11_soonestOf_135 (by decide) rfl ?_
                refine sn_iinc (L' := [some (aA a), some (aI b1), some (aI b2), some (aI x22), none, some (aI v77.2.2), some (aI v77.2.2), some (aI x93), some (aI (v102.2 + 1))]) dX11_soonestOf_137 rfl (by decide) rfl ?_
                refine sn_goto (tgt := 102) dX11_soonestOf_140 (by decide) ?_
                exact hnx102 (v77.2.2, (v102.2 + 1)) p127.2
    · refine sn_aload_n dX11_soonestOf_35 rfl ?_
      refine sn_getA (ci := 11) (j := 24) dX11_soonestOf_36 fl_X11_43 (by decide) (fun x36 => ?_)
      refine sn_iload dX11_soonestOf_39 rfl ?_
      refine sn_iconst dX11_soonestOf_41 ?_
      refine sn_iast dX11_soonestOf_42 (fun μ42 => ?_)
      refine sn_iinc (L' := [some (aA a), some (aI b1), some (aI b2), some (aI x22), some (aI (v27 + 1)), none, none, none, none]) dX11_soonestOf_43 rfl (by decide) rfl ?_
      refine sn_goto (tgt := 27) dX11_soonestOf_46 (by decide) ?_
      exact hnx27 (v27 + 1) μ42
  · refine sn_bipush dX11_soonestOf_7 (by decide) ?_
    exact sn_iret dX11_soonestOf_9
theorem dX11_loss_0 : decode cX11_loss 0 = .ok (.aload_n 0, 1) := by decide +kernel
theorem dX11_loss_1 : decode cX11_loss 1 = .ok (.iconst 0, 1) := by decide +kernel
theorem dX11_loss_2 : decode cX11_loss 2 = .ok (.putfield 1, 3) := by decide +kernel
theorem dX11_loss_5 : decode cX11_loss 5 = .ok (.aload_n 0, 1) := by decide +kernel
theorem dX11_loss_6 : decode cX11_loss 6 = .ok (.iload_n 1, 1) := by decide +kernel
theorem dX11_loss_7 : decode cX11_loss 7 = .ok (.i2l, 1) := by decide +kernel
theorem dX11_loss_8 : decode cX11_loss 8 = .ok (.invokevirtual 170, 3) := by decide +kernel
theorem dX11_loss_11 : decode cX11_loss 11 = .ok (.ifCond .eq 12, 3) := by decide +kernel
theorem dX11_loss_14 : decode cX11_loss 14 = .ok (.aload_n 0, 1) := by decide +kernel
theorem dX11_loss_15 : decode cX11_loss 15 = .ok (.iload_n 2, 1) := by decide +kernel
theorem dX11_loss_16 : decode cX11_loss 16 = .ok (.i2l, 1) := by decide +kernel
theorem dX11_loss_17 : decode cX11_loss 17 = .ok (.invokevirtual 179, 3) := by decide +kernel
theorem dX11_loss_20 : decode cX11_loss 20 = .ok (.ifCond .ne 6, 3) := by decide +kernel
theorem dX11_loss_23 : decode cX11_loss 23 = .ok (.bipush (-2), 2) := by decide +kernel
theorem dX11_loss_25 : decode cX11_loss 25 = .ok (.ireturn, 1) := by decide +kernel
theorem dX11_loss_26 : decode cX11_loss 26 = .ok (.aload_n 0, 1) := by decide +kernel
theorem dX11_loss_27 : decode cX11_loss 27 = .ok (.iload_n 2, 1) := by decide +kernel
theorem dX11_loss_28 : decode cX11_loss 28 = .ok (.invokevirtual 191, 3) := by decide +kernel
theorem dX11_loss_31 : decode cX11_loss 31 = .ok (.ifCond .ne 6, 3) := by decide +kernel
theorem dX11_loss_34 : decode cX11_loss 34 = .ok (.bipush (-5), 2) := by decide +kernel
theorem dX11_loss_36 : decode cX11_loss 36 = .ok (.ireturn, 1) := by decide +kernel
theorem dX11_loss_37 : decode cX11_loss 37 = .ok (.aload_n 0, 1) := by decide +kernel
theorem dX11_loss_38 : decode cX11_loss 38 = .ok (.iload_n 1, 1) := by decide +kernel
theorem dX11_loss_39 : decode cX11_loss 39 = .ok (.iconst 1, 1) := by decide +kernel
theorem dX11_loss_40 : decode cX11_loss 40 = .ok (.invokevirtual 316, 3) := by decide +kernel
theorem dX11_loss_43 : decode cX11_loss 43 = .ok (.istore_n 3, 1) := by decide +kernel
theorem dX11_loss_44 : decode cX11_loss 44 = .ok (.iload_n 3, 1) := by decide +kernel
theorem dX11_loss_45 : decode cX11_loss 45 = .ok (.bipush (-4), 2) := by decide +kernel
theorem dX11_loss_47 : decode cX11_loss 47 = .ok (.if_icmp .ne 6, 3) := by decide +kernel
theorem dX11_loss_50 : decode cX11_loss 50 = .ok (.bipush (-4), 2) := by decide +kernel
theorem dX11_loss_52 : decode cX11_loss 52 = .ok (.ireturn, 1) := by decide +kernel
theorem dX11_loss_53 : decode cX11_loss 53 = .ok (.iload_n 3, 1) := by decide +kernel
theorem dX11_loss_54 : decode cX11_loss 54 = .ok (.iconst (-1), 1) := by decide +kernel
theorem dX11_loss_55 : decode cX11_loss 55 = .ok (.if_icmp .ne 6, 3) := by decide +kernel
theorem dX11_loss_58 : decode cX11_loss 58 = .ok (.bipush (-5), 2) := by decide +kernel
theorem dX11_loss_60 : decode cX11_loss 60 = .ok (.ireturn, 1) := by decide +kernel
theorem dX11_loss_61 : decode cX11_loss 61 = .ok (.aload_n 0, 1) := by decide +kernel
theorem dX11_loss_62 : decode cX11_loss 62 = .ok (.getfield 13, 3) := by decide +kernel
theorem dX11_loss_65 : decode cX11_loss 65 = .ok (.sipush 204, 3) := by decide +kernel
theorem dX11_loss_68 : decode cX11_loss 68 = .ok (.iload_n 2, 1) := by decide +kernel
theorem dX11_loss_69 : decode cX11_loss 69 = .ok (.iadd, 1) := by decide +kernel
theorem dX11_loss_70 : decode cX11_loss 70 = .ok (.iconst 1, 1) := by decide +kernel
theorem dX11_loss_71 : decode cX11_loss 71 = .ok (.iastore, 1) := by decide +kernel
theorem dX11_loss_72 : decode cX11_loss 72 = .ok (.aload_n 0, 1) := by decide +kernel
theorem dX11_loss_73 : decode cX11_loss 73 = .ok (.iload_n 1, 1) := by decide +kernel
theorem dX11_loss_74 : decode cX11_loss 74 = .ok (.iconst 1, 1) := by decide +kernel
theorem dX11_loss_75 : decode cX11_loss 75 = .ok (.invokevirtual 316, 3) := by decide +kernel
theorem dX11_loss_78 : decode cX11_loss 78 = .ok (.istore 4, 2) := by decide +kernel
theorem dX11_loss_80 : decode cX11_loss 80 = .ok (.aload_n 0, 1) := by decide +kernel
theorem dX11_loss_81 : decode cX11_loss 81 = .ok (.getfield 13, 3) := by decide +kernel
theorem dX11_loss_84 : decode cX11_loss 84 = .ok (.sipush 204, 3) := by decide +kernel
theorem dX11_loss_87 : decode cX11_loss 87 = .ok (.iload_n 2, 1) := by decide +kernel
theorem dX11_loss_88 : decode cX11_loss 88 = .ok (.iadd, 1) := by decide +kernel
theorem dX11_loss_89 : decode cX11_loss 89 = .ok (.iconst 0, 1) := by decide +kernel
theorem dX11_loss_90 : decode cX11_loss 90 = .ok (.iastore, 1) := by decide +kernel
theorem dX11_loss_91 : decode cX11_loss 91 = .ok (.iload 4, 2) := by decide +kernel
theorem dX11_loss_93 : decode cX11_loss 93 = .ok (.ifCond .ge 8, 3) := by decide +kernel
theorem dX11_loss_96 : decode cX11_loss 96 = .ok (.iload 4, 2) := by decide +kernel
theorem dX11_loss_98 : decode cX11_loss 98 = .ok (.goto 7, 3) := by decide +kernel
theorem dX11_loss_101 : decode cX11_loss 101 = .ok (.iload 4, 2) := by decide +kernel
theorem dX11_loss_103 : decode cX11_loss 103 = .ok (.iload_n 3, 1) := by decide +kernel
theorem dX11_loss_104 : decode cX11_loss 104 = .ok (.isub, 1) := by decide +kernel
theorem dX11_loss_105 : decode cX11_loss 105 = .ok (.ireturn, 1) := by decide +kernel
def mX11_loss (n : Nat) (a : Nat) (b1 : Int) (b2 : Int) (μ : Mem) : Option (Int × Mem) :=
  (pI μ 12 a 0 0).bind fun μ2 =>
  (inv μ2 12 a (mX11_isHouse n a (oI2l b1) μ2)).bind fun p8 =>
  if eq32 p8.1 0 then
    some ((-2), p8.2)
  else
  (inv p8.2 12 a (mX11_isRope n a (oI2l b2) p8.2)).bind fun p17 =>
  if eq32 p17.1 0 then
    some ((-2), p17.2)
  else
  (inv p17.2 12 a (mX11_hangs n a b2 p17.2)).bind fun p28 =>
  if eq32 p28.1 0 then
    some ((-5), p28.2)
  else
  (inv p28.2 12 a (mX11_soonestOf n a b1 1 p28.2)).bind fun p40 =>
  if eq32 p40.1 (-4) then
    some ((-4), p40.2)
  else
  if eq32 p40.1 (-1) then
    some ((-5), p40.2)
  else
  (gA p40.2 12 a 1).bind fun x62 =>
  (stI p40.2 0 x62 (204 + b2) 1).bind fun μ71 =>
  (inv μ71 12 a (mX11_soonestOf n a b1 1 μ71)).bind fun p75 =>
  (gA p75.2 12 a 1).bind fun x81 =>
  (stI p75.2 0 x81 (204 + b2) 0).bind fun μ90 =>
  if lt32 p75.1 0 then
    some (p75.1, μ90)
  else
  some ((p75.1 - p40.1), μ90)
set_option maxRecDepth 100000 in
set_option maxHeartbeats 4000000 in
theorem cX11_loss_ok (n : Nat) (a : Nat) (b1 : Int) (b2 : Int) (μ : Mem) : Mc yX11_loss cX11_loss 5 (some .int) 38 919 eI [aA a, aI b1, aI b2] μ (mX11_loss n a b1 b2 μ) := by
  refine mc_of (L0 := [some (aA a), some (aI b1), some (aI b2), none, none]) (k := 2) (by decide) rfl rfl (fun X Γ => ?_)
  unfold mX11_loss
  refine sn_aload_n dX11_loss_0 rfl ?_
  refine sn_iconst dX11_loss_1 ?_
  refine sn_putI (ci := 11) (j := 0) dX11_loss_2 fl_X11_1 rfl (fun q h => by cases h; rfl) (fun μ2 => ?_)
  refine sn_aload_n dX11_loss_5 rfl ?_
  refine sn_iload_n dX11_loss_6 rfl ?_
  refine sn_i2l dX11_loss_7 ?_
  refine sn_callVI (vs := [aJ (oI2l b1)]) (ci := 11) (cX11_isHouse_ok n a (oI2l b1) μ2) dX11_loss_8 cw_X11_170 rfl rfl rfl (by decide) (by decide) (Nat.le_of_ble_eq_true rfl) (fun p8 => ?_)
  refine sn_if_eq (tgt := 23) dX11_loss_11 (by decide) ?_ ?_
  · refine sn_bipush dX11_loss_23 (by decide) ?_
    exact sn_iret dX11_loss_25
  · refine sn_aload_n dX11_loss_14 rfl ?_
    refine sn_iload_n dX11_loss_15 rfl ?_
    refine sn_i2l dX11_loss_16 ?_
    refine sn_callVI (vs := [aJ (oI2l b2)]) (ci := 11) (cX11_isRope_ok n a (oI2l b2) p8.2) dX11_loss_17 cw_X11_179 rfl rfl rfl (by decide) (by decide) (Nat.le_of_ble_eq_true rfl) (fun p17 => ?_)
    refine sn_if_ne (tgt := 26) dX11_loss_20 (by decide) ?_ ?_
    · refine sn_aload_n dX11_loss_26 rfl ?_
      refine sn_iload_n dX11_loss_27 rfl ?_
      refine sn_callVI (vs := [aI b2]) (ci := 11) (cX11_hangs_ok n a b2 p17.2) dX11_loss_28 cw_X11_191 rfl rfl rfl (by decide) (by decide) (Nat.le_of_ble_eq_true rfl) (fun p28 => ?_)
      refine sn_if_ne (tgt := 37) dX11_loss_31 (by decide) ?_ ?_
      · refine sn_aload_n dX11_loss_37 rfl ?_
        refine sn_iload_n dX11_loss_38 rfl ?_
        refine sn_iconst dX11_loss_39 ?_
        refine sn_callVI (vs := [aI b1, aI 1]) (ci := 11) (cX11_soonestOf_ok n a b1 1 p28.2) dX11_loss_40 cw_X11_316 rfl rfl rfl (by decide) (by decide) (Nat.le_of_ble_eq_true rfl) (fun p40 => ?_)
        refine sn_istore_n (L' := [some (aA a), some (aI b1), some (aI b2), some (aI p40.1), none]) dX11_loss_43 (by decide) rfl ?_
        refine sn_iload_n dX11_loss_44 rfl ?_
        refine sn_bipush dX11_loss_45 (by decide) ?_
        refine sn_icmp_ne (tgt := 53) dX11_loss_47 (by decide) ?_ ?_
        · refine sn_iload_n dX11_loss_53 rfl ?_
          refine sn_iconst dX11_loss_54 ?_
          refine sn_icmp_ne (tgt := 61) dX11_loss_55 (by decide) ?_ ?_
          · refine sn_aload_n dX11_loss_61 rfl ?_
            refine sn_getA (ci := 11) (j := 1) dX11_loss_62 fl_X11_13 (by decide) (fun x62 => ?_)
            refine sn_sipush dX11_loss_65 (by decide) ?_
            refine sn_iload_n dX11_loss_68 rfl ?_
            refine sn_iadd dX11_loss_69 ?_
            refine sn_iconst dX11_loss_70 ?_
            refine sn_iast dX11_loss_71 (fun μ71 => ?_)
            refine sn_aload_n dX11_loss_72 rfl ?_
            refine sn_iload_n dX11_loss_73 rfl ?_
            refine sn_iconst dX11_loss_74 ?_
            refine sn_callVI (vs := [aI b1, aI 1]) (ci := 11) (cX11_soonestOf_ok n a b1 1 μ71) dX11_loss_75 cw_X11_316 rfl rfl rfl (by decide) (by decide) (Nat.le_of_ble_eq_true rfl) (fun p75 => ?_)
            refine sn_istore (L' := [some (aA a), some (aI b1), some (aI b2), some (aI p40.1), some (aI p75.1)]) dX11_loss_78 (by decide) rfl ?_
            refine sn_aload_n dX11_loss_80 rfl ?_
            refine sn_getA (ci := 11) (j := 1) dX11_loss_81 fl_X11_13 (by decide) (fun x81 => ?_)
            refine sn_sipush dX11_loss_84 (by decide) ?_
            refine sn_iload_n dX11_loss_87 rfl ?_
            refine sn_iadd dX11_loss_88 ?_
            refine sn_iconst dX11_loss_89 ?_
            refine sn_iast dX11_loss_90 (fun μ90 => ?_)
            refine sn_iload dX11_loss_91 rfl ?_
            refine sn_if_ge (tgt := 101) dX11_loss_93 (by decide) ?_ ?_
            · refine sn_iload dX11_loss_101 rfl ?_
              refine sn_iload_n dX11_loss_103 rfl ?_
              refine sn_isub dX11_loss_104 ?_
              exact sn_iret dX11_loss_105
            · refine sn_iload dX11_loss_96 rfl ?_
              refine sn_goto (tgt := 105) dX11_loss_98 (by decide) ?_
              exact sn_iret dX11_loss_105
          · refine sn_bipush dX11_loss_58 (by decide) ?_
            exact sn_iret dX11_loss_60
        · refine sn_bipush dX11_loss_50 (by decide) ?_
          exact sn_iret dX11_loss_52
      · refine sn_bipush dX11_loss_34 (by decide) ?_
        exact sn_iret dX11_loss_36
    · refine sn_bipush dX11_loss_23 (by decide) ?_
      exact sn_iret dX11_loss_25
theorem dX11_mate_0 : decode cX11_mate 0 = .ok (.aload_n 0, 1) := by decide +kernel
theorem dX11_mate_1 : decode cX11_mate 1 = .ok (.iconst 0, 1) := by decide +kernel
theorem dX11_mate_2 : decode cX11_mate 2 = .ok (.putfield 1, 3) := by decide +kernel
theorem dX11_mate_5 : decode cX11_mate 5 = .ok (.aload_n 0, 1) := by decide +kernel
theorem dX11_mate_6 : decode cX11_mate 6 = .ok (.iload_n 1, 1) := by decide +kernel
theorem dX11_mate_7 : decode cX11_mate 7 = .ok (.i2l, 1) := by decide +kernel
theorem dX11_mate_8 : decode cX11_mate 8 = .ok (.invokevirtual 170, 3) := by decide +kernel
theorem dX11_mate_11 : decode cX11_mate 11 = .ok (.ifCond .ne 6, 3) := by decide +kernel
theorem dX11_mate_14 : decode cX11_mate 14 = .ok (.bipush (-2), 2) := by decide +kernel
theorem dX11_mate_16 : decode cX11_mate 16 = .ok (.ireturn, 1) := by decide +kernel
theorem dX11_mate_17 : decode cX11_mate 17 = .ok (.iconst (-1), 1) := by decide +kernel
theorem dX11_mate_18 : decode cX11_mate 18 = .ok (.istore_n 2, 1) := by decide +kernel
theorem dX11_mate_19 : decode cX11_mate 19 = .ok (.iconst 0, 1) := by decide +kernel
theorem dX11_mate_20 : decode cX11_mate 20 = .ok (.istore_n 3, 1) := by decide +kernel
theorem dX11_mate_21 : decode cX11_mate 21 = .ok (.iconst 0, 1) := by decide +kernel
theorem dX11_mate_22 : decode cX11_mate 22 = .ok (.istore 4, 2) := by decide +kernel
theorem dX11_mate_24 : decode cX11_mate 24 = .ok (.iload 4, 2) := by decide +kernel
theorem dX11_mate_26 : decode cX11_mate 26 = .ok (.aload_n 0, 1) := by decide +kernel
theorem dX11_mate_27 : decode cX11_mate 27 = .ok (.getfield 13, 3) := by decide +kernel
theorem dX11_mate_30 : decode cX11_mate 30 = .ok (.iconst 0, 1) := by decide +kernel
theorem dX11_mate_31 : decode cX11_mate 31 = .ok (.iaload, 1) := by decide +kernel
theorem dX11_mate_32 : decode cX11_mate 32 = .ok (.if_icmp .ge 70, 3) := by decide +kernel
theorem dX11_mate_35 : decode cX11_mate 35 = .ok (.aload_n 0, 1) := by decide +kernel
theorem dX11_mate_36 : decode cX11_mate 36 = .ok (.getfield 13, 3) := by decide +kernel
theorem dX11_mate_39 : decode cX11_mate 39 = .ok (.bipush 36, 2) := by decide +kernel
theorem dX11_mate_41 : decode cX11_mate 41 = .ok (.iload_n 1, 1) := by decide +kernel
theorem dX11_mate_42 : decode cX11_mate 42 = .ok (.iadd, 1) := by decide +kernel
theorem dX11_mate_43 : decode cX11_mate 43 = .ok (.iaload, 1) := by decide +kernel
theorem dX11_mate_44 : decode cX11_mate 44 = .ok (.aload_n 0, 1) := by decide +kernel
theorem dX11_mate_45 : decode cX11_mate 45 = .ok (.getfield 13, 3) := by decide +kernel
theorem dX11_mate_48 : decode cX11_mate 48 = .ok (.bipush 36, 2) := by decide +kernel
theorem dX11_mate_50 : decode cX11_mate 50 = .ok (.iload 4, 2) := by decide +kernel
theorem dX11_mate_52 : decode cX11_mate 52 = .ok (.iadd, 1) := by decide +kernel
theorem dX11_mate_53 : decode cX11_mate 53 = .ok (.iaload, 1) := by decide +kernel
theorem dX11_mate_54 : decode cX11_mate 54 = .ok (.iand, 1) := by decide +kernel
theorem dX11_mate_55 : decode cX11_mate 55 = .ok (.invokestatic 269, 3) := by decide +kernel
theorem dX11_mate_58 : decode cX11_mate 58 = .ok (.istore 5, 2) := by decide +kernel
theorem dX11_mate_60 : decode cX11_mate 60 = .ok (.iload 4, 2) := by decide +kernel
theorem dX11_mate_62 : decode cX11_mate 62 = .ok (.iload_n 1, 1) := by decide +kernel
theorem dX11_mate_63 : decode cX11_mate 63 = .ok (.if_icmp .eq 33, 3) := by decide +kernel
theorem dX11_mate_66 : decode cX11_mate 66 = .ok (.aload_n 0, 1) := by decide +kernel
theorem dX11_mate_67 : decode cX11_mate 67 = .ok (.iload_n 1, 1) := by decide +kernel
theorem dX11_mate_68 : decode cX11_mate 68 = .ok (.iload 4, 2) := by decide +kernel
theorem dX11_mate_70 : decode cX11_mate 70 = .ok (.invokevirtual 341, 3) := by decide +kernel
theorem dX11_mate_73 : decode cX11_mate 73 = .ok (.ifCond .ne 23, 3) := by decide +kernel
theorem dX11_mate_76 : decode cX11_mate 76 = .ok (.iload_n 2, 1) := by decide +kernel
theorem dX11_mate_77 : decode cX11_mate 77 = .ok (.iconst (-1), 1) := by decide +kernel
theorem dX11_mate_78 : decode cX11_mate 78 = .ok (.if_icmp .eq 12, 3) := by decide +kernel
theorem dX11_mate_81 : decode cX11_mate 81 = .ok (.iload 5, 2) := by decide +kernel
theorem dX11_mate_83 : decode cX11_mate 83 = .ok (.iload_n 3, 1) := by decide +kernel
theorem dX11_mate_84 : decode cX11_mate 84 = .ok (.if_icmp .lt 6, 3) := by decide +kernel
theorem dX11_mate_87 : decode cX11_mate 87 = .ok (.goto 9, 3) := by decide +kernel
theorem dX11_mate_90 : decode cX11_mate 90 = .ok (.iload 4, 2) := by decide +kernel
theorem dX11_mate_92 : decode cX11_mate 92 = .ok (.istore_n 2, 1) := by decide +kernel
theorem dX11_mate_93 : decode cX11_mate 93 = .ok (.iload 5, 2) := by decide +kernel
theorem dX11_mate_95 : decode cX11_mate 95 = .ok (.istore_n 3, 1) := by decide +kernel
theorem dX11_mate_96 : decode cX11_mate 96 = .ok (.iinc 4 1, 3) := by decide +kernel
theorem dX11_mate_99 : decode cX11_mate 99 = .ok (.goto (-75), 3) := by decide +kernel
theorem dX11_mate_102 : decode cX11_mate 102 = .ok (.iload_n 2, 1) := by decide +kernel
theorem dX11_mate_103 : decode cX11_mate 103 = .ok (.ireturn, 1) := by decide +kernel
def mX11_mate (n : Nat) (a : Nat) (b1 : Int) (μ : Mem) : Option (Int × Mem) :=
  (pI μ 12 a 0 0).bind fun μ2 =>
  (inv μ2 12 a (mX11_isHouse n a (oI2l b1) μ2)).bind fun p8 =>
  if eq32 p8.1 0 then
    some ((-2), p8.2)
  else
  lp (fun nx24 (v24 : Int × Int × Int) (μ24 : Mem) =>
  (gA μ24 12 a 1).bind fun x27 =>
  (ldI μ24 0 x27 0).bind fun x31 =>
  if lt32 v24.2.2 x31 then
    (gA μ24 12 a 1).bind fun x36 =>
    (ldI μ24 0 x36 (36 + b1)).bind fun x43 =>
    (gA μ24 12 a 1).bind fun x45 =>
    (ldI μ24 0 x45 (36 + v24.2.2)).bind fun x53 =>
    (mX11_bitsOf n (oAnd x43 x53) μ24).bind fun p55 =>
    if eq32 v24.2.2 b1 then
      nx24 (v24.1, v24.2.1, (v24.2.2 + 1)) p55.2
    else
    (inv p55.2 12 a (mX11_haveRope n a b1 v24.2.2 p55.2)).bind fun p70 =>
    if eq32 p70.1 0 then
      if eq32 v24.1 (-1) then
        nx24 (v24.2.2, p55.1, (v24.2.2 + 1)) p70.2
      else
      if lt32 p55.1 v24.2.1 then
        nx24 (v24.2.2, p55.1, (v24.2.2 + 1)) p70.2
      else
      nx24 (v24.1, v24.2.1, (v24.2.2 + 1)) p70.2
    else
    nx24 (v24.1, v24.2.1, (v24.2.2 + 1)) p70.2
  else
  some (v24.1, μ24)) n ((-1), 0, 0) p8.2
set_option maxRecDepth 100000 in
set_option maxHeartbeats 4000000 in
theorem cX11_mate_ok (n : Nat) (a : Nat) (b1 : Int) (μ : Mem) : Mc yX11_mate cX11_mate 6 (some .int) 2 47 eI [aA a, aI b1] μ (mX11_mate n a b1 μ) := by
  refine mc_of (L0 := [some (aA a), some (aI b1), none, none, none, none]) (k := 4) (by decide) rfl rfl (fun X Γ => ?_)
  unfold mX11_mate
  refine sn_aload_n dX11_mate_0 rfl ?_
  refine sn_iconst dX11_mate_1 ?_
  refine sn_putI (ci := 11) (j := 0) dX11_mate_2 fl_X11_1 rfl (fun q h => by cases h; rfl) (fun μ2 => ?_)
  refine sn_aload_n dX11_mate_5 rfl ?_
  refine sn_iload_n dX11_mate_6 rfl ?_
  refine sn_i2l dX11_mate_7 ?_
  refine sn_callVI (vs := [aJ (oI2l b1)]) (ci := 11) (cX11_isHouse_ok n a (oI2l b1) μ2) dX11_mate_8 cw_X11_170 rfl rfl rfl (by decide) (by decide) (Nat.le_of_ble_eq_true rfl) (fun p8 => ?_)
  refine sn_if_ne (tgt := 17) dX11_mate_11 (by decide) ?_ ?_
  · refine sn_iconst dX11_mate_17 ?_
    refine sn_istore_n (L' := [some (aA a), some (aI b1), some (aI (-1)), none, none, none]) dX11_mate_18 (by decide) rfl ?_
    refine sn_iconst dX11_mate_19 ?_
    refine sn_istore_n (L' := [some (aA a), some (aI b1), some (aI (-1)), some (aI 0), none, none]) dX11_mate_20 (by decide) rfl ?_
    refine sn_iconst dX11_mate_21 ?_
    refine sn_istore (L' := [some (aA a), some (aI b1), some (aI (-1)), some (aI 0), some (aI 0), none]) dX11_mate_22 (by decide) rfl ?_
    refine sn_lp (La := fun v24 : Int × Int × Int => [some (aA a), some (aI b1), some (aI v24.1), some (aI v24.2.1), some (aI v24.2.2), none]) ?_ n ((-1), 0, 0) p8.2
    intro nx24 hnx24 v24 μ24
    refine sn_iload dX11_mate_24 rfl ?_
    refine sn_aload_n dX11_mate_26 rfl ?_
    refine sn_getA (ci := 11) (j := 1) dX11_mate_27 fl_X11_13 (by decide) (fun x27 => ?_)
    refine sn_iconst dX11_mate_30 ?_
    refine sn_iald dX11_mate_31 (fun x31 => ?_)
    refine sn_icmp_ge (tgt := 102) dX11_mate_32 (by decide) ?_ ?_
    · refine sn_iload_n dX11_mate_102 rfl ?_
      exact sn_iret dX11_mate_103
    · refine sn_aload_n dX11_mate_35 rfl ?_
      refine sn_getA (ci := 11) (j := 1) dX11_mate_36 fl_X11_13 (by decide) (fun x36 => ?_)
      refine sn_bipush dX11_mate_39 (by decide) ?_
      refine sn_iload_n dX11_mate_41 rfl ?_
      refine sn_iadd dX11_mate_42 ?_
      refine sn_iald dX11_mate_43 (fun x43 => ?_)
      refine sn_aload_n dX11_mate_44 rfl ?_
      refine sn_getA (ci := 11) (j := 1) dX11_mate_45 fl_X11_13 (by decide) (fun x45 => ?_)
      refine sn_bipush dX11_mate_48 (by decide) ?_
      refine sn_iload dX11_mate_50 rfl ?_
      refine sn_iadd dX11_mate_52 ?_
      refine sn_iald dX11_mate_53 (fun x53 => ?_)
      refine sn_iand dX11_mate_54 ?_
      refine sn_callSI (vs := [aI (oAnd x43 x53)]) (cX11_bitsOf_ok n (oAnd x43 x53) μ24) dX11_mate_55 cw_X11_269 rfl (by decide) (by decide) (Nat.le_of_ble_eq_true rfl) (fun p55 => ?_)
      refine sn_istore (L' := [some (aA a), some (aI b1), some (aI v24.1), some (aI v24.2.1), some (aI v24.2.2), some (aI p55.1)]) dX11_mate_58 (by decide) rfl ?_
      refine sn_iload dX11_mate_60 rfl ?_
      refine sn_iload_n dX11_mate_62 rfl ?_
      refine sn_icmp_eq (tgt := 96) dX11_mate_63 (by decide) ?_ ?_
      · refine sn_iinc (L' := [some (aA a), some (aI b1), some (aI v24.1), some (aI v24.2.1), some (aI (v24.2.2 + 1)), some (aI p55.1)]) dX11_mate_96 rfl (by decide) rfl ?_
        refine sn_goto (tgt := 24) dX11_mate_99 (by decide) ?_
        exact sn_mask (L' := [some (aA a), some (aI b1), some (aI v24.1), some (aI v24.2.1), some (aI (v24.2.2 + 1)), none]) [true, true, true, true, true, false] rfl (hnx24 (v24.1, v24.2.1, (v24.2.2 + 1)) p55.2)
      · refine sn_aload_n dX11_mate_66 rfl ?_
        refine sn_iload_n dX11_mate_67 rfl ?_
        refine sn_iload dX11_mate_68 rfl ?_
        refine sn_callVI (vs := [aI b1, aI v24.2.2]) (ci := 11) (cX11_haveRope_ok n a b1 v24.2.2 p55.2) dX11_mate_70 cw_X11_341 rfl rfl rfl (by decide) (by decide) (Nat.le_of_ble_eq_true rfl) (fun p70 => ?_)
        refine sn_if_ne (tgt := 96) dX11_mate_73 (by decide) ?_ ?_
        · refine sn_iinc (L' := [some (aA a), some (aI b1), some (aI v24.1), some (aI v24.2.1), some (aI (v24.2.2 + 1)), some (aI p55.1)]) dX11_mate_96 rfl (by decide) rfl ?_
          refine sn_goto (tgt := 24) dX11_mate_99 (by decide) ?_
          exact sn_mask (L' := [some (aA a), some (aI b1), some (aI v24.1), some (aI v24.2.1), some (aI (v24.2.2 + 1)), none]) [true, true, true, true, true, false] rfl (hnx24 (v24.1, v24.2.1, (v24.2.2 + 1)) p70.2)
        · refine sn_iload_n dX11_mate_76 rfl ?_
          refine sn_iconst dX11_mate_77 ?_
          refine sn_icmp_eq (tgt := 90) dX11_mate_78 (by decide) ?_ ?_
          · refine sn_iload dX11_mate_90 rfl ?_
            refine sn_istore_n (L' := [some (aA a), some (aI b1), some (aI v24.2.2), some (aI v24.2.1), some (aI v24.2.2), some (aI p55.1)]) dX11_mate_92 (by decide) rfl ?_
            refine sn_iload dX11_mate_93 rfl ?_
            refine sn_istore_n (L' := [some (aA a), some (aI b1), some (aI v24.2.2), some (aI p55.1), some (aI v24.2.2), some (aI p55.1)]) dX11_mate_95 (by decide) rfl ?_
            refine sn_iinc (L' := [some (aA a), some (aI b1), some (aI v24.2.2), some (aI p55.1), some (aI (v24.2.2 + 1)), some (aI p55.1)]) dX11_mate_96 rfl (by decide) rfl ?_
            refine sn_goto (tgt := 24) dX11_mate_99 (by decide) ?_
            exact sn_mask (L' := [some (aA a), some (aI b1), some (aI v24.2.2), some (aI p55.1), some (aI (v24.2.2 + 1)), none]) [true, true, true, true, true, false] rfl (hnx24 (v24.2.2, p55.1, (v24.2.2 + 1)) p70.2)
          · refine sn_iload dX11_mate_81 rfl ?_
            refine sn_iload_n dX11_mate_83 rfl ?_
            refine sn_icmp_lt (tgt := 90) dX11_mate_84 (by decide) ?_ ?_
            · refine sn_iload dX11_mate_90 rfl ?_
              refine sn_istore_n (L' := [some (aA a), some (aI b1), some (aI v24.2.2), some (aI v24.2.1), some (aI v24.2.2), some (aI p55.1)]) dX11_mate_92 (by decide) rfl ?_
              refine sn_iload dX11_mate_93 rfl ?_
              refine sn_istore_n (L' := [some (aA a), some (aI b1), some (aI v24.2.2), some (aI p55.1), some (aI v24.2.2), some (aI p55.1)]) dX11_mate_95 (by decide) rfl ?_
              refine sn_iinc (L' := [some (aA a), some (aI b1), some (aI v24.2.2), some (aI p55.1), some (aI (v24.2.2 + 1)), some (aI p55.1)]) dX11_mate_96 rfl (by decide) rfl ?_
              refine sn_goto (tgt := 24) dX11_mate_99 (by decide) ?_
              exact sn_mask (L' := [some (aA a), some (aI b1), some (aI v24.2.2), some (aI p55.1), some (aI (v24.2.2 + 1)), none]) [true, true, true, true, true, false] rfl (hnx24 (v24.2.2, p55.1, (v24.2.2 + 1)) p70.2)
            · refine sn_goto (tgt := 96) dX11_mate_87 (by decide) ?_
              refine sn_iinc (L' := [some (aA a), some (aI b1), some (aI v24.1), some (aI v24.2.1), some (aI (v24.2.2 + 1)), some (aI p55.1)]) dX11_mate_96 rfl (by decide) rfl ?_
              refine sn_goto (tgt := 24) dX11_mate_99 (by decide) ?_
              exact sn_mask (L' := [some (aA a), some (aI b1), some (aI v24.1), some (aI v24.2.1), some (aI (v24.2.2 + 1)), none]) [true, true, true, true, true, false] rfl (hnx24 (v24.1, v24.2.1, (v24.2.2 + 1)) p70.2)
  · refine sn_bipush dX11_mate_14 (by decide) ?_
    exact sn_iret dX11_mate_16
theorem dX11_partOf_0 : decode cX11_partOf 0 = .ok (.iconst 1, 1) := by decide +kernel
theorem dX11_partOf_1 : decode cX11_partOf 1 = .ok (.iload_n 1, 1) := by decide +kernel
theorem dX11_partOf_2 : decode cX11_partOf 2 = .ok (.ishl, 1) := by decide +kernel
theorem dX11_partOf_3 : decode cX11_partOf 3 = .ok (.istore_n 3, 1) := by decide +kernel
theorem dX11_partOf_4 : decode cX11_partOf 4 = .ok (.iconst 0, 1) := by decide +kernel
theorem dX11_partOf_5 : decode cX11_partOf 5 = .ok (.istore 4, 2) := by decide +kernel
theorem dX11_partOf_7 : decode cX11_partOf 7 = .ok (.iload 4, 2) := by decide +kernel
theorem dX11_partOf_9 : decode cX11_partOf 9 = .ok (.iload_n 3, 1) := by decide +kernel
theorem dX11_partOf_10 : decode cX11_partOf 10 = .ok (.if_icmp .eq 105, 3) := by decide +kernel
theorem dX11_partOf_13 : decode cX11_partOf 13 = .ok (.iload_n 3, 1) := by decide +kernel
theorem dX11_partOf_14 : decode cX11_partOf 14 = .ok (.istore 4, 2) := by decide +kernel
theorem dX11_partOf_16 : decode cX11_partOf 16 = .ok (.iconst 0, 1) := by decide +kernel
theorem dX11_partOf_17 : decode cX11_partOf 17 = .ok (.istore 5, 2) := by decide +kernel
theorem dX11_partOf_19 : decode cX11_partOf 19 = .ok (.iload 5, 2) := by decide +kernel
theorem dX11_partOf_21 : decode cX11_partOf 21 = .ok (.aload_n 0, 1) := by decide +kernel
theorem dX11_partOf_22 : decode cX11_partOf 22 = .ok (.getfield 13, 3) := by decide +kernel
theorem dX11_partOf_25 : decode cX11_partOf 25 = .ok (.iconst 1, 1) := by decide +kernel
theorem dX11_partOf_26 : decode cX11_partOf 26 = .ok (.iaload, 1) := by decide +kernel
theorem dX11_partOf_27 : decode cX11_partOf 27 = .ok (.if_icmp .ge 85, 3) := by decide +kernel
theorem dX11_partOf_30 : decode cX11_partOf 30 = .ok (.iload 5, 2) := by decide +kernel
theorem dX11_partOf_32 : decode cX11_partOf 32 = .ok (.iload_n 2, 1) := by decide +kernel
theorem dX11_partOf_33 : decode cX11_partOf 33 = .ok (.if_icmp .eq 73, 3) := by decide +kernel
theorem dX11_partOf_36 : decode cX11_partOf 36 = .ok (.aload_n 0, 1) := by decide +kernel
theorem dX11_partOf_37 : decode cX11_partOf 37 = .ok (.iload 5, 2) := by decide +kernel
theorem dX11_partOf_39 : decode cX11_partOf 39 = .ok (.invokevirtual 191, 3) := by decide +kernel
theorem dX11_partOf_42 : decode cX11_partOf 42 = .ok (.ifCond .eq 64, 3) := by decide +kernel
theorem dX11_partOf_45 : decode cX11_partOf 45 = .ok (.aload_n 0, 1) := by decide +kernel
theorem dX11_partOf_46 : decode cX11_partOf 46 = .ok (.iload_n 3, 1) := by decide +kernel
theorem dX11_partOf_47 : decode cX11_partOf 47 = .ok (.aload_n 0, 1) := by decide +kernel
theorem dX11_partOf_48 : decode cX11_partOf 48 = .ok (.getfield 13, 3) := by decide +kernel
theorem dX11_partOf_51 : decode cX11_partOf 51 = .ok (.bipush 76, 2) := by decide +kernel
theorem dX11_partOf_53 : decode cX11_partOf 53 = .ok (.iload 5, 2) := by decide +kernel
theorem dX11_partOf_55 : decode cX11_partOf 55 = .ok (.iadd, 1) := by decide +kernel
theorem dX11_partOf_56 : decode cX11_partOf 56 = .ok (.iaload, 1) := by decide +kernel
theorem dX11_partOf_57 : decode cX11_partOf 57 = .ok (.invokevirtual 272, 3) := by decide +kernel
theorem dX11_partOf_60 : decode cX11_partOf 60 = .ok (.aload_n 0, 1) := by decide +kernel
theorem dX11_partOf_61 : decode cX11_partOf 61 = .ok (.iload_n 3, 1) := by decide +kernel
theorem dX11_partOf_62 : decode cX11_partOf 62 = .ok (.aload_n 0, 1) := by decide +kernel
theorem dX11_partOf_63 : decode cX11_partOf 63 = .ok (.getfield 13, 3) := by decide +kernel
theorem dX11_partOf_66 : decode cX11_partOf 66 = .ok (.bipush 92, 2) := by decide +kernel
theorem dX11_partOf_68 : decode cX11_partOf 68 = .ok (.iload 5, 2) := by decide +kernel
theorem dX11_partOf_70 : decode cX11_partOf 70 = .ok (.iadd, 1) := by decide +kernel
theorem dX11_partOf_71 : decode cX11_partOf 71 = .ok (.iaload, 1) := by decide +kernel
theorem dX11_partOf_72 : decode cX11_partOf 72 = .ok (.invokevirtual 272, 3) := by decide +kernel
theorem dX11_partOf_75 : decode cX11_partOf 75 = .ok (.if_icmp .eq 31, 3) := by decide +kernel
theorem dX11_partOf_78 : decode cX11_partOf 78 = .ok (.iload_n 3, 1) := by decide +kernel
theorem dX11_partOf_79 : decode cX11_partOf 79 = .ok (.iconst 1, 1) := by decide +kernel
theorem dX11_partOf_80 : decode cX11_partOf 80 = .ok (.aload_n 0, 1) := by decide +kernel
theorem dX11_partOf_81 : decode cX11_partOf 81 = .ok (.getfield 13, 3) := by decide +kernel
theorem dX11_partOf_84 : decode cX11_partOf 84 = .ok (.bipush 76, 2) := by decide +kernel
theorem dX11_partOf_86 : decode cX11_partOf 86 = .ok (.iload 5, 2) := by decide +kernel
theorem dX11_partOf_88 : decode cX11_partOf 88 = .ok (.iadd, 1) := by decide +kernel
theorem dX11_partOf_89 : decode cX11_partOf 89 = .ok (.iaload, 1) := by decide +kernel
theorem dX11_partOf_90 : decode cX11_partOf 90 = .ok (.ishl, 1) := by decide +kernel
theorem dX11_partOf_91 : decode cX11_partOf 91 = .ok (.iconst 1, 1) := by decide +kernel
theorem dX11_partOf_92 : decode cX11_partOf 92 = .ok (.aload_n 0, 1) := by decide +kernel
theorem dX11_partOf_93 : decode cX11_partOf 93 = .ok (.getfield 13, 3) := by decide +kernel
theorem dX11_partOf_96 : decode cX11_partOf 96 = .ok (.bipush 92, 2) := by decide +kernel
theorem dX11_partOf_98 : decode cX11_partOf 98 = .ok (.iload 5, 2) := by decide +kernel
theorem dX11_partOf_100 : decode cX11_partOf 100 = .ok (.iadd, 1) := by decide +kernel
theorem dX11_partOf_101 : decode cX11_partOf 101 = .ok (.iaload, 1) := by decide +kernel
theorem dX11_partOf_102 : decode cX11_partOf 102 = .ok (.ishl, 1) := by decide +kernel
theorem dX11_partOf_103 : decode cX11_partOf 103 = .ok (.ior, 1) := by decide +kernel
theorem dX11_partOf_104 : decode cX11_partOf 104 = .ok (.ior, 1) := by decide +kernel
theorem dX11_partOf_105 : decode cX11_partOf 105 = .ok (.istore_n 3, 1) := by decide +kernel
theorem dX11_partOf_106 : decode cX11_partOf 106 = .ok (.iinc 5 1, 3) := by decide +kernel
theorem dX11_partOf_109 : decode cX11_partOf 109 = .ok (.goto (-90), 3) := by decide +kernel
theorem dX11_partOf_112 : decode cX11_partOf 112 = .ok (.goto (-105), 3) := by decide +kernel
theorem dX11_partOf_115 : decode cX11_partOf 115 = .ok (.iload_n 3, 1) := by decide +kernel
theorem dX11_partOf_116 : decode cX11_partOf 116 = .ok (.ireturn, 1) := by decide +kernel
def mX11_partOf (n : Nat) (a : Nat) (b1 : Int) (b2 : Int) (μ : Mem) : Option (Int × Mem) :=
  lp (fun nx7 (v7 : Int × Int) (μ7 : Mem) =>
  if eq32 v7.2 v7.1 then
    some (v7.1, μ7)
  else
  lp (fun nx19 (v19 : Int × Int) (μ19 : Mem) =>
  (gA μ19 12 a 1).bind fun x22 =>
  (ldI μ19 0 x22 1).bind fun x26 =>
  if lt32 v19.2 x26 then
    if eq32 v19.2 b2 then
      nx19 (v19.1, (v19.2 + 1)) μ19
    else
    (inv μ19 12 a (mX11_hangs n a v19.2 μ19)).bind fun p39 =>
    if eq32 p39.1 0 then
      nx19 (v19.1, (v19.2 + 1)) p39.2
    else
    (gA p39.2 12 a 1).bind fun x48 =>
    (ldI p39.2 0 x48 (76 + v19.2)).bind fun x56 =>
    (inv p39.2 12 a (mX11_isIn n a v19.1 x56 p39.2)).bind fun p57 =>
    (gA p57.2 12 a 1).bind fun x63 =>
    (ldI p57.2 0 x63 (92 + v19.2)).bind fun x71 =>
    (inv p57.2 12 a (mX11_isIn n a v19.1 x71 p57.2)).bind fun p72 =>
    if eq32 p57.1 p72.1 then
      nx19 (v19.1, (v19.2 + 1)) p72.2
    else
    (gA p72.2 12 a 1).bind fun x81 =>
    (ldI p72.2 0 x81 (76 + v19.2)).bind fun x89 =>
    (gA p72.2 12 a 1).bind fun x93 =>
    (ldI p72.2 0 x93 (92 + v19.2)).bind fun x101 =>
    nx19 ((oOr v19.1 (oOr (oShl 1 x89) (oShl 1 x101))), (v19.2 + 1)) p72.2
  else
  nx7 (v19.1, v7.1) μ19) n (v7.1, 0) μ7) n ((oShl 1 b1), 0) μ
set_option maxRecDepth 100000 in
set_option maxHeartbeats 4000000 in
theorem cX11_partOf_ok (n : Nat) (a : Nat) (b1 : Int) (b2 : Int) (μ : Mem) : Mc yX11_partOf cX11_partOf 6 (some .int) 1 22 eI [aA a, aI b1, aI b2] μ (mX11_partOf n a b1 b2 μ) := by
  refine mc_of (L0 := [some (aA a), some (aI b1), some (aI b2), none, none, none]) (k := 3) (by decide) rfl rfl (fun X Γ => ?_)
  unfold mX11_partOf
  refine sn_iconst dX11_partOf_0 ?_
  refine sn_iload_n dX11_partOf_1 rfl ?_
  refine sn_ishl dX11_partOf_2 ?_
  refine sn_istore_n (L' := [some (aA a), some (aI b1), some (aI b2), some (aI (oShl 1 b1)), none, none]) dX11_partOf_3 (by decide) rfl ?_
  refine sn_iconst dX11_partOf_4 ?_
  refine sn_istore (L' := [some (aA a), some (aI b1), some (aI b2), some (aI (oShl 1 b1)), some (aI 0), none]) dX11_partOf_5 (by decide) rfl ?_
  refine sn_mask (L' := [some (aA a), none, some (aI b2), some (aI (oShl 1 b1)), some (aI 0), none]) [true, false, true, true, true, false] rfl ?_
  refine sn_lp (La := fun v7 : Int × Int => [some (aA a), none, some (aI b2), some (aI v7.1), some (aI v7.2), none]) ?_ n ((oShl 1 b1), 0) μ
  intro nx7 hnx7 v7 μ7
  refine sn_iload dX11_partOf_7 rfl ?_
  refine sn_iload_n dX11_partOf_9 rfl ?_
  refine sn_icmp_eq (tgt := 115) dX11_partOf_10 (by decide) ?_ ?_
  · refine sn_iload_n dX11_partOf_115 rfl ?_
    exact sn_iret dX11_partOf_116
  · refine sn_iload_n dX11_partOf_13 rfl ?_
    refine sn_istore (L' := [some (aA a), none, some (aI b2), some (aI v7.1), some (aI v7.1), none]) dX11_partOf_14 (by decide) rfl ?_
    refine sn_iconst dX11_partOf_16 ?_
    refine sn_istore (L' := [some (aA a), none, some (aI b2), some (aI v7.1), some (aI v7.1), some (aI 0)]) dX11_partOf_17 (by decide) rfl ?_
    refine sn_lp (La := fun v19 : Int × Int => [some (aA a), none, some (aI b2), some (aI v19.1), some (aI v7.1), some (aI v19.2)]) ?_ n (v7.1, 0) μ7
    intro nx19 hnx19 v19 μ19
    refine sn_iload dX11_partOf_19 rfl ?_
    refine sn_aload_n dX11_partOf_21 rfl ?_
    refine sn_getA (ci := 11) (j := 1) dX11_partOf_22 fl_X11_13 (by decide) (fun x22 => ?_)
    refine sn_iconst dX11_partOf_25 ?_
    refine sn_iald dX11_partOf_26 (fun x26 => ?_)
    refine sn_icmp_ge (tgt := 112) dX11_partOf_27 (by decide) ?_ ?_
    · refine sn_goto (tgt := 7) dX11_partOf_112 (by decide) ?_
      exact sn_mask (L' := [some (aA a), none, some (aI b2), some (aI v19.1), some (aI v7.1), none]) [true, false, true, true, true, false] rfl (hnx7 (v19.1, v7.1) μ19)
    · refine sn_iload dX11_partOf_30 rfl ?_
      refine sn_iload_n dX11_partOf_32 rfl ?_
      refine sn_icmp_eq (tgt := 106) dX11_partOf_33 (by decide) ?_ ?_
      · refine sn_iinc (L' := [some (aA a), none, some (aI b2), some (aI v19.1), some (aI v7.1), some (aI (v19.2 + 1))]) dX11_partOf_106 rfl (by decide) rfl ?_
        refine sn_goto (tgt := 19) dX11_partOf_109 (by decide) ?_
        exact hnx19 (v19.1, (v19.2 + 1)) μ19
      · refine sn_aload_n dX11_partOf_36 rfl ?_
        refine sn_iload dX11_partOf_37 rfl ?_
        refine sn_callVI (vs := [aI v19.2]) (ci := 11) (cX11_hangs_ok n a v19.2 μ19) dX11_partOf_39 cw_X11_191 rfl rfl rfl (by decide) (by decide) (Nat.le_of_ble_eq_true rfl) (fun p39 => ?_)
        refine sn_if_eq (tgt := 106) dX11_partOf_42 (by decide) ?_ ?_
        · refine sn_iinc (L' := [some (aA a), none, some (aI b2), some (aI v19.1), some (aI v7.1), some (aI (v19.2 + 1))]) dX11_partOf_106 rfl (by decide) rfl ?_
          refine sn_goto (tgt := 19) dX11_partOf_109 (by decide) ?_
          exact hnx19 (v19.1, (v19.2 + 1)) p39.2
        · refine sn_aload_n dX11_partOf_45 rfl ?_
          refine sn_iload_n dX11_partOf_46 rfl ?_
          refine sn_aload_n dX11_partOf_47 rfl ?_
          refine sn_getA (ci := 11) (j := 1) dX11_partOf_48 fl_X11_13 (by decide) (fun x48 => ?_)
          refine sn_bipush dX11_partOf_51 (by decide) ?_
          refine sn_iload dX11_partOf_53 rfl ?_
          refine sn_iadd dX11_partOf_55 ?_
          refine sn_iald dX11_partOf_56 (fun x56 => ?_)
          refine sn_callVI (vs := [aI v19.1, aI x56]) (ci := 11) (cX11_isIn_ok n a v19.1 x56 p39.2) dX11_partOf_57 cw_X11_272 rfl rfl rfl (by decide) (by decide) (Nat.le_of_ble_eq_true rfl) (fun p57 => ?_)
          refine sn_aload_n dX11_partOf_60 rfl ?_
          refine sn_iload_n dX11_partOf_61 rfl ?_
          refine sn_aload_n dX11_partOf_62 rfl ?_
          refine sn_getA (ci := 11) (j := 1) dX11_partOf_63 fl_X11_13 (by decide) (fun x63 => ?_)
          refine sn_bipush dX11_partOf_66 (by decide) ?_
          refine sn_iload dX11_partOf_68 rfl ?_
          refine sn_iadd dX11_partOf_70 ?_
          refine sn_iald dX11_partOf_71 (fun x71 => ?_)
          refine sn_callVI (vs := [aI v19.1, aI x71]) (ci := 11) (cX11_isIn_ok n a v19.1 x71 p57.2) dX11_partOf_72 cw_X11_272 rfl rfl rfl (by decide) (by decide) (Nat.le_of_ble_eq_true rfl) (fun p72 => ?_)
          refine sn_icmp_eq (tgt := 106) dX11_partOf_75 (by decide) ?_ ?_
          · refine sn_iinc (L' := [some (aA a), none, some (aI b2), some (aI v19.1), some (aI v7.1), some (aI (v19.2 + 1))]) dX11_partOf_106 rfl (by decide) rfl ?_
            refine sn_goto (tgt := 19) dX11_partOf_109 (by decide) ?_
            exact hnx19 (v19.1, (v19.2 + 1)) p72.2
          · refine sn_iload_n dX11_partOf_78 rfl ?_
            refine sn_iconst dX11_partOf_79 ?_
            refine sn_aload_n dX11_partOf_80 rfl ?_
            refine sn_getA (ci := 11) (j := 1) dX11_partOf_81 fl_X11_13 (by decide) (fun x81 => ?_)
            refine sn_bipush dX11_partOf_84 (by decide) ?_
            refine sn_iload dX11_partOf_86 rfl ?_
            refine sn_iadd dX11_partOf_88 ?_
            refine sn_iald dX11_partOf_89 (fun x89 => ?_)
            refine sn_ishl dX11_partOf_90 ?_
            refine sn_iconst dX11_partOf_91 ?_
            refine sn_aload_n dX11_partOf_92 rfl ?_
            refine sn_getA (ci := 11) (j := 1) dX11_partOf_93 fl_X11_13 (by decide) (fun x93 => ?_)
            refine sn_bipush dX11_partOf_96 (by decide) ?_
            refine sn_iload dX11_partOf_98 rfl ?_
            refine sn_iadd dX11_partOf_100 ?_
            refine sn_iald dX11_partOf_101 (fun x101 => ?_)
            refine sn_ishl dX11_partOf_102 ?_
            refine sn_ior dX11_partOf_103 ?_
            refine sn_ior dX11_partOf_104 ?_
            refine sn_istore_n (L' := [some (aA a), none, some (aI b2), some (aI (oOr v19.1 (oOr (oShl 1 x89) (oShl 1 x101)))), some (aI v7.1), some (aI v19.2)]) dX11_partOf_105 (by decide) rfl ?_
            refine sn_iinc (L' := [some (aA a), none, some (aI b2), some (aI (oOr v19.1 (oOr (oShl 1 x89) (oShl 1 x101)))), some (aI v7.1), some (aI (v19.2 + 1))]) dX11_partOf_106 rfl (by decide) rfl ?_
            refine sn_goto (tgt := 19) dX11_partOf_109 (by decide) ?_
            exact hnx19 ((oOr v19.1 (oOr (oShl 1 x89) (oShl 1 x101))), (v19.2 + 1)) p72.2
theorem dX11_neighbours_0 : decode cX11_neighbours 0 = .ok (.aload_n 0, 1) := by decide +kernel
theorem dX11_neighbours_1 : decode cX11_neighbours 1 = .ok (.iconst 0, 1) := by decide +kernel
theorem dX11_neighbours_2 : decode cX11_neighbours 2 = .ok (.putfield 1, 3) := by decide +kernel
theorem dX11_neighbours_5 : decode cX11_neighbours 5 = .ok (.aload_n 0, 1) := by decide +kernel
theorem dX11_neighbours_6 : decode cX11_neighbours 6 = .ok (.iload_n 1, 1) := by decide +kernel
theorem dX11_neighbours_7 : decode cX11_neighbours 7 = .ok (.i2l, 1) := by decide +kernel
theorem dX11_neighbours_8 : decode cX11_neighbours 8 = .ok (.invokevirtual 170, 3) := by decide +kernel
theorem dX11_neighbours_11 : decode cX11_neighbours 11 = .ok (.ifCond .eq 12, 3) := by decide +kernel
theorem dX11_neighbours_14 : decode cX11_neighbours 14 = .ok (.aload_n 0, 1) := by decide +kernel
theorem dX11_neighbours_15 : decode cX11_neighbours 15 = .ok (.iload_n 1, 1) := by decide +kernel
theorem dX11_neighbours_16 : decode cX11_neighbours 16 = .ok (.iconst (-1), 1) := by decide +kernel
theorem dX11_neighbours_17 : decode cX11_neighbours 17 = .ok (.invokevirtual 279, 3) := by decide +kernel
theorem dX11_neighbours_20 : decode cX11_neighbours 20 = .ok (.goto 5, 3) := by decide +kernel
theorem dX11_neighbours_23 : decode cX11_neighbours 23 = .ok (.bipush (-2), 2) := by decide +kernel
theorem dX11_neighbours_25 : decode cX11_neighbours 25 = .ok (.ireturn, 1) := by decide +kernel
def mX11_neighbours (n : Nat) (a : Nat) (b1 : Int) (μ : Mem) : Option (Int × Mem) :=
  (pI μ 12 a 0 0).bind fun μ2 =>
  (inv μ2 12 a (mX11_isHouse n a (oI2l b1) μ2)).bind fun p8 =>
  if eq32 p8.1 0 then
    some ((-2), p8.2)
  else
  (inv p8.2 12 a (mX11_partOf n a b1 (-1) p8.2)).bind fun p17 =>
  some (p17.1, p17.2)
set_option maxRecDepth 100000 in
set_option maxHeartbeats 4000000 in
theorem cX11_neighbours_ok (n : Nat) (a : Nat) (b1 : Int) (μ : Mem) : Mc yX11_neighbours cX11_neighbours 2 (some .int) 2 47 eI [aA a, aI b1] μ (mX11_neighbours n a b1 μ) := by
  refine mc_of (L0 := [some (aA a), some (aI b1)]) (k := 0) (by decide) rfl rfl (fun X Γ => ?_)
  unfold mX11_neighbours
  refine sn_aload_n dX11_neighbours_0 rfl ?_
  refine sn_iconst dX11_neighbours_1 ?_
  refine sn_putI (ci := 11) (j := 0) dX11_neighbours_2 fl_X11_1 rfl (fun q h => by cases h; rfl) (fun μ2 => ?_)
  refine sn_aload_n dX11_neighbours_5 rfl ?_
  refine sn_iload_n dX11_neighbours_6 rfl ?_
  refine sn_i2l dX11_neighbours_7 ?_
  refine sn_callVI (vs := [aJ (oI2l b1)]) (ci := 11) (cX11_isHouse_ok n a (oI2l b1) μ2) dX11_neighbours_8 cw_X11_170 rfl rfl rfl (by decide) (by decide) (Nat.le_of_ble_eq_true rfl) (fun p8 => ?_)
  refine sn_if_eq (tgt := 23) dX11_neighbours_11 (by decide) ?_ ?_
  · refine sn_bipush dX11_neighbours_23 (by decide) ?_
    exact sn_iret dX11_neighbours_25
  · refine sn_aload_n dX11_neighbours_14 rfl ?_
    refine sn_iload_n dX11_neighbours_15 rfl ?_
    refine sn_iconst dX11_neighbours_16 ?_
    refine sn_callVI (vs := [aI b1, aI (-1)]) (ci := 11) (cX11_partOf_ok n a b1 (-1) p8.2) dX11_neighbours_17 cw_X11_279 rfl rfl rfl (by decide) (by decide) (Nat.le_of_ble_eq_true rfl) (fun p17 => ?_)
    refine sn_goto (tgt := 25) dX11_neighbours_20 (by decide) ?_
    exact sn_iret dX11_neighbours_25
theorem dX11_numbers_0 : decode cX11_numbers 0 = .ok (.aload_n 0, 1) := by decide +kernel
theorem dX11_numbers_1 : decode cX11_numbers 1 = .ok (.iconst 0, 1) := by decide +kernel
theorem dX11_numbers_2 : decode cX11_numbers 2 = .ok (.putfield 1, 3) := by decide +kernel
theorem dX11_numbers_5 : decode cX11_numbers 5 = .ok (.iload_n 1, 1) := by decide +kernel
theorem dX11_numbers_6 : decode cX11_numbers 6 = .ok (.i2l, 1) := by decide +kernel
theorem dX11_numbers_7 : decode cX11_numbers 7 = .ok (.lconst 0, 1) := by decide +kernel
theorem dX11_numbers_8 : decode cX11_numbers 8 = .ok (.ldc2_w 226, 3) := by decide +kernel
theorem dX11_numbers_11 : decode cX11_numbers 11 = .ok (.invokestatic 146, 3) := by decide +kernel
theorem dX11_numbers_14 : decode cX11_numbers 14 = .ok (.ifCond .eq 15, 3) := by decide +kernel
theorem dX11_numbers_17 : decode cX11_numbers 17 = .ok (.iload_n 2, 1) := by decide +kernel
theorem dX11_numbers_18 : decode cX11_numbers 18 = .ok (.i2l, 1) := by decide +kernel
theorem dX11_numbers_19 : decode cX11_numbers 19 = .ok (.lconst 0, 1) := by decide +kernel
theorem dX11_numbers_20 : decode cX11_numbers 20 = .ok (.ldc2_w 226, 3) := by decide +kernel
theorem dX11_numbers_23 : decode cX11_numbers 23 = .ok (.invokestatic 146, 3) := by decide +kernel
theorem dX11_numbers_26 : decode cX11_numbers 26 = .ok (.ifCond .ne 6, 3) := by decide +kernel
theorem dX11_numbers_29 : decode cX11_numbers 29 = .ok (.bipush (-2), 2) := by decide +kernel
theorem dX11_numbers_31 : decode cX11_numbers 31 = .ok (.ireturn, 1) := by decide +kernel
theorem dX11_numbers_32 : decode cX11_numbers 32 = .ok (.iload_n 3, 1) := by decide +kernel
theorem dX11_numbers_33 : decode cX11_numbers 33 = .ok (.i2l, 1) := by decide +kernel
theorem dX11_numbers_34 : decode cX11_numbers 34 = .ok (.lconst 0, 1) := by decide +kernel
theorem dX11_numbers_35 : decode cX11_numbers 35 = .ok (.ldc2_w 255, 3) := by decide +kernel
theorem dX11_numbers_38 : decode cX11_numbers 38 = .ok (.invokestatic 146, 3) := by decide +kernel
theorem dX11_numbers_41 : decode cX11_numbers 41 = .ok (.ifCond .ne 6, 3) := by decide +kernel
theorem dX11_numbers_44 : decode cX11_numbers 44 = .ok (.bipush (-3), 2) := by decide +kernel
theorem dX11_numbers_46 : decode cX11_numbers 46 = .ok (.ireturn, 1) := by decide +kernel
theorem dX11_numbers_47 : decode cX11_numbers 47 = .ok (.aload_n 0, 1) := by decide +kernel
theorem dX11_numbers_48 : decode cX11_numbers 48 = .ok (.getfield 73, 3) := by decide +kernel
theorem dX11_numbers_51 : decode cX11_numbers 51 = .ok (.iload_n 1, 1) := by decide +kernel
theorem dX11_numbers_52 : decode cX11_numbers 52 = .ok (.iload_n 2, 1) := by decide +kernel
theorem dX11_numbers_53 : decode cX11_numbers 53 = .ok (.iastore, 1) := by decide +kernel
theorem dX11_numbers_54 : decode cX11_numbers 54 = .ok (.aload_n 0, 1) := by decide +kernel
theorem dX11_numbers_55 : decode cX11_numbers 55 = .ok (.getfield 76, 3) := by decide +kernel
theorem dX11_numbers_58 : decode cX11_numbers 58 = .ok (.iload_n 1, 1) := by decide +kernel
theorem dX11_numbers_59 : decode cX11_numbers 59 = .ok (.iload_n 3, 1) := by decide +kernel
theorem dX11_numbers_60 : decode cX11_numbers 60 = .ok (.iastore, 1) := by decide +kernel
theorem dX11_numbers_61 : decode cX11_numbers 61 = .ok (.iconst 0, 1) := by decide +kernel
theorem dX11_numbers_62 : decode cX11_numbers 62 = .ok (.istore 4, 2) := by decide +kernel
theorem dX11_numbers_64 : decode cX11_numbers 64 = .ok (.iload 4, 2) := by decide +kernel
theorem dX11_numbers_66 : decode cX11_numbers 66 = .ok (.iload_n 3, 1) := by decide +kernel
theorem dX11_numbers_67 : decode cX11_numbers 67 = .ok (.if_icmp .ge 22, 3) := by decide +kernel
theorem dX11_numbers_70 : decode cX11_numbers 70 = .ok (.aload_n 0, 1) := by decide +kernel
theorem dX11_numbers_71 : decode cX11_numbers 71 = .ok (.getfield 79, 3) := by decide +kernel
theorem dX11_numbers_74 : decode cX11_numbers 74 = .ok (.bipush 60, 2) := by decide +kernel
theorem dX11_numbers_76 : decode cX11_numbers 76 = .ok (.iload_n 1, 1) := by decide +kernel
theorem dX11_numbers_77 : decode cX11_numbers 77 = .ok (.imul, 1) := by decide +kernel
theorem dX11_numbers_78 : decode cX11_numbers 78 = .ok (.iload 4, 2) := by decide +kernel
theorem dX11_numbers_80 : decode cX11_numbers 80 = .ok (.iadd, 1) := by decide +kernel
theorem dX11_numbers_81 : decode cX11_numbers 81 = .ok (.lconst 0, 1) := by decide +kernel
theorem dX11_numbers_82 : decode cX11_numbers 82 = .ok (.lastore, 1) := by decide +kernel
theorem dX11_numbers_83 : decode cX11_numbers 83 = .ok (.iinc 4 1, 3) := by decide +kernel
theorem dX11_numbers_86 : decode cX11_numbers 86 = .ok (.goto (-22), 3) := by decide +kernel
theorem dX11_numbers_89 : decode cX11_numbers 89 = .ok (.iconst 0, 1) := by decide +kernel
theorem dX11_numbers_90 : decode cX11_numbers 90 = .ok (.ireturn, 1) := by decide +kernel
def mX11_numbers (n : Nat) (a : Nat) (b1 : Int) (b2 : Int) (b3 : Int) (μ : Mem) : Option (Int × Mem) :=
  (pI μ 12 a 0 0).bind fun μ2 =>
  (mX11_within n (oI2l b1) 0 3 μ2).bind fun p11 =>
  if eq32 p11.1 0 then
    some ((-2), p11.2)
  else
  (mX11_within n (oI2l b2) 0 3 p11.2).bind fun p23 =>
  if eq32 p23.1 0 then
    some ((-2), p23.2)
  else
  (mX11_within n (oI2l b3) 0 60 p23.2).bind fun p38 =>
  if eq32 p38.1 0 then
    some ((-3), p38.2)
  else
  (gA p38.2 12 a 41).bind fun x48 =>
  (stI p38.2 0 x48 b1 b2).bind fun μ53 =>
  (gA μ53 12 a 42).bind fun x55 =>
  (stI μ53 0 x55 b1 b3).bind fun μ60 =>
  lp (fun nx64 (v64 : Int) (μ64 : Mem) =>
  if lt32 v64 b3 then
    (gA μ64 12 a 43).bind fun x71 =>
    (stI μ64 3 x71 ((60 * b1) + v64) 0).bind fun μ82 =>
    nx64 (v64 + 1) μ82
  else
  some (0, μ64)) n 0 μ60
set_option maxRecDepth 100000 in
set_option maxHeartbeats 4000000 in
theorem cX11_numbers_ok (n : Nat) (a : Nat) (b1 : Int) (b2 : Int) (b3 : Int) (μ : Mem) : Mc yX11_numbers cX11_numbers 5 (some .int) 1 25 eI [aA a, aI b1, aI b2, aI b3] μ (mX11_numbers n a b1 b2 b3 μ) := by
  refine mc_of (L0 := [some (aA a), some (aI b1), some (aI b2), some (aI b3), none]) (k := 1) (by decide) rfl rfl (fun X Γ => ?_)
  unfold mX11_numbers
  refine sn_aload_n dX11_numbers_0 rfl ?_
  refine sn_iconst dX11_numbers_1 ?_
  refine sn_putI (ci := 11) (j := 0) dX11_numbers_2 fl_X11_1 rfl (fun q h => by cases h; rfl) (fun μ2 => ?_)
  refine sn_iload_n dX11_numbers_5 rfl ?_
  refine sn_i2l dX11_numbers_6 ?_
  refine sn_lconst (v := 0) dX11_numbers_7 (by decide) ?_
  refine sn_ldc2 (v := 3) dX11_numbers_8 k_X11_226 (by decide) ?_
  refine sn_callSI (vs := [aJ (oI2l b1), aJ 0, aJ 3]) (cX11_within_ok n (oI2l b1) 0 3 μ2) dX11_numbers_11 cw_X11_146 rfl (by decide) (by decide) (Nat.le_of_ble_eq_true rfl) (fun p11 => ?_)
  refine sn_if_eq (tgt := 29) dX11_numbers_14 (by decide) ?_ ?_
  · refine sn_bipush dX11_numbers_29 (by decide) ?_
    exact sn_iret dX11_numbers_31
  · refine sn_iload_n dX11_numbers_17 rfl ?_
    refine sn_i2l dX11_numbers_18 ?_
    refine sn_lconst (v := 0) dX11_numbers_19 (by decide) ?_
    refine sn_ldc2 (v := 3) dX11_numbers_20 k_X11_226 (by decide) ?_
    refine sn_callSI (vs := [aJ (oI2l b2), aJ 0, aJ 3]) (cX11_within_ok n (oI2l b2) 0 3 p11.2) dX11_numbers_23 cw_X11_146 rfl (by decide) (by decide) (Nat.le_of_ble_eq_true rfl) (fun p23 => ?_)
    refine sn_if_ne (tgt := 32) dX11_numbers_26 (by decide) ?_ ?_
    · refine sn_iload_n dX11_numbers_32 rfl ?_
      refine sn_i2l dX11_numbers_33 ?_
      refine sn_lconst (v := 0) dX11_numbers_34 (by decide) ?_
      refine sn_ldc2 (v := 60) dX11_numbers_35 k_X11_255 (by decide) ?_
      refine sn_callSI (vs := [aJ (oI2l b3), aJ 0, aJ 60]) (cX11_within_ok n (oI2l b3) 0 60 p23.2) dX11_numbers_38 cw_X11_146 rfl (by decide) (by decide) (Nat.le_of_ble_eq_true rfl) (fun p38 => ?_)
      refine sn_if_ne (tgt := 47) dX11_numbers_41 (by decide) ?_ ?_
      · refine sn_aload_n dX11_numbers_47 rfl ?_
        refine sn_getA (ci := 11) (j := 41) dX11_numbers_48 fl_X11_73 (by decide) (fun x48 => ?_)
        refine sn_iload_n dX11_numbers_51 rfl ?_
        refine sn_iload_n dX11_numbers_52 rfl ?_
        refine sn_iast dX11_numbers_53 (fun μ53 => ?_)
        refine sn_aload_n dX11_numbers_54 rfl ?_
        refine sn_getA (ci := 11) (j := 42) dX11_numbers_55 fl_X11_76 (by decide) (fun x55 => ?_)
        refine sn_iload_n dX11_numbers_58 rfl ?_
        refine sn_iload_n dX11_numbers_59 rfl ?_
        refine sn_iast dX11_numbers_60 (fun μ60 => ?_)
        refine sn_iconst dX11_numbers_61 ?_
        refine sn_istore (L' := [some (aA a), some (aI b1), some (aI b2), some (aI b3), some (aI 0)]) dX11_numbers_62 (by decide) rfl ?_
        refine sn_mask (L' := [some (aA a), some (aI b1), none, some (aI b3), some (aI 0)]) [true, true, false, true, true] rfl ?_
        refine sn_lp (La := fun v64 : Int => [some (aA a), some (aI b1), none, some (aI b3), some (aI v64)]) ?_ n 0 μ60
        intro nx64 hnx64 v64 μ64
        refine sn_iload dX11_numbers_64 rfl ?_
        refine sn_iload_n dX11_numbers_66 rfl ?_
        refine sn_icmp_ge (tgt := 89) dX11_numbers_67 (by decide) ?_ ?_
        · refine sn_iconst dX11_numbers_89 ?_
          exact sn_iret dX11_numbers_90
        · refine sn_aload_n dX11_numbers_70 rfl ?_
          refine sn_getA (ci := 11) (j := 43) dX11_numbers_71 fl_X11_79 (by decide) (fun x71 => ?_)
          refine sn_bipush dX11_numbers_74 (by decide) ?_
          refine sn_iload_n dX11_numbers_76 rfl ?_
          refine sn_imul dX11_numbers_77 ?_
          refine sn_iload dX11_numbers_78 rfl ?_
          refine sn_iadd dX11_numbers_80 ?_
          refine sn_lconst (v := 0) dX11_numbers_81 (by decide) ?_
          refine sn_last dX11_numbers_82 (fun μ82 => ?_)
          refine sn_iinc (L' := [some (aA a), some (aI b1), none, some (aI b3), some (aI (v64 + 1))]) dX11_numbers_83 rfl (by decide) rfl ?_
          refine sn_goto (tgt := 64) dX11_numbers_86 (by decide) ?_
          exact hnx64 (v64 + 1) μ82
      · refine sn_bipush dX11_numbers_44 (by decide) ?_
        exact sn_iret dX11_numbers_46
    · refine sn_bipush dX11_numbers_29 (by decide) ?_
      exact sn_iret dX11_numbers_31
theorem dX11_parted_0 : decode cX11_parted 0 = .ok (.aload_n 0, 1) := by decide +kernel
theorem dX11_parted_1 : decode cX11_parted 1 = .ok (.iconst 0, 1) := by decide +kernel
theorem dX11_parted_2 : decode cX11_parted 2 = .ok (.putfield 1, 3) := by decide +kernel
theorem dX11_parted_5 : decode cX11_parted 5 = .ok (.iconst 0, 1) := by decide +kernel
theorem dX11_parted_6 : decode cX11_parted 6 = .ok (.istore_n 1, 1) := by decide +kernel
theorem dX11_parted_7 : decode cX11_parted 7 = .ok (.iconst 0, 1) := by decide +kernel
theorem dX11_parted_8 : decode cX11_parted 8 = .ok (.istore_n 2, 1) := by decide +kernel
theorem dX11_parted_9 : decode cX11_parted 9 = .ok (.iconst 0, 1) := by decide +kernel
theorem dX11_parted_10 : decode cX11_parted 10 = .ok (.istore_n 3, 1) := by decide +kernel
theorem dX11_parted_11 : decode cX11_parted 11 = .ok (.iload_n 3, 1) := by decide +kernel
theorem dX11_parted_12 : decode cX11_parted 12 = .ok (.aload_n 0, 1) := by decide +kernel
theorem dX11_parted_13 : decode cX11_parted 13 = .ok (.getfield 13, 3) := by decide +kernel
theorem dX11_parted_16 : decode cX11_parted 16 = .ok (.iconst 0, 1) := by decide +kernel
theorem dX11_parted_17 : decode cX11_parted 17 = .ok (.iaload, 1) := by decide +kernel
theorem dX11_parted_18 : decode cX11_parted 18 = .ok (.if_icmp .ge 196, 3) := by decide +kernel
theorem dX11_parted_21 : decode cX11_parted 21 = .ok (.aload_n 0, 1) := by decide +kernel
theorem dX11_parted_22 : decode cX11_parted 22 = .ok (.iload_n 1, 1) := by decide +kernel
theorem dX11_parted_23 : decode cX11_parted 23 = .ok (.iload_n 2, 1) := by decide +kernel
theorem dX11_parted_24 : decode cX11_parted 24 = .ok (.ior, 1) := by decide +kernel
theorem dX11_parted_25 : decode cX11_parted 25 = .ok (.iload_n 3, 1) := by decide +kernel
theorem dX11_parted_26 : decode cX11_parted 26 = .ok (.invokevirtual 272, 3) := by decide +kernel
theorem dX11_parted_29 : decode cX11_parted 29 = .ok (.ifCond .eq 6, 3) := by decide +kernel
theorem dX11_parted_32 : decode cX11_parted 32 = .ok (.goto 176, 3) := by decide +kernel
theorem dX11_parted_35 : decode cX11_parted 35 = .ok (.iload_n 1, 1) := by decide +kernel
theorem dX11_parted_36 : decode cX11_parted 36 = .ok (.iconst 1, 1) := by decide +kernel
theorem dX11_parted_37 : decode cX11_parted 37 = .ok (.iload_n 3, 1) := by decide +kernel
theorem dX11_parted_38 : decode cX11_parted 38 = .ok (.ishl, 1) := by decide +kernel
theorem dX11_parted_39 : decode cX11_parted 39 = .ok (.ior, 1) := by decide +kernel
theorem dX11_parted_40 : decode cX11_parted 40 = .ok (.istore_n 1, 1) := by decide +kernel
theorem dX11_parted_41 : decode cX11_parted 41 = .ok (.iconst (-1), 1) := by decide +kernel
theorem dX11_parted_42 : decode cX11_parted 42 = .ok (.istore 4, 2) := by decide +kernel
theorem dX11_parted_44 : decode cX11_parted 44 = .ok (.iload 4, 2) := by decide +kernel
theorem dX11_parted_46 : decode cX11_parted 46 = .ok (.iload_n 1, 1) := by decide +kernel
theorem dX11_parted_47 : decode cX11_parted 47 = .ok (.iload_n 2, 1) := by decide +kernel
theorem dX11_parted_48 : decode cX11_parted 48 = .ok (.ior, 1) := by decide +kernel
theorem dX11_parted_49 : decode cX11_parted 49 = .ok (.if_icmp .eq 151, 3) := by decide +kernel
theorem dX11_parted_52 : decode cX11_parted 52 = .ok (.iload_n 1, 1) := by decide +kernel
theorem dX11_parted_53 : decode cX11_parted 53 = .ok (.iload_n 2, 1) := by decide +kernel
theorem dX11_parted_54 : decode cX11_parted 54 = .ok (.ior, 1) := by decide +kernel
theorem dX11_parted_55 : decode cX11_parted 55 = .ok (.istore 4, 2) := by decide +kernel
theorem dX11_parted_57 : decode cX11_parted 57 = .ok (.iconst 0, 1) := by decide +kernel
theorem dX11_parted_58 : decode cX11_parted 58 = .ok (.istore 5, 2) := by decide +kernel
theorem dX11_parted_60 : decode cX11_parted 60 = .ok (.iload 5, 2) := by decide +kernel
theorem dX11_parted_62 : decode cX11_parted 62 = .ok (.aload_n 0, 1) := by decide +kernel
theorem dX11_parted_63 : decode cX11_parted 63 = .ok (.getfield 13, 3) := by decide +kernel
theorem dX11_parted_66 : decode cX11_parted 66 = .ok (.iconst 1, 1) := by decide +kernel
theorem dX11_parted_67 : decode cX11_parted 67 = .ok (.iaload, 1) := by decide +kernel
theorem dX11_parted_68 : decode cX11_parted 68 = .ok (.if_icmp .ge 129, 3) := by decide +kernel
theorem dX11_parted_71 : decode cX11_parted 71 = .ok (.aload_n 0, 1) := by decide +kernel
theorem dX11_parted_72 : decode cX11_parted 72 = .ok (.iload 5, 2) := by decide +kernel
theorem dX11_parted_74 : decode cX11_parted 74 = .ok (.invokevirtual 191, 3) := by decide +kernel
theorem dX11_parted_77 : decode cX11_parted 77 = .ok (.ifCond .ne 6, 3) := by decide +kernel
theorem dX11_parted_80 : decode cX11_parted 80 = .ok (.goto 111, 3) := by decide +kernel
theorem dX11_parted_83 : decode cX11_parted 83 = .ok (.aload_n 0, 1) := by decide +kernel
theorem dX11_parted_84 : decode cX11_parted 84 = .ok (.getfield 13, 3) := by decide +kernel
theorem dX11_parted_87 : decode cX11_parted 87 = .ok (.bipush 76, 2) := by decide +kernel
theorem dX11_parted_89 : decode cX11_parted 89 = .ok (.iload 5, 2) := by decide +kernel
theorem dX11_parted_91 : decode cX11_parted 91 = .ok (.iadd, 1) := by decide +kernel
theorem dX11_parted_92 : decode cX11_parted 92 = .ok (.iaload, 1) := by decide +kernel
theorem dX11_parted_93 : decode cX11_parted 93 = .ok (.istore 6, 2) := by decide +kernel
theorem dX11_parted_95 : decode cX11_parted 95 = .ok (.aload_n 0, 1) := by decide +kernel
theorem dX11_parted_96 : decode cX11_parted 96 = .ok (.getfield 13, 3) := by decide +kernel
theorem dX11_parted_99 : decode cX11_parted 99 = .ok (.bipush 92, 2) := by decide +kernel
theorem dX11_parted_101 : decode cX11_parted 101 = .ok (.iload 5, 2) := by decide +kernel
theorem dX11_parted_103 : decode cX11_parted 103 = .ok (.iadd, 1) := by decide +kernel
theorem dX11_parted_104 : decode cX11_parted 104 = .ok (.iaload, 1) := by decide +kernel
theorem dX11_parted_105 : decode cX11_parted 105 = .ok (.istore 7, 2) := by decide +kernel
theorem dX11_parted_107 : decode cX11_parted 107 = .ok (.iload_n 2, 1) := by decide +kernel
theorem dX11_parted_108 : decode cX11_parted 108 = .ok (.aload_n 0, 1) := by decide +kernel
theorem dX11_parted_109 : decode cX11_parted 109 = .ok (.iload_n 1, 1) := by decide +kernel
theorem dX11_parted_110 : decode cX11_parted 110 = .ok (.iload 6, 2) := by decide +kernel
theorem dX11_parted_112 : decode cX11_parted 112 = .ok (.invokevirtual 272, 3) := by decide +kernel
theorem dX11_parted_115 : decode cX11_parted 115 = .ok (.ifCond .eq 10, 3) := by decide +kernel
theorem dX11_parted_118 : decode cX11_parted 118 = .ok (.iconst 1, 1) := by decide +kernel
theorem dX11_parted_119 : decode cX11_parted 119 = .ok (.iload 7, 2) := by decide +kernel
theorem dX11_parted_121 : decode cX11_parted 121 = .ok (.ishl, 1) := by decide +kernel
theorem dX11_parted_122 : decode cX11_parted 122 = .ok (.goto 4, 3) := by decide +kernel
theorem dX11_parted_125 : decode cX11_parted 125 = .ok (.iconst 0, 1) := by decide +kernel
theorem dX11_parted_126 : decode cX11_parted 126 = .ok (.ior, 1) := by decide +kernel
theorem dX11_parted_127 : decode cX11_parted 127 = .ok (.istore_n 2, 1) := by decide +kernel
theorem dX11_parted_128 : decode cX11_parted 128 = .ok (.iload_n 2, 1) := by decide +kernel
theorem dX11_parted_129 : decode cX11_parted 129 = .ok (.aload_n 0, 1) := by decide +kernel
theorem dX11_parted_130 : decode cX11_parted 130 = .ok (.iload_n 1, 1) := by decide +kernel
theorem dX11_parted_131 : decode cX11_parted 131 = .ok (.iload 7, 2) := by decide +kernel
theorem dX11_parted_133 : decode cX11_parted 133 = .ok (.invokevirtual 272, 3) := by decide +kernel
theorem dX11_parted_136 : decode cX11_parted 136 = .ok (.ifCond .eq 10, 3) := by decide +kernel
theorem dX11_parted_139 : decode cX11_parted 139 = .ok (.iconst 1, 1) := by decide +kernel
theorem dX11_parted_140 : decode cX11_parted 140 = .ok (.iload 6, 2) := by decide +kernel
theorem dX11_parted_142 : decode cX11_parted 142 = .ok (.ishl, 1) := by decide +kernel
theorem dX11_parted_143 : decode cX11_parted 143 = .ok (.goto 4, 3) := by decide +kernel
theorem dX11_parted_146 : decode cX11_parted 146 = .ok (.iconst 0, 1) := by decide +kernel
theorem dX11_parted_147 : decode cX11_parted 147 = .ok (.ior, 1) := by decide +kernel
theorem dX11_parted_148 : decode cX11_parted 148 = .ok (.istore_n 2, 1) := by decide +kernel
theorem dX11_parted_149 : decode cX11_parted 149 = .ok (.iload_n 1, 1) := by decide +kernel
theorem dX11_parted_150 : decode cX11_parted 150 = .ok (.aload_n 0, 1) := by decide +kernel
theorem dX11_parted_151 : decode cX11_parted 151 = .ok (.iload_n 2, 1) := by decide +kernel
theorem dX11_parted_152 : decode cX11_parted 152 = .ok (.iload 6, 2) := by decide +kernel
theorem dX11_parted_154 : decode cX11_parted 154 = .ok (.invokevirtual 272, 3) := by decide +kernel
theorem dX11_parted_157 : decode cX11_parted 157 = .ok (.ifCond .eq 10, 3) := by decide +kernel
theorem dX11_parted_160 : decode cX11_parted 160 = .ok (.iconst 1, 1) := by decide +kernel
theorem dX11_parted_161 : decode cX11_parted 161 = .ok (.iload 7, 2) := by decide +kernel
theorem dX11_parted_163 : decode cX11_parted 163 = .ok (.ishl, 1) := by decide +kernel
theorem dX11_parted_164 : decode cX11_parted 164 = .ok (.goto 4, 3) := by decide +kernel
theorem dX11_parted_167 : decode cX11_parted 167 = .ok (.iconst 0, 1) := by decide +kernel
theorem dX11_parted_168 : decode cX11_parted 168 = .ok (.ior, 1) := by decide +kernel
theorem dX11_parted_169 : decode cX11_parted 169 = .ok (.istore_n 1, 1) := by decide +kernel
theorem dX11_parted_170 : decode cX11_parted 170 = .ok (.iload_n 1, 1) := by decide +kernel
theorem dX11_parted_171 : decode cX11_parted 171 = .ok (.aload_n 0, 1) := by decide +kernel
theorem dX11_parted_172 : decode cX11_parted 172 = .ok (.iload_n 2, 1) := by decide +kernel
theorem dX11_parted_173 : decode cX11_parted 173 = .ok (.iload 7, 2) := by decide +kernel
theorem dX11_parted_175 : decode cX11_parted 175 = .ok (.invokevirtual 272, 3) := by decide +kernel
theorem dX11_parted_178 : decode cX11_parted 178 = .ok (.ifCond .eq 10, 3) := by decide +kernel
theorem dX11_parted_181 : decode cX11_parted 181 = .ok (.iconst 1, 1) := by decide +kernel
theorem dX11_parted_182 : decode cX11_parted 182 = .ok (.iload 6, 2) := by decide +kernel
theorem dX11_parted_184 : decode cX11_parted 184 = .ok (.ishl, 1) := by decide +kernel
theorem dX11_parted_185 : decode cX11_parted 185 = .ok (.goto 4, 3) := by decide +kernel
theorem dX11_parted_188 : decode cX11_parted 188 = .ok (.iconst 0, 1) := by decide +kernel
theorem dX11_parted_189 : decode cX11_parted 189 = .ok (.ior, 1) := by decide +kernel
theorem dX11_parted_190 : decode cX11_parted 190 = .ok (.istore_n 1, 1) := by decide +kernel
theorem dX11_parted_191 : decode cX11_parted 191 = .ok (.iinc 5 1, 3) := by decide +kernel
theorem dX11_parted_194 : decode cX11_parted 194 = .ok (.goto (-134), 3) := by decide +kernel
theorem dX11_parted_197 : decode cX11_parted 197 = .ok (.goto (-153), 3) := by decide +kernel
theorem dX11_parted_200 : decode cX11_parted 200 = .ok (.iload_n 1, 1) := by decide +kernel
theorem dX11_parted_201 : decode cX11_parted 201 = .ok (.iload_n 2, 1) := by decide +kernel
theorem dX11_parted_202 : decode cX11_parted 202 = .ok (.iand, 1) := by decide +kernel
theorem dX11_parted_203 : decode cX11_parted 203 = .ok (.ifCond .eq 5, 3) := by decide +kernel
theorem dX11_parted_206 : decode cX11_parted 206 = .ok (.iconst (-1), 1) := by decide +kernel
theorem dX11_parted_207 : decode cX11_parted 207 = .ok (.ireturn, 1) := by decide +kernel
theorem dX11_parted_208 : decode cX11_parted 208 = .ok (.iinc 3 1, 3) := by decide +kernel
theorem dX11_parted_211 : decode cX11_parted 211 = .ok (.goto (-200), 3) := by decide +kernel
theorem dX11_parted_214 : decode cX11_parted 214 = .ok (.iload_n 1, 1) := by decide +kernel
theorem dX11_parted_215 : decode cX11_parted 215 = .ok (.ireturn, 1) := by decide +kernel
def mX11_parted (n : Nat) (a : Nat) (μ : Mem) : Option (Int × Mem) :=
  (pI μ 12 a 0 0).bind fun μ2 =>
  lp (fun nx11 (v11 : Int × Int × Int) (μ11 : Mem) =>
  (gA μ11 12 a 1).bind fun x13 =>
  (ldI μ11 0 x13 0).bind fun x17 =>
  if lt32 v11.2.2 x17 then
    (inv μ11 12 a (mX11_isIn n a (oOr v11.1 v11.2.1) v11.2.2 μ11)).bind fun p26 =>
    if eq32 p26.1 0 then
      lp (fun nx44 (v44 : Int × Int × Int) (μ44 : Mem) =>
      if eq32 v44.2.2 (oOr v44.1 v44.2.1) then
        if eq32 (oAnd v44.1 v44.2.1) 0 then
          nx11 (v44.1, v44.2.1, (v11.2.2 + 1)) μ44
        else
        some ((-1), μ44)
      else
      lp (fun nx60 (v60 : Int × Int × Int) (μ60 : Mem) =>
      (gA μ60 12 a 1).bind fun x63 =>
      (ldI μ60 0 x63 1).bind fun x67 =>
      if lt32 v60.2.2 x67 then
        (inv μ60 12 a (mX11_hangs n a v60.2.2 μ60)).bind fun p74 =>
        if eq32 p74.1 0 then
          nx60 (v60.1, v60.2.1, (v60.2.2 + 1)) p74.2
        else
        (gA p74.2 12 a 1).bind fun x84 =>
        (ldI p74.2 0 x84 (76 + v60.2.2)).bind fun x92 =>
        (gA p74.2 12 a 1).bind fun x96 =>
        (ldI p74.2 0 x96 (92 + v60.2.2)).bind fun x104 =>
        (inv p74.2 12 a (mX11_isIn n a v60.1 x92 p74.2)).bind fun p112 =>
        jn (fun (v126 : Int) (μ126 : Mem) =>
        (inv μ126 12 a (mX11_isIn n a v60.1 x104 μ126)).bind fun p133 =>
        jn (fun (v147 : Int) (μ147 : Mem) =>
        (inv μ147 12 a (mX11_isIn n a (oOr (oOr v60.2.1 v126) v147) x92 μ147)).bind fun p154 =>
        jn (fun (v168 : Int) (μ168 : Mem) =>
        (inv μ168 12 a (mX11_isIn n a (oOr (oOr v60.2.1 v126) v147) x104 μ168)).bind fun p175 =>
        jn (fun (v189 : Int) (μ189 : Mem) =>
        nx60 ((oOr (oOr v60.1 v168) v189), (oOr (oOr v60.2.1 v126) v147), (v60.2.2 + 1)) μ189) (fun j189 =>
        if eq32 p175.1 0 then
          j189 0 p175.2
        else
        j189 (oShl 1 x92) p175.2)) (fun j168 =>
        if eq32 p154.1 0 then
          j168 0 p154.2
        else
        j168 (oShl 1 x104) p154.2)) (fun j147 =>
        if eq32 p133.1 0 then
          j147 0 p133.2
        else
        j147 (oShl 1 x92) p133.2)) (fun j126 =>
        if eq32 p112.1 0 then
          j126 0 p112.2
        else
        j126 (oShl 1 x104) p112.2)
      else
      nx44 (v60.1, v60.2.1, (oOr v44.1 v44.2.1)) μ60) n (v44.1, v44.2.1, 0) μ44) n ((oOr v11.1 (oShl 1 v11.2.2)), v11.2.1, (-1)) p26.2
    else
    nx11 (v11.1, v11.2.1, (v11.2.2 + 1)) p26.2
  else
  some (v11.1, μ11)) n (0, 0, 0) μ2
set_option maxRecDepth 100000 in
set_option maxHeartbeats 4000000 in
theorem cX11_parted_ok (n : Nat) (a : Nat) (μ : Mem) : Mc yX11_parted cX11_parted 8 (some .int) 1 22 eI [aA a] μ (mX11_parted n a μ) := by
  refine mc_of (L0 := [some (aA a), none, none, none, none, none, none, none]) (k := 7) (by decide) rfl rfl (fun X Γ => ?_)
  unfold mX11_parted
  refine sn_aload_n dX11_parted_0 rfl ?_
  refine sn_iconst dX11_parted_1 ?_
  refine sn_putI (ci := 11) (j := 0) dX11_parted_2 fl_X11_1 rfl (fun q h => by cases h; rfl) (fun μ2 => ?_)
  refine sn_iconst dX11_parted_5 ?_
  refine sn_istore_n (L' := [some (aA a), some (aI 0), none, none, none, none, none, none]) dX11_parted_6 (by decide) rfl ?_
  refine sn_iconst dX11_parted_7 ?_
  refine sn_istore_n (L' := [some (aA a), some (aI 0), some (aI 0), none, none, none, none, none]) dX11_parted_8 (by decide) rfl ?_
  refine sn_iconst dX11_parted_9 ?_
  refine sn_istore_n (L' := [some (aA a), some (aI 0), some (aI 0), some (aI 0), none, none, none, none]) dX11_parted_10 (by decide) rfl ?_
  refine sn_lp (La := fun v11 : Int × Int × Int => [some (aA a), some (aI v11.1), some (aI v11.2.1), some (aI v11.2.2), none, none, none, none]) ?_ n (0, 0, 0) μ2
  intro nx11 hnx11 v11 μ11
  refine sn_iload_n dX11_parted_11 rfl ?_
  refine sn_aload_n dX11_parted_12 rfl ?_
  refine sn_getA (ci := 11) (j := 1) dX11_parted_13 fl_X11_13 (by decide) (fun x13 => ?_)
  refine sn_iconst dX11_parted_16 ?_
  refine sn_iald dX11_parted_17 (fun x17 => ?_)
  refine sn_icmp_ge (tgt := 214) dX11_parted_18 (by decide) ?_ ?_
  · refine sn_iload_n dX11_parted_214 rfl ?_
    exact sn_iret dX11_parted_215
  · refine sn_aload_n dX11_parted_21 rfl ?_
    refine sn_iload_n dX11_parted_22 rfl ?_
    refine sn_iload_n dX11_parted_23 rfl ?_
    refine sn_ior dX11_parted_24 ?_
    refine sn_iload_n dX11_parted_25 rfl ?_
    refine sn_callVI (vs := [aI (oOr v11.1 v11.2.1), aI v11.2.2]) (ci := 11) (cX11_isIn_ok n a (oOr v11.1 v11.2.1) v11.2.2 μ11) dX11_parted_26 cw_X11_272 rfl rfl rfl (by decide) (by decide) (Nat.le_of_ble_eq_true rfl) (fun p26 => ?_)
    refine sn_if_eq (tgt := 35) dX11_parted_29 (by decide) ?_ ?_
    · refine sn_iload_n dX11_parted_35 rfl ?_
      refine sn_iconst dX11_parted_36 ?_
      refine sn_iload_n dX11_parted_37 rfl ?_
      refine sn_ishl dX11_parted_38 ?_
      refine sn_ior dX11_parted_39 ?_
      refine sn_istore_n (L' := [some (aA a), some (aI (oOr v11.1 (oShl 1 v11.2.2))), some (aI v11.2.1), some (aI v11.2.2), none, none, none, none]) dX11_parted_40 (by decide) rfl ?_
      refine sn_iconst dX11_parted_41 ?_
      refine sn_istore (L' := [some (aA a), some (aI (oOr v11.1 (oShl 1 v11.2.2))), some (aI v11.2.1), some (aI v11.2.2), some (aI (-1)), none, none, none]) dX11_parted_42 (by decide) rfl ?_
      refine sn_lp (La := fun v44 : Int × Int × Int => [some (aA a), some (aI v44.1), some (aI v44.2.1), some (aI v11.2.2), some (aI v44.2.2), none, none, none]) ?_ n ((oOr v11.1 (oShl 1 v11.2.2)), v11.2.1, (-1)) p26.2
      intro nx44 hnx44 v44 μ44
      refine sn_iload dX11_parted_44 rfl ?_
      refine sn_iload_n dX11_parted_46 rfl ?_
      refine sn_iload_n dX11_parted_47 rfl ?_
      refine sn_ior dX11_parted_48 ?_
      refine sn_icmp_eq (tgt := 200) dX11_parted_49 (by decide) ?_ ?_
      · refine sn_iload_n dX11_parted_200 rfl ?_
        refine sn_iload_n dX11_parted_201 rfl ?_
        refine sn_iand dX11_parted_202 ?_
        refine sn_if_eq (tgt := 208) dX11_parted_203 (by decide) ?_ ?_
        · refine sn_iinc (L' := [some (aA a), some (aI v44.1), some (aI v44.2.1), some (aI (v11.2.2 + 1)), some (aI v44.2.2), none, none, none]) dX11_parted_208 rfl (by decide) rfl ?_
          refine sn_goto (tgt := 11) dX11_parted_211 (by decide) ?_
          exact sn_mask (L' := [some (aA a), some (aI v44.1), some (aI v44.2.1), some (aI (v11.2.2 + 1)), none, none, none, none]) [true, true, true, true, false, false, false, false] rfl (hnx11 (v44.1, v44.2.1, (v11.2.2 + 1)) μ44)
        · refine sn_iconst dX11_parted_206 ?_
          exact sn_iret dX11_parted_207
      · refine sn_iload_n dX11_parted_52 rfl ?_
        refine sn_iload_n dX11_parted_53 rfl ?_
        refine sn_ior dX11_parted_54 ?_
        refine sn_istore (L' := [some (aA a), some (aI v44.1), some (aI v44.2.1), some (aI v11.2.2), some (aI (oOr v44.1 v44.2.1)), none, none, none]) dX11_parted_55 (by decide) rfl ?_
        refine sn_iconst dX11_parted_57 ?_
        refine sn_istore (L' := [some (aA a), some (aI v44.1), some (aI v44.2.1), some (aI v11.2.2), some (aI (oOr v44.1 v44.2.1)), some (aI 0), none, none]) dX11_parted_58 (by decide) rfl ?_
        refine sn_lp (La := fun v60 : Int × Int × Int => [some (aA a), some (aI v60.1), some (aI v60.2.1), some (aI v11.2.2), some (aI (oOr v44.1 v44.2.1)), some (aI v60.2.2), none, none]) ?_ n (v44.1, v44.2.1, 0) μ44
        intro nx60 hnx60 v60 μ60
        refine sn_iload dX11_parted_60 rfl ?_
        refine sn_aload_n dX11_parted_62 rfl ?_
        refine sn_getA (ci := 11) (j := 1) dX11_parted_63 fl_X11_13 (by decide) (fun x63 => ?_)
        refine sn_iconst dX11_parted_66 ?_
        refine sn_iald dX11_parted_67 (fun x67 => ?_)
        refine sn_icmp_ge (tgt := 197) dX11_parted_68 (by decide) ?_ ?_
        · refine sn_goto (tgt := 44) dX11_parted_197 (by decide) ?_
          exact sn_mask (L' := [some (aA a), some (aI v60.1), some (aI v60.2.1), some (aI v11.2.2), some (aI (oOr v44.1 v44.2.1)), none, none, none]) [true, true, true, true, true, false, false, false] rfl (hnx44 (v60.1, v60.2.1, (oOr v44.1 v44.2.1)) μ60)
        · refine sn_aload_n dX11_parted_71 rfl ?_
          refine sn_iload dX11_parted_72 rfl ?_
          refine sn_callVI (vs := [aI v60.2.2]) (ci := 11) (cX11_hangs_ok n a v60.2.2 μ60) dX11_parted_74 cw_X11_191 rfl rfl rfl (by decide) (by decide) (Nat.le_of_ble_eq_true rfl) (fun p74 => ?_)
          refine sn_if_ne (tgt := 83) dX11_parted_77 (by decide) ?_ ?_
          · refine sn_aload_n dX11_parted_83 rfl ?_
            refine sn_getA (ci := 11) (j := 1) dX11_parted_84 fl_X11_13 (by decide) (fun x84 => ?_)
            refine sn_bipush dX11_parted_87 (by decide) ?_
            refine sn_iload dX11_parted_89 rfl ?_
            refine sn_iadd dX11_parted_91 ?_
            refine sn_iald dX11_parted_92 (fun x92 => ?_)
            refine sn_istore (L' := [some (aA a), some (aI v60.1), some (aI v60.2.1), some (aI v11.2.2), some (aI (oOr v44.1 v44.2.1)), some (aI v60.2.2), some (aI x92), none]) dX11_parted_93 (by decide) rfl ?_
            refine sn_aload_n dX11_parted_95 rfl ?_
            refine sn_getA (ci := 11) (j := 1) dX11_parted_96 fl_X11_13 (by decide) (fun x96 => ?_)
            refine sn_bipush dX11_parted_99 (by decide) ?_
            refine sn_iload dX11_parted_101 rfl ?_
            refine sn_iadd dX11_parted_103 ?_
            refine sn_iald dX11_parted_104 (fun x104 => ?_)
            refine sn_istore (L' := [some (aA a), some (aI v60.1), some (aI v60.2.1), some (aI v11.2.2), some (aI (oOr v44.1 v44.2.1)), some (aI v60.2.2), some (aI x92), some (aI x104)]) dX11_parted_105 (by decide) rfl ?_
            refine sn_iload_n dX11_parted_107 rfl ?_
            refine sn_aload_n dX11_parted_108 rfl ?_
            refine sn_iload_n dX11_parted_109 rfl ?_
            refine sn_iload dX11_parted_110 rfl ?_
            refine sn_callVI (vs := [aI v60.1, aI x92]) (ci := 11) (cX11_isIn_ok n a v60.1 x92 p74.2) dX11_parted_112 cw_X11_272 rfl rfl rfl (by decide) (by decide) (Nat.le_of_ble_eq_true rfl) (fun p112 => ?_)
            refine sn_jn (pcj := 126) (La := fun v126 : Int => [some (aA a), some (aI v60.1), none, some (aI v11.2.2), some (aI (oOr v44.1 v44.2.1)), some (aI v60.2.2), some (aI x92), some (aI x104)]) (Sa := fun v126 : Int => [aI v126, aI v60.2.1]) ?_ ?_
            · intro v126 μ126
              refine sn_ior dX11_parted_126 ?_
              refine sn_istore_n (L' := [some (aA a), some (aI v60.1), some (aI (oOr v60.2.1 v126)), some (aI v11.2.2), some (aI (oOr v44.1 v44.2.1)), some (aI v60.2.2), some (aI x92), some (aI x104)]) dX11_parted_127 (by decide) rfl ?_
              refine sn_iload_n dX11_parted_128 rfl ?_
              refine sn_aload_n dX11_parted_129 rfl ?_
              refine sn_iload_n dX11_parted_130 rfl ?_
              refine sn_iload dX11_parted_131 rfl ?_
              refine sn_callVI (vs := [aI v60.1, aI x104]) (ci := 11) (cX11_isIn_ok n a v60.1 x104 μ126) dX11_parted_133 cw_X11_272 rfl rfl rfl (by decide) (by decide) (Nat.le_of_ble_eq_true rfl) (fun p133 => ?_)
              refine sn_jn (pcj := 147) (La := fun v147 : Int => [some (aA a), some (aI v60.1), none, some (aI v11.2.2), some (aI (oOr v44.1 v44.2.1)), some (aI v60.2.2), some (aI x92), some (aI x104)]) (Sa := fun v147 : Int => [aI v147, aI (oOr v60.2.1 v126)]) ?_ ?_
              · intro v147 μ147
                refine sn_ior dX11_parted_147 ?_
                refine sn_istore_n (L' := [some (aA a), some (aI v60.1), some (aI (oOr (oOr v60.2.1 v126) v147)), some (aI v11.2.2), some (aI (oOr v44.1 v44.2.1)), some (aI v60.2.2), some (aI x92), some (aI x104)]) dX11_parted_148 (by decide) rfl ?_
                refine sn_iload_n dX11_parted_149 rfl ?_
                refine sn_aload_n dX11_parted_150 rfl ?_
                refine sn_iload_n dX11_parted_151 rfl ?_
                refine sn_iload dX11_parted_152 rfl ?_
                refine sn_callVI (vs := [aI (oOr (oOr v60.2.1 v126) v147), aI x92]) (ci := 11) (cX11_isIn_ok n a (oOr (oOr v60.2.1 v126) v147) x92 μ147) dX11_parted_154 cw_X11_272 rfl rfl rfl (by decide) (by decide) (Nat.le_of_ble_eq_true rfl) (fun p154 => ?_)
                refine sn_jn (pcj := 168) (La := fun v168 : Int => [some (aA a), none, some (aI (oOr (oOr v60.2.1 v126) v147)), some (aI v11.2.2), some (aI (oOr v44.1 v44.2.1)), some (aI v60.2.2), some (aI x92), some (aI x104)]) (Sa := fun v168 : Int => [aI v168, aI v60.1]) ?_ ?_
                · intro v168 μ168
                  refine sn_ior dX11_parted_168 ?_
                  refine sn_istore_n (L' := [some (aA a), some (aI (oOr v60.1 v168)), some (aI (oOr (oOr v60.2.1 v126) v147)), some (aI v11.2.2), some (aI (oOr v44.1 v44.2.1)), some (aI v60.2.2), some (aI x92), some (aI x104)]) dX11_parted_169 (by decide) rfl ?_
                  refine sn_iload_n dX11_parted_170 rfl ?_
                  refine sn_aload_n dX11_parted_171 rfl ?_
                  refine sn_iload_n dX11_parted_172 rfl ?_
                  refine sn_iload dX11_parted_173 rfl ?_
                  refine sn_callVI (vs := [aI (oOr (oOr v60.2.1 v126) v147), aI x104]) (ci := 11) (cX11_isIn_ok n a (oOr (oOr v60.2.1 v126) v147) x104 μ168) dX11_parted_175 cw_X11_272 rfl rfl rfl (by decide) (by decide) (Nat.le_of_ble_eq_true rfl) (fun p175 => ?_)
                  refine sn_jn (pcj := 189) (La := fun v189 : Int => [some (aA a), none, some (aI (oOr (oOr v60.2.1 v126) v147)), some (aI v11.2.2), some (aI (oOr v44.1 v44.2.1)), some (aI v60.2.2), none, none]) (Sa := fun v189 : Int => [aI v189, aI (oOr v60.1 v168)]) ?_ ?_
                  · intro v189 μ189
                    refine sn_ior dX11_parted_189 ?_
                    refine sn_istore_n (L' := [some (aA a), some (aI (oOr (oOr v60.1 v168) v189)), some (aI (oOr (oOr v60.2.1 v126) v147)), some (aI v11.2.2), some (aI (oOr v44.1 v44.2.1)), some (aI v60.2.2), none, none]) dX11_parted_190 (by decide) rfl ?_
                    refine sn_iinc (L' := [some (aA a), some (aI (oOr (oOr v60.1 v168) v189)), some (aI (oOr (oOr v60.2.1 v126) v147)), some (aI v11.2.2), some (aI (oOr v44.1 v44.2.1)), some (aI (v60.2.2 + 1)), none, none]) dX11_parted_191 rfl (by decide) rfl ?_
                    refine sn_goto (tgt := 60) dX11_parted_194 (by decide) ?_
                    exact hnx60 ((oOr (oOr v60.1 v168) v189), (oOr (oOr v60.2.1 v126) v147), (v60.2.2 + 1)) μ189
                  intro j189 hj189
                  refine sn_if_eq (tgt := 188) dX11_parted_178 (by decide) ?_ ?_
                  · refine sn_iconst dX11_parted_188 ?_
                    exact sn_mask (L' := [some (aA a), none, some (aI (oOr (oOr v60.2.1 v126) v147)), some (aI v11.2.2), some (aI (oOr v44.1 v44.2.1)), some (aI v60.2.2), none, none]) [true, false, true, true, true, true, false, false] rfl (hj189 0 p175.2)
                  · refine sn_iconst dX11_parted_181 ?_
                    refine sn_iload dX11_parted_182 rfl ?_
                    refine sn_ishl dX11_parted_184 ?_
                    refine sn_goto (tgt := 189) dX11_parted_185 (by decide) ?_
                    exact sn_mask (L' := [some (aA a), none, some (aI (oOr (oOr v60.2.1 v126) v147)), some (aI v11.2.2), some (aI (oOr v44.1 v44.2.1)), some (aI v60.2.2), none, none]) [true, false, true, true, true, true, false, false] rfl (hj189 (oShl 1 x92) p175.2)
                intro j168 hj168
                refine sn_if_eq (tgt := 167) dX11_parted_157 (by decide) ?_ ?_
                · refine sn_iconst dX11_parted_167 ?_
                  exact sn_mask (L' := [some (aA a), none, some (aI (oOr (oOr v60.2.1 v126) v147)), some (aI v11.2.2), some (aI (oOr v44.1 v44.2.1)), some (aI v60.2.2), some (aI x92), some (aI x104)]) [true, false, true, true, true, true, true, true] rfl (hj168 0 p154.2)
                · refine sn_iconst dX11_parted_160 ?_
                  refine sn_iload dX11_parted_161 rfl ?_
                  refine sn_ishl dX11_parted_163 ?_
                  refine sn_goto (tgt := 168) dX11_parted_164 (by decide) ?_
                  exact sn_mask (L' := [some (aA a), none, some (aI (oOr (oOr v60.2.1 v126) v147)), some (aI v11.2.2), some (aI (oOr v44.1 v44.2.1)), some (aI v60.2.2), some (aI x92), some (aI x104)]) [true, false, true, true, true, true, true, true] rfl (hj168 (oShl 1 x104) p154.2)
              intro j147 hj147
              refine sn_if_eq (tgt := 146) dX11_parted_136 (by decide) ?_ ?_
              · refine sn_iconst dX11_parted_146 ?_
                exact sn_mask (L' := [some (aA a), some (aI v60.1), none, some (aI v11.2.2), some (aI (oOr v44.1 v44.2.1)), some (aI v60.2.2), some (aI x92), some (aI x104)]) [true, true, false, true, true, true, true, true] rfl (hj147 0 p133.2)
              · refine sn_iconst dX11_parted_139 ?_
                refine sn_iload dX11_parted_140 rfl ?_
                refine sn_ishl dX11_parted_142 ?_
                refine sn_goto (tgt := 147) dX11_parted_143 (by decide) ?_
                exact sn_mask (L' := [some (aA a), some (aI v60.1), none, some (aI v11.2.2), some (aI (oOr v44.1 v44.2.1)), some (aI v60.2.2), some (aI x92), some (aI x104)]) [true, true, false, true, true, true, true, true] rfl (hj147 (oShl 1 x92) p133.2)
            intro j126 hj126
            refine sn_if_eq (tgt := 125) dX11_parted_115 (by decide) ?_ ?_
            · refine sn_iconst dX11_parted_125 ?_
              exact sn_mask (L' := [some (aA a), some (aI v60.1), none, some (aI v11.2.2), some (aI (oOr v44.1 v44.2.1)), some (aI v60.2.2), some (aI x92), some (aI x104)]) [true, true, false, true, true, true, true, true] rfl (hj126 0 p112.2)
            · refine sn_iconst dX11_parted_118 ?_
              refine sn_iload dX11_parted_119 rfl ?_
              refine sn_ishl dX11_parted_121 ?_
              refine sn_goto (tgt := 126) dX11_parted_122 (by decide) ?_
              exact sn_mask (L' := [some (aA a), some (aI v60.1), none, some (aI v11.2.2), some (aI (oOr v44.1 v44.2.1)), some (aI v60.2.2), some (aI x92), some (aI x104)]) [true, true, false, true, true, true, true, true] rfl (hj126 (oShl 1 x104) p112.2)
          · refine sn_goto (tgt := 191) dX11_parted_80 (by decide) ?_
            refine sn_iinc (L' := [some (aA a), some (aI v60.1), some (aI v60.2.1), some (aI v11.2.2), some (aI (oOr v44.1 v44.2.1)), some (aI (v60.2.2 + 1)), none, none]) dX11_parted_191 rfl (by decide) rfl ?_
            refine sn_goto (tgt := 60) dX11_parted_194 (by decide) ?_
            exact hnx60 (v60.1, v60.2.1, (v60.2.2 + 1)) p74.2
    · refine sn_goto (tgt := 208) dX11_parted_32 (by decide) ?_
      refine sn_iinc (L' := [some (aA a), some (aI v11.1), some (aI v11.2.1), some (aI (v11.2.2 + 1)), none, none, none, none]) dX11_parted_208 rfl (by decide) rfl ?_
      refine sn_goto (tgt := 11) dX11_parted_211 (by decide) ?_
      exact hnx11 (v11.1, v11.2.1, (v11.2.2 + 1)) p26.2
theorem dX11_pass_0 : decode cX11_pass 0 = .ok (.aload_n 0, 1) := by decide +kernel
theorem dX11_pass_1 : decode cX11_pass 1 = .ok (.iconst 0, 1) := by decide +kernel
theorem dX11_pass_2 : decode cX11_pass 2 = .ok (.putfield 1, 3) := by decide +kernel
theorem dX11_pass_5 : decode cX11_pass 5 = .ok (.aload_n 0, 1) := by decide +kernel
theorem dX11_pass_6 : decode cX11_pass 6 = .ok (.getfield 13, 3) := by decide +kernel
theorem dX11_pass_9 : decode cX11_pass 9 = .ok (.iconst 2, 1) := by decide +kernel
theorem dX11_pass_10 : decode cX11_pass 10 = .ok (.iaload, 1) := by decide +kernel
theorem dX11_pass_11 : decode cX11_pass 11 = .ok (.sipush 9999, 3) := by decide +kernel
theorem dX11_pass_14 : decode cX11_pass 14 = .ok (.if_icmp .ne 6, 3) := by decide +kernel
theorem dX11_pass_17 : decode cX11_pass 17 = .ok (.bipush (-5), 2) := by decide +kernel
theorem dX11_pass_19 : decode cX11_pass 19 = .ok (.ireturn, 1) := by decide +kernel
theorem dX11_pass_20 : decode cX11_pass 20 = .ok (.aload_n 0, 1) := by decide +kernel
theorem dX11_pass_21 : decode cX11_pass 21 = .ok (.invokevirtual 200, 3) := by decide +kernel
theorem dX11_pass_24 : decode cX11_pass 24 = .ok (.aload_n 0, 1) := by decide +kernel
theorem dX11_pass_25 : decode cX11_pass 25 = .ok (.invokevirtual 203, 3) := by decide +kernel
theorem dX11_pass_28 : decode cX11_pass 28 = .ok (.ireturn, 1) := by decide +kernel
def mX11_pass (n : Nat) (a : Nat) (μ : Mem) : Option (Int × Mem) :=
  (pI μ 12 a 0 0).bind fun μ2 =>
  (gA μ2 12 a 1).bind fun x6 =>
  (ldI μ2 0 x6 2).bind fun x10 =>
  if eq32 x10 9999 then
    some ((-5), μ2)
  else
  (inv μ2 12 a (mX11_nobody n a μ2)).bind fun p21 =>
  (inv p21.2 12 a (mX11_goes n a p21.2)).bind fun p25 =>
  some (p25.1, p25.2)
set_option maxRecDepth 100000 in
set_option maxHeartbeats 4000000 in
theorem cX11_pass_ok (n : Nat) (a : Nat) (μ : Mem) : Mc yX11_pass cX11_pass 1 (some .int) 3 72 eI [aA a] μ (mX11_pass n a μ) := by
  refine mc_of (L0 := [some (aA a)]) (k := 0) (by decide) rfl rfl (fun X Γ => ?_)
  unfold mX11_pass
  refine sn_aload_n dX11_pass_0 rfl ?_
  refine sn_iconst dX11_pass_1 ?_
  refine sn_putI (ci := 11) (j := 0) dX11_pass_2 fl_X11_1 rfl (fun q h => by cases h; rfl) (fun μ2 => ?_)
  refine sn_aload_n dX11_pass_5 rfl ?_
  refine sn_getA (ci := 11) (j := 1) dX11_pass_6 fl_X11_13 (by decide) (fun x6 => ?_)
  refine sn_iconst dX11_pass_9 ?_
  refine sn_iald dX11_pass_10 (fun x10 => ?_)
  refine sn_sipush dX11_pass_11 (by decide) ?_
  refine sn_icmp_ne (tgt := 20) dX11_pass_14 (by decide) ?_ ?_
  · refine sn_aload_n dX11_pass_20 rfl ?_
    refine sn_callVV (vs := []) (ci := 11) (cX11_nobody_ok n a μ2) dX11_pass_21 cw_X11_200 rfl rfl rfl (by decide) (by decide) (Nat.le_of_ble_eq_true rfl) (fun p21 => ?_)
    refine sn_aload_n dX11_pass_24 rfl ?_
    refine sn_callVI (vs := []) (ci := 11) (cX11_goes_ok n a p21.2) dX11_pass_25 cw_X11_203 rfl rfl rfl (by decide) (by decide) (Nat.le_of_ble_eq_true rfl) (fun p25 => ?_)
    exact sn_iret dX11_pass_28
  · refine sn_bipush dX11_pass_17 (by decide) ?_
    exact sn_iret dX11_pass_19
theorem dX11_perform_0 : decode cX11_perform 0 = .ok (.aload_n 0, 1) := by decide +kernel
theorem dX11_perform_1 : decode cX11_perform 1 = .ok (.iconst 0, 1) := by decide +kernel
theorem dX11_perform_2 : decode cX11_perform 2 = .ok (.putfield 1, 3) := by decide +kernel
theorem dX11_perform_5 : decode cX11_perform 5 = .ok (.iload_n 1, 1) := by decide +kernel
theorem dX11_perform_6 : decode cX11_perform 6 = .ok (.i2l, 1) := by decide +kernel
theorem dX11_perform_7 : decode cX11_perform 7 = .ok (.lconst 0, 1) := by decide +kernel
theorem dX11_perform_8 : decode cX11_perform 8 = .ok (.ldc2_w 226, 3) := by decide +kernel
theorem dX11_perform_11 : decode cX11_perform 11 = .ok (.invokestatic 146, 3) := by decide +kernel
theorem dX11_perform_14 : decode cX11_perform 14 = .ok (.ifCond .ne 6, 3) := by decide +kernel
theorem dX11_perform_17 : decode cX11_perform 17 = .ok (.bipush (-2), 2) := by decide +kernel
theorem dX11_perform_19 : decode cX11_perform 19 = .ok (.ireturn, 1) := by decide +kernel
theorem dX11_perform_20 : decode cX11_perform 20 = .ok (.aload_n 0, 1) := by decide +kernel
theorem dX11_perform_21 : decode cX11_perform 21 = .ok (.getfield 73, 3) := by decide +kernel
theorem dX11_perform_24 : decode cX11_perform 24 = .ok (.iload_n 1, 1) := by decide +kernel
theorem dX11_perform_25 : decode cX11_perform 25 = .ok (.iaload, 1) := by decide +kernel
theorem dX11_perform_26 : decode cX11_perform 26 = .ok (.iconst (-1), 1) := by decide +kernel
theorem dX11_perform_27 : decode cX11_perform 27 = .ok (.if_icmp .ne 6, 3) := by decide +kernel
theorem dX11_perform_30 : decode cX11_perform 30 = .ok (.bipush (-6), 2) := by decide +kernel
theorem dX11_perform_32 : decode cX11_perform 32 = .ok (.ireturn, 1) := by decide +kernel
theorem dX11_perform_33 : decode cX11_perform 33 = .ok (.aload_n 0, 1) := by decide +kernel
theorem dX11_perform_34 : decode cX11_perform 34 = .ok (.iload_n 1, 1) := by decide +kernel
theorem dX11_perform_35 : decode cX11_perform 35 = .ok (.invokevirtual 233, 3) := by decide +kernel
theorem dX11_perform_38 : decode cX11_perform 38 = .ok (.pop, 1) := by decide +kernel
theorem dX11_perform_39 : decode cX11_perform 39 = .ok (.aload_n 0, 1) := by decide +kernel
theorem dX11_perform_40 : decode cX11_perform 40 = .ok (.getfield 211, 3) := by decide +kernel
theorem dX11_perform_43 : decode cX11_perform 43 = .ok (.ireturn, 1) := by decide +kernel
def mX11_perform (n : Nat) (a : Nat) (b1 : Int) (μ : Mem) : Option (Int × Mem) :=
  (pI μ 12 a 0 0).bind fun μ2 =>
  (mX11_within n (oI2l b1) 0 3 μ2).bind fun p11 =>
  if eq32 p11.1 0 then
    some ((-2), p11.2)
  else
  (gA p11.2 12 a 41).bind fun x21 =>
  (ldI p11.2 0 x21 b1).bind fun x25 =>
  if eq32 x25 (-1) then
    some ((-6), p11.2)
  else
  (inv p11.2 12 a (mX11_hoursOf n a b1 p11.2)).bind fun p35 =>
  (gI p35.2 12 a 18).bind fun x40 =>
  some (x40, p35.2)
set_option maxRecDepth 100000 in
set_option maxHeartbeats 4000000 in
theorem cX11_perform_ok (n : Nat) (a : Nat) (b1 : Int) (μ : Mem) : Mc yX11_perform cX11_perform 2 (some .int) 4 95 eI [aA a, aI b1] μ (mX11_perform n a b1 μ) := by
  refine mc_of (L0 := [some (aA a), some (aI b1)]) (k := 0) (by decide) rfl rfl (fun X Γ => ?_)
  unfold mX11_perform
  refine sn_aload_n dX11_perform_0 rfl ?_
  refine sn_iconst dX11_perform_1 ?_
  refine sn_putI (ci := 11) (j := 0) dX11_perform_2 fl_X11_1 rfl (fun q h => by cases h; rfl) (fun μ2 => ?_)
  refine sn_iload_n dX11_perform_5 rfl ?_
  refine sn_i2l dX11_perform_6 ?_
  refine sn_lconst (v := 0) dX11_perform_7 (by decide) ?_
  refine sn_ldc2 (v := 3) dX11_perform_8 k_X11_226 (by decide) ?_
  refine sn_callSI (vs := [aJ (oI2l b1), aJ 0, aJ 3]) (cX11_within_ok n (oI2l b1) 0 3 μ2) dX11_perform_11 cw_X11_146 rfl (by decide) (by decide) (Nat.le_of_ble_eq_true rfl) (fun p11 => ?_)
  refine sn_if_ne (tgt := 20) dX11_perform_14 (by decide) ?_ ?_
  · refine sn_aload_n dX11_perform_20 rfl ?_
    refine sn_getA (ci := 11) (j := 41) dX11_perform_21 fl_X11_73 (by decide) (fun x21 => ?_)
    refine sn_iload_n dX11_perform_24 rfl ?_
    refine sn_iald dX11_perform_25 (fun x25 => ?_)
    refine sn_iconst dX11_perform_26 ?_
    refine sn_icmp_ne (tgt := 33) dX11_perform_27 (by decide) ?_ ?_
    · refine sn_aload_n dX11_perform_33 rfl ?_
      refine sn_iload_n dX11_perform_34 rfl ?_
      refine sn_callVI (vs := [aI b1]) (ci := 11) (cX11_hoursOf_ok n a b1 p11.2) dX11_perform_35 cw_X11_233 rfl rfl rfl (by decide) (by decide) (Nat.le_of_ble_eq_true rfl) (fun p35 => ?_)
      refine sn_pop dX11_perform_38 rfl ?_
      refine sn_aload_n dX11_perform_39 rfl ?_
      refine sn_getI (ci := 11) (j := 18) dX11_perform_40 fl_X11_211 rfl (fun x40 => ?_)
      exact sn_iret dX11_perform_43
    · refine sn_bipush dX11_perform_30 (by decide) ?_
      exact sn_iret dX11_perform_32
  · refine sn_bipush dX11_perform_17 (by decide) ?_
    exact sn_iret dX11_perform_19
theorem dX11_pull_0 : decode cX11_pull 0 = .ok (.aload_n 0, 1) := by decide +kernel
theorem dX11_pull_1 : decode cX11_pull 1 = .ok (.iconst 0, 1) := by decide +kernel
theorem dX11_pull_2 : decode cX11_pull 2 = .ok (.putfield 1, 3) := by decide +kernel
theorem dX11_pull_5 : decode cX11_pull 5 = .ok (.aload_n 0, 1) := by decide +kernel
theorem dX11_pull_6 : decode cX11_pull 6 = .ok (.iload_n 1, 1) := by decide +kernel
theorem dX11_pull_7 : decode cX11_pull 7 = .ok (.i2l, 1) := by decide +kernel
theorem dX11_pull_8 : decode cX11_pull 8 = .ok (.invokevirtual 170, 3) := by decide +kernel
theorem dX11_pull_11 : decode cX11_pull 11 = .ok (.ifCond .eq 21, 3) := by decide +kernel
theorem dX11_pull_14 : decode cX11_pull 14 = .ok (.aload_n 0, 1) := by decide +kernel
theorem dX11_pull_15 : decode cX11_pull 15 = .ok (.iload_n 2, 1) := by decide +kernel
theorem dX11_pull_16 : decode cX11_pull 16 = .ok (.i2l, 1) := by decide +kernel
theorem dX11_pull_17 : decode cX11_pull 17 = .ok (.invokevirtual 179, 3) := by decide +kernel
theorem dX11_pull_20 : decode cX11_pull 20 = .ok (.ifCond .eq 12, 3) := by decide +kernel
theorem dX11_pull_23 : decode cX11_pull 23 = .ok (.aload_n 0, 1) := by decide +kernel
theorem dX11_pull_24 : decode cX11_pull 24 = .ok (.iload_n 1, 1) := by decide +kernel
theorem dX11_pull_25 : decode cX11_pull 25 = .ok (.iload_n 2, 1) := by decide +kernel
theorem dX11_pull_26 : decode cX11_pull 26 = .ok (.invokevirtual 166, 3) := by decide +kernel
theorem dX11_pull_29 : decode cX11_pull 29 = .ok (.ifCond .ne 6, 3) := by decide +kernel
theorem dX11_pull_32 : decode cX11_pull 32 = .ok (.bipush (-2), 2) := by decide +kernel
theorem dX11_pull_34 : decode cX11_pull 34 = .ok (.ireturn, 1) := by decide +kernel
theorem dX11_pull_35 : decode cX11_pull 35 = .ok (.aload_n 0, 1) := by decide +kernel
theorem dX11_pull_36 : decode cX11_pull 36 = .ok (.iload_n 2, 1) := by decide +kernel
theorem dX11_pull_37 : decode cX11_pull 37 = .ok (.invokevirtual 191, 3) := by decide +kernel
theorem dX11_pull_40 : decode cX11_pull 40 = .ok (.ifCond .eq 15, 3) := by decide +kernel
theorem dX11_pull_43 : decode cX11_pull 43 = .ok (.aload_n 0, 1) := by decide +kernel
theorem dX11_pull_44 : decode cX11_pull 44 = .ok (.getfield 13, 3) := by decide +kernel
theorem dX11_pull_47 : decode cX11_pull 47 = .ok (.iconst 2, 1) := by decide +kernel
theorem dX11_pull_48 : decode cX11_pull 48 = .ok (.iaload, 1) := by decide +kernel
theorem dX11_pull_49 : decode cX11_pull 49 = .ok (.sipush 9999, 3) := by decide +kernel
theorem dX11_pull_52 : decode cX11_pull 52 = .ok (.if_icmp .ne 6, 3) := by decide +kernel
theorem dX11_pull_55 : decode cX11_pull 55 = .ok (.bipush (-5), 2) := by decide +kernel
theorem dX11_pull_57 : decode cX11_pull 57 = .ok (.ireturn, 1) := by decide +kernel
theorem dX11_pull_58 : decode cX11_pull 58 = .ok (.aload_n 0, 1) := by decide +kernel
theorem dX11_pull_59 : decode cX11_pull 59 = .ok (.invokevirtual 200, 3) := by decide +kernel
theorem dX11_pull_62 : decode cX11_pull 62 = .ok (.aload_n 0, 1) := by decide +kernel
theorem dX11_pull_63 : decode cX11_pull 63 = .ok (.getfield 30, 3) := by decide +kernel
theorem dX11_pull_66 : decode cX11_pull 66 = .ok (.iload_n 1, 1) := by decide +kernel
theorem dX11_pull_67 : decode cX11_pull 67 = .ok (.iload_n 2, 1) := by decide +kernel
theorem dX11_pull_68 : decode cX11_pull 68 = .ok (.iastore, 1) := by decide +kernel
theorem dX11_pull_69 : decode cX11_pull 69 = .ok (.aload_n 0, 1) := by decide +kernel
theorem dX11_pull_70 : decode cX11_pull 70 = .ok (.invokevirtual 203, 3) := by decide +kernel
theorem dX11_pull_73 : decode cX11_pull 73 = .ok (.ireturn, 1) := by decide +kernel
def mX11_pull (n : Nat) (a : Nat) (b1 : Int) (b2 : Int) (μ : Mem) : Option (Int × Mem) :=
  (pI μ 12 a 0 0).bind fun μ2 =>
  (inv μ2 12 a (mX11_isHouse n a (oI2l b1) μ2)).bind fun p8 =>
  if eq32 p8.1 0 then
    some ((-2), p8.2)
  else
  (inv p8.2 12 a (mX11_isRope n a (oI2l b2) p8.2)).bind fun p17 =>
  if eq32 p17.1 0 then
    some ((-2), p17.2)
  else
  (inv p17.2 12 a (mX11_isEnd n a b1 b2 p17.2)).bind fun p26 =>
  if eq32 p26.1 0 then
    some ((-2), p26.2)
  else
  (inv p26.2 12 a (mX11_hangs n a b2 p26.2)).bind fun p37 =>
  if eq32 p37.1 0 then
    some ((-5), p37.2)
  else
  (gA p37.2 12 a 1).bind fun x44 =>
  (ldI p37.2 0 x44 2).bind fun x48 =>
  if eq32 x48 9999 then
    some ((-5), p37.2)
  else
  (inv p37.2 12 a (mX11_nobody n a p37.2)).bind fun p59 =>
  (gA p59.2 12 a 15).bind fun x63 =>
  (stI p59.2 0 x63 b1 b2).bind fun μ68 =>
  (inv μ68 12 a (mX11_goes n a μ68)).bind fun p70 =>
  some (p70.1, p70.2)
set_option maxRecDepth 100000 in
set_option maxHeartbeats 4000000 in
theorem cX11_pull_ok (n : Nat) (a : Nat) (b1 : Int) (b2 : Int) (μ : Mem) : Mc yX11_pull cX11_pull 3 (some .int) 3 72 eI [aA a, aI b1, aI b2] μ (mX11_pull n a b1 b2 μ) := by
  refine mc_of (L0 := [some (aA a), some (aI b1), some (aI b2)]) (k := 0) (by decide) rfl rfl (fun X Γ => ?_)
  unfold mX11_pull
  refine sn_aload_n dX11_pull_0 rfl ?_
  refine sn_iconst dX11_pull_1 ?_
  refine sn_putI (ci := 11) (j := 0) dX11_pull_2 fl_X11_1 rfl (fun q h => by cases h; rfl) (fun μ2 => ?_)
  refine sn_aload_n dX11_pull_5 rfl ?_
  refine sn_iload_n dX11_pull_6 rfl ?_
  refine sn_i2l dX11_pull_7 ?_
  refine sn_callVI (vs := [aJ (oI2l b1)]) (ci := 11) (cX11_isHouse_ok n a (oI2l b1) μ2) dX11_pull_8 cw_X11_170 rfl rfl rfl (by decide) (by decide) (Nat.le_of_ble_eq_true rfl) (fun p8 => ?_)
  refine sn_if_eq (tgt := 32) dX11_pull_11 (by decide) ?_ ?_
  · refine sn_bipush dX11_pull_32 (by decide) ?_
    exact sn_iret dX11_pull_34
  · refine sn_aload_n dX11_pull_14 rfl ?_
    refine sn_iload_n dX11_pull_15 rfl ?_
    refine sn_i2l dX11_pull_16 ?_
    refine sn_callVI (vs := [aJ (oI2l b2)]) (ci := 11) (cX11_isRope_ok n a (oI2l b2) p8.2) dX11_pull_17 cw_X11_179 rfl rfl rfl (by decide) (by decide) (Nat.le_of_ble_eq_true rfl) (fun p17 => ?_)
    refine sn_if_eq (tgt := 32) dX11_pull_20 (by decide) ?_ ?_
    · refine sn_bipush dX11_pull_32 (by decide) ?_
      exact sn_iret dX11_pull_34
    · refine sn_aload_n dX11_pull_23 rfl ?_
      refine sn_iload_n dX11_pull_24 rfl ?_
      refine sn_iload_n dX11_pull_25 rfl ?_
      refine sn_callVI (vs := [aI b1, aI b2]) (ci := 11) (cX11_isEnd_ok n a b1 b2 p17.2) dX11_pull_26 cw_X11_166 rfl rfl rfl (by decide) (by decide) (Nat.le_of_ble_eq_true rfl) (fun p26 => ?_)
      refine sn_if_ne (tgt := 35) dX11_pull_29 (by decide) ?_ ?_
      · refine sn_aload_n dX11_pull_35 rfl ?_
        refine sn_iload_n dX11_pull_36 rfl ?_
        refine sn_callVI (vs := [aI b2]) (ci := 11) (cX11_hangs_ok n a b2 p26.2) dX11_pull_37 cw_X11_191 rfl rfl rfl (by decide) (by decide) (Nat.le_of_ble_eq_true rfl) (fun p37 => ?_)
        refine sn_if_eq (tgt := 55) dX11_pull_40 (by decide) ?_ ?_
        · refine sn_bipush dX11_pull_55 (by decide) ?_
          exact sn_iret dX11_pull_57
        · refine sn_aload_n dX11_pull_43 rfl ?_
          refine sn_getA (ci := 11) (j := 1) dX11_pull_44 fl_X11_13 (by decide) (fun x44 => ?_)
          refine sn_iconst dX11_pull_47 ?_
          refine sn_iald dX11_pull_48 (fun x48 => ?_)
          refine sn_sipush dX11_pull_49 (by decide) ?_
          refine sn_icmp_ne (tgt := 58) dX11_pull_52 (by decide) ?_ ?_
          · refine sn_aload_n dX11_pull_58 rfl ?_
            refine sn_callVV (vs := []) (ci := 11) (cX11_nobody_ok n a p37.2) dX11_pull_59 cw_X11_200 rfl rfl rfl (by decide) (by decide) (Nat.le_of_ble_eq_true rfl) (fun p59 => ?_)
            refine sn_aload_n dX11_pull_62 rfl ?_
            refine sn_getA (ci := 11) (j := 15) dX11_pull_63 fl_X11_30 (by decide) (fun x63 => ?_)
            refine sn_iload_n dX11_pull_66 rfl ?_
            refine sn_iload_n dX11_pull_67 rfl ?_
            refine sn_iast dX11_pull_68 (fun μ68 => ?_)
            refine sn_aload_n dX11_pull_69 rfl ?_
            refine sn_callVI (vs := []) (ci := 11) (cX11_goes_ok n a μ68) dX11_pull_70 cw_X11_203 rfl rfl rfl (by decide) (by decide) (Nat.le_of_ble_eq_true rfl) (fun p70 => ?_)
            exact sn_iret dX11_pull_73
          · refine sn_bipush dX11_pull_55 (by decide) ?_
            exact sn_iret dX11_pull_57
      · refine sn_bipush dX11_pull_32 (by decide) ?_
        exact sn_iret dX11_pull_34
theorem dX11_refusesSeen_0 : decode cX11_refusesSeen 0 = .ok (.iload_n 1, 1) := by decide +kernel
theorem dX11_refusesSeen_1 : decode cX11_refusesSeen 1 = .ok (.i2l, 1) := by decide +kernel
theorem dX11_refusesSeen_2 : decode cX11_refusesSeen 2 = .ok (.lconst 0, 1) := by decide +kernel
theorem dX11_refusesSeen_3 : decode cX11_refusesSeen 3 = .ok (.ldc2_w 226, 3) := by decide +kernel
theorem dX11_refusesSeen_6 : decode cX11_refusesSeen 6 = .ok (.invokestatic 146, 3) := by decide +kernel
theorem dX11_refusesSeen_9 : decode cX11_refusesSeen 9 = .ok (.ifCond .ne 6, 3) := by decide +kernel
theorem dX11_refusesSeen_12 : decode cX11_refusesSeen 12 = .ok (.bipush (-2), 2) := by decide +kernel
theorem dX11_refusesSeen_14 : decode cX11_refusesSeen 14 = .ok (.ireturn, 1) := by decide +kernel
theorem dX11_refusesSeen_15 : decode cX11_refusesSeen 15 = .ok (.aload_n 0, 1) := by decide +kernel
theorem dX11_refusesSeen_16 : decode cX11_refusesSeen 16 = .ok (.getfield 73, 3) := by decide +kernel
theorem dX11_refusesSeen_19 : decode cX11_refusesSeen 19 = .ok (.iload_n 1, 1) := by decide +kernel
theorem dX11_refusesSeen_20 : decode cX11_refusesSeen 20 = .ok (.iaload, 1) := by decide +kernel
theorem dX11_refusesSeen_21 : decode cX11_refusesSeen 21 = .ok (.iconst (-1), 1) := by decide +kernel
theorem dX11_refusesSeen_22 : decode cX11_refusesSeen 22 = .ok (.if_icmp .ne 6, 3) := by decide +kernel
theorem dX11_refusesSeen_25 : decode cX11_refusesSeen 25 = .ok (.bipush (-6), 2) := by decide +kernel
theorem dX11_refusesSeen_27 : decode cX11_refusesSeen 27 = .ok (.ireturn, 1) := by decide +kernel
theorem dX11_refusesSeen_28 : decode cX11_refusesSeen 28 = .ok (.aload_n 0, 1) := by decide +kernel
theorem dX11_refusesSeen_29 : decode cX11_refusesSeen 29 = .ok (.getfield 76, 3) := by decide +kernel
theorem dX11_refusesSeen_32 : decode cX11_refusesSeen 32 = .ok (.iload_n 1, 1) := by decide +kernel
theorem dX11_refusesSeen_33 : decode cX11_refusesSeen 33 = .ok (.iaload, 1) := by decide +kernel
theorem dX11_refusesSeen_34 : decode cX11_refusesSeen 34 = .ok (.aload_n 0, 1) := by decide +kernel
theorem dX11_refusesSeen_35 : decode cX11_refusesSeen 35 = .ok (.getfield 13, 3) := by decide +kernel
theorem dX11_refusesSeen_38 : decode cX11_refusesSeen 38 = .ok (.iconst 1, 1) := by decide +kernel
theorem dX11_refusesSeen_39 : decode cX11_refusesSeen 39 = .ok (.iaload, 1) := by decide +kernel
theorem dX11_refusesSeen_40 : decode cX11_refusesSeen 40 = .ok (.if_icmp .eq 6, 3) := by decide +kernel
theorem dX11_refusesSeen_43 : decode cX11_refusesSeen 43 = .ok (.bipush (-7), 2) := by decide +kernel
theorem dX11_refusesSeen_45 : decode cX11_refusesSeen 45 = .ok (.ireturn, 1) := by decide +kernel
theorem dX11_refusesSeen_46 : decode cX11_refusesSeen 46 = .ok (.aload_n 0, 1) := by decide +kernel
theorem dX11_refusesSeen_47 : decode cX11_refusesSeen 47 = .ok (.getfield 13, 3) := by decide +kernel
theorem dX11_refusesSeen_50 : decode cX11_refusesSeen 50 = .ok (.iconst 0, 1) := by decide +kernel
theorem dX11_refusesSeen_51 : decode cX11_refusesSeen 51 = .ok (.iaload, 1) := by decide +kernel
theorem dX11_refusesSeen_52 : decode cX11_refusesSeen 52 = .ok (.bipush 6, 2) := by decide +kernel
theorem dX11_refusesSeen_54 : decode cX11_refusesSeen 54 = .ok (.if_icmp .le 8, 3) := by decide +kernel
theorem dX11_refusesSeen_57 : decode cX11_refusesSeen 57 = .ok (.bipush (-4), 2) := by decide +kernel
theorem dX11_refusesSeen_59 : decode cX11_refusesSeen 59 = .ok (.goto 4, 3) := by decide +kernel
theorem dX11_refusesSeen_62 : decode cX11_refusesSeen 62 = .ok (.iconst 0, 1) := by decide +kernel
theorem dX11_refusesSeen_63 : decode cX11_refusesSeen 63 = .ok (.ireturn, 1) := by decide +kernel
def mX11_refusesSeen (n : Nat) (a : Nat) (b1 : Int) (μ : Mem) : Option (Int × Mem) :=
  (mX11_within n (oI2l b1) 0 3 μ).bind fun p6 =>
  if eq32 p6.1 0 then
    some ((-2), p6.2)
  else
  (gA p6.2 12 a 41).bind fun x16 =>
  (ldI p6.2 0 x16 b1).bind fun x20 =>
  if eq32 x20 (-1) then
    some ((-6), p6.2)
  else
  (gA p6.2 12 a 42).bind fun x29 =>
  (ldI p6.2 0 x29 b1).bind fun x33 =>
  (gA p6.2 12 a 1).bind fun x35 =>
  (ldI p6.2 0 x35 1).bind fun x39 =>
  if eq32 x33 x39 then
    (gA p6.2 12 a 1).bind fun x47 =>
    (ldI p6.2 0 x47 0).bind fun x51 =>
    if lt32 6 x51 then
      some ((-4), p6.2)
    else
    some (0, p6.2)
  else
  some ((-7), p6.2)
set_option maxRecDepth 100000 in
set_option maxHeartbeats 4000000 in
theorem cX11_refusesSeen_ok (n : Nat) (a : Nat) (b1 : Int) (μ : Mem) : Mc yX11_refusesSeen cX11_refusesSeen 2 (some .int) 1 25 eI [aA a, aI b1] μ (mX11_refusesSeen n a b1 μ) := by
  refine mc_of (L0 := [some (aA a), some (aI b1)]) (k := 0) (by decide) rfl rfl (fun X Γ => ?_)
  unfold mX11_refusesSeen
  refine sn_iload_n dX11_refusesSeen_0 rfl ?_
  refine sn_i2l dX11_refusesSeen_1 ?_
  refine sn_lconst (v := 0) dX11_refusesSeen_2 (by decide) ?_
  refine sn_ldc2 (v := 3) dX11_refusesSeen_3 k_X11_226 (by decide) ?_
  refine sn_callSI (vs := [aJ (oI2l b1), aJ 0, aJ 3]) (cX11_within_ok n (oI2l b1) 0 3 μ) dX11_refusesSeen_6 cw_X11_146 rfl (by decide) (by decide) (Nat.le_of_ble_eq_true rfl) (fun p6 => ?_)
  refine sn_if_ne (tgt := 15) dX11_refusesSeen_9 (by decide) ?_ ?_
  · refine sn_aload_n dX11_refusesSeen_15 rfl ?_
    refine sn_getA (ci := 11) (j := 41) dX11_refusesSeen_16 fl_X11_73 (by decide) (fun x16 => ?_)
    refine sn_iload_n dX11_refusesSeen_19 rfl ?_
    refine sn_iald dX11_refusesSeen_20 (fun x20 => ?_)
    refine sn_iconst dX11_refusesSeen_21 ?_
    refine sn_icmp_ne (tgt := 28) dX11_refusesSeen_22 (by decide) ?_ ?_
    · refine sn_aload_n dX11_refusesSeen_28 rfl ?_
      refine sn_getA (ci := 11) (j := 42) dX11_refusesSeen_29 fl_X11_76 (by decide) (fun x29 => ?_)
      refine sn_iload_n dX11_refusesSeen_32 rfl ?_
      refine sn_iald dX11_refusesSeen_33 (fun x33 => ?_)
      refine sn_aload_n dX11_refusesSeen_34 rfl ?_
      refine sn_getA (ci := 11) (j := 1) dX11_refusesSeen_35 fl_X11_13 (by decide) (fun x35 => ?_)
      refine sn_iconst dX11_refusesSeen_38 ?_
      refine sn_iald dX11_refusesSeen_39 (fun x39 => ?_)
      refine sn_icmp_eq (tgt := 46) dX11_refusesSeen_40 (by decide) ?_ ?_
      · refine sn_aload_n dX11_refusesSeen_46 rfl ?_
        refine sn_getA (ci := 11) (j := 1) dX11_refusesSeen_47 fl_X11_13 (by decide) (fun x47 => ?_)
        refine sn_iconst dX11_refusesSeen_50 ?_
        refine sn_iald dX11_refusesSeen_51 (fun x51 => ?_)
        refine sn_bipush dX11_refusesSeen_52 (by decide) ?_
        refine sn_icmp_le (tgt := 62) dX11_refusesSeen_54 (by decide) ?_ ?_
        · refine sn_iconst dX11_refusesSeen_62 ?_
          exact sn_iret dX11_refusesSeen_63
        · refine sn_bipush dX11_refusesSeen_57 (by decide) ?_
          refine sn_goto (tgt := 63) dX11_refusesSeen_59 (by decide) ?_
          exact sn_iret dX11_refusesSeen_63
      · refine sn_bipush dX11_refusesSeen_43 (by decide) ?_
        exact sn_iret dX11_refusesSeen_45
    · refine sn_bipush dX11_refusesSeen_25 (by decide) ?_
      exact sn_iret dX11_refusesSeen_27
  · refine sn_bipush dX11_refusesSeen_12 (by decide) ?_
    exact sn_iret dX11_refusesSeen_14
theorem dX11_pulled_0 : decode cX11_pulled 0 = .ok (.aload_n 0, 1) := by decide +kernel
theorem dX11_pulled_1 : decode cX11_pulled 1 = .ok (.iconst 0, 1) := by decide +kernel
theorem dX11_pulled_2 : decode cX11_pulled 2 = .ok (.putfield 1, 3) := by decide +kernel
theorem dX11_pulled_5 : decode cX11_pulled 5 = .ok (.aload_n 0, 1) := by decide +kernel
theorem dX11_pulled_6 : decode cX11_pulled 6 = .ok (.iload_n 1, 1) := by decide +kernel
theorem dX11_pulled_7 : decode cX11_pulled 7 = .ok (.invokevirtual 367, 3) := by decide +kernel
theorem dX11_pulled_10 : decode cX11_pulled 10 = .ok (.istore_n 2, 1) := by decide +kernel
theorem dX11_pulled_11 : decode cX11_pulled 11 = .ok (.iload_n 2, 1) := by decide +kernel
theorem dX11_pulled_12 : decode cX11_pulled 12 = .ok (.ifCond .eq 5, 3) := by decide +kernel
theorem dX11_pulled_15 : decode cX11_pulled 15 = .ok (.iload_n 2, 1) := by decide +kernel
theorem dX11_pulled_16 : decode cX11_pulled 16 = .ok (.ireturn, 1) := by decide +kernel
theorem dX11_pulled_17 : decode cX11_pulled 17 = .ok (.aload_n 0, 1) := by decide +kernel
theorem dX11_pulled_18 : decode cX11_pulled 18 = .ok (.iload_n 1, 1) := by decide +kernel
theorem dX11_pulled_19 : decode cX11_pulled 19 = .ok (.invokevirtual 370, 3) := by decide +kernel
theorem dX11_pulled_22 : decode cX11_pulled 22 = .ok (.ifCond .ne 7, 3) := by decide +kernel
theorem dX11_pulled_25 : decode cX11_pulled 25 = .ok (.iconst 0, 1) := by decide +kernel
theorem dX11_pulled_26 : decode cX11_pulled 26 = .ok (.goto 7, 3) := by decide +kernel
theorem dX11_pulled_29 : decode cX11_pulled 29 = .ok (.aload_n 0, 1) := by decide +kernel
theorem dX11_pulled_30 : decode cX11_pulled 30 = .ok (.getfield 361, 3) := by decide +kernel
theorem dX11_pulled_33 : decode cX11_pulled 33 = .ok (.ireturn, 1) := by decide +kernel
def mX11_pulled (n : Nat) (a : Nat) (b1 : Int) (μ : Mem) : Option (Int × Mem) :=
  (pI μ 12 a 0 0).bind fun μ2 =>
  (inv μ2 12 a (mX11_refusesSeen n a b1 μ2)).bind fun p7 =>
  if eq32 p7.1 0 then
    (inv p7.2 12 a (mX11_laysSeen n a b1 p7.2)).bind fun p19 =>
    if eq32 p19.1 0 then
      some (0, p19.2)
    else
    (gI p19.2 12 a 40).bind fun x30 =>
    some (x30, p19.2)
  else
  some (p7.1, p7.2)
set_option maxRecDepth 100000 in
set_option maxHeartbeats 4000000 in
theorem cX11_pulled_ok (n : Nat) (a : Nat) (b1 : Int) (μ : Mem) : Mc yX11_pulled cX11_pulled 3 (some .int) 26 621 eI [aA a, aI b1] μ (mX11_pulled n a b1 μ) := by
  refine mc_of (L0 := [some (aA a), some (aI b1), none]) (k := 1) (by decide) rfl rfl (fun X Γ => ?_)
  unfold mX11_pulled
  refine sn_aload_n dX11_pulled_0 rfl ?_
  refine sn_iconst dX11_pulled_1 ?_
  refine sn_putI (ci := 11) (j := 0) dX11_pulled_2 fl_X11_1 rfl (fun q h => by cases h; rfl) (fun μ2 => ?_)
  refine sn_aload_n dX11_pulled_5 rfl ?_
  refine sn_iload_n dX11_pulled_6 rfl ?_
  refine sn_callVI (vs := [aI b1]) (ci := 11) (cX11_refusesSeen_ok n a b1 μ2) dX11_pulled_7 cw_X11_367 rfl rfl rfl (by decide) (by decide) (Nat.le_of_ble_eq_true rfl) (fun p7 => ?_)
  refine sn_istore_n (L' := [some (aA a), some (aI b1), some (aI p7.1)]) dX11_pulled_10 (by decide) rfl ?_
  refine sn_iload_n dX11_pulled_11 rfl ?_
  refine sn_if_eq (tgt := 17) dX11_pulled_12 (by decide) ?_ ?_
  · refine sn_aload_n dX11_pulled_17 rfl ?_
    refine sn_iload_n dX11_pulled_18 rfl ?_
    refine sn_callVI (vs := [aI b1]) (ci := 11) (cX11_laysSeen_ok n a b1 p7.2) dX11_pulled_19 cw_X11_370 rfl rfl rfl (by decide) (by decide) (Nat.le_of_ble_eq_true rfl) (fun p19 => ?_)
    refine sn_if_ne (tgt := 29) dX11_pulled_22 (by decide) ?_ ?_
    · refine sn_aload_n dX11_pulled_29 rfl ?_
      refine sn_getI (ci := 11) (j := 40) dX11_pulled_30 fl_X11_361 rfl (fun x30 => ?_)
      exact sn_iret dX11_pulled_33
    · refine sn_iconst dX11_pulled_25 ?_
      refine sn_goto (tgt := 33) dX11_pulled_26 (by decide) ?_
      exact sn_iret dX11_pulled_33
  · refine sn_iload_n dX11_pulled_15 rfl ?_
    exact sn_iret dX11_pulled_16
theorem dX11_restore_0 : decode cX11_restore 0 = .ok (.aload_n 0, 1) := by decide +kernel
theorem dX11_restore_1 : decode cX11_restore 1 = .ok (.iconst 0, 1) := by decide +kernel
theorem dX11_restore_2 : decode cX11_restore 2 = .ok (.putfield 1, 3) := by decide +kernel
theorem dX11_restore_5 : decode cX11_restore 5 = .ok (.iload_n 1, 1) := by decide +kernel
theorem dX11_restore_6 : decode cX11_restore 6 = .ok (.i2l, 1) := by decide +kernel
theorem dX11_restore_7 : decode cX11_restore 7 = .ok (.lconst 0, 1) := by decide +kernel
theorem dX11_restore_8 : decode cX11_restore 8 = .ok (.lconst 1, 1) := by decide +kernel
theorem dX11_restore_9 : decode cX11_restore 9 = .ok (.invokestatic 146, 3) := by decide +kernel
theorem dX11_restore_12 : decode cX11_restore 12 = .ok (.ifCond .ne 6, 3) := by decide +kernel
theorem dX11_restore_15 : decode cX11_restore 15 = .ok (.bipush (-2), 2) := by decide +kernel
theorem dX11_restore_17 : decode cX11_restore 17 = .ok (.ireturn, 1) := by decide +kernel
theorem dX11_restore_18 : decode cX11_restore 18 = .ok (.aload_n 0, 1) := by decide +kernel
theorem dX11_restore_19 : decode cX11_restore 19 = .ok (.getfield 17, 3) := by decide +kernel
theorem dX11_restore_22 : decode cX11_restore 22 = .ok (.iload_n 1, 1) := by decide +kernel
theorem dX11_restore_23 : decode cX11_restore 23 = .ok (.baload, 1) := by decide +kernel
theorem dX11_restore_24 : decode cX11_restore 24 = .ok (.ifCond .ne 6, 3) := by decide +kernel
theorem dX11_restore_27 : decode cX11_restore 27 = .ok (.bipush (-5), 2) := by decide +kernel
theorem dX11_restore_29 : decode cX11_restore 29 = .ok (.ireturn, 1) := by decide +kernel
theorem dX11_restore_30 : decode cX11_restore 30 = .ok (.iconst 0, 1) := by decide +kernel
theorem dX11_restore_31 : decode cX11_restore 31 = .ok (.istore_n 2, 1) := by decide +kernel
theorem dX11_restore_32 : decode cX11_restore 32 = .ok (.iload_n 2, 1) := by decide +kernel
theorem dX11_restore_33 : decode cX11_restore 33 = .ok (.sipush 220, 3) := by decide +kernel
theorem dX11_restore_36 : decode cX11_restore 36 = .ok (.if_icmp .ge 29, 3) := by decide +kernel
theorem dX11_restore_39 : decode cX11_restore 39 = .ok (.aload_n 0, 1) := by decide +kernel
theorem dX11_restore_40 : decode cX11_restore 40 = .ok (.getfield 13, 3) := by decide +kernel
theorem dX11_restore_43 : decode cX11_restore 43 = .ok (.iload_n 2, 1) := by decide +kernel
theorem dX11_restore_44 : decode cX11_restore 44 = .ok (.aload_n 0, 1) := by decide +kernel
theorem dX11_restore_45 : decode cX11_restore 45 = .ok (.getfield 13, 3) := by decide +kernel
theorem dX11_restore_48 : decode cX11_restore 48 = .ok (.sipush 220, 3) := by decide +kernel
theorem dX11_restore_51 : decode cX11_restore 51 = .ok (.iload_n 1, 1) := by decide +kernel
theorem dX11_restore_52 : decode cX11_restore 52 = .ok (.iconst 1, 1) := by decide +kernel
theorem dX11_restore_53 : decode cX11_restore 53 = .ok (.iadd, 1) := by decide +kernel
theorem dX11_restore_54 : decode cX11_restore 54 = .ok (.imul, 1) := by decide +kernel
theorem dX11_restore_55 : decode cX11_restore 55 = .ok (.iload_n 2, 1) := by decide +kernel
theorem dX11_restore_56 : decode cX11_restore 56 = .ok (.iadd, 1) := by decide +kernel
theorem dX11_restore_57 : decode cX11_restore 57 = .ok (.iaload, 1) := by decide +kernel
theorem dX11_restore_58 : decode cX11_restore 58 = .ok (.iastore, 1) := by decide +kernel
theorem dX11_restore_59 : decode cX11_restore 59 = .ok (.iinc 2 1, 3) := by decide +kernel
theorem dX11_restore_62 : decode cX11_restore 62 = .ok (.goto (-30), 3) := by decide +kernel
theorem dX11_restore_65 : decode cX11_restore 65 = .ok (.iconst 0, 1) := by decide +kernel
theorem dX11_restore_66 : decode cX11_restore 66 = .ok (.ireturn, 1) := by decide +kernel
def mX11_restore (n : Nat) (a : Nat) (b1 : Int) (μ : Mem) : Option (Int × Mem) :=
  (pI μ 12 a 0 0).bind fun μ2 =>
  (mX11_within n (oI2l b1) 0 1 μ2).bind fun p9 =>
  if eq32 p9.1 0 then
    some ((-2), p9.2)
  else
  (gA p9.2 12 a 2).bind fun x19 =>
  (ldI p9.2 2 x19 b1).bind fun x23 =>
  if eq32 x23 0 then
    some ((-5), p9.2)
  else
  lp (fun nx32 (v32 : Int) (μ32 : Mem) =>
  if lt32 v32 220 then
    (gA μ32 12 a 1).bind fun x40 =>
    (gA μ32 12 a 1).bind fun x45 =>
    (ldI μ32 0 x45 ((220 * (b1 + 1)) + v32)).bind fun x57 =>
    (stI μ32 0 x40 v32 x57).bind fun μ58 =>
    nx32 (v32 + 1) μ58
  else
  some (0, μ32)) n 0 p9.2
set_option maxRecDepth 100000 in
set_option maxHeartbeats 4000000 in
theorem cX11_restore_ok (n : Nat) (a : Nat) (b1 : Int) (μ : Mem) : Mc yX11_restore cX11_restore 3 (some .int) 1 25 eI [aA a, aI b1] μ (mX11_restore n a b1 μ) := by
  refine mc_of (L0 := [some (aA a), some (aI b1), none]) (k := 1) (by decide) rfl rfl (fun X Γ => ?_)
  unfold mX11_restore
  refine sn_aload_n dX11_restore_0 rfl ?_
  refine sn_iconst dX11_restore_1 ?_
  refine sn_putI (ci := 11) (j := 0) dX11_restore_2 fl_X11_1 rfl (fun q h => by cases h; rfl) (fun μ2 => ?_)
  refine sn_iload_n dX11_restore_5 rfl ?_
  refine sn_i2l dX11_restore_6 ?_
  refine sn_lconst (v := 0) dX11_restore_7 (by decide) ?_
  refine sn_lconst (v := 1) dX11_restore_8 (by decide) ?_
  refine sn_callSI (vs := [aJ (oI2l b1), aJ 0, aJ 1]) (cX11_within_ok n (oI2l b1) 0 1 μ2) dX11_restore_9 cw_X11_146 rfl (by decide) (by decide) (Nat.le_of_ble_eq_true rfl) (fun p9 => ?_)
  refine sn_if_ne (tgt := 18) dX11_restore_12 (by decide) ?_ ?_
  · refine sn_aload_n dX11_restore_18 rfl ?_
    refine sn_getA (ci := 11) (j := 2) dX11_restore_19 fl_X11_17 (by decide) (fun x19 => ?_)
    refine sn_iload_n dX11_restore_22 rfl ?_
    refine sn_zald dX11_restore_23 (fun x23 => ?_)
    refine sn_if_ne (tgt := 30) dX11_restore_24 (by decide) ?_ ?_
    · refine sn_iconst dX11_restore_30 ?_
      refine sn_istore_n (L' := [some (aA a), some (aI b1), some (aI 0)]) dX11_restore_31 (by decide) rfl ?_
      refine sn_lp (La := fun v32 : Int => [some (aA a), some (aI b1), some (aI v32)]) ?_ n 0 p9.2
      intro nx32 hnx32 v32 μ32
      refine sn_iload_n dX11_restore_32 rfl ?_
      refine sn_sipush dX11_restore_33 (by decide) ?_
      refine sn_icmp_ge (tgt := 65) dX11_restore_36 (by decide) ?_ ?_
      · refine sn_iconst dX11_restore_65 ?_
        exact sn_iret dX11_restore_66
      · refine sn_aload_n dX11_restore_39 rfl ?_
        refine sn_getA (ci := 11) (j := 1) dX11_restore_40 fl_X11_13 (by decide) (fun x40 => ?_)
        refine sn_iload_n dX11_restore_43 rfl ?_
        refine sn_aload_n dX11_restore_44 rfl ?_
        refine sn_getA (ci := 11) (j := 1) dX11_restore_45 fl_X11_13 (by decide) (fun x45 => ?_)
        refine sn_sipush dX11_restore_48 (by decide) ?_
        refine sn_iload_n dX11_restore_51 rfl ?_
        refine sn_iconst dX11_restore_52 ?_
        refine sn_iadd dX11_restore_53 ?_
        refine sn_imul dX11_restore_54 ?_
        refine sn_iload_n dX11_restore_55 rfl ?_
        refine sn_iadd dX11_restore_56 ?_
        refine sn_iald dX11_restore_57 (fun x57 => ?_)
        refine sn_iast dX11_restore_58 (fun μ58 => ?_)
        refine sn_iinc (L' := [some (aA a), some (aI b1), some (aI (v32 + 1))]) dX11_restore_59 rfl (by decide) rfl ?_
        refine sn_goto (tgt := 32) dX11_restore_62 (by decide) ?_
        exact hnx32 (v32 + 1) μ58
    · refine sn_bipush dX11_restore_27 (by decide) ?_
      exact sn_iret dX11_restore_29
  · refine sn_bipush dX11_restore_15 (by decide) ?_
    exact sn_iret dX11_restore_17
theorem dX11_rests_0 : decode cX11_rests 0 = .ok (.aload_n 0, 1) := by decide +kernel
theorem dX11_rests_1 : decode cX11_rests 1 = .ok (.iconst 0, 1) := by decide +kernel
theorem dX11_rests_2 : decode cX11_rests 2 = .ok (.putfield 1, 3) := by decide +kernel
theorem dX11_rests_5 : decode cX11_rests 5 = .ok (.aload_n 0, 1) := by decide +kernel
theorem dX11_rests_6 : decode cX11_rests 6 = .ok (.invokevirtual 266, 3) := by decide +kernel
theorem dX11_rests_9 : decode cX11_rests 9 = .ok (.ireturn, 1) := by decide +kernel
def mX11_rests (n : Nat) (a : Nat) (μ : Mem) : Option (Int × Mem) :=
  (pI μ 12 a 0 0).bind fun μ2 =>
  (inv μ2 12 a (mX11_resting n a μ2)).bind fun p6 =>
  some (p6.1, p6.2)
set_option maxRecDepth 100000 in
set_option maxHeartbeats 4000000 in
theorem cX11_rests_ok (n : Nat) (a : Nat) (μ : Mem) : Mc yX11_rests cX11_rests 1 (some .int) 3 70 eI [aA a] μ (mX11_rests n a μ) := by
  refine mc_of (L0 := [some (aA a)]) (k := 0) (by decide) rfl rfl (fun X Γ => ?_)
  unfold mX11_rests
  refine sn_aload_n dX11_rests_0 rfl ?_
  refine sn_iconst dX11_rests_1 ?_
  refine sn_putI (ci := 11) (j := 0) dX11_rests_2 fl_X11_1 rfl (fun q h => by cases h; rfl) (fun μ2 => ?_)
  refine sn_aload_n dX11_rests_5 rfl ?_
  refine sn_callVI (vs := []) (ci := 11) (cX11_resting_ok n a μ2) dX11_rests_6 cw_X11_266 rfl rfl rfl (by decide) (by decide) (Nat.le_of_ble_eq_true rfl) (fun p6 => ?_)
  exact sn_iret dX11_rests_9
