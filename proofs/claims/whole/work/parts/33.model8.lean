/-! layer 1: model8 -/
theorem dX11_wayBut_0 : decode cX11_wayBut 0 = .ok (.iconst 0, 1) := by decide +kernel
theorem dX11_wayBut_1 : decode cX11_wayBut 1 = .ok (.istore 4, 2) := by decide +kernel
theorem dX11_wayBut_3 : decode cX11_wayBut 3 = .ok (.iload 4, 2) := by decide +kernel
theorem dX11_wayBut_5 : decode cX11_wayBut 5 = .ok (.bipush 10, 2) := by decide +kernel
theorem dX11_wayBut_7 : decode cX11_wayBut 7 = .ok (.if_icmp .ge 28, 3) := by decide +kernel
theorem dX11_wayBut_10 : decode cX11_wayBut 10 = .ok (.aload_n 0, 1) := by decide +kernel
theorem dX11_wayBut_11 : decode cX11_wayBut 11 = .ok (.getfield 36, 3) := by decide +kernel
theorem dX11_wayBut_14 : decode cX11_wayBut 14 = .ok (.iload 4, 2) := by decide +kernel
theorem dX11_wayBut_16 : decode cX11_wayBut 16 = .ok (.iload 4, 2) := by decide +kernel
theorem dX11_wayBut_18 : decode cX11_wayBut 18 = .ok (.iload_n 1, 1) := by decide +kernel
theorem dX11_wayBut_19 : decode cX11_wayBut 19 = .ok (.if_icmp .ne 7, 3) := by decide +kernel
theorem dX11_wayBut_22 : decode cX11_wayBut 22 = .ok (.iconst 0, 1) := by decide +kernel
theorem dX11_wayBut_23 : decode cX11_wayBut 23 = .ok (.goto 5, 3) := by decide +kernel
theorem dX11_wayBut_26 : decode cX11_wayBut 26 = .ok (.bipush 99, 2) := by decide +kernel
theorem dX11_wayBut_28 : decode cX11_wayBut 28 = .ok (.iastore, 1) := by decide +kernel
theorem dX11_wayBut_29 : decode cX11_wayBut 29 = .ok (.iinc 4 1, 3) := by decide +kernel
theorem dX11_wayBut_32 : decode cX11_wayBut 32 = .ok (.goto (-29), 3) := by decide +kernel
theorem dX11_wayBut_35 : decode cX11_wayBut 35 = .ok (.iconst 0, 1) := by decide +kernel
theorem dX11_wayBut_36 : decode cX11_wayBut 36 = .ok (.istore 4, 2) := by decide +kernel
theorem dX11_wayBut_38 : decode cX11_wayBut 38 = .ok (.iload 4, 2) := by decide +kernel
theorem dX11_wayBut_40 : decode cX11_wayBut 40 = .ok (.aload_n 0, 1) := by decide +kernel
theorem dX11_wayBut_41 : decode cX11_wayBut 41 = .ok (.getfield 13, 3) := by decide +kernel
theorem dX11_wayBut_44 : decode cX11_wayBut 44 = .ok (.iconst 0, 1) := by decide +kernel
theorem dX11_wayBut_45 : decode cX11_wayBut 45 = .ok (.iaload, 1) := by decide +kernel
theorem dX11_wayBut_46 : decode cX11_wayBut 46 = .ok (.if_icmp .ge 141, 3) := by decide +kernel
theorem dX11_wayBut_49 : decode cX11_wayBut 49 = .ok (.iconst 0, 1) := by decide +kernel
theorem dX11_wayBut_50 : decode cX11_wayBut 50 = .ok (.istore 5, 2) := by decide +kernel
theorem dX11_wayBut_52 : decode cX11_wayBut 52 = .ok (.iload 5, 2) := by decide +kernel
theorem dX11_wayBut_54 : decode cX11_wayBut 54 = .ok (.aload_n 0, 1) := by decide +kernel
theorem dX11_wayBut_55 : decode cX11_wayBut 55 = .ok (.getfield 13, 3) := by decide +kernel
theorem dX11_wayBut_58 : decode cX11_wayBut 58 = .ok (.iconst 1, 1) := by decide +kernel
theorem dX11_wayBut_59 : decode cX11_wayBut 59 = .ok (.iaload, 1) := by decide +kernel
theorem dX11_wayBut_60 : decode cX11_wayBut 60 = .ok (.if_icmp .ge 121, 3) := by decide +kernel
theorem dX11_wayBut_63 : decode cX11_wayBut 63 = .ok (.iload 5, 2) := by decide +kernel
theorem dX11_wayBut_65 : decode cX11_wayBut 65 = .ok (.iload_n 3, 1) := by decide +kernel
theorem dX11_wayBut_66 : decode cX11_wayBut 66 = .ok (.if_icmp .eq 109, 3) := by decide +kernel
theorem dX11_wayBut_69 : decode cX11_wayBut 69 = .ok (.aload_n 0, 1) := by decide +kernel
theorem dX11_wayBut_70 : decode cX11_wayBut 70 = .ok (.iload 5, 2) := by decide +kernel
theorem dX11_wayBut_72 : decode cX11_wayBut 72 = .ok (.invokevirtual 191, 3) := by decide +kernel
theorem dX11_wayBut_75 : decode cX11_wayBut 75 = .ok (.ifCond .ne 6, 3) := by decide +kernel
theorem dX11_wayBut_78 : decode cX11_wayBut 78 = .ok (.goto 97, 3) := by decide +kernel
theorem dX11_wayBut_81 : decode cX11_wayBut 81 = .ok (.aload_n 0, 1) := by decide +kernel
theorem dX11_wayBut_82 : decode cX11_wayBut 82 = .ok (.getfield 13, 3) := by decide +kernel
theorem dX11_wayBut_85 : decode cX11_wayBut 85 = .ok (.bipush 76, 2) := by decide +kernel
theorem dX11_wayBut_87 : decode cX11_wayBut 87 = .ok (.iload 5, 2) := by decide +kernel
theorem dX11_wayBut_89 : decode cX11_wayBut 89 = .ok (.iadd, 1) := by decide +kernel
theorem dX11_wayBut_90 : decode cX11_wayBut 90 = .ok (.iaload, 1) := by decide +kernel
theorem dX11_wayBut_91 : decode cX11_wayBut 91 = .ok (.istore 6, 2) := by decide +kernel
theorem dX11_wayBut_93 : decode cX11_wayBut 93 = .ok (.aload_n 0, 1) := by decide +kernel
theorem dX11_wayBut_94 : decode cX11_wayBut 94 = .ok (.getfield 13, 3) := by decide +kernel
theorem dX11_wayBut_97 : decode cX11_wayBut 97 = .ok (.bipush 92, 2) := by decide +kernel
theorem dX11_wayBut_99 : decode cX11_wayBut 99 = .ok (.iload 5, 2) := by decide +kernel
theorem dX11_wayBut_101 : decode cX11_wayBut 101 = .ok (.iadd, 1) := by decide +kernel
theorem dX11_wayBut_102 : decode cX11_wayBut 102 = .ok (.iaload, 1) := by decide +kernel
theorem dX11_wayBut_103 : decode cX11_wayBut 103 = .ok (.istore 7, 2) := by decide +kernel
theorem dX11_wayBut_105 : decode cX11_wayBut 105 = .ok (.aload_n 0, 1) := by decide +kernel
theorem dX11_wayBut_106 : decode cX11_wayBut 106 = .ok (.getfield 36, 3) := by decide +kernel
theorem dX11_wayBut_109 : decode cX11_wayBut 109 = .ok (.iload 6, 2) := by decide +kernel
theorem dX11_wayBut_111 : decode cX11_wayBut 111 = .ok (.iaload, 1) := by decide +kernel
theorem dX11_wayBut_112 : decode cX11_wayBut 112 = .ok (.iconst 1, 1) := by decide +kernel
theorem dX11_wayBut_113 : decode cX11_wayBut 113 = .ok (.iadd, 1) := by decide +kernel
theorem dX11_wayBut_114 : decode cX11_wayBut 114 = .ok (.aload_n 0, 1) := by decide +kernel
theorem dX11_wayBut_115 : decode cX11_wayBut 115 = .ok (.getfield 36, 3) := by decide +kernel
theorem dX11_wayBut_118 : decode cX11_wayBut 118 = .ok (.iload 7, 2) := by decide +kernel
theorem dX11_wayBut_120 : decode cX11_wayBut 120 = .ok (.iaload, 1) := by decide +kernel
theorem dX11_wayBut_121 : decode cX11_wayBut 121 = .ok (.if_icmp .ge 19, 3) := by decide +kernel
theorem dX11_wayBut_124 : decode cX11_wayBut 124 = .ok (.aload_n 0, 1) := by decide +kernel
theorem dX11_wayBut_125 : decode cX11_wayBut 125 = .ok (.getfield 36, 3) := by decide +kernel
theorem dX11_wayBut_128 : decode cX11_wayBut 128 = .ok (.iload 7, 2) := by decide +kernel
theorem dX11_wayBut_130 : decode cX11_wayBut 130 = .ok (.aload_n 0, 1) := by decide +kernel
theorem dX11_wayBut_131 : decode cX11_wayBut 131 = .ok (.getfield 36, 3) := by decide +kernel
theorem dX11_wayBut_134 : decode cX11_wayBut 134 = .ok (.iload 6, 2) := by decide +kernel
theorem dX11_wayBut_136 : decode cX11_wayBut 136 = .ok (.iaload, 1) := by decide +kernel
theorem dX11_wayBut_137 : decode cX11_wayBut 137 = .ok (.iconst 1, 1) := by decide +kernel
theorem dX11_wayBut_138 : decode cX11_wayBut 138 = .ok (.iadd, 1) := by decide +kernel
theorem dX11_wayBut_139 : decode cX11_wayBut 139 = .ok (.iastore, 1) := by decide +kernel
theorem dX11_wayBut_140 : decode cX11_wayBut 140 = .ok (.aload_n 0, 1) := by decide +kernel
theorem dX11_wayBut_141 : decode cX11_wayBut 141 = .ok (.getfield 36, 3) := by decide +kernel
theorem dX11_wayBut_144 : decode cX11_wayBut 144 = .ok (.iload 7, 2) := by decide +kernel
theorem dX11_wayBut_146 : decode cX11_wayBut 146 = .ok (.iaload, 1) := by decide +kernel
theorem dX11_wayBut_147 : decode cX11_wayBut 147 = .ok (.iconst 1, 1) := by decide +kernel
theorem dX11_wayBut_148 : decode cX11_wayBut 148 = .ok (.iadd, 1) := by decide +kernel
theorem dX11_wayBut_149 : decode cX11_wayBut 149 = .ok (.aload_n 0, 1) := by decide +kernel
theorem dX11_wayBut_150 : decode cX11_wayBut 150 = .ok (.getfield 36, 3) := by decide +kernel
theorem dX11_wayBut_153 : decode cX11_wayBut 153 = .ok (.iload 6, 2) := by decide +kernel
theorem dX11_wayBut_155 : decode cX11_wayBut 155 = .ok (.iaload, 1) := by decide +kernel
theorem dX11_wayBut_156 : decode cX11_wayBut 156 = .ok (.if_icmp .ge 19, 3) := by decide +kernel
theorem dX11_wayBut_159 : decode cX11_wayBut 159 = .ok (.aload_n 0, 1) := by decide +kernel
theorem dX11_wayBut_160 : decode cX11_wayBut 160 = .ok (.getfield 36, 3) := by decide +kernel
theorem dX11_wayBut_163 : decode cX11_wayBut 163 = .ok (.iload 6, 2) := by decide +kernel
theorem dX11_wayBut_165 : decode cX11_wayBut 165 = .ok (.aload_n 0, 1) := by decide +kernel
theorem dX11_wayBut_166 : decode cX11_wayBut 166 = .ok (.getfield 36, 3) := by decide +kernel
theorem dX11_wayBut_169 : decode cX11_wayBut 169 = .ok (.iload 7, 2) := by decide +kernel
theorem dX11_wayBut_171 : decode cX11_wayBut 171 = .ok (.iaload, 1) := by decide +kernel
theorem dX11_wayBut_172 : decode cX11_wayBut 172 = .ok (.iconst 1, 1) := by decide +kernel
theorem dX11_wayBut_173 : decode cX11_wayBut 173 = .ok (.iadd, 1) := by decide +kernel
theorem dX11_wayBut_174 : decode cX11_wayBut 174 = .ok (.iastore, 1) := by decide +kernel
theorem dX11_wayBut_175 : decode cX11_wayBut 175 = .ok (.iinc 5 1, 3) := by decide +kernel
theorem dX11_wayBut_178 : decode cX11_wayBut 178 = .ok (.goto (-126), 3) := by decide +kernel
theorem dX11_wayBut_181 : decode cX11_wayBut 181 = .ok (.iinc 4 1, 3) := by decide +kernel
theorem dX11_wayBut_184 : decode cX11_wayBut 184 = .ok (.goto (-146), 3) := by decide +kernel
theorem dX11_wayBut_187 : decode cX11_wayBut 187 = .ok (.aload_n 0, 1) := by decide +kernel
theorem dX11_wayBut_188 : decode cX11_wayBut 188 = .ok (.getfield 36, 3) := by decide +kernel
theorem dX11_wayBut_191 : decode cX11_wayBut 191 = .ok (.iload_n 2, 1) := by decide +kernel
theorem dX11_wayBut_192 : decode cX11_wayBut 192 = .ok (.iaload, 1) := by decide +kernel
theorem dX11_wayBut_193 : decode cX11_wayBut 193 = .ok (.ireturn, 1) := by decide +kernel
def mX11_wayBut (n : Nat) (a : Nat) (b1 : Int) (b2 : Int) (b3 : Int) (μ : Mem) : Option (Int × Mem) :=
  lp (fun nx3 (v3 : Int) (μ3 : Mem) =>
  if lt32 v3 10 then
    (gA μ3 12 a 22).bind fun x11 =>
    jn (fun (v28 : Int) (μ28 : Mem) =>
    (stI μ28 0 x11 v3 v28).bind fun μ28 =>
    nx3 (v3 + 1) μ28) (fun j28 =>
    if eq32 v3 b1 then
      j28 0 μ3
    else
    j28 99 μ3)
  else
  lp (fun nx38 (v38 : Int) (μ38 : Mem) =>
  (gA μ38 12 a 1).bind fun x41 =>
  (ldI μ38 0 x41 0).bind fun x45 =>
  if lt32 v38 x45 then
    lp (fun nx52 (v52 : Int) (μ52 : Mem) =>
    (gA μ52 12 a 1).bind fun x55 =>
    (ldI μ52 0 x55 1).bind fun x59 =>
    if lt32 v52 x59 then
      if eq32 v52 b3 then
        nx52 (v52 + 1) μ52
      else
      (inv μ52 12 a (mX11_hangs n a v52 μ52)).bind fun p72 =>
      if eq32 p72.1 0 then
        nx52 (v52 + 1) p72.2
      else
      (gA p72.2 12 a 1).bind fun x82 =>
      (ldI p72.2 0 x82 (76 + v52)).bind fun x90 =>
      (gA p72.2 12 a 1).bind fun x94 =>
      (ldI p72.2 0 x94 (92 + v52)).bind fun x102 =>
      (gA p72.2 12 a 22).bind fun x106 =>
      (ldI p72.2 0 x106 x90).bind fun x111 =>
      (gA p72.2 12 a 22).bind fun x115 =>
      (ldI p72.2 0 x115 x102).bind fun x120 =>
      jn (fun (v140 : Unit) (μ140 : Mem) =>
      (gA μ140 12 a 22).bind fun x141 =>
      (ldI μ140 0 x141 x102).bind fun x146 =>
      (gA μ140 12 a 22).bind fun x150 =>
      (ldI μ140 0 x150 x90).bind fun x155 =>
      if lt32 (x146 + 1) x155 then
        (gA μ140 12 a 22).bind fun x160 =>
        (gA μ140 12 a 22).bind fun x166 =>
        (ldI μ140 0 x166 x102).bind fun x171 =>
        (stI μ140 0 x160 x90 (x171 + 1)).bind fun μ174 =>
        nx52 (v52 + 1) μ174
      else
      nx52 (v52 + 1) μ140) (fun j140 =>
      if lt32 (x111 + 1) x120 then
        (gA p72.2 12 a 22).bind fun x125 =>
        (gA p72.2 12 a 22).bind fun x131 =>
        (ldI p72.2 0 x131 x90).bind fun x136 =>
        (stI p72.2 0 x125 x102 (x136 + 1)).bind fun μ139 =>
        j140 () μ139
      else
      j140 () p72.2)
    else
    nx38 (v38 + 1) μ52) n 0 μ38
  else
  (gA μ38 12 a 22).bind fun x188 =>
  (ldI μ38 0 x188 b2).bind fun x192 =>
  some (x192, μ38)) n 0 μ3) n 0 μ
set_option maxRecDepth 100000 in
set_option maxHeartbeats 4000000 in
theorem cX11_wayBut_ok (n : Nat) (a : Nat) (b1 : Int) (b2 : Int) (b3 : Int) (μ : Mem) : Mc yX11_wayBut cX11_wayBut 8 (some .int) 1 21 eI [aA a, aI b1, aI b2, aI b3] μ (mX11_wayBut n a b1 b2 b3 μ) := by
  refine mc_of (L0 := [some (aA a), some (aI b1), some (aI b2), some (aI b3), none, none, none, none]) (k := 4) (by decide) rfl rfl (fun X Γ => ?_)
  unfold mX11_wayBut
  refine sn_iconst dX11_wayBut_0 ?_
  refine sn_istore (L' := [some (aA a), some (aI b1), some (aI b2), some (aI b3), some (aI 0), none, none, none]) dX11_wayBut_1 (by decide) rfl ?_
  refine sn_lp (La := fun v3 : Int => [some (aA a), some (aI b1), some (aI b2), some (aI b3), some (aI v3), none, none, none]) ?_ n 0 μ
  intro nx3 hnx3 v3 μ3
  refine sn_iload dX11_wayBut_3 rfl ?_
  refine sn_bipush dX11_wayBut_5 (by decide) ?_
  refine sn_icmp_ge (tgt := 35) dX11_wayBut_7 (by decide) ?_ ?_
  · refine sn_iconst dX11_wayBut_35 ?_
    refine sn_istore (L' := [some (aA a), some (aI b1), some (aI b2), some (aI b3), some (aI 0), none, none, none]) dX11_wayBut_36 (by decide) rfl ?_
    refine sn_mask (L' := [some (aA a), none, some (aI b2), some (aI b3), some (aI 0), none, none, none]) [true, false, true, true, true, false, false, false] rfl ?_
    refine sn_lp (La := fun v38 : Int => [some (aA a), none, some (aI b2), some (aI b3), some (aI v38), none, none, none]) ?_ n 0 μ3
    intro nx38 hnx38 v38 μ38
    refine sn_iload dX11_wayBut_38 rfl ?_
    refine sn_aload_n dX11_wayBut_40 rfl ?_
    refine sn_getA (ci := 11) (j := 1) dX11_wayBut_41 fl_X11_13 (by decide) (fun x41 => ?_)
    refine sn_iconst dX11_wayBut_44 ?_
    refine sn_iald dX11_wayBut_45 (fun x45 => ?_)
    refine sn_icmp_ge (tgt := 187) dX11_wayBut_46 (by decide) ?_ ?_
    · refine sn_aload_n dX11_wayBut_187 rfl ?_
      refine sn_getA (ci := 11) (j := 22) dX11_wayBut_188 fl_X11_36 (by decide) (fun x188 => ?_)
      refine sn_iload_n dX11_wayBut_191 rfl ?_
      refine sn_iald dX11_wayBut_192 (fun x192 => ?_)
      exact sn_iret dX11_wayBut_193
    · refine sn_iconst dX11_wayBut_49 ?_
      refine sn_istore (L' := [some (aA a), none, some (aI b2), some (aI b3), some (aI v38), some (aI 0), none, none]) dX11_wayBut_50 (by decide) rfl ?_
      refine sn_lp (La := fun v52 : Int => [some (aA a), none, some (aI b2), some (aI b3), some (aI v38), some (aI v52), none, none]) ?_ n 0 μ38
      intro nx52 hnx52 v52 μ52
      refine sn_iload dX11_wayBut_52 rfl ?_
      refine sn_aload_n dX11_wayBut_54 rfl ?_
      refine sn_getA (ci := 11) (j := 1) dX11_wayBut_55 fl_X11_13 (by decide) (fun x55 => ?_)
      refine sn_iconst dX11_wayBut_58 ?_
      refine sn_iald dX11_wayBut_59 (fun x59 => ?_)
      refine sn_icmp_ge (tgt := 181) dX11_wayBut_60 (by decide) ?_ ?_
      · refine sn_iinc (L' := [some (aA a), none, some (aI b2), some (aI b3), some (aI (v38 + 1)), some (aI v52), none, none]) dX11_wayBut_181 rfl (by decide) rfl ?_
        refine sn_goto (tgt := 38) dX11_wayBut_184 (by decide) ?_
        exact sn_mask (L' := [some (aA a), none, some (aI b2), some (aI b3), some (aI (v38 + 1)), none, none, none]) [true, false, true, true, true, false, false, false] rfl (hnx38 (v38 + 1) μ52)
      · refine sn_iload dX11_wayBut_63 rfl ?_
        refine sn_iload_n dX11_wayBut_65 rfl ?_
        refine sn_icmp_eq (tgt := 175) dX11_wayBut_66 (by decide) ?_ ?_
        · refine sn_iinc (L' := [some (aA a), none, some (aI b2), some (aI b3), some (aI v38), some (aI (v52 + 1)), none, none]) dX11_wayBut_175 rfl (by decide) rfl ?_
          refine sn_goto (tgt := 52) dX11_wayBut_178 (by decide) ?_
          exact hnx52 (v52 + 1) μ52
        · refine sn_aload_n dX11_wayBut_69 rfl ?_
          refine sn_iload dX11_wayBut_70 rfl ?_
          refine sn_callVI (vs := [aI v52]) (ci := 11) (cX11_hangs_ok n a v52 μ52) dX11_wayBut_72 cw_X11_191 rfl rfl rfl (by decide) (by decide) (Nat.le_of_ble_eq_true rfl) (fun p72 => ?_)
          refine sn_if_ne (tgt := 81) dX11_wayBut_75 (by decide) ?_ ?_
          · refine sn_aload_n dX11_wayBut_81 rfl ?_
            refine sn_getA (ci := 11) (j := 1) dX11_wayBut_82 fl_X11_13 (by decide) (fun x82 => ?_)
            refine sn_bipush dX11_wayBut_85 (by decide) ?_
            refine sn_iload dX11_wayBut_87 rfl ?_
            refine sn_iadd dX11_wayBut_89 ?_
            refine sn_iald dX11_wayBut_90 (fun x90 => ?_)
            refine sn_istore (L' := [some (aA a), none, some (aI b2), some (aI b3), some (aI v38), some (aI v52), some (aI x90), none]) dX11_wayBut_91 (by decide) rfl ?_
            refine sn_aload_n dX11_wayBut_93 rfl ?_
            refine sn_getA (ci := 11) (j := 1) dX11_wayBut_94 fl_X11_13 (by decide) (fun x94 => ?_)
            refine sn_bipush dX11_wayBut_97 (by decide) ?_
            refine sn_iload dX11_wayBut_99 rfl ?_
            refine sn_iadd dX11_wayBut_101 ?_
            refine sn_iald dX11_wayBut_102 (fun x102 => ?_)
            refine sn_istore (L' := [some (aA a), none, some (aI b2), some (aI b3), some (aI v38), some (aI v52), some (aI x90), some (aI x102)]) dX11_wayBut_103 (by decide) rfl ?_
            refine sn_aload_n dX11_wayBut_105 rfl ?_
            refine sn_getA (ci := 11) (j := 22) dX11_wayBut_106 fl_X11_36 (by decide) (fun x106 => ?_)
            refine sn_iload dX11_wayBut_109 rfl ?_
            refine sn_iald dX11_wayBut_111 (fun x111 => ?_)
            refine sn_iconst dX11_wayBut_112 ?_
            refine sn_iadd dX11_wayBut_113 ?_
            refine sn_aload_n dX11_wayBut_114 rfl ?_
            refine sn_getA (ci := 11) (j := 22) dX11_wayBut_115 fl_X11_36 (by decide) (fun x115 => ?_)
            refine sn_iload dX11_wayBut_118 rfl ?_
            refine sn_iald dX11_wayBut_120 (fun x120 => ?_)
            refine sn_jn (pcj := 140) (La := fun v140 : Unit => [some (aA a), none, some (aI b2), some (aI b3), some (aI v38), some (aI v52), some (aI x90), some (aI x102)]) (Sa := fun v140 : Unit => []) ?_ ?_
            · intro v140 μ140
              refine sn_aload_n dX11_wayBut_140 rfl ?_
              refine sn_getA (ci := 11) (j := 22) dX11_wayBut_141 fl_X11_36 (by decide) (fun x141 => ?_)
              refine sn_iload dX11_wayBut_144 rfl ?_
              refine sn_iald dX11_wayBut_146 (fun x146 => ?_)
              refine sn_iconst dX11_wayBut_147 ?_
              refine sn_iadd dX11_wayBut_148 ?_
              refine sn_aload_n dX11_wayBut_149 rfl ?_
              refine sn_getA (ci := 11) (j := 22) dX11_wayBut_150 fl_X11_36 (by decide) (fun x150 => ?_)
              refine sn_iload dX11_wayBut_153 rfl ?_
              refine sn_iald dX11_wayBut_155 (fun x155 => ?_)
              refine sn_icmp_ge (tgt := 175) dX11_wayBut_156 (by decide) ?_ ?_
              · refine sn_iinc (L' := [some (aA a), none, some (aI b2), some (aI b3), some (aI v38), some (aI (v52 + 1)), some (aI x90), some (aI x102)]) dX11_wayBut_175 rfl (by decide) rfl ?_
                refine sn_goto (tgt := 52) dX11_wayBut_178 (by decide) ?_
                exact sn_mask (L' := [some (aA a), none, some (aI b2), some (aI b3), some (aI v38), some (aI (v52 + 1)), none, none]) [true, false, true, true, true, true, false, false] rfl (hnx52 (v52 + 1) μ140)
              · refine sn_aload_n dX11_wayBut_159 rfl ?_
                refine sn_getA (ci := 11) (j := 22) dX11_wayBut_160 fl_X11_36 (by decide) (fun x160 => ?_)
                refine sn_iload dX11_wayBut_163 rfl ?_
                refine sn_aload_n dX11_wayBut_165 rfl ?_
                refine sn_getA (ci := 11) (j := 22) dX11_wayBut_166 fl_X11_36 (by decide) (fun x166 => ?_)
                refine sn_iload dX11_wayBut_169 rfl ?_
                refine sn_iald dX11_wayBut_171 (fun x171 => ?_)
                refine sn_iconst dX11_wayBut_172 ?_
                refine sn_iadd dX11_wayBut_173 ?_
                refine sn_iast dX11_wayBut_174 (fun μ174 => ?_)
                refine sn_iinc (L' := [some (aA a), none, some (aI b2), some (aI b3), some (aI v38), some (aI (v52 + 1)), some (aI x90), some (aI x102)]) dX11_wayBut_175 rfl (by decide) rfl ?_
                refine sn_goto (tgt := 52) dX11_wayBut_178 (by decide) ?_
                exact sn_mask (L' := [some (aA a), none, some (aI b2), some (aI b3), some (aI v38), some (aI (v52 + 1)), none, none]) [true, false, true, true, true, true, false, false] rfl (hnx52 (v52 + 1) μ174)
            intro j140 hj140
            refine sn_icmp_ge (tgt := 140) dX11_wayBut_121 (by decide) ?_ ?_
            · exact hj140 () p72.2
            · refine sn_aload_n dX11_wayBut_124 rfl ?_
              refine sn_getA (ci := 11) (j := 22) dX11_wayBut_125 fl_X11_36 (by decide) (fun x125 => ?_)
              refine sn_iload dX11_wayBut_128 rfl ?_
              refine sn_aload_n dX11_wayBut_130 rfl ?_
              refine sn_getA (ci := 11) (j := 22) dX11_wayBut_131 fl_X11_36 (by decide) (fun x131 => ?_)
              refine sn_iload dX11_wayBut_134 rfl ?_
              refine sn_iald dX11_wayBut_136 (fun x136 => ?_)
              refine sn_iconst dX11_wayBut_137 ?_
              refine sn_iadd dX11_wayBut_138 ?_
              refine sn_iast dX11_wayBut_139 (fun μ139 => ?_)
              exact hj140 () μ139
          · refine sn_goto (tgt := 175) dX11_wayBut_78 (by decide) ?_
            refine sn_iinc (L' := [some (aA a), none, some (aI b2), some (aI b3), some (aI v38), some (aI (v52 + 1)), none, none]) dX11_wayBut_175 rfl (by decide) rfl ?_
            refine sn_goto (tgt := 52) dX11_wayBut_178 (by decide) ?_
            exact hnx52 (v52 + 1) p72.2
  · refine sn_aload_n dX11_wayBut_10 rfl ?_
    refine sn_getA (ci := 11) (j := 22) dX11_wayBut_11 fl_X11_36 (by decide) (fun x11 => ?_)
    refine sn_iload dX11_wayBut_14 rfl ?_
    refine sn_iload dX11_wayBut_16 rfl ?_
    refine sn_iload_n dX11_wayBut_18 rfl ?_
    refine sn_jn (pcj := 28) (La := fun v28 : Int => [some (aA a), some (aI b1), some (aI b2), some (aI b3), some (aI v3), none, none, none]) (Sa := fun v28 : Int => [aI v28, aI v3, aA x11]) ?_ ?_
    · intro v28 μ28
      refine sn_iast dX11_wayBut_28 (fun μ28 => ?_)
      refine sn_iinc (L' := [some (aA a), some (aI b1), some (aI b2), some (aI b3), some (aI (v3 + 1)), none, none, none]) dX11_wayBut_29 rfl (by decide) rfl ?_
      refine sn_goto (tgt := 3) dX11_wayBut_32 (by decide) ?_
      exact hnx3 (v3 + 1) μ28
    intro j28 hj28
    refine sn_icmp_ne (tgt := 26) dX11_wayBut_19 (by decide) ?_ ?_
    · refine sn_bipush dX11_wayBut_26 (by decide) ?_
      exact hj28 99 μ3
    · refine sn_iconst dX11_wayBut_22 ?_
      refine sn_goto (tgt := 28) dX11_wayBut_23 (by decide) ?_
      exact hj28 0 μ3
theorem dX11_ring_0 : decode cX11_ring 0 = .ok (.aload_n 0, 1) := by decide +kernel
theorem dX11_ring_1 : decode cX11_ring 1 = .ok (.iconst 0, 1) := by decide +kernel
theorem dX11_ring_2 : decode cX11_ring 2 = .ok (.putfield 1, 3) := by decide +kernel
theorem dX11_ring_5 : decode cX11_ring 5 = .ok (.bipush 99, 2) := by decide +kernel
theorem dX11_ring_7 : decode cX11_ring 7 = .ok (.istore_n 1, 1) := by decide +kernel
theorem dX11_ring_8 : decode cX11_ring 8 = .ok (.iconst 0, 1) := by decide +kernel
theorem dX11_ring_9 : decode cX11_ring 9 = .ok (.istore_n 2, 1) := by decide +kernel
theorem dX11_ring_10 : decode cX11_ring 10 = .ok (.iload_n 2, 1) := by decide +kernel
theorem dX11_ring_11 : decode cX11_ring 11 = .ok (.aload_n 0, 1) := by decide +kernel
theorem dX11_ring_12 : decode cX11_ring 12 = .ok (.getfield 13, 3) := by decide +kernel
theorem dX11_ring_15 : decode cX11_ring 15 = .ok (.iconst 1, 1) := by decide +kernel
theorem dX11_ring_16 : decode cX11_ring 16 = .ok (.iaload, 1) := by decide +kernel
theorem dX11_ring_17 : decode cX11_ring 17 = .ok (.if_icmp .ge 57, 3) := by decide +kernel
theorem dX11_ring_20 : decode cX11_ring 20 = .ok (.aload_n 0, 1) := by decide +kernel
theorem dX11_ring_21 : decode cX11_ring 21 = .ok (.iload_n 2, 1) := by decide +kernel
theorem dX11_ring_22 : decode cX11_ring 22 = .ok (.invokevirtual 191, 3) := by decide +kernel
theorem dX11_ring_25 : decode cX11_ring 25 = .ok (.ifCond .ne 6, 3) := by decide +kernel
theorem dX11_ring_28 : decode cX11_ring 28 = .ok (.goto 40, 3) := by decide +kernel
theorem dX11_ring_31 : decode cX11_ring 31 = .ok (.aload_n 0, 1) := by decide +kernel
theorem dX11_ring_32 : decode cX11_ring 32 = .ok (.aload_n 0, 1) := by decide +kernel
theorem dX11_ring_33 : decode cX11_ring 33 = .ok (.getfield 13, 3) := by decide +kernel
theorem dX11_ring_36 : decode cX11_ring 36 = .ok (.bipush 76, 2) := by decide +kernel
theorem dX11_ring_38 : decode cX11_ring 38 = .ok (.iload_n 2, 1) := by decide +kernel
theorem dX11_ring_39 : decode cX11_ring 39 = .ok (.iadd, 1) := by decide +kernel
theorem dX11_ring_40 : decode cX11_ring 40 = .ok (.iaload, 1) := by decide +kernel
theorem dX11_ring_41 : decode cX11_ring 41 = .ok (.aload_n 0, 1) := by decide +kernel
theorem dX11_ring_42 : decode cX11_ring 42 = .ok (.getfield 13, 3) := by decide +kernel
theorem dX11_ring_45 : decode cX11_ring 45 = .ok (.bipush 92, 2) := by decide +kernel
theorem dX11_ring_47 : decode cX11_ring 47 = .ok (.iload_n 2, 1) := by decide +kernel
theorem dX11_ring_48 : decode cX11_ring 48 = .ok (.iadd, 1) := by decide +kernel
theorem dX11_ring_49 : decode cX11_ring 49 = .ok (.iaload, 1) := by decide +kernel
theorem dX11_ring_50 : decode cX11_ring 50 = .ok (.iload_n 2, 1) := by decide +kernel
theorem dX11_ring_51 : decode cX11_ring 51 = .ok (.invokevirtual 275, 3) := by decide +kernel
theorem dX11_ring_54 : decode cX11_ring 54 = .ok (.iconst 1, 1) := by decide +kernel
theorem dX11_ring_55 : decode cX11_ring 55 = .ok (.iadd, 1) := by decide +kernel
theorem dX11_ring_56 : decode cX11_ring 56 = .ok (.istore_n 3, 1) := by decide +kernel
theorem dX11_ring_57 : decode cX11_ring 57 = .ok (.iload_n 3, 1) := by decide +kernel
theorem dX11_ring_58 : decode cX11_ring 58 = .ok (.iload_n 1, 1) := by decide +kernel
theorem dX11_ring_59 : decode cX11_ring 59 = .ok (.if_icmp .ge 7, 3) := by decide +kernel
theorem dX11_ring_62 : decode cX11_ring 62 = .ok (.iload_n 3, 1) := by decide +kernel
theorem dX11_ring_63 : decode cX11_ring 63 = .ok (.goto 4, 3) := by decide +kernel
theorem dX11_ring_66 : decode cX11_ring 66 = .ok (.iload_n 1, 1) := by decide +kernel
theorem dX11_ring_67 : decode cX11_ring 67 = .ok (.istore_n 1, 1) := by decide +kernel
theorem dX11_ring_68 : decode cX11_ring 68 = .ok (.iinc 2 1, 3) := by decide +kernel
theorem dX11_ring_71 : decode cX11_ring 71 = .ok (.goto (-61), 3) := by decide +kernel
theorem dX11_ring_74 : decode cX11_ring 74 = .ok (.iload_n 1, 1) := by decide +kernel
theorem dX11_ring_75 : decode cX11_ring 75 = .ok (.bipush 99, 2) := by decide +kernel
theorem dX11_ring_77 : decode cX11_ring 77 = .ok (.if_icmp .lt 7, 3) := by decide +kernel
theorem dX11_ring_80 : decode cX11_ring 80 = .ok (.iconst (-1), 1) := by decide +kernel
theorem dX11_ring_81 : decode cX11_ring 81 = .ok (.goto 4, 3) := by decide +kernel
theorem dX11_ring_84 : decode cX11_ring 84 = .ok (.iload_n 1, 1) := by decide +kernel
theorem dX11_ring_85 : decode cX11_ring 85 = .ok (.ireturn, 1) := by decide +kernel
def mX11_ring (n : Nat) (a : Nat) (μ : Mem) : Option (Int × Mem) :=
  (pI μ 12 a 0 0).bind fun μ2 =>
  lp (fun nx10 (v10 : Int × Int) (μ10 : Mem) =>
  (gA μ10 12 a 1).bind fun x12 =>
  (ldI μ10 0 x12 1).bind fun x16 =>
  if lt32 v10.2 x16 then
    (inv μ10 12 a (mX11_hangs n a v10.2 μ10)).bind fun p22 =>
    if eq32 p22.1 0 then
      nx10 (v10.1, (v10.2 + 1)) p22.2
    else
    (gA p22.2 12 a 1).bind fun x33 =>
    (ldI p22.2 0 x33 (76 + v10.2)).bind fun x40 =>
    (gA p22.2 12 a 1).bind fun x42 =>
    (ldI p22.2 0 x42 (92 + v10.2)).bind fun x49 =>
    (inv p22.2 12 a (mX11_wayBut n a x40 x49 v10.2 p22.2)).bind fun p51 =>
    if lt32 (p51.1 + 1) v10.1 then
      nx10 ((p51.1 + 1), (v10.2 + 1)) p51.2
    else
    nx10 (v10.1, (v10.2 + 1)) p51.2
  else
  if lt32 v10.1 99 then
    some (v10.1, μ10)
  else
  some ((-1), μ10)) n (99, 0) μ2
set_option maxRecDepth 100000 in
set_option maxHeartbeats 4000000 in
theorem cX11_ring_ok (n : Nat) (a : Nat) (μ : Mem) : Mc yX11_ring cX11_ring 4 (some .int) 2 48 eI [aA a] μ (mX11_ring n a μ) := by
  refine mc_of (L0 := [some (aA a), none, none, none]) (k := 3) (by decide) rfl rfl (fun X Γ => ?_)
  unfold mX11_ring
  refine sn_aload_n dX11_ring_0 rfl ?_
  refine sn_iconst dX11_ring_1 ?_
  refine sn_putI (ci := 11) (j := 0) dX11_ring_2 fl_X11_1 rfl (fun q h => by cases h; rfl) (fun μ2 => ?_)
  refine sn_bipush dX11_ring_5 (by decide) ?_
  refine sn_istore_n (L' := [some (aA a), some (aI 99), none, none]) dX11_ring_7 (by decide) rfl ?_
  refine sn_iconst dX11_ring_8 ?_
  refine sn_istore_n (L' := [some (aA a), some (aI 99), some (aI 0), none]) dX11_ring_9 (by decide) rfl ?_
  refine sn_lp (La := fun v10 : Int × Int => [some (aA a), some (aI v10.1), some (aI v10.2), none]) ?_ n (99, 0) μ2
  intro nx10 hnx10 v10 μ10
  refine sn_iload_n dX11_ring_10 rfl ?_
  refine sn_aload_n dX11_ring_11 rfl ?_
  refine sn_getA (ci := 11) (j := 1) dX11_ring_12 fl_X11_13 (by decide) (fun x12 => ?_)
  refine sn_iconst dX11_ring_15 ?_
  refine sn_iald dX11_ring_16 (fun x16 => ?_)
  refine sn_icmp_ge (tgt := 74) dX11_ring_17 (by decide) ?_ ?_
  · refine sn_iload_n dX11_ring_74 rfl ?_
    refine sn_bipush dX11_ring_75 (by decide) ?_
    refine sn_icmp_lt (tgt := 84) dX11_ring_77 (by decide) ?_ ?_
    · refine sn_iload_n dX11_ring_84 rfl ?_
      exact sn_iret dX11_ring_85
    · refine sn_iconst dX11_ring_80 ?_
      refine sn_goto (tgt := 85) dX11_ring_81 (by decide) ?_
      exact sn_iret dX11_ring_85
  · refine sn_aload_n dX11_ring_20 rfl ?_
    refine sn_iload_n dX11_ring_21 rfl ?_
    refine sn_callVI (vs := [aI v10.2]) (ci := 11) (cX11_hangs_ok n a v10.2 μ10) dX11_ring_22 cw_X11_191 rfl rfl rfl (by decide) (by decide) (Nat.le_of_ble_eq_true rfl) (fun p22 => ?_)
    refine sn_if_ne (tgt := 31) dX11_ring_25 (by decide) ?_ ?_
    · refine sn_aload_n dX11_ring_31 rfl ?_
      refine sn_aload_n dX11_ring_32 rfl ?_
      refine sn_getA (ci := 11) (j := 1) dX11_ring_33 fl_X11_13 (by decide) (fun x33 => ?_)
      refine sn_bipush dX11_ring_36 (by decide) ?_
      refine sn_iload_n dX11_ring_38 rfl ?_
      refine sn_iadd dX11_ring_39 ?_
      refine sn_iald dX11_ring_40 (fun x40 => ?_)
      refine sn_aload_n dX11_ring_41 rfl ?_
      refine sn_getA (ci := 11) (j := 1) dX11_ring_42 fl_X11_13 (by decide) (fun x42 => ?_)
      refine sn_bipush dX11_ring_45 (by decide) ?_
      refine sn_iload_n dX11_ring_47 rfl ?_
      refine sn_iadd dX11_ring_48 ?_
      refine sn_iald dX11_ring_49 (fun x49 => ?_)
      refine sn_iload_n dX11_ring_50 rfl ?_
      refine sn_callVI (vs := [aI x40, aI x49, aI v10.2]) (ci := 11) (cX11_wayBut_ok n a x40 x49 v10.2 p22.2) dX11_ring_51 cw_X11_275 rfl rfl rfl (by decide) (by decide) (Nat.le_of_ble_eq_true rfl) (fun p51 => ?_)
      refine sn_iconst dX11_ring_54 ?_
      refine sn_iadd dX11_ring_55 ?_
      refine sn_istore_n (L' := [some (aA a), some (aI v10.1), some (aI v10.2), some (aI (p51.1 + 1))]) dX11_ring_56 (by decide) rfl ?_
      refine sn_iload_n dX11_ring_57 rfl ?_
      refine sn_iload_n dX11_ring_58 rfl ?_
      refine sn_icmp_ge (tgt := 66) dX11_ring_59 (by decide) ?_ ?_
      · refine sn_iload_n dX11_ring_66 rfl ?_
        refine sn_istore_n (L' := [some (aA a), some (aI v10.1), some (aI v10.2), some (aI (p51.1 + 1))]) dX11_ring_67 (by decide) rfl ?_
        refine sn_iinc (L' := [some (aA a), some (aI v10.1), some (aI (v10.2 + 1)), some (aI (p51.1 + 1))]) dX11_ring_68 rfl (by decide) rfl ?_
        refine sn_goto (tgt := 10) dX11_ring_71 (by decide) ?_
        exact sn_mask (L' := [some (aA a), some (aI v10.1), some (aI (v10.2 + 1)), none]) [true, true, true, false] rfl (hnx10 (v10.1, (v10.2 + 1)) p51.2)
      · refine sn_iload_n dX11_ring_62 rfl ?_
        refine sn_goto (tgt := 67) dX11_ring_63 (by decide) ?_
        refine sn_istore_n (L' := [some (aA a), some (aI (p51.1 + 1)), some (aI v10.2), some (aI (p51.1 + 1))]) dX11_ring_67 (by decide) rfl ?_
        refine sn_iinc (L' := [some (aA a), some (aI (p51.1 + 1)), some (aI (v10.2 + 1)), some (aI (p51.1 + 1))]) dX11_ring_68 rfl (by decide) rfl ?_
        refine sn_goto (tgt := 10) dX11_ring_71 (by decide) ?_
        exact sn_mask (L' := [some (aA a), some (aI (p51.1 + 1)), some (aI (v10.2 + 1)), none]) [true, true, true, false] rfl (hnx10 ((p51.1 + 1), (v10.2 + 1)) p51.2)
    · refine sn_goto (tgt := 68) dX11_ring_28 (by decide) ?_
      refine sn_iinc (L' := [some (aA a), some (aI v10.1), some (aI (v10.2 + 1)), none]) dX11_ring_68 rfl (by decide) rfl ?_
      refine sn_goto (tgt := 10) dX11_ring_71 (by decide) ?_
      exact hnx10 (v10.1, (v10.2 + 1)) p22.2
theorem dX11_rope_0 : decode cX11_rope 0 = .ok (.aload_n 0, 1) := by decide +kernel
theorem dX11_rope_1 : decode cX11_rope 1 = .ok (.iconst 0, 1) := by decide +kernel
theorem dX11_rope_2 : decode cX11_rope 2 = .ok (.putfield 1, 3) := by decide +kernel
theorem dX11_rope_5 : decode cX11_rope 5 = .ok (.aload_n 0, 1) := by decide +kernel
theorem dX11_rope_6 : decode cX11_rope 6 = .ok (.iload_n 1, 1) := by decide +kernel
theorem dX11_rope_7 : decode cX11_rope 7 = .ok (.i2l, 1) := by decide +kernel
theorem dX11_rope_8 : decode cX11_rope 8 = .ok (.invokevirtual 179, 3) := by decide +kernel
theorem dX11_rope_11 : decode cX11_rope 11 = .ok (.ifCond .ne 6, 3) := by decide +kernel
theorem dX11_rope_14 : decode cX11_rope 14 = .ok (.bipush (-2), 2) := by decide +kernel
theorem dX11_rope_16 : decode cX11_rope 16 = .ok (.ireturn, 1) := by decide +kernel
theorem dX11_rope_17 : decode cX11_rope 17 = .ok (.iload_n 2, 1) := by decide +kernel
theorem dX11_rope_18 : decode cX11_rope 18 = .ok (.tableswitch 145 0 9 #[54, 64, 74, 84, 91, 98, 109, 120, 127, 134], 54) := by decide +kernel
theorem dX11_rope_72 : decode cX11_rope 72 = .ok (.aload_n 0, 1) := by decide +kernel
theorem dX11_rope_73 : decode cX11_rope 73 = .ok (.getfield 13, 3) := by decide +kernel
theorem dX11_rope_76 : decode cX11_rope 76 = .ok (.bipush 76, 2) := by decide +kernel
theorem dX11_rope_78 : decode cX11_rope 78 = .ok (.iload_n 1, 1) := by decide +kernel
theorem dX11_rope_79 : decode cX11_rope 79 = .ok (.iadd, 1) := by decide +kernel
theorem dX11_rope_80 : decode cX11_rope 80 = .ok (.iaload, 1) := by decide +kernel
theorem dX11_rope_81 : decode cX11_rope 81 = .ok (.ireturn, 1) := by decide +kernel
theorem dX11_rope_82 : decode cX11_rope 82 = .ok (.aload_n 0, 1) := by decide +kernel
theorem dX11_rope_83 : decode cX11_rope 83 = .ok (.getfield 13, 3) := by decide +kernel
theorem dX11_rope_86 : decode cX11_rope 86 = .ok (.bipush 92, 2) := by decide +kernel
theorem dX11_rope_88 : decode cX11_rope 88 = .ok (.iload_n 1, 1) := by decide +kernel
theorem dX11_rope_89 : decode cX11_rope 89 = .ok (.iadd, 1) := by decide +kernel
theorem dX11_rope_90 : decode cX11_rope 90 = .ok (.iaload, 1) := by decide +kernel
theorem dX11_rope_91 : decode cX11_rope 91 = .ok (.ireturn, 1) := by decide +kernel
theorem dX11_rope_92 : decode cX11_rope 92 = .ok (.aload_n 0, 1) := by decide +kernel
theorem dX11_rope_93 : decode cX11_rope 93 = .ok (.getfield 13, 3) := by decide +kernel
theorem dX11_rope_96 : decode cX11_rope 96 = .ok (.bipush 108, 2) := by decide +kernel
theorem dX11_rope_98 : decode cX11_rope 98 = .ok (.iload_n 1, 1) := by decide +kernel
theorem dX11_rope_99 : decode cX11_rope 99 = .ok (.iadd, 1) := by decide +kernel
theorem dX11_rope_100 : decode cX11_rope 100 = .ok (.iaload, 1) := by decide +kernel
theorem dX11_rope_101 : decode cX11_rope 101 = .ok (.ireturn, 1) := by decide +kernel
theorem dX11_rope_102 : decode cX11_rope 102 = .ok (.aload_n 0, 1) := by decide +kernel
theorem dX11_rope_103 : decode cX11_rope 103 = .ok (.iload_n 1, 1) := by decide +kernel
theorem dX11_rope_104 : decode cX11_rope 104 = .ok (.iconst 0, 1) := by decide +kernel
theorem dX11_rope_105 : decode cX11_rope 105 = .ok (.invokevirtual 182, 3) := by decide +kernel
theorem dX11_rope_108 : decode cX11_rope 108 = .ok (.ireturn, 1) := by decide +kernel
theorem dX11_rope_109 : decode cX11_rope 109 = .ok (.aload_n 0, 1) := by decide +kernel
theorem dX11_rope_110 : decode cX11_rope 110 = .ok (.iload_n 1, 1) := by decide +kernel
theorem dX11_rope_111 : decode cX11_rope 111 = .ok (.iconst 1, 1) := by decide +kernel
theorem dX11_rope_112 : decode cX11_rope 112 = .ok (.invokevirtual 182, 3) := by decide +kernel
theorem dX11_rope_115 : decode cX11_rope 115 = .ok (.ireturn, 1) := by decide +kernel
theorem dX11_rope_116 : decode cX11_rope 116 = .ok (.aload_n 0, 1) := by decide +kernel
theorem dX11_rope_117 : decode cX11_rope 117 = .ok (.getfield 13, 3) := by decide +kernel
theorem dX11_rope_120 : decode cX11_rope 120 = .ok (.sipush 172, 3) := by decide +kernel
theorem dX11_rope_123 : decode cX11_rope 123 = .ok (.iload_n 1, 1) := by decide +kernel
theorem dX11_rope_124 : decode cX11_rope 124 = .ok (.iadd, 1) := by decide +kernel
theorem dX11_rope_125 : decode cX11_rope 125 = .ok (.iaload, 1) := by decide +kernel
theorem dX11_rope_126 : decode cX11_rope 126 = .ok (.ireturn, 1) := by decide +kernel
theorem dX11_rope_127 : decode cX11_rope 127 = .ok (.aload_n 0, 1) := by decide +kernel
theorem dX11_rope_128 : decode cX11_rope 128 = .ok (.getfield 13, 3) := by decide +kernel
theorem dX11_rope_131 : decode cX11_rope 131 = .ok (.sipush 188, 3) := by decide +kernel
theorem dX11_rope_134 : decode cX11_rope 134 = .ok (.iload_n 1, 1) := by decide +kernel
theorem dX11_rope_135 : decode cX11_rope 135 = .ok (.iadd, 1) := by decide +kernel
theorem dX11_rope_136 : decode cX11_rope 136 = .ok (.iaload, 1) := by decide +kernel
theorem dX11_rope_137 : decode cX11_rope 137 = .ok (.ireturn, 1) := by decide +kernel
theorem dX11_rope_138 : decode cX11_rope 138 = .ok (.aload_n 0, 1) := by decide +kernel
theorem dX11_rope_139 : decode cX11_rope 139 = .ok (.iload_n 1, 1) := by decide +kernel
theorem dX11_rope_140 : decode cX11_rope 140 = .ok (.iconst 0, 1) := by decide +kernel
theorem dX11_rope_141 : decode cX11_rope 141 = .ok (.invokevirtual 185, 3) := by decide +kernel
theorem dX11_rope_144 : decode cX11_rope 144 = .ok (.ireturn, 1) := by decide +kernel
theorem dX11_rope_145 : decode cX11_rope 145 = .ok (.aload_n 0, 1) := by decide +kernel
theorem dX11_rope_146 : decode cX11_rope 146 = .ok (.iload_n 1, 1) := by decide +kernel
theorem dX11_rope_147 : decode cX11_rope 147 = .ok (.iconst 1, 1) := by decide +kernel
theorem dX11_rope_148 : decode cX11_rope 148 = .ok (.invokevirtual 185, 3) := by decide +kernel
theorem dX11_rope_151 : decode cX11_rope 151 = .ok (.ireturn, 1) := by decide +kernel
theorem dX11_rope_152 : decode cX11_rope 152 = .ok (.aload_n 0, 1) := by decide +kernel
theorem dX11_rope_153 : decode cX11_rope 153 = .ok (.getfield 13, 3) := by decide +kernel
theorem dX11_rope_156 : decode cX11_rope 156 = .ok (.sipush 204, 3) := by decide +kernel
theorem dX11_rope_159 : decode cX11_rope 159 = .ok (.iload_n 1, 1) := by decide +kernel
theorem dX11_rope_160 : decode cX11_rope 160 = .ok (.iadd, 1) := by decide +kernel
theorem dX11_rope_161 : decode cX11_rope 161 = .ok (.iaload, 1) := by decide +kernel
theorem dX11_rope_162 : decode cX11_rope 162 = .ok (.ireturn, 1) := by decide +kernel
theorem dX11_rope_163 : decode cX11_rope 163 = .ok (.bipush (-2), 2) := by decide +kernel
theorem dX11_rope_165 : decode cX11_rope 165 = .ok (.ireturn, 1) := by decide +kernel
def mX11_rope (n : Nat) (a : Nat) (b1 : Int) (b2 : Int) (μ : Mem) : Option (Int × Mem) :=
  (pI μ 12 a 0 0).bind fun μ2 =>
  (inv μ2 12 a (mX11_isRope n a (oI2l b1) μ2)).bind fun p8 =>
  if eq32 p8.1 0 then
    some ((-2), p8.2)
  else
  if eq32 b2 0 then
    (gA p8.2 12 a 1).bind fun x73 =>
    (ldI p8.2 0 x73 (76 + b1)).bind fun x80 =>
    some (x80, p8.2)
  else
  if eq32 b2 1 then
    (gA p8.2 12 a 1).bind fun x83 =>
    (ldI p8.2 0 x83 (92 + b1)).bind fun x90 =>
    some (x90, p8.2)
  else
  if eq32 b2 2 then
    (gA p8.2 12 a 1).bind fun x93 =>
    (ldI p8.2 0 x93 (108 + b1)).bind fun x100 =>
    some (x100, p8.2)
  else
  if eq32 b2 3 then
    (inv p8.2 12 a (mX11_depth n a b1 0 p8.2)).bind fun p105 =>
    some (p105.1, p105.2)
  else
  if eq32 b2 4 then
    (inv p8.2 12 a (mX11_depth n a b1 1 p8.2)).bind fun p112 =>
    some (p112.1, p112.2)
  else
  if eq32 b2 5 then
    (gA p8.2 12 a 1).bind fun x117 =>
    (ldI p8.2 0 x117 (172 + b1)).bind fun x125 =>
    some (x125, p8.2)
  else
  if eq32 b2 6 then
    (gA p8.2 12 a 1).bind fun x128 =>
    (ldI p8.2 0 x128 (188 + b1)).bind fun x136 =>
    some (x136, p8.2)
  else
  if eq32 b2 7 then
    (inv p8.2 12 a (mX11_weight n a b1 0 p8.2)).bind fun p141 =>
    some (p141.1, p141.2)
  else
  if eq32 b2 8 then
    (inv p8.2 12 a (mX11_weight n a b1 1 p8.2)).bind fun p148 =>
    some (p148.1, p148.2)
  else
  if eq32 b2 9 then
    (gA p8.2 12 a 1).bind fun x153 =>
    (ldI p8.2 0 x153 (204 + b1)).bind fun x161 =>
    some (x161, p8.2)
  else
  some ((-2), p8.2)
set_option maxRecDepth 100000 in
set_option maxHeartbeats 4000000 in
theorem cX11_rope_ok (n : Nat) (a : Nat) (b1 : Int) (b2 : Int) (μ : Mem) : Mc yX11_rope cX11_rope 3 (some .int) 2 47 eI [aA a, aI b1, aI b2] μ (mX11_rope n a b1 b2 μ) := by
  refine mc_of (L0 := [some (aA a), some (aI b1), some (aI b2)]) (k := 0) (by decide) rfl rfl (fun X Γ => ?_)
  unfold mX11_rope
  refine sn_aload_n dX11_rope_0 rfl ?_
  refine sn_iconst dX11_rope_1 ?_
  refine sn_putI (ci := 11) (j := 0) dX11_rope_2 fl_X11_1 rfl (fun q h => by cases h; rfl) (fun μ2 => ?_)
  refine sn_aload_n dX11_rope_5 rfl ?_
  refine sn_iload_n dX11_rope_6 rfl ?_
  refine sn_i2l dX11_rope_7 ?_
  refine sn_callVI (vs := [aJ (oI2l b1)]) (ci := 11) (cX11_isRope_ok n a (oI2l b1) μ2) dX11_rope_8 cw_X11_179 rfl rfl rfl (by decide) (by decide) (Nat.le_of_ble_eq_true rfl) (fun p8 => ?_)
  refine sn_if_ne (tgt := 17) dX11_rope_11 (by decide) ?_ ?_
  · refine sn_iload_n dX11_rope_17 rfl ?_
    refine sn_ite (fun c18_0 => ?_) (fun c18_0 => ?_)
    · refine sn_swIn (k := 0) (off := 54) (tgt := 72) dX11_rope_18 c18_0 (by decide) (by decide) rfl (by decide) ?_
      refine sn_aload_n dX11_rope_72 rfl ?_
      refine sn_getA (ci := 11) (j := 1) dX11_rope_73 fl_X11_13 (by decide) (fun x73 => ?_)
      refine sn_bipush dX11_rope_76 (by decide) ?_
      refine sn_iload_n dX11_rope_78 rfl ?_
      refine sn_iadd dX11_rope_79 ?_
      refine sn_iald dX11_rope_80 (fun x80 => ?_)
      exact sn_iret dX11_rope_81
    refine sn_ite (fun c18_1 => ?_) (fun c18_1 => ?_)
    · refine sn_swIn (k := 1) (off := 64) (tgt := 82) dX11_rope_18 c18_1 (by decide) (by decide) rfl (by decide) ?_
      refine sn_aload_n dX11_rope_82 rfl ?_
      refine sn_getA (ci := 11) (j := 1) dX11_rope_83 fl_X11_13 (by decide) (fun x83 => ?_)
      refine sn_bipush dX11_rope_86 (by decide) ?_
      refine sn_iload_n dX11_rope_88 rfl ?_
      refine sn_iadd dX11_rope_89 ?_
      refine sn_iald dX11_rope_90 (fun x90 => ?_)
      exact sn_iret dX11_rope_91
    refine sn_ite (fun c18_2 => ?_) (fun c18_2 => ?_)
    · refine sn_swIn (k := 2) (off := 74) (tgt := 92) dX11_rope_18 c18_2 (by decide) (by decide) rfl (by decide) ?_
      refine sn_aload_n dX11_rope_92 rfl ?_
      refine sn_getA (ci := 11) (j := 1) dX11_rope_93 fl_X11_13 (by decide) (fun x93 => ?_)
      refine sn_bipush dX11_rope_96 (by decide) ?_
      refine sn_iload_n dX11_rope_98 rfl ?_
      refine sn_iadd dX11_rope_99 ?_
      refine sn_iald dX11_rope_100 (fun x100 => ?_)
      exact sn_iret dX11_rope_101
    refine sn_ite (fun c18_3 => ?_) (fun c18_3 => ?_)
    · refine sn_swIn (k := 3) (off := 84) (tgt := 102) dX11_rope_18 c18_3 (by decide) (by decide) rfl (by decide) ?_
      refine sn_aload_n dX11_rope_102 rfl ?_
      refine sn_iload_n dX11_rope_103 rfl ?_
      refine sn_iconst dX11_rope_104 ?_
      refine sn_callVI (vs := [aI b1, aI 0]) (ci := 11) (cX11_depth_ok n a b1 0 p8.2) dX11_rope_105 cw_X11_182 rfl rfl rfl (by decide) (by decide) (Nat.le_of_ble_eq_true rfl) (fun p105 => ?_)
      exact sn_iret dX11_rope_108
    refine sn_ite (fun c18_4 => ?_) (fun c18_4 => ?_)
    · refine sn_swIn (k := 4) (off := 91) (tgt := 109) dX11_rope_18 c18_4 (by decide) (by decide) rfl (by decide) ?_
      refine sn_aload_n dX11_rope_109 rfl ?_
      refine sn_iload_n dX11_rope_110 rfl ?_
      refine sn_iconst dX11_rope_111 ?_
      refine sn_callVI (vs := [aI b1, aI 1]) (ci := 11) (cX11_depth_ok n a b1 1 p8.2) dX11_rope_112 cw_X11_182 rfl rfl rfl (by decide) (by decide) (Nat.le_of_ble_eq_true rfl) (fun p112 => ?_)
      exact sn_iret dX11_rope_115
    refine sn_ite (fun c18_5 => ?_) (fun c18_5 => ?_)
    · refine sn_swIn (k := 5) (off := 98) (tgt := 116) dX11_rope_18 c18_5 (by decide) (by decide) rfl (by decide) ?_
      refine sn_aload_n dX11_rope_116 rfl ?_
      refine sn_getA (ci := 11) (j := 1) dX11_rope_117 fl_X11_13 (by decide) (fun x117 => ?_)
      refine sn_sipush dX11_rope_120 (by decide) ?_
      refine sn_iload_n dX11_rope_123 rfl ?_
      refine sn_iadd dX11_rope_124 ?_
      refine sn_iald dX11_rope_125 (fun x125 => ?_)
      exact sn_iret dX11_rope_126
    refine sn_ite (fun c18_6 => ?_) (fun c18_6 => ?_)
    · refine sn_swIn (k := 6) (off := 109) (tgt := 127) dX11_rope_18 c18_6 (by decide) (by decide) rfl (by decide) ?_
      refine sn_aload_n dX11_rope_127 rfl ?_
      refine sn_getA (ci := 11) (j := 1) dX11_rope_128 fl_X11_13 (by decide) (fun x128 => ?_)
      refine sn_sipush dX11_rope_131 (by decide) ?_
      refine sn_iload_n dX11_rope_134 rfl ?_
      refine sn_iadd dX11_rope_135 ?_
      refine sn_iald dX11_rope_136 (fun x136 => ?_)
      exact sn_iret dX11_rope_137
    refine sn_ite (fun c18_7 => ?_) (fun c18_7 => ?_)
    · refine sn_swIn (k := 7) (off := 120) (tgt := 138) dX11_rope_18 c18_7 (by decide) (by decide) rfl (by decide) ?_
      refine sn_aload_n dX11_rope_138 rfl ?_
      refine sn_iload_n dX11_rope_139 rfl ?_
      refine sn_iconst dX11_rope_140 ?_
      refine sn_callVI (vs := [aI b1, aI 0]) (ci := 11) (cX11_weight_ok n a b1 0 p8.2) dX11_rope_141 cw_X11_185 rfl rfl rfl (by decide) (by decide) (Nat.le_of_ble_eq_true rfl) (fun p141 => ?_)
      exact sn_iret dX11_rope_144
    refine sn_ite (fun c18_8 => ?_) (fun c18_8 => ?_)
    · refine sn_swIn (k := 8) (off := 127) (tgt := 145) dX11_rope_18 c18_8 (by decide) (by decide) rfl (by decide) ?_
      refine sn_aload_n dX11_rope_145 rfl ?_
      refine sn_iload_n dX11_rope_146 rfl ?_
      refine sn_iconst dX11_rope_147 ?_
      refine sn_callVI (vs := [aI b1, aI 1]) (ci := 11) (cX11_weight_ok n a b1 1 p8.2) dX11_rope_148 cw_X11_185 rfl rfl rfl (by decide) (by decide) (Nat.le_of_ble_eq_true rfl) (fun p148 => ?_)
      exact sn_iret dX11_rope_151
    refine sn_ite (fun c18_9 => ?_) (fun c18_9 => ?_)
    · refine sn_swIn (k := 9) (off := 134) (tgt := 152) dX11_rope_18 c18_9 (by decide) (by decide) rfl (by decide) ?_
      refine sn_aload_n dX11_rope_152 rfl ?_
      refine sn_getA (ci := 11) (j := 1) dX11_rope_153 fl_X11_13 (by decide) (fun x153 => ?_)
      refine sn_sipush dX11_rope_156 (by decide) ?_
      refine sn_iload_n dX11_rope_159 rfl ?_
      refine sn_iadd dX11_rope_160 ?_
      refine sn_iald dX11_rope_161 (fun x161 => ?_)
      exact sn_iret dX11_rope_162
    refine sn_swOut (tgt := 163) dX11_rope_18 (by have e0 := sw_ne c18_0 (by decide); have e1 := sw_ne c18_1 (by decide); have e2 := sw_ne c18_2 (by decide); have e3 := sw_ne c18_3 (by decide); have e4 := sw_ne c18_4 (by decide); have e5 := sw_ne c18_5 (by decide); have e6 := sw_ne c18_6 (by decide); have e7 := sw_ne c18_7 (by decide); have e8 := sw_ne c18_8 (by decide); have e9 := sw_ne c18_9 (by decide); omega) (by decide) ?_
    refine sn_bipush dX11_rope_163 (by decide) ?_
    exact sn_iret dX11_rope_165
  · refine sn_bipush dX11_rope_14 (by decide) ?_
    exact sn_iret dX11_rope_16
theorem dX11_seen_0 : decode cX11_seen 0 = .ok (.aload_n 0, 1) := by decide +kernel
theorem dX11_seen_1 : decode cX11_seen 1 = .ok (.iconst 0, 1) := by decide +kernel
theorem dX11_seen_2 : decode cX11_seen 2 = .ok (.putfield 1, 3) := by decide +kernel
theorem dX11_seen_5 : decode cX11_seen 5 = .ok (.aload_n 0, 1) := by decide +kernel
theorem dX11_seen_6 : decode cX11_seen 6 = .ok (.iload_n 1, 1) := by decide +kernel
theorem dX11_seen_7 : decode cX11_seen 7 = .ok (.invokevirtual 367, 3) := by decide +kernel
theorem dX11_seen_10 : decode cX11_seen 10 = .ok (.istore_n 2, 1) := by decide +kernel
theorem dX11_seen_11 : decode cX11_seen 11 = .ok (.iload_n 2, 1) := by decide +kernel
theorem dX11_seen_12 : decode cX11_seen 12 = .ok (.ifCond .eq 7, 3) := by decide +kernel
theorem dX11_seen_15 : decode cX11_seen 15 = .ok (.iload_n 2, 1) := by decide +kernel
theorem dX11_seen_16 : decode cX11_seen 16 = .ok (.goto 8, 3) := by decide +kernel
theorem dX11_seen_19 : decode cX11_seen 19 = .ok (.aload_n 0, 1) := by decide +kernel
theorem dX11_seen_20 : decode cX11_seen 20 = .ok (.iload_n 1, 1) := by decide +kernel
theorem dX11_seen_21 : decode cX11_seen 21 = .ok (.invokevirtual 370, 3) := by decide +kernel
theorem dX11_seen_24 : decode cX11_seen 24 = .ok (.ireturn, 1) := by decide +kernel
def mX11_seen (n : Nat) (a : Nat) (b1 : Int) (μ : Mem) : Option (Int × Mem) :=
  (pI μ 12 a 0 0).bind fun μ2 =>
  (inv μ2 12 a (mX11_refusesSeen n a b1 μ2)).bind fun p7 =>
  if eq32 p7.1 0 then
    (inv p7.2 12 a (mX11_laysSeen n a b1 p7.2)).bind fun p21 =>
    some (p21.1, p21.2)
  else
  some (p7.1, p7.2)
set_option maxRecDepth 100000 in
set_option maxHeartbeats 4000000 in
theorem cX11_seen_ok (n : Nat) (a : Nat) (b1 : Int) (μ : Mem) : Mc yX11_seen cX11_seen 3 (some .int) 26 621 eI [aA a, aI b1] μ (mX11_seen n a b1 μ) := by
  refine mc_of (L0 := [some (aA a), some (aI b1), none]) (k := 1) (by decide) rfl rfl (fun X Γ => ?_)
  unfold mX11_seen
  refine sn_aload_n dX11_seen_0 rfl ?_
  refine sn_iconst dX11_seen_1 ?_
  refine sn_putI (ci := 11) (j := 0) dX11_seen_2 fl_X11_1 rfl (fun q h => by cases h; rfl) (fun μ2 => ?_)
  refine sn_aload_n dX11_seen_5 rfl ?_
  refine sn_iload_n dX11_seen_6 rfl ?_
  refine sn_callVI (vs := [aI b1]) (ci := 11) (cX11_refusesSeen_ok n a b1 μ2) dX11_seen_7 cw_X11_367 rfl rfl rfl (by decide) (by decide) (Nat.le_of_ble_eq_true rfl) (fun p7 => ?_)
  refine sn_istore_n (L' := [some (aA a), some (aI b1), some (aI p7.1)]) dX11_seen_10 (by decide) rfl ?_
  refine sn_iload_n dX11_seen_11 rfl ?_
  refine sn_if_eq (tgt := 19) dX11_seen_12 (by decide) ?_ ?_
  · refine sn_aload_n dX11_seen_19 rfl ?_
    refine sn_iload_n dX11_seen_20 rfl ?_
    refine sn_callVI (vs := [aI b1]) (ci := 11) (cX11_laysSeen_ok n a b1 p7.2) dX11_seen_21 cw_X11_370 rfl rfl rfl (by decide) (by decide) (Nat.le_of_ble_eq_true rfl) (fun p21 => ?_)
    exact sn_iret dX11_seen_24
  · refine sn_iload_n dX11_seen_15 rfl ?_
    refine sn_goto (tgt := 24) dX11_seen_16 (by decide) ?_
    exact sn_iret dX11_seen_24
theorem dX11_severs_0 : decode cX11_severs 0 = .ok (.aload_n 0, 1) := by decide +kernel
theorem dX11_severs_1 : decode cX11_severs 1 = .ok (.iconst 0, 1) := by decide +kernel
theorem dX11_severs_2 : decode cX11_severs 2 = .ok (.putfield 1, 3) := by decide +kernel
theorem dX11_severs_5 : decode cX11_severs 5 = .ok (.aload_n 0, 1) := by decide +kernel
theorem dX11_severs_6 : decode cX11_severs 6 = .ok (.iload_n 1, 1) := by decide +kernel
theorem dX11_severs_7 : decode cX11_severs 7 = .ok (.i2l, 1) := by decide +kernel
theorem dX11_severs_8 : decode cX11_severs 8 = .ok (.invokevirtual 179, 3) := by decide +kernel
theorem dX11_severs_11 : decode cX11_severs 11 = .ok (.ifCond .ne 6, 3) := by decide +kernel
theorem dX11_severs_14 : decode cX11_severs 14 = .ok (.bipush (-2), 2) := by decide +kernel
theorem dX11_severs_16 : decode cX11_severs 16 = .ok (.ireturn, 1) := by decide +kernel
theorem dX11_severs_17 : decode cX11_severs 17 = .ok (.aload_n 0, 1) := by decide +kernel
theorem dX11_severs_18 : decode cX11_severs 18 = .ok (.iload_n 1, 1) := by decide +kernel
theorem dX11_severs_19 : decode cX11_severs 19 = .ok (.invokevirtual 191, 3) := by decide +kernel
theorem dX11_severs_22 : decode cX11_severs 22 = .ok (.ifCond .ne 6, 3) := by decide +kernel
theorem dX11_severs_25 : decode cX11_severs 25 = .ok (.bipush (-5), 2) := by decide +kernel
theorem dX11_severs_27 : decode cX11_severs 27 = .ok (.ireturn, 1) := by decide +kernel
theorem dX11_severs_28 : decode cX11_severs 28 = .ok (.aload_n 0, 1) := by decide +kernel
theorem dX11_severs_29 : decode cX11_severs 29 = .ok (.aload_n 0, 1) := by decide +kernel
theorem dX11_severs_30 : decode cX11_severs 30 = .ok (.aload_n 0, 1) := by decide +kernel
theorem dX11_severs_31 : decode cX11_severs 31 = .ok (.getfield 13, 3) := by decide +kernel
theorem dX11_severs_34 : decode cX11_severs 34 = .ok (.bipush 76, 2) := by decide +kernel
theorem dX11_severs_36 : decode cX11_severs 36 = .ok (.iload_n 1, 1) := by decide +kernel
theorem dX11_severs_37 : decode cX11_severs 37 = .ok (.iadd, 1) := by decide +kernel
theorem dX11_severs_38 : decode cX11_severs 38 = .ok (.iaload, 1) := by decide +kernel
theorem dX11_severs_39 : decode cX11_severs 39 = .ok (.iload_n 1, 1) := by decide +kernel
theorem dX11_severs_40 : decode cX11_severs 40 = .ok (.invokevirtual 279, 3) := by decide +kernel
theorem dX11_severs_43 : decode cX11_severs 43 = .ok (.aload_n 0, 1) := by decide +kernel
theorem dX11_severs_44 : decode cX11_severs 44 = .ok (.getfield 13, 3) := by decide +kernel
theorem dX11_severs_47 : decode cX11_severs 47 = .ok (.bipush 92, 2) := by decide +kernel
theorem dX11_severs_49 : decode cX11_severs 49 = .ok (.iload_n 1, 1) := by decide +kernel
theorem dX11_severs_50 : decode cX11_severs 50 = .ok (.iadd, 1) := by decide +kernel
theorem dX11_severs_51 : decode cX11_severs 51 = .ok (.iaload, 1) := by decide +kernel
theorem dX11_severs_52 : decode cX11_severs 52 = .ok (.invokevirtual 272, 3) := by decide +kernel
theorem dX11_severs_55 : decode cX11_severs 55 = .ok (.ifCond .eq 7, 3) := by decide +kernel
theorem dX11_severs_58 : decode cX11_severs 58 = .ok (.iconst 0, 1) := by decide +kernel
theorem dX11_severs_59 : decode cX11_severs 59 = .ok (.goto 4, 3) := by decide +kernel
theorem dX11_severs_62 : decode cX11_severs 62 = .ok (.iconst 1, 1) := by decide +kernel
theorem dX11_severs_63 : decode cX11_severs 63 = .ok (.ireturn, 1) := by decide +kernel
def mX11_severs (n : Nat) (a : Nat) (b1 : Int) (μ : Mem) : Option (Int × Mem) :=
  (pI μ 12 a 0 0).bind fun μ2 =>
  (inv μ2 12 a (mX11_isRope n a (oI2l b1) μ2)).bind fun p8 =>
  if eq32 p8.1 0 then
    some ((-2), p8.2)
  else
  (inv p8.2 12 a (mX11_hangs n a b1 p8.2)).bind fun p19 =>
  if eq32 p19.1 0 then
    some ((-5), p19.2)
  else
  (gA p19.2 12 a 1).bind fun x31 =>
  (ldI p19.2 0 x31 (76 + b1)).bind fun x38 =>
  (inv p19.2 12 a (mX11_partOf n a x38 b1 p19.2)).bind fun p40 =>
  (gA p40.2 12 a 1).bind fun x44 =>
  (ldI p40.2 0 x44 (92 + b1)).bind fun x51 =>
  (inv p40.2 12 a (mX11_isIn n a p40.1 x51 p40.2)).bind fun p52 =>
  if eq32 p52.1 0 then
    some (1, p52.2)
  else
  some (0, p52.2)
set_option maxRecDepth 100000 in
set_option maxHeartbeats 4000000 in
theorem cX11_severs_ok (n : Nat) (a : Nat) (b1 : Int) (μ : Mem) : Mc yX11_severs cX11_severs 2 (some .int) 2 47 eI [aA a, aI b1] μ (mX11_severs n a b1 μ) := by
  refine mc_of (L0 := [some (aA a), some (aI b1)]) (k := 0) (by decide) rfl rfl (fun X Γ => ?_)
  unfold mX11_severs
  refine sn_aload_n dX11_severs_0 rfl ?_
  refine sn_iconst dX11_severs_1 ?_
  refine sn_putI (ci := 11) (j := 0) dX11_severs_2 fl_X11_1 rfl (fun q h => by cases h; rfl) (fun μ2 => ?_)
  refine sn_aload_n dX11_severs_5 rfl ?_
  refine sn_iload_n dX11_severs_6 rfl ?_
  refine sn_i2l dX11_severs_7 ?_
  refine sn_callVI (vs := [aJ (oI2l b1)]) (ci := 11) (cX11_isRope_ok n a (oI2l b1) μ2) dX11_severs_8 cw_X11_179 rfl rfl rfl (by decide) (by decide) (Nat.le_of_ble_eq_true rfl) (fun p8 => ?_)
  refine sn_if_ne (tgt := 17) dX11_severs_11 (by decide) ?_ ?_
  · refine sn_aload_n dX11_severs_17 rfl ?_
    refine sn_iload_n dX11_severs_18 rfl ?_
    refine sn_callVI (vs := [aI b1]) (ci := 11) (cX11_hangs_ok n a b1 p8.2) dX11_severs_19 cw_X11_191 rfl rfl rfl (by decide) (by decide) (Nat.le_of_ble_eq_true rfl) (fun p19 => ?_)
    refine sn_if_ne (tgt := 28) dX11_severs_22 (by decide) ?_ ?_
    · refine sn_aload_n dX11_severs_28 rfl ?_
      refine sn_aload_n dX11_severs_29 rfl ?_
      refine sn_aload_n dX11_severs_30 rfl ?_
      refine sn_getA (ci := 11) (j := 1) dX11_severs_31 fl_X11_13 (by decide) (fun x31 => ?_)
      refine sn_bipush dX11_severs_34 (by decide) ?_
      refine sn_iload_n dX11_severs_36 rfl ?_
      refine sn_iadd dX11_severs_37 ?_
      refine sn_iald dX11_severs_38 (fun x38 => ?_)
      refine sn_iload_n dX11_severs_39 rfl ?_
      refine sn_callVI (vs := [aI x38, aI b1]) (ci := 11) (cX11_partOf_ok n a x38 b1 p19.2) dX11_severs_40 cw_X11_279 rfl rfl rfl (by decide) (by decide) (Nat.le_of_ble_eq_true rfl) (fun p40 => ?_)
      refine sn_aload_n dX11_severs_43 rfl ?_
      refine sn_getA (ci := 11) (j := 1) dX11_severs_44 fl_X11_13 (by decide) (fun x44 => ?_)
      refine sn_bipush dX11_severs_47 (by decide) ?_
      refine sn_iload_n dX11_severs_49 rfl ?_
      refine sn_iadd dX11_severs_50 ?_
      refine sn_iald dX11_severs_51 (fun x51 => ?_)
      refine sn_callVI (vs := [aI p40.1, aI x51]) (ci := 11) (cX11_isIn_ok n a p40.1 x51 p40.2) dX11_severs_52 cw_X11_272 rfl rfl rfl (by decide) (by decide) (Nat.le_of_ble_eq_true rfl) (fun p52 => ?_)
      refine sn_if_eq (tgt := 62) dX11_severs_55 (by decide) ?_ ?_
      · refine sn_iconst dX11_severs_62 ?_
        exact sn_iret dX11_severs_63
      · refine sn_iconst dX11_severs_58 ?_
        refine sn_goto (tgt := 63) dX11_severs_59 (by decide) ?_
        exact sn_iret dX11_severs_63
    · refine sn_bipush dX11_severs_25 (by decide) ?_
      exact sn_iret dX11_severs_27
  · refine sn_bipush dX11_severs_14 (by decide) ?_
    exact sn_iret dX11_severs_16
theorem dX11_soonest_0 : decode cX11_soonest 0 = .ok (.aload_n 0, 1) := by decide +kernel
theorem dX11_soonest_1 : decode cX11_soonest 1 = .ok (.iconst 0, 1) := by decide +kernel
theorem dX11_soonest_2 : decode cX11_soonest 2 = .ok (.putfield 1, 3) := by decide +kernel
theorem dX11_soonest_5 : decode cX11_soonest 5 = .ok (.aload_n 0, 1) := by decide +kernel
theorem dX11_soonest_6 : decode cX11_soonest 6 = .ok (.iload_n 1, 1) := by decide +kernel
theorem dX11_soonest_7 : decode cX11_soonest 7 = .ok (.i2l, 1) := by decide +kernel
theorem dX11_soonest_8 : decode cX11_soonest 8 = .ok (.invokevirtual 170, 3) := by decide +kernel
theorem dX11_soonest_11 : decode cX11_soonest 11 = .ok (.ifCond .ne 6, 3) := by decide +kernel
theorem dX11_soonest_14 : decode cX11_soonest 14 = .ok (.bipush (-2), 2) := by decide +kernel
theorem dX11_soonest_16 : decode cX11_soonest 16 = .ok (.ireturn, 1) := by decide +kernel
theorem dX11_soonest_17 : decode cX11_soonest 17 = .ok (.iload_n 2, 1) := by decide +kernel
theorem dX11_soonest_18 : decode cX11_soonest 18 = .ok (.i2l, 1) := by decide +kernel
theorem dX11_soonest_19 : decode cX11_soonest 19 = .ok (.lconst 1, 1) := by decide +kernel
theorem dX11_soonest_20 : decode cX11_soonest 20 = .ok (.ldc2_w 226, 3) := by decide +kernel
theorem dX11_soonest_23 : decode cX11_soonest 23 = .ok (.invokestatic 146, 3) := by decide +kernel
theorem dX11_soonest_26 : decode cX11_soonest 26 = .ok (.ifCond .eq 12, 3) := by decide +kernel
theorem dX11_soonest_29 : decode cX11_soonest 29 = .ok (.aload_n 0, 1) := by decide +kernel
theorem dX11_soonest_30 : decode cX11_soonest 30 = .ok (.iload_n 1, 1) := by decide +kernel
theorem dX11_soonest_31 : decode cX11_soonest 31 = .ok (.iload_n 2, 1) := by decide +kernel
theorem dX11_soonest_32 : decode cX11_soonest 32 = .ok (.invokevirtual 316, 3) := by decide +kernel
theorem dX11_soonest_35 : decode cX11_soonest 35 = .ok (.goto 5, 3) := by decide +kernel
theorem dX11_soonest_38 : decode cX11_soonest 38 = .ok (.bipush (-3), 2) := by decide +kernel
theorem dX11_soonest_40 : decode cX11_soonest 40 = .ok (.ireturn, 1) := by decide +kernel
def mX11_soonest (n : Nat) (a : Nat) (b1 : Int) (b2 : Int) (μ : Mem) : Option (Int × Mem) :=
  (pI μ 12 a 0 0).bind fun μ2 =>
  (inv μ2 12 a (mX11_isHouse n a (oI2l b1) μ2)).bind fun p8 =>
  if eq32 p8.1 0 then
    some ((-2), p8.2)
  else
  (mX11_within n (oI2l b2) 1 3 p8.2).bind fun p23 =>
  if eq32 p23.1 0 then
    some ((-3), p23.2)
  else
  (inv p23.2 12 a (mX11_soonestOf n a b1 b2 p23.2)).bind fun p32 =>
  some (p32.1, p32.2)
set_option maxRecDepth 100000 in
set_option maxHeartbeats 4000000 in
theorem cX11_soonest_ok (n : Nat) (a : Nat) (b1 : Int) (b2 : Int) (μ : Mem) : Mc yX11_soonest cX11_soonest 3 (some .int) 38 919 eI [aA a, aI b1, aI b2] μ (mX11_soonest n a b1 b2 μ) := by
  refine mc_of (L0 := [some (aA a), some (aI b1), some (aI b2)]) (k := 0) (by decide) rfl rfl (fun X Γ => ?_)
  unfold mX11_soonest
  refine sn_aload_n dX11_soonest_0 rfl ?_
  refine sn_iconst dX11_soonest_1 ?_
  refine sn_putI (ci := 11) (j := 0) dX11_soonest_2 fl_X11_1 rfl (fun q h => by cases h; rfl) (fun μ2 => ?_)
  refine sn_aload_n dX11_soonest_5 rfl ?_
  refine sn_iload_n dX11_soonest_6 rfl ?_
  refine sn_i2l dX11_soonest_7 ?_
  refine sn_callVI (vs := [aJ (oI2l b1)]) (ci := 11) (cX11_isHouse_ok n a (oI2l b1) μ2) dX11_soonest_8 cw_X11_170 rfl rfl rfl (by decide) (by decide) (Nat.le_of_ble_eq_true rfl) (fun p8 => ?_)
  refine sn_if_ne (tgt := 17) dX11_soonest_11 (by decide) ?_ ?_
  · refine sn_iload_n dX11_soonest_17 rfl ?_
    refine sn_i2l dX11_soonest_18 ?_
    refine sn_lconst (v := 1) dX11_soonest_19 (by decide) ?_
    refine sn_ldc2 (v := 3) dX11_soonest_20 k_X11_226 (by decide) ?_
    refine sn_callSI (vs := [aJ (oI2l b2), aJ 1, aJ 3]) (cX11_within_ok n (oI2l b2) 1 3 p8.2) dX11_soonest_23 cw_X11_146 rfl (by decide) (by decide) (Nat.le_of_ble_eq_true rfl) (fun p23 => ?_)
    refine sn_if_eq (tgt := 38) dX11_soonest_26 (by decide) ?_ ?_
    · refine sn_bipush dX11_soonest_38 (by decide) ?_
      exact sn_iret dX11_soonest_40
    · refine sn_aload_n dX11_soonest_29 rfl ?_
      refine sn_iload_n dX11_soonest_30 rfl ?_
      refine sn_iload_n dX11_soonest_31 rfl ?_
      refine sn_callVI (vs := [aI b1, aI b2]) (ci := 11) (cX11_soonestOf_ok n a b1 b2 p23.2) dX11_soonest_32 cw_X11_316 rfl rfl rfl (by decide) (by decide) (Nat.le_of_ble_eq_true rfl) (fun p32 => ?_)
      refine sn_goto (tgt := 40) dX11_soonest_35 (by decide) ?_
      exact sn_iret dX11_soonest_40
  · refine sn_bipush dX11_soonest_14 (by decide) ?_
    exact sn_iret dX11_soonest_16
theorem dX11_stones_0 : decode cX11_stones 0 = .ok (.aload_n 0, 1) := by decide +kernel
theorem dX11_stones_1 : decode cX11_stones 1 = .ok (.iconst 0, 1) := by decide +kernel
theorem dX11_stones_2 : decode cX11_stones 2 = .ok (.putfield 1, 3) := by decide +kernel
theorem dX11_stones_5 : decode cX11_stones 5 = .ok (.aload_n 0, 1) := by decide +kernel
theorem dX11_stones_6 : decode cX11_stones 6 = .ok (.iload_n 1, 1) := by decide +kernel
theorem dX11_stones_7 : decode cX11_stones 7 = .ok (.i2l, 1) := by decide +kernel
theorem dX11_stones_8 : decode cX11_stones 8 = .ok (.invokevirtual 179, 3) := by decide +kernel
theorem dX11_stones_11 : decode cX11_stones 11 = .ok (.ifCond .ne 6, 3) := by decide +kernel
theorem dX11_stones_14 : decode cX11_stones 14 = .ok (.bipush (-2), 2) := by decide +kernel
theorem dX11_stones_16 : decode cX11_stones 16 = .ok (.ireturn, 1) := by decide +kernel
theorem dX11_stones_17 : decode cX11_stones 17 = .ok (.iload_n 3, 1) := by decide +kernel
theorem dX11_stones_18 : decode cX11_stones 18 = .ok (.i2l, 1) := by decide +kernel
theorem dX11_stones_19 : decode cX11_stones 19 = .ok (.lconst 0, 1) := by decide +kernel
theorem dX11_stones_20 : decode cX11_stones 20 = .ok (.ldc2_w 264, 3) := by decide +kernel
theorem dX11_stones_23 : decode cX11_stones 23 = .ok (.invokestatic 146, 3) := by decide +kernel
theorem dX11_stones_26 : decode cX11_stones 26 = .ok (.ifCond .ne 6, 3) := by decide +kernel
theorem dX11_stones_29 : decode cX11_stones 29 = .ok (.bipush (-3), 2) := by decide +kernel
theorem dX11_stones_31 : decode cX11_stones 31 = .ok (.ireturn, 1) := by decide +kernel
theorem dX11_stones_32 : decode cX11_stones 32 = .ok (.aload_n 0, 1) := by decide +kernel
theorem dX11_stones_33 : decode cX11_stones 33 = .ok (.getfield 13, 3) := by decide +kernel
theorem dX11_stones_36 : decode cX11_stones 36 = .ok (.iload_n 2, 1) := by decide +kernel
theorem dX11_stones_37 : decode cX11_stones 37 = .ok (.ifCond .eq 9, 3) := by decide +kernel
theorem dX11_stones_40 : decode cX11_stones 40 = .ok (.sipush 156, 3) := by decide +kernel
theorem dX11_stones_43 : decode cX11_stones 43 = .ok (.goto 6, 3) := by decide +kernel
theorem dX11_stones_46 : decode cX11_stones 46 = .ok (.sipush 140, 3) := by decide +kernel
theorem dX11_stones_49 : decode cX11_stones 49 = .ok (.iload_n 1, 1) := by decide +kernel
theorem dX11_stones_50 : decode cX11_stones 50 = .ok (.iadd, 1) := by decide +kernel
theorem dX11_stones_51 : decode cX11_stones 51 = .ok (.iload_n 3, 1) := by decide +kernel
theorem dX11_stones_52 : decode cX11_stones 52 = .ok (.iastore, 1) := by decide +kernel
theorem dX11_stones_53 : decode cX11_stones 53 = .ok (.aload_n 0, 1) := by decide +kernel
theorem dX11_stones_54 : decode cX11_stones 54 = .ok (.iload_n 1, 1) := by decide +kernel
theorem dX11_stones_55 : decode cX11_stones 55 = .ok (.iload_n 2, 1) := by decide +kernel
theorem dX11_stones_56 : decode cX11_stones 56 = .ok (.ifCond .eq 7, 3) := by decide +kernel
theorem dX11_stones_59 : decode cX11_stones 59 = .ok (.iconst 1, 1) := by decide +kernel
theorem dX11_stones_60 : decode cX11_stones 60 = .ok (.goto 4, 3) := by decide +kernel
theorem dX11_stones_63 : decode cX11_stones 63 = .ok (.iconst 0, 1) := by decide +kernel
theorem dX11_stones_64 : decode cX11_stones 64 = .ok (.invokevirtual 185, 3) := by decide +kernel
theorem dX11_stones_67 : decode cX11_stones 67 = .ok (.ireturn, 1) := by decide +kernel
def mX11_stones (n : Nat) (a : Nat) (b1 : Int) (b2 : Int) (b3 : Int) (μ : Mem) : Option (Int × Mem) :=
  (pI μ 12 a 0 0).bind fun μ2 =>
  (inv μ2 12 a (mX11_isRope n a (oI2l b1) μ2)).bind fun p8 =>
  if eq32 p8.1 0 then
    some ((-2), p8.2)
  else
  (mX11_within n (oI2l b3) 0 9 p8.2).bind fun p23 =>
  if eq32 p23.1 0 then
    some ((-3), p23.2)
  else
  (gA p23.2 12 a 1).bind fun x33 =>
  jn (fun (v49 : Int) (μ49 : Mem) =>
  (stI μ49 0 x33 (v49 + b1) b3).bind fun μ52 =>
  jn (fun (v64 : Int) (μ64 : Mem) =>
  (inv μ64 12 a (mX11_weight n a b1 v64 μ64)).bind fun p64 =>
  some (p64.1, p64.2)) (fun j64 =>
  if eq32 b2 0 then
    j64 0 μ52
  else
  j64 1 μ52)) (fun j49 =>
  if eq32 b2 0 then
    j49 140 p23.2
  else
  j49 156 p23.2)
set_option maxRecDepth 100000 in
set_option maxHeartbeats 4000000 in
theorem cX11_stones_ok (n : Nat) (a : Nat) (b1 : Int) (b2 : Int) (b3 : Int) (μ : Mem) : Mc yX11_stones cX11_stones 4 (some .int) 2 47 eI [aA a, aI b1, aI b2, aI b3] μ (mX11_stones n a b1 b2 b3 μ) := by
  refine mc_of (L0 := [some (aA a), some (aI b1), some (aI b2), some (aI b3)]) (k := 0) (by decide) rfl rfl (fun X Γ => ?_)
  unfold mX11_stones
  refine sn_aload_n dX11_stones_0 rfl ?_
  refine sn_iconst dX11_stones_1 ?_
  refine sn_putI (ci := 11) (j := 0) dX11_stones_2 fl_X11_1 rfl (fun q h => by cases h; rfl) (fun μ2 => ?_)
  refine sn_aload_n dX11_stones_5 rfl ?_
  refine sn_iload_n dX11_stones_6 rfl ?_
  refine sn_i2l dX11_stones_7 ?_
  refine sn_callVI (vs := [aJ (oI2l b1)]) (ci := 11) (cX11_isRope_ok n a (oI2l b1) μ2) dX11_stones_8 cw_X11_179 rfl rfl rfl (by decide) (by decide) (Nat.le_of_ble_eq_true rfl) (fun p8 => ?_)
  refine sn_if_ne (tgt := 17) dX11_stones_11 (by decide) ?_ ?_
  · refine sn_iload_n dX11_stones_17 rfl ?_
    refine sn_i2l dX11_stones_18 ?_
    refine sn_lconst (v := 0) dX11_stones_19 (by decide) ?_
    refine sn_ldc2 (v := 9) dX11_stones_20 k_X11_264 (by decide) ?_
    refine sn_callSI (vs := [aJ (oI2l b3), aJ 0, aJ 9]) (cX11_within_ok n (oI2l b3) 0 9 p8.2) dX11_stones_23 cw_X11_146 rfl (by decide) (by decide) (Nat.le_of_ble_eq_true rfl) (fun p23 => ?_)
    refine sn_if_ne (tgt := 32) dX11_stones_26 (by decide) ?_ ?_
    · refine sn_aload_n dX11_stones_32 rfl ?_
      refine sn_getA (ci := 11) (j := 1) dX11_stones_33 fl_X11_13 (by decide) (fun x33 => ?_)
      refine sn_iload_n dX11_stones_36 rfl ?_
      refine sn_jn (pcj := 49) (La := fun v49 : Int => [some (aA a), some (aI b1), some (aI b2), some (aI b3)]) (Sa := fun v49 : Int => [aI v49, aA x33]) ?_ ?_
      · intro v49 μ49
        refine sn_iload_n dX11_stones_49 rfl ?_
        refine sn_iadd dX11_stones_50 ?_
        refine sn_iload_n dX11_stones_51 rfl ?_
        refine sn_iast dX11_stones_52 (fun μ52 => ?_)
        refine sn_aload_n dX11_stones_53 rfl ?_
        refine sn_iload_n dX11_stones_54 rfl ?_
        refine sn_iload_n dX11_stones_55 rfl ?_
        refine sn_jn (pcj := 64) (La := fun v64 : Int => [none, none, none, none]) (Sa := fun v64 : Int => [aI v64, aI b1, aA a]) ?_ ?_
        · intro v64 μ64
          refine sn_callVI (vs := [aI b1, aI v64]) (ci := 11) (cX11_weight_ok n a b1 v64 μ64) dX11_stones_64 cw_X11_185 rfl rfl rfl (by decide) (by decide) (Nat.le_of_ble_eq_true rfl) (fun p64 => ?_)
          exact sn_iret dX11_stones_67
        intro j64 hj64
        refine sn_if_eq (tgt := 63) dX11_stones_56 (by decide) ?_ ?_
        · refine sn_iconst dX11_stones_63 ?_
          exact sn_mask (L' := [none, none, none, none]) [false, false, false, false] rfl (hj64 0 μ52)
        · refine sn_iconst dX11_stones_59 ?_
          refine sn_goto (tgt := 64) dX11_stones_60 (by decide) ?_
          exact sn_mask (L' := [none, none, none, none]) [false, false, false, false] rfl (hj64 1 μ52)
      intro j49 hj49
      refine sn_if_eq (tgt := 46) dX11_stones_37 (by decide) ?_ ?_
      · refine sn_sipush dX11_stones_46 (by decide) ?_
        exact hj49 140 p23.2
      · refine sn_sipush dX11_stones_40 (by decide) ?_
        refine sn_goto (tgt := 49) dX11_stones_43 (by decide) ?_
        exact hj49 156 p23.2
    · refine sn_bipush dX11_stones_29 (by decide) ?_
      exact sn_iret dX11_stones_31
  · refine sn_bipush dX11_stones_14 (by decide) ?_
    exact sn_iret dX11_stones_16
theorem dX11_together_0 : decode cX11_together 0 = .ok (.aload_n 0, 1) := by decide +kernel
theorem dX11_together_1 : decode cX11_together 1 = .ok (.iconst 0, 1) := by decide +kernel
theorem dX11_together_2 : decode cX11_together 2 = .ok (.putfield 1, 3) := by decide +kernel
theorem dX11_together_5 : decode cX11_together 5 = .ok (.iconst 0, 1) := by decide +kernel
theorem dX11_together_6 : decode cX11_together 6 = .ok (.istore_n 1, 1) := by decide +kernel
theorem dX11_together_7 : decode cX11_together 7 = .ok (.iconst 1, 1) := by decide +kernel
theorem dX11_together_8 : decode cX11_together 8 = .ok (.istore_n 2, 1) := by decide +kernel
theorem dX11_together_9 : decode cX11_together 9 = .ok (.iload_n 2, 1) := by decide +kernel
theorem dX11_together_10 : decode cX11_together 10 = .ok (.iconst 1, 1) := by decide +kernel
theorem dX11_together_11 : decode cX11_together 11 = .ok (.aload_n 0, 1) := by decide +kernel
theorem dX11_together_12 : decode cX11_together 12 = .ok (.getfield 13, 3) := by decide +kernel
theorem dX11_together_15 : decode cX11_together 15 = .ok (.iconst 0, 1) := by decide +kernel
theorem dX11_together_16 : decode cX11_together 16 = .ok (.iaload, 1) := by decide +kernel
theorem dX11_together_17 : decode cX11_together 17 = .ok (.ishl, 1) := by decide +kernel
theorem dX11_together_18 : decode cX11_together 18 = .ok (.if_icmp .ge 107, 3) := by decide +kernel
theorem dX11_together_21 : decode cX11_together 21 = .ok (.iload_n 2, 1) := by decide +kernel
theorem dX11_together_22 : decode cX11_together 22 = .ok (.invokestatic 269, 3) := by decide +kernel
theorem dX11_together_25 : decode cX11_together 25 = .ok (.iload_n 1, 1) := by decide +kernel
theorem dX11_together_26 : decode cX11_together 26 = .ok (.invokestatic 269, 3) := by decide +kernel
theorem dX11_together_29 : decode cX11_together 29 = .ok (.if_icmp .le 7, 3) := by decide +kernel
theorem dX11_together_32 : decode cX11_together 32 = .ok (.iconst 1, 1) := by decide +kernel
theorem dX11_together_33 : decode cX11_together 33 = .ok (.goto 4, 3) := by decide +kernel
theorem dX11_together_36 : decode cX11_together 36 = .ok (.iconst 0, 1) := by decide +kernel
theorem dX11_together_37 : decode cX11_together 37 = .ok (.istore_n 3, 1) := by decide +kernel
theorem dX11_together_38 : decode cX11_together 38 = .ok (.iconst 0, 1) := by decide +kernel
theorem dX11_together_39 : decode cX11_together 39 = .ok (.istore 4, 2) := by decide +kernel
theorem dX11_together_41 : decode cX11_together 41 = .ok (.iload 4, 2) := by decide +kernel
theorem dX11_together_43 : decode cX11_together 43 = .ok (.aload_n 0, 1) := by decide +kernel
theorem dX11_together_44 : decode cX11_together 44 = .ok (.getfield 13, 3) := by decide +kernel
theorem dX11_together_47 : decode cX11_together 47 = .ok (.iconst 1, 1) := by decide +kernel
theorem dX11_together_48 : decode cX11_together 48 = .ok (.iaload, 1) := by decide +kernel
theorem dX11_together_49 : decode cX11_together 49 = .ok (.if_icmp .ge 64, 3) := by decide +kernel
theorem dX11_together_52 : decode cX11_together 52 = .ok (.iload_n 3, 1) := by decide +kernel
theorem dX11_together_53 : decode cX11_together 53 = .ok (.ifCond .eq 60, 3) := by decide +kernel
theorem dX11_together_56 : decode cX11_together 56 = .ok (.aload_n 0, 1) := by decide +kernel
theorem dX11_together_57 : decode cX11_together 57 = .ok (.iload 4, 2) := by decide +kernel
theorem dX11_together_59 : decode cX11_together 59 = .ok (.invokevirtual 191, 3) := by decide +kernel
theorem dX11_together_62 : decode cX11_together 62 = .ok (.ifCond .eq 39, 3) := by decide +kernel
theorem dX11_together_65 : decode cX11_together 65 = .ok (.aload_n 0, 1) := by decide +kernel
theorem dX11_together_66 : decode cX11_together 66 = .ok (.iload_n 2, 1) := by decide +kernel
theorem dX11_together_67 : decode cX11_together 67 = .ok (.aload_n 0, 1) := by decide +kernel
theorem dX11_together_68 : decode cX11_together 68 = .ok (.getfield 13, 3) := by decide +kernel
theorem dX11_together_71 : decode cX11_together 71 = .ok (.bipush 76, 2) := by decide +kernel
theorem dX11_together_73 : decode cX11_together 73 = .ok (.iload 4, 2) := by decide +kernel
theorem dX11_together_75 : decode cX11_together 75 = .ok (.iadd, 1) := by decide +kernel
theorem dX11_together_76 : decode cX11_together 76 = .ok (.iaload, 1) := by decide +kernel
theorem dX11_together_77 : decode cX11_together 77 = .ok (.invokevirtual 272, 3) := by decide +kernel
theorem dX11_together_80 : decode cX11_together 80 = .ok (.ifCond .eq 21, 3) := by decide +kernel
theorem dX11_together_83 : decode cX11_together 83 = .ok (.aload_n 0, 1) := by decide +kernel
theorem dX11_together_84 : decode cX11_together 84 = .ok (.iload_n 2, 1) := by decide +kernel
theorem dX11_together_85 : decode cX11_together 85 = .ok (.aload_n 0, 1) := by decide +kernel
theorem dX11_together_86 : decode cX11_together 86 = .ok (.getfield 13, 3) := by decide +kernel
theorem dX11_together_89 : decode cX11_together 89 = .ok (.bipush 92, 2) := by decide +kernel
theorem dX11_together_91 : decode cX11_together 91 = .ok (.iload 4, 2) := by decide +kernel
theorem dX11_together_93 : decode cX11_together 93 = .ok (.iadd, 1) := by decide +kernel
theorem dX11_together_94 : decode cX11_together 94 = .ok (.iaload, 1) := by decide +kernel
theorem dX11_together_95 : decode cX11_together 95 = .ok (.invokevirtual 272, 3) := by decide +kernel
theorem dX11_together_98 : decode cX11_together 98 = .ok (.ifCond .ne 7, 3) := by decide +kernel
theorem dX11_together_101 : decode cX11_together 101 = .ok (.iconst 1, 1) := by decide +kernel
theorem dX11_together_102 : decode cX11_together 102 = .ok (.goto 4, 3) := by decide +kernel
theorem dX11_together_105 : decode cX11_together 105 = .ok (.iconst 0, 1) := by decide +kernel
theorem dX11_together_106 : decode cX11_together 106 = .ok (.istore_n 3, 1) := by decide +kernel
theorem dX11_together_107 : decode cX11_together 107 = .ok (.iinc 4 1, 3) := by decide +kernel
theorem dX11_together_110 : decode cX11_together 110 = .ok (.goto (-69), 3) := by decide +kernel
theorem dX11_together_113 : decode cX11_together 113 = .ok (.iload_n 3, 1) := by decide +kernel
theorem dX11_together_114 : decode cX11_together 114 = .ok (.ifCond .eq 5, 3) := by decide +kernel
theorem dX11_together_117 : decode cX11_together 117 = .ok (.iload_n 2, 1) := by decide +kernel
theorem dX11_together_118 : decode cX11_together 118 = .ok (.istore_n 1, 1) := by decide +kernel
theorem dX11_together_119 : decode cX11_together 119 = .ok (.iinc 2 1, 3) := by decide +kernel
theorem dX11_together_122 : decode cX11_together 122 = .ok (.goto (-113), 3) := by decide +kernel
theorem dX11_together_125 : decode cX11_together 125 = .ok (.iload_n 1, 1) := by decide +kernel
theorem dX11_together_126 : decode cX11_together 126 = .ok (.ireturn, 1) := by decide +kernel
def mX11_together (n : Nat) (a : Nat) (μ : Mem) : Option (Int × Mem) :=
  (pI μ 12 a 0 0).bind fun μ2 =>
  lp (fun nx9 (v9 : Int × Int) (μ9 : Mem) =>
  (gA μ9 12 a 1).bind fun x12 =>
  (ldI μ9 0 x12 0).bind fun x16 =>
  if lt32 v9.2 (oShl 1 x16) then
    (mX11_bitsOf n v9.2 μ9).bind fun p22 =>
    (mX11_bitsOf n v9.1 p22.2).bind fun p26 =>
    jn (fun (v37 : Int) (μ37 : Mem) =>
    lp (fun nx41 (v41 : Int × Int) (μ41 : Mem) =>
    (gA μ41 12 a 1).bind fun x44 =>
    (ldI μ41 0 x44 1).bind fun x48 =>
    jn (fun (v113 : Int) (μ113 : Mem) =>
    if eq32 v113 0 then
      nx9 (v9.1, (v9.2 + 1)) μ113
    else
    nx9 (v9.2, (v9.2 + 1)) μ113) (fun j113 =>
    if lt32 v41.2 x48 then
      if eq32 v41.1 0 then
        j113 v41.1 μ41
      else
      (inv μ41 12 a (mX11_hangs n a v41.2 μ41)).bind fun p59 =>
      if eq32 p59.1 0 then
        nx41 (1, (v41.2 + 1)) p59.2
      else
      (gA p59.2 12 a 1).bind fun x68 =>
      (ldI p59.2 0 x68 (76 + v41.2)).bind fun x76 =>
      (inv p59.2 12 a (mX11_isIn n a v9.2 x76 p59.2)).bind fun p77 =>
      if eq32 p77.1 0 then
        nx41 (1, (v41.2 + 1)) p77.2
      else
      (gA p77.2 12 a 1).bind fun x86 =>
      (ldI p77.2 0 x86 (92 + v41.2)).bind fun x94 =>
      (inv p77.2 12 a (mX11_isIn n a v9.2 x94 p77.2)).bind fun p95 =>
      if eq32 p95.1 0 then
        nx41 (1, (v41.2 + 1)) p95.2
      else
      nx41 (0, (v41.2 + 1)) p95.2
    else
    j113 v41.1 μ41)) n (v37, 0) μ37) (fun j37 =>
    if lt32 p26.1 p22.1 then
      j37 1 p26.2
    else
    j37 0 p26.2)
  else
  some (v9.1, μ9)) n (0, 1) μ2
set_option maxRecDepth 100000 in
set_option maxHeartbeats 4000000 in
theorem cX11_together_ok (n : Nat) (a : Nat) (μ : Mem) : Mc yX11_together cX11_together 5 (some .int) 1 22 eI [aA a] μ (mX11_together n a μ) := by
  refine mc_of (L0 := [some (aA a), none, none, none, none]) (k := 4) (by decide) rfl rfl (fun X Γ => ?_)
  unfold mX11_together
  refine sn_aload_n dX11_together_0 rfl ?_
  refine sn_iconst dX11_together_1 ?_
  refine sn_putI (ci := 11) (j := 0) dX11_together_2 fl_X11_1 rfl (fun q h => by cases h; rfl) (fun μ2 => ?_)
  refine sn_iconst dX11_together_5 ?_
  refine sn_istore_n (L' := [some (aA a), some (aI 0), none, none, none]) dX11_together_6 (by decide) rfl ?_
  refine sn_iconst dX11_together_7 ?_
  refine sn_istore_n (L' := [some (aA a), some (aI 0), some (aI 1), none, none]) dX11_together_8 (by decide) rfl ?_
  refine sn_lp (La := fun v9 : Int × Int => [some (aA a), some (aI v9.1), some (aI v9.2), none, none]) ?_ n (0, 1) μ2
  intro nx9 hnx9 v9 μ9
  refine sn_iload_n dX11_together_9 rfl ?_
  refine sn_iconst dX11_together_10 ?_
  refine sn_aload_n dX11_together_11 rfl ?_
  refine sn_getA (ci := 11) (j := 1) dX11_together_12 fl_X11_13 (by decide) (fun x12 => ?_)
  refine sn_iconst dX11_together_15 ?_
  refine sn_iald dX11_together_16 (fun x16 => ?_)
  refine sn_ishl dX11_together_17 ?_
  refine sn_icmp_ge (tgt := 125) dX11_together_18 (by decide) ?_ ?_
  · refine sn_iload_n dX11_together_125 rfl ?_
    exact sn_iret dX11_together_126
  · refine sn_iload_n dX11_together_21 rfl ?_
    refine sn_callSI (vs := [aI v9.2]) (cX11_bitsOf_ok n v9.2 μ9) dX11_together_22 cw_X11_269 rfl (by decide) (by decide) (Nat.le_of_ble_eq_true rfl) (fun p22 => ?_)
    refine sn_iload_n dX11_together_25 rfl ?_
    refine sn_callSI (vs := [aI v9.1]) (cX11_bitsOf_ok n v9.1 p22.2) dX11_together_26 cw_X11_269 rfl (by decide) (by decide) (Nat.le_of_ble_eq_true rfl) (fun p26 => ?_)
    refine sn_jn (pcj := 37) (La := fun v37 : Int => [some (aA a), some (aI v9.1), some (aI v9.2), none, none]) (Sa := fun v37 : Int => [aI v37]) ?_ ?_
    · intro v37 μ37
      refine sn_istore_n (L' := [some (aA a), some (aI v9.1), some (aI v9.2), some (aI v37), none]) dX11_together_37 (by decide) rfl ?_
      refine sn_iconst dX11_together_38 ?_
      refine sn_istore (L' := [some (aA a), some (aI v9.1), some (aI v9.2), some (aI v37), some (aI 0)]) dX11_together_39 (by decide) rfl ?_
      refine sn_lp (La := fun v41 : Int × Int => [some (aA a), some (aI v9.1), some (aI v9.2), some (aI v41.1), some (aI v41.2)]) ?_ n (v37, 0) μ37
      intro nx41 hnx41 v41 μ41
      refine sn_iload dX11_together_41 rfl ?_
      refine sn_aload_n dX11_together_43 rfl ?_
      refine sn_getA (ci := 11) (j := 1) dX11_together_44 fl_X11_13 (by decide) (fun x44 => ?_)
      refine sn_iconst dX11_together_47 ?_
      refine sn_iald dX11_together_48 (fun x48 => ?_)
      refine sn_jn (pcj := 113) (La := fun v113 : Int => [some (aA a), some (aI v9.1), some (aI v9.2), some (aI v113), none]) (Sa := fun v113 : Int => []) ?_ ?_
      · intro v113 μ113
        refine sn_iload_n dX11_together_113 rfl ?_
        refine sn_if_eq (tgt := 119) dX11_together_114 (by decide) ?_ ?_
        · refine sn_iinc (L' := [some (aA a), some (aI v9.1), some (aI (v9.2 + 1)), some (aI v113), none]) dX11_together_119 rfl (by decide) rfl ?_
          refine sn_goto (tgt := 9) dX11_together_122 (by decide) ?_
          exact sn_mask (L' := [some (aA a), some (aI v9.1), some (aI (v9.2 + 1)), none, none]) [true, true, true, false, false] rfl (hnx9 (v9.1, (v9.2 + 1)) μ113)
        · refine sn_iload_n dX11_together_117 rfl ?_
          refine sn_istore_n (L' := [some (aA a), some (aI v9.2), some (aI v9.2), some (aI v113), none]) dX11_together_118 (by decide) rfl ?_
          refine sn_iinc (L' := [some (aA a), some (aI v9.2), some (aI (v9.2 + 1)), some (aI v113), none]) dX11_together_119 rfl (by decide) rfl ?_
          refine sn_goto (tgt := 9) dX11_together_122 (by decide) ?_
          exact sn_mask (L' := [some (aA a), some (aI v9.2), some (aI (v9.2 + 1)), none, none]) [true, true, true, false, false] rfl (hnx9 (v9.2, (v9.2 + 1)) μ113)
      intro j113 hj113
      refine sn_icmp_ge (tgt := 113) dX11_together_49 (by decide) ?_ ?_
      · exact sn_mask (L' := [some (aA a), some (aI v9.1), some (aI v9.2), some (aI v41.1), none]) [true, true, true, true, false] rfl (hj113 v41.1 μ41)
      · refine sn_iload_n dX11_together_52 rfl ?_
        refine sn_if_eq (tgt := 113) dX11_together_53 (by decide) ?_ ?_
        · exact sn_mask (L' := [some (aA a), some (aI v9.1), some (aI v9.2), some (aI v41.1), none]) [true, true, true, true, false] rfl (hj113 v41.1 μ41)
        · refine sn_aload_n dX11_together_56 rfl ?_
          refine sn_iload dX11_together_57 rfl ?_
          refine sn_callVI (vs := [aI v41.2]) (ci := 11) (cX11_hangs_ok n a v41.2 μ41) dX11_together_59 cw_X11_191 rfl rfl rfl (by decide) (by decide) (Nat.le_of_ble_eq_true rfl) (fun p59 => ?_)
          refine sn_if_eq (tgt := 101) dX11_together_62 (by decide) ?_ ?_
          · refine sn_iconst dX11_together_101 ?_
            refine sn_goto (tgt := 106) dX11_together_102 (by decide) ?_
            refine sn_istore_n (L' := [some (aA a), some (aI v9.1), some (aI v9.2), some (aI 1), some (aI v41.2)]) dX11_together_106 (by decide) rfl ?_
            refine sn_iinc (L' := [some (aA a), some (aI v9.1), some (aI v9.2), some (aI 1), some (aI (v41.2 + 1))]) dX11_together_107 rfl (by decide) rfl ?_
            refine sn_goto (tgt := 41) dX11_together_110 (by decide) ?_
            exact hnx41 (1, (v41.2 + 1)) p59.2
          · refine sn_aload_n dX11_together_65 rfl ?_
            refine sn_iload_n dX11_together_66 rfl ?_
            refine sn_aload_n dX11_together_67 rfl ?_
            refine sn_getA (ci := 11) (j := 1) dX11_together_68 fl_X11_13 (by decide) (fun x68 => ?_)
            refine sn_bipush dX11_together_71 (by decide) ?_
            refine sn_iload dX11_together_73 rfl ?_
            refine sn_iadd dX11_together_75 ?_
            refine sn_iald dX11_together_76 (fun x76 => ?_)
            refine sn_callVI (vs := [aI v9.2, aI x76]) (ci := 11) (cX11_isIn_ok n a v9.2 x76 p59.2) dX11_together_77 cw_X11_272 rfl rfl rfl (by decide) (by decide) (Nat.le_of_ble_eq_true rfl) (fun p77 => ?_)
            refine sn_if_eq (tgt := 101) dX11_together_80 (by decide) ?_ ?_
            · refine sn_iconst dX11_together_101 ?_
              refine sn_goto (tgt := 106) dX11_together_102 (by decide) ?_
              refine sn_istore_n (L' := [some (aA a), some (aI v9.1), some (aI v9.2), some (aI 1), some (aI v41.2)]) dX11_together_106 (by decide) rfl ?_
              refine sn_iinc (L' := [some (aA a), some (aI v9.1), some (aI v9.2), some (aI 1), some (aI (v41.2 + 1))]) dX11_together_107 rfl (by decide) rfl ?_
              refine sn_goto (tgt := 41) dX11_together_110 (by decide) ?_
              exact hnx41 (1, (v41.2 + 1)) p77.2
            · refine sn_aload_n dX11_together_83 rfl ?_
              refine sn_iload_n dX11_together_84 rfl ?_
              refine sn_aload_n dX11_together_85 rfl ?_
              refine sn_getA (ci := 11) (j := 1) dX11_together_86 fl_X11_13 (by decide) (fun x86 => ?_)
              refine sn_bipush dX11_together_89 (by decide) ?_
              refine sn_iload dX11_together_91 rfl ?_
              refine sn_iadd dX11_together_93 ?_
              refine sn_iald dX11_together_94 (fun x94 => ?_)
              refine sn_callVI (vs := [aI v9.2, aI x94]) (ci := 11) (cX11_isIn_ok n a v9.2 x94 p77.2) dX11_together_95 cw_X11_272 rfl rfl rfl (by decide) (by decide) (Nat.le_of_ble_eq_true rfl) (fun p95 => ?_)
              refine sn_if_ne (tgt := 105) dX11_together_98 (by decide) ?_ ?_
              · refine sn_iconst dX11_together_105 ?_
                refine sn_istore_n (L' := [some (aA a), some (aI v9.1), some (aI v9.2), some (aI 0), some (aI v41.2)]) dX11_together_106 (by decide) rfl ?_
                refine sn_iinc (L' := [some (aA a), some (aI v9.1), some (aI v9.2), some (aI 0), some (aI (v41.2 + 1))]) dX11_together_107 rfl (by decide) rfl ?_
                refine sn_goto (tgt := 41) dX11_together_110 (by decide) ?_
                exact hnx41 (0, (v41.2 + 1)) p95.2
              · refine sn_iconst dX11_together_101 ?_
                refine sn_goto (tgt := 106) dX11_together_102 (by decide) ?_
                refine sn_istore_n (L' := [some (aA a), some (aI v9.1), some (aI v9.2), some (aI 1), some (aI v41.2)]) dX11_together_106 (by decide) rfl ?_
                refine sn_iinc (L' := [some (aA a), some (aI v9.1), some (aI v9.2), some (aI 1), some (aI (v41.2 + 1))]) dX11_together_107 rfl (by decide) rfl ?_
                refine sn_goto (tgt := 41) dX11_together_110 (by decide) ?_
                exact hnx41 (1, (v41.2 + 1)) p95.2
    intro j37 hj37
    refine sn_icmp_le (tgt := 36) dX11_together_29 (by decide) ?_ ?_
    · refine sn_iconst dX11_together_36 ?_
      exact hj37 0 p26.2
    · refine sn_iconst dX11_together_32 ?_
      refine sn_goto (tgt := 37) dX11_together_33 (by decide) ?_
      exact hj37 1 p26.2
theorem dX11_write_0 : decode cX11_write 0 = .ok (.aload_n 0, 1) := by decide +kernel
theorem dX11_write_1 : decode cX11_write 1 = .ok (.iconst 0, 1) := by decide +kernel
theorem dX11_write_2 : decode cX11_write 2 = .ok (.putfield 1, 3) := by decide +kernel
theorem dX11_write_5 : decode cX11_write 5 = .ok (.iload_n 1, 1) := by decide +kernel
theorem dX11_write_6 : decode cX11_write 6 = .ok (.i2l, 1) := by decide +kernel
theorem dX11_write_7 : decode cX11_write 7 = .ok (.lconst 0, 1) := by decide +kernel
theorem dX11_write_8 : decode cX11_write 8 = .ok (.ldc2_w 226, 3) := by decide +kernel
theorem dX11_write_11 : decode cX11_write 11 = .ok (.invokestatic 146, 3) := by decide +kernel
theorem dX11_write_14 : decode cX11_write 14 = .ok (.ifCond .ne 7, 3) := by decide +kernel
theorem dX11_write_17 : decode cX11_write 17 = .ok (.ldc2_w 373, 3) := by decide +kernel
theorem dX11_write_20 : decode cX11_write 20 = .ok (.lreturn, 1) := by decide +kernel
theorem dX11_write_21 : decode cX11_write 21 = .ok (.aload_n 0, 1) := by decide +kernel
theorem dX11_write_22 : decode cX11_write 22 = .ok (.getfield 73, 3) := by decide +kernel
theorem dX11_write_25 : decode cX11_write 25 = .ok (.iload_n 1, 1) := by decide +kernel
theorem dX11_write_26 : decode cX11_write 26 = .ok (.iaload, 1) := by decide +kernel
theorem dX11_write_27 : decode cX11_write 27 = .ok (.iconst (-1), 1) := by decide +kernel
theorem dX11_write_28 : decode cX11_write 28 = .ok (.if_icmp .ne 7, 3) := by decide +kernel
theorem dX11_write_31 : decode cX11_write 31 = .ok (.ldc2_w 375, 3) := by decide +kernel
theorem dX11_write_34 : decode cX11_write 34 = .ok (.lreturn, 1) := by decide +kernel
theorem dX11_write_35 : decode cX11_write 35 = .ok (.iload_n 2, 1) := by decide +kernel
theorem dX11_write_36 : decode cX11_write 36 = .ok (.i2l, 1) := by decide +kernel
theorem dX11_write_37 : decode cX11_write 37 = .ok (.lconst 0, 1) := by decide +kernel
theorem dX11_write_38 : decode cX11_write 38 = .ok (.aload_n 0, 1) := by decide +kernel
theorem dX11_write_39 : decode cX11_write 39 = .ok (.getfield 76, 3) := by decide +kernel
theorem dX11_write_42 : decode cX11_write 42 = .ok (.iload_n 1, 1) := by decide +kernel
theorem dX11_write_43 : decode cX11_write 43 = .ok (.iaload, 1) := by decide +kernel
theorem dX11_write_44 : decode cX11_write 44 = .ok (.iconst 1, 1) := by decide +kernel
theorem dX11_write_45 : decode cX11_write 45 = .ok (.isub, 1) := by decide +kernel
theorem dX11_write_46 : decode cX11_write 46 = .ok (.i2l, 1) := by decide +kernel
theorem dX11_write_47 : decode cX11_write 47 = .ok (.invokestatic 146, 3) := by decide +kernel
theorem dX11_write_50 : decode cX11_write 50 = .ok (.ifCond .ne 7, 3) := by decide +kernel
theorem dX11_write_53 : decode cX11_write 53 = .ok (.ldc2_w 377, 3) := by decide +kernel
theorem dX11_write_56 : decode cX11_write 56 = .ok (.lreturn, 1) := by decide +kernel
theorem dX11_write_57 : decode cX11_write 57 = .ok (.aload_n 0, 1) := by decide +kernel
theorem dX11_write_58 : decode cX11_write 58 = .ok (.getfield 79, 3) := by decide +kernel
theorem dX11_write_61 : decode cX11_write 61 = .ok (.bipush 60, 2) := by decide +kernel
theorem dX11_write_63 : decode cX11_write 63 = .ok (.iload_n 1, 1) := by decide +kernel
theorem dX11_write_64 : decode cX11_write 64 = .ok (.imul, 1) := by decide +kernel
theorem dX11_write_65 : decode cX11_write 65 = .ok (.iload_n 2, 1) := by decide +kernel
theorem dX11_write_66 : decode cX11_write 66 = .ok (.iadd, 1) := by decide +kernel
theorem dX11_write_67 : decode cX11_write 67 = .ok (.lload_n 3, 1) := by decide +kernel
theorem dX11_write_68 : decode cX11_write 68 = .ok (.aload_n 0, 1) := by decide +kernel
theorem dX11_write_69 : decode cX11_write 69 = .ok (.getfield 73, 3) := by decide +kernel
theorem dX11_write_72 : decode cX11_write 72 = .ok (.iload_n 1, 1) := by decide +kernel
theorem dX11_write_73 : decode cX11_write 73 = .ok (.iaload, 1) := by decide +kernel
theorem dX11_write_74 : decode cX11_write 74 = .ok (.invokestatic 379, 3) := by decide +kernel
theorem dX11_write_77 : decode cX11_write 77 = .ok (.lastore, 1) := by decide +kernel
theorem dX11_write_78 : decode cX11_write 78 = .ok (.aload_n 0, 1) := by decide +kernel
theorem dX11_write_79 : decode cX11_write 79 = .ok (.getfield 79, 3) := by decide +kernel
theorem dX11_write_82 : decode cX11_write 82 = .ok (.bipush 60, 2) := by decide +kernel
theorem dX11_write_84 : decode cX11_write 84 = .ok (.iload_n 1, 1) := by decide +kernel
theorem dX11_write_85 : decode cX11_write 85 = .ok (.imul, 1) := by decide +kernel
theorem dX11_write_86 : decode cX11_write 86 = .ok (.iload_n 2, 1) := by decide +kernel
theorem dX11_write_87 : decode cX11_write 87 = .ok (.iadd, 1) := by decide +kernel
theorem dX11_write_88 : decode cX11_write 88 = .ok (.laload, 1) := by decide +kernel
theorem dX11_write_89 : decode cX11_write 89 = .ok (.lreturn, 1) := by decide +kernel
def mX11_write (n : Nat) (a : Nat) (b1 : Int) (b2 : Int) (b3 : Int) (μ : Mem) : Option (Int × Mem) :=
  (pI μ 12 a 0 0).bind fun μ2 =>
  (mX11_within n (oI2l b1) 0 3 μ2).bind fun p11 =>
  if eq32 p11.1 0 then
    some ((-2), p11.2)
  else
  (gA p11.2 12 a 41).bind fun x22 =>
  (ldI p11.2 0 x22 b1).bind fun x26 =>
  if eq32 x26 (-1) then
    some ((-6), p11.2)
  else
  (gA p11.2 12 a 42).bind fun x39 =>
  (ldI p11.2 0 x39 b1).bind fun x43 =>
  (mX11_within n (oI2l b2) 0 (oI2l (x43 - 1)) p11.2).bind fun p47 =>
  if eq32 p47.1 0 then
    some ((-7), p47.2)
  else
  (gA p47.2 12 a 43).bind fun x58 =>
  (gA p47.2 12 a 41).bind fun x69 =>
  (ldI p47.2 0 x69 b1).bind fun x73 =>
  (mX11_cutTo n b3 x73 p47.2).bind fun p74 =>
  (stI p74.2 3 x58 ((60 * b1) + b2) p74.1).bind fun μ77 =>
  (gA μ77 12 a 43).bind fun x79 =>
  (ldI μ77 3 x79 ((60 * b1) + b2)).bind fun x88 =>
  some (x88, μ77)
set_option maxRecDepth 100000 in
set_option maxHeartbeats 4000000 in
theorem cX11_write_ok (n : Nat) (a : Nat) (b1 : Int) (b2 : Int) (b3 : Int) (μ : Mem) : Mc yX11_write cX11_write 5 (some .long) 1 25 eJ [aA a, aI b1, aI b2, aJ b3] μ (mX11_write n a b1 b2 b3 μ) := by
  refine mc_of (L0 := [some (aA a), some (aI b1), some (aI b2), some (aJ b3), none]) (k := 0) (by decide) rfl rfl (fun X Γ => ?_)
  unfold mX11_write
  refine sn_aload_n dX11_write_0 rfl ?_
  refine sn_iconst dX11_write_1 ?_
  refine sn_putI (ci := 11) (j := 0) dX11_write_2 fl_X11_1 rfl (fun q h => by cases h; rfl) (fun μ2 => ?_)
  refine sn_iload_n dX11_write_5 rfl ?_
  refine sn_i2l dX11_write_6 ?_
  refine sn_lconst (v := 0) dX11_write_7 (by decide) ?_
  refine sn_ldc2 (v := 3) dX11_write_8 k_X11_226 (by decide) ?_
  refine sn_callSI (vs := [aJ (oI2l b1), aJ 0, aJ 3]) (cX11_within_ok n (oI2l b1) 0 3 μ2) dX11_write_11 cw_X11_146 rfl (by decide) (by decide) (Nat.le_of_ble_eq_true rfl) (fun p11 => ?_)
  refine sn_if_ne (tgt := 21) dX11_write_14 (by decide) ?_ ?_
  · refine sn_aload_n dX11_write_21 rfl ?_
    refine sn_getA (ci := 11) (j := 41) dX11_write_22 fl_X11_73 (by decide) (fun x22 => ?_)
    refine sn_iload_n dX11_write_25 rfl ?_
    refine sn_iald dX11_write_26 (fun x26 => ?_)
    refine sn_iconst dX11_write_27 ?_
    refine sn_icmp_ne (tgt := 35) dX11_write_28 (by decide) ?_ ?_
    · refine sn_iload_n dX11_write_35 rfl ?_
      refine sn_i2l dX11_write_36 ?_
      refine sn_lconst (v := 0) dX11_write_37 (by decide) ?_
      refine sn_aload_n dX11_write_38 rfl ?_
      refine sn_getA (ci := 11) (j := 42) dX11_write_39 fl_X11_76 (by decide) (fun x39 => ?_)
      refine sn_iload_n dX11_write_42 rfl ?_
      refine sn_iald dX11_write_43 (fun x43 => ?_)
      refine sn_iconst dX11_write_44 ?_
      refine sn_isub dX11_write_45 ?_
      refine sn_i2l dX11_write_46 ?_
      refine sn_callSI (vs := [aJ (oI2l b2), aJ 0, aJ (oI2l (x43 - 1))]) (cX11_within_ok n (oI2l b2) 0 (oI2l (x43 - 1)) p11.2) dX11_write_47 cw_X11_146 rfl (by decide) (by decide) (Nat.le_of_ble_eq_true rfl) (fun p47 => ?_)
      refine sn_if_ne (tgt := 57) dX11_write_50 (by decide) ?_ ?_
      · refine sn_aload_n dX11_write_57 rfl ?_
        refine sn_getA (ci := 11) (j := 43) dX11_write_58 fl_X11_79 (by decide) (fun x58 => ?_)
        refine sn_bipush dX11_write_61 (by decide) ?_
        refine sn_iload_n dX11_write_63 rfl ?_
        refine sn_imul dX11_write_64 ?_
        refine sn_iload_n dX11_write_65 rfl ?_
        refine sn_iadd dX11_write_66 ?_
        refine sn_lload_n dX11_write_67 rfl ?_
        refine sn_aload_n dX11_write_68 rfl ?_
        refine sn_getA (ci := 11) (j := 41) dX11_write_69 fl_X11_73 (by decide) (fun x69 => ?_)
        refine sn_iload_n dX11_write_72 rfl ?_
        refine sn_iald dX11_write_73 (fun x73 => ?_)
        refine sn_callSJ (vs := [aJ b3, aI x73]) (cX11_cutTo_ok n b3 x73 p47.2) dX11_write_74 cw_X11_379 rfl (by decide) (by decide) (Nat.le_of_ble_eq_true rfl) (fun p74 => ?_)
        refine sn_last dX11_write_77 (fun μ77 => ?_)
        refine sn_aload_n dX11_write_78 rfl ?_
        refine sn_getA (ci := 11) (j := 43) dX11_write_79 fl_X11_79 (by decide) (fun x79 => ?_)
        refine sn_bipush dX11_write_82 (by decide) ?_
        refine sn_iload_n dX11_write_84 rfl ?_
        refine sn_imul dX11_write_85 ?_
        refine sn_iload_n dX11_write_86 rfl ?_
        refine sn_iadd dX11_write_87 ?_
        refine sn_lald dX11_write_88 (fun x88 => ?_)
        exact sn_lret dX11_write_89
      · refine sn_ldc2 (v := (-7)) dX11_write_53 k_X11_377 (by decide) ?_
        exact sn_lret dX11_write_56
    · refine sn_ldc2 (v := (-6)) dX11_write_31 k_X11_375 (by decide) ?_
      exact sn_lret dX11_write_34
  · refine sn_ldc2 (v := (-2)) dX11_write_17 k_X11_373 (by decide) ?_
    exact sn_lret dX11_write_20
