/-! layer 1: model3 -/
theorem dX11_pullsFor_0 : decode cX11_pullsFor 0 = .ok (.iload_n 1, 1) := by decide +kernel
theorem dX11_pullsFor_1 : decode cX11_pullsFor 1 = .ok (.aload_n 0, 1) := by decide +kernel
theorem dX11_pullsFor_2 : decode cX11_pullsFor 2 = .ok (.getfield 13, 3) := by decide +kernel
theorem dX11_pullsFor_5 : decode cX11_pullsFor 5 = .ok (.iconst 0, 1) := by decide +kernel
theorem dX11_pullsFor_6 : decode cX11_pullsFor 6 = .ok (.iaload, 1) := by decide +kernel
theorem dX11_pullsFor_7 : decode cX11_pullsFor 7 = .ok (.if_icmp .ne 73, 3) := by decide +kernel
theorem dX11_pullsFor_10 : decode cX11_pullsFor 10 = .ok (.aload_n 0, 1) := by decide +kernel
theorem dX11_pullsFor_11 : decode cX11_pullsFor 11 = .ok (.lload_n 2, 1) := by decide +kernel
theorem dX11_pullsFor_12 : decode cX11_pullsFor 12 = .ok (.iload 5, 2) := by decide +kernel
theorem dX11_pullsFor_14 : decode cX11_pullsFor 14 = .ok (.iload 6, 2) := by decide +kernel
theorem dX11_pullsFor_16 : decode cX11_pullsFor 16 = .ok (.invokevirtual 296, 3) := by decide +kernel
theorem dX11_pullsFor_19 : decode cX11_pullsFor 19 = .ok (.aload_n 0, 1) := by decide +kernel
theorem dX11_pullsFor_20 : decode cX11_pullsFor 20 = .ok (.invokevirtual 203, 3) := by decide +kernel
theorem dX11_pullsFor_23 : decode cX11_pullsFor 23 = .ok (.pop, 1) := by decide +kernel
theorem dX11_pullsFor_24 : decode cX11_pullsFor 24 = .ok (.aload_n 0, 1) := by decide +kernel
theorem dX11_pullsFor_25 : decode cX11_pullsFor 25 = .ok (.getfield 13, 3) := by decide +kernel
theorem dX11_pullsFor_28 : decode cX11_pullsFor 28 = .ok (.bipush 46, 2) := by decide +kernel
theorem dX11_pullsFor_30 : decode cX11_pullsFor 30 = .ok (.iload 5, 2) := by decide +kernel
theorem dX11_pullsFor_32 : decode cX11_pullsFor 32 = .ok (.iadd, 1) := by decide +kernel
theorem dX11_pullsFor_33 : decode cX11_pullsFor 33 = .ok (.iaload, 1) := by decide +kernel
theorem dX11_pullsFor_34 : decode cX11_pullsFor 34 = .ok (.iload 6, 2) := by decide +kernel
theorem dX11_pullsFor_36 : decode cX11_pullsFor 36 = .ok (.if_icmp .ne 20, 3) := by decide +kernel
theorem dX11_pullsFor_39 : decode cX11_pullsFor 39 = .ok (.aload_n 0, 1) := by decide +kernel
theorem dX11_pullsFor_40 : decode cX11_pullsFor 40 = .ok (.aload_n 0, 1) := by decide +kernel
theorem dX11_pullsFor_41 : decode cX11_pullsFor 41 = .ok (.iload 5, 2) := by decide +kernel
theorem dX11_pullsFor_43 : decode cX11_pullsFor 43 = .ok (.iload 6, 2) := by decide +kernel
theorem dX11_pullsFor_45 : decode cX11_pullsFor 45 = .ok (.invokevirtual 300, 3) := by decide +kernel
theorem dX11_pullsFor_48 : decode cX11_pullsFor 48 = .ok (.iload 4, 2) := by decide +kernel
theorem dX11_pullsFor_50 : decode cX11_pullsFor 50 = .ok (.invokevirtual 319, 3) := by decide +kernel
theorem dX11_pullsFor_53 : decode cX11_pullsFor 53 = .ok (.goto 26, 3) := by decide +kernel
theorem dX11_pullsFor_56 : decode cX11_pullsFor 56 = .ok (.aload_n 0, 1) := by decide +kernel
theorem dX11_pullsFor_57 : decode cX11_pullsFor 57 = .ok (.getfield 323, 3) := by decide +kernel
theorem dX11_pullsFor_60 : decode cX11_pullsFor 60 = .ok (.iconst (-1), 1) := by decide +kernel
theorem dX11_pullsFor_61 : decode cX11_pullsFor 61 = .ok (.if_icmp .eq 12, 3) := by decide +kernel
theorem dX11_pullsFor_64 : decode cX11_pullsFor 64 = .ok (.iload 4, 2) := by decide +kernel
theorem dX11_pullsFor_66 : decode cX11_pullsFor 66 = .ok (.aload_n 0, 1) := by decide +kernel
theorem dX11_pullsFor_67 : decode cX11_pullsFor 67 = .ok (.getfield 323, 3) := by decide +kernel
theorem dX11_pullsFor_70 : decode cX11_pullsFor 70 = .ok (.if_icmp .ge 9, 3) := by decide +kernel
theorem dX11_pullsFor_73 : decode cX11_pullsFor 73 = .ok (.aload_n 0, 1) := by decide +kernel
theorem dX11_pullsFor_74 : decode cX11_pullsFor 74 = .ok (.iload 4, 2) := by decide +kernel
theorem dX11_pullsFor_76 : decode cX11_pullsFor 76 = .ok (.putfield 323, 3) := by decide +kernel
theorem dX11_pullsFor_79 : decode cX11_pullsFor 79 = .ok (.return_, 1) := by decide +kernel
theorem dX11_pullsFor_80 : decode cX11_pullsFor 80 = .ok (.iconst 0, 1) := by decide +kernel
theorem dX11_pullsFor_81 : decode cX11_pullsFor 81 = .ok (.istore 7, 2) := by decide +kernel
theorem dX11_pullsFor_83 : decode cX11_pullsFor 83 = .ok (.iload 7, 2) := by decide +kernel
theorem dX11_pullsFor_85 : decode cX11_pullsFor 85 = .ok (.aload_n 0, 1) := by decide +kernel
theorem dX11_pullsFor_86 : decode cX11_pullsFor 86 = .ok (.getfield 282, 3) := by decide +kernel
theorem dX11_pullsFor_89 : decode cX11_pullsFor 89 = .ok (.if_icmp .gt 84, 3) := by decide +kernel
theorem dX11_pullsFor_92 : decode cX11_pullsFor 92 = .ok (.iload 7, 2) := by decide +kernel
theorem dX11_pullsFor_94 : decode cX11_pullsFor 94 = .ok (.ifCond .le 23, 3) := by decide +kernel
theorem dX11_pullsFor_97 : decode cX11_pullsFor 97 = .ok (.aload_n 0, 1) := by decide +kernel
theorem dX11_pullsFor_98 : decode cX11_pullsFor 98 = .ok (.iload_n 1, 1) := by decide +kernel
theorem dX11_pullsFor_99 : decode cX11_pullsFor 99 = .ok (.aload_n 0, 1) := by decide +kernel
theorem dX11_pullsFor_100 : decode cX11_pullsFor 100 = .ok (.getfield 46, 3) := by decide +kernel
theorem dX11_pullsFor_103 : decode cX11_pullsFor 103 = .ok (.iload 7, 2) := by decide +kernel
theorem dX11_pullsFor_105 : decode cX11_pullsFor 105 = .ok (.iconst 1, 1) := by decide +kernel
theorem dX11_pullsFor_106 : decode cX11_pullsFor 106 = .ok (.isub, 1) := by decide +kernel
theorem dX11_pullsFor_107 : decode cX11_pullsFor 107 = .ok (.iaload, 1) := by decide +kernel
theorem dX11_pullsFor_108 : decode cX11_pullsFor 108 = .ok (.invokevirtual 166, 3) := by decide +kernel
theorem dX11_pullsFor_111 : decode cX11_pullsFor 111 = .ok (.ifCond .ne 6, 3) := by decide +kernel
theorem dX11_pullsFor_114 : decode cX11_pullsFor 114 = .ok (.goto 53, 3) := by decide +kernel
theorem dX11_pullsFor_117 : decode cX11_pullsFor 117 = .ok (.aload_n 0, 1) := by decide +kernel
theorem dX11_pullsFor_118 : decode cX11_pullsFor 118 = .ok (.getfield 30, 3) := by decide +kernel
theorem dX11_pullsFor_121 : decode cX11_pullsFor 121 = .ok (.iload_n 1, 1) := by decide +kernel
theorem dX11_pullsFor_122 : decode cX11_pullsFor 122 = .ok (.iload 7, 2) := by decide +kernel
theorem dX11_pullsFor_124 : decode cX11_pullsFor 124 = .ok (.ifCond .ne 7, 3) := by decide +kernel
theorem dX11_pullsFor_127 : decode cX11_pullsFor 127 = .ok (.iconst (-1), 1) := by decide +kernel
theorem dX11_pullsFor_128 : decode cX11_pullsFor 128 = .ok (.goto 12, 3) := by decide +kernel
theorem dX11_pullsFor_131 : decode cX11_pullsFor 131 = .ok (.aload_n 0, 1) := by decide +kernel
theorem dX11_pullsFor_132 : decode cX11_pullsFor 132 = .ok (.getfield 46, 3) := by decide +kernel
theorem dX11_pullsFor_135 : decode cX11_pullsFor 135 = .ok (.iload 7, 2) := by decide +kernel
theorem dX11_pullsFor_137 : decode cX11_pullsFor 137 = .ok (.iconst 1, 1) := by decide +kernel
theorem dX11_pullsFor_138 : decode cX11_pullsFor 138 = .ok (.isub, 1) := by decide +kernel
theorem dX11_pullsFor_139 : decode cX11_pullsFor 139 = .ok (.iaload, 1) := by decide +kernel
theorem dX11_pullsFor_140 : decode cX11_pullsFor 140 = .ok (.iastore, 1) := by decide +kernel
theorem dX11_pullsFor_141 : decode cX11_pullsFor 141 = .ok (.aload_n 0, 1) := by decide +kernel
theorem dX11_pullsFor_142 : decode cX11_pullsFor 142 = .ok (.iload_n 1, 1) := by decide +kernel
theorem dX11_pullsFor_143 : decode cX11_pullsFor 143 = .ok (.iconst 1, 1) := by decide +kernel
theorem dX11_pullsFor_144 : decode cX11_pullsFor 144 = .ok (.iadd, 1) := by decide +kernel
theorem dX11_pullsFor_145 : decode cX11_pullsFor 145 = .ok (.lload_n 2, 1) := by decide +kernel
theorem dX11_pullsFor_146 : decode cX11_pullsFor 146 = .ok (.iload 7, 2) := by decide +kernel
theorem dX11_pullsFor_148 : decode cX11_pullsFor 148 = .ok (.ifCond .ne 8, 3) := by decide +kernel
theorem dX11_pullsFor_151 : decode cX11_pullsFor 151 = .ok (.iload 4, 2) := by decide +kernel
theorem dX11_pullsFor_153 : decode cX11_pullsFor 153 = .ok (.goto 7, 3) := by decide +kernel
theorem dX11_pullsFor_156 : decode cX11_pullsFor 156 = .ok (.iload 4, 2) := by decide +kernel
theorem dX11_pullsFor_158 : decode cX11_pullsFor 158 = .ok (.iconst 1, 1) := by decide +kernel
theorem dX11_pullsFor_159 : decode cX11_pullsFor 159 = .ok (.iadd, 1) := by decide +kernel
theorem dX11_pullsFor_160 : decode cX11_pullsFor 160 = .ok (.iload 5, 2) := by decide +kernel
theorem dX11_pullsFor_162 : decode cX11_pullsFor 162 = .ok (.iload 6, 2) := by decide +kernel
theorem dX11_pullsFor_164 : decode cX11_pullsFor 164 = .ok (.invokevirtual 326, 3) := by decide +kernel
theorem dX11_pullsFor_167 : decode cX11_pullsFor 167 = .ok (.iinc 7 1, 3) := by decide +kernel
theorem dX11_pullsFor_170 : decode cX11_pullsFor 170 = .ok (.goto (-87), 3) := by decide +kernel
theorem dX11_pullsFor_173 : decode cX11_pullsFor 173 = .ok (.return_, 1) := by decide +kernel
def bX11_pullsFor (n : Nat) (self : Nat × Int × Int × Int × Int × Int → Mem → Option (Unit × Mem)) (v : Nat × Int × Int × Int × Int × Int) (μ : Mem) : Option (Unit × Mem) :=
  (gA μ 12 v.1 1).bind fun x2 =>
  (ldI μ 0 x2 0).bind fun x6 =>
  if eq32 v.2.1 x6 then
    (inv μ 12 v.1 (mX11_becomes n v.1 v.2.2.1 v.2.2.2.2.1 v.2.2.2.2.2 μ)).bind fun p16 =>
    (inv p16.2 12 v.1 (mX11_goes n v.1 p16.2)).bind fun p20 =>
    (gA p20.2 12 v.1 1).bind fun x25 =>
    (ldI p20.2 0 x25 (46 + v.2.2.2.2.1)).bind fun x33 =>
    if eq32 x33 v.2.2.2.2.2 then
      (inv p20.2 12 v.1 (mX11_state n v.1 v.2.2.2.2.1 v.2.2.2.2.2 p20.2)).bind fun p45 =>
      (inv p45.2 12 v.1 (mX11_meetsFor n v.1 p45.1 v.2.2.2.1 p45.2)).bind fun p50 =>
      some ((), p50.2)
    else
    (gI p20.2 12 v.1 31).bind fun x57 =>
    jn (fun (v73 : Unit) (μ73 : Mem) =>
    (pI μ73 12 v.1 31 v.2.2.2.1).bind fun μ76 =>
    some ((), μ76)) (fun j73 =>
    if eq32 x57 (-1) then
      j73 () p20.2
    else
    (gI p20.2 12 v.1 31).bind fun x67 =>
    if lt32 v.2.2.2.1 x67 then
      j73 () p20.2
    else
    some ((), p20.2))
  else
  lp (fun nx83 (v83 : Int) (μ83 : Mem) =>
  (gI μ83 12 v.1 27).bind fun x86 =>
  if lt32 x86 v83 then
    some ((), μ83)
  else
  jn (fun (v117 : Int) (μ117 : Mem) =>
  (gA μ117 12 v.1 15).bind fun x118 =>
  jn (fun (v140 : Int) (μ140 : Mem) =>
  (stI μ140 0 x118 v.2.1 v140).bind fun μ140 =>
  jn (fun (v160 : Int) (μ160 : Mem) =>
  (inv μ160 12 v.1 (self (v.1, (v.2.1 + 1), v.2.2.1, v160, v.2.2.2.2.1, v.2.2.2.2.2) μ160)).bind fun p164 =>
  nx83 (v117 + 1) p164.2) (fun j160 =>
  if eq32 v117 0 then
    j160 v.2.2.2.1 μ140
  else
  j160 (v.2.2.2.1 + 1) μ140)) (fun j140 =>
  if eq32 v117 0 then
    j140 (-1) μ117
  else
  (gA μ117 12 v.1 25).bind fun x132 =>
  (ldI μ117 0 x132 (v117 - 1)).bind fun x139 =>
  j140 x139 μ117)) (fun j117 =>
  if lt32 0 v83 then
    (gA μ83 12 v.1 25).bind fun x100 =>
    (ldI μ83 0 x100 (v83 - 1)).bind fun x107 =>
    (inv μ83 12 v.1 (mX11_isEnd n v.1 v.2.1 x107 μ83)).bind fun p108 =>
    if eq32 p108.1 0 then
      nx83 (v83 + 1) p108.2
    else
    j117 v83 p108.2
  else
  j117 v83 μ83)) n 0 μ
set_option maxRecDepth 100000 in
set_option maxHeartbeats 4000000 in
theorem bX11_pullsFor_ok (n : Nat) (self : Nat × Int × Int × Int × Int × Int → Mem → Option (Unit × Mem)) (fs ls : Nat) (hs : ∀ (v : Nat × Int × Int × Int × Int × Int) (μ : Mem), Mc yX11_pullsFor cX11_pullsFor 8 none fs ls eV [aA v.1, aI v.2.1, aJ v.2.2.1, aI v.2.2.2.1, aI v.2.2.2.2.1, aI v.2.2.2.2.2] μ (self v μ)) (v : Nat × Int × Int × Int × Int × Int) (μ : Mem) : Mc yX11_pullsFor cX11_pullsFor 8 none (fs + 3) (ls + 72) eV [aA v.1, aI v.2.1, aJ v.2.2.1, aI v.2.2.2.1, aI v.2.2.2.2.1, aI v.2.2.2.2.2] μ (bX11_pullsFor n self v μ) := by
  refine mc_of (L0 := [some (aA v.1), some (aI v.2.1), some (aJ v.2.2.1), none, some (aI v.2.2.2.1), some (aI v.2.2.2.2.1), some (aI v.2.2.2.2.2), none]) (k := 1) (by decide) rfl rfl (fun X Γ => ?_)
  unfold bX11_pullsFor
  refine sn_iload_n dX11_pullsFor_0 rfl ?_
  refine sn_aload_n dX11_pullsFor_1 rfl ?_
  refine sn_getA (ci := 11) (j := 1) dX11_pullsFor_2 fl_X11_13 (by decide) (fun x2 => ?_)
  refine sn_iconst dX11_pullsFor_5 ?_
  refine sn_iald dX11_pullsFor_6 (fun x6 => ?_)
  refine sn_icmp_ne (tgt := 80) dX11_pullsFor_7 (by decide) ?_ ?_
  · refine sn_iconst dX11_pullsFor_80 ?_
    refine sn_istore (L' := [some (aA v.1), some (aI v.2.1), some (aJ v.2.2.1), none, some (aI v.2.2.2.1), some (aI v.2.2.2.2.1), some (aI v.2.2.2.2.2), some (aI 0)]) dX11_pullsFor_81 (by decide) rfl ?_
    refine sn_lp (La := fun v83 : Int => [some (aA v.1), some (aI v.2.1), some (aJ v.2.2.1), none, some (aI v.2.2.2.1), some (aI v.2.2.2.2.1), some (aI v.2.2.2.2.2), some (aI v83)]) ?_ n 0 μ
    intro nx83 hnx83 v83 μ83
    refine sn_iload dX11_pullsFor_83 rfl ?_
    refine sn_aload_n dX11_pullsFor_85 rfl ?_
    refine sn_getI (ci := 11) (j := 27) dX11_pullsFor_86 fl_X11_282 rfl (fun x86 => ?_)
    refine sn_icmp_gt (tgt := 173) dX11_pullsFor_89 (by decide) ?_ ?_
    · exact sn_vret dX11_pullsFor_173
    · refine sn_iload dX11_pullsFor_92 rfl ?_
      refine sn_jn (pcj := 117) (La := fun v117 : Int => [some (aA v.1), some (aI v.2.1), some (aJ v.2.2.1), none, some (aI v.2.2.2.1), some (aI v.2.2.2.2.1), some (aI v.2.2.2.2.2), some (aI v117)]) (Sa := fun v117 : Int => []) ?_ ?_
      · intro v117 μ117
        refine sn_aload_n dX11_pullsFor_117 rfl ?_
        refine sn_getA (ci := 11) (j := 15) dX11_pullsFor_118 fl_X11_30 (by decide) (fun x118 => ?_)
        refine sn_iload_n dX11_pullsFor_121 rfl ?_
        refine sn_iload dX11_pullsFor_122 rfl ?_
        refine sn_jn (pcj := 140) (La := fun v140 : Int => [some (aA v.1), some (aI v.2.1), some (aJ v.2.2.1), none, some (aI v.2.2.2.1), some (aI v.2.2.2.2.1), some (aI v.2.2.2.2.2), some (aI v117)]) (Sa := fun v140 : Int => [aI v140, aI v.2.1, aA x118]) ?_ ?_
        · intro v140 μ140
          refine sn_iast dX11_pullsFor_140 (fun μ140 => ?_)
          refine sn_aload_n dX11_pullsFor_141 rfl ?_
          refine sn_iload_n dX11_pullsFor_142 rfl ?_
          refine sn_iconst dX11_pullsFor_143 ?_
          refine sn_iadd dX11_pullsFor_144 ?_
          refine sn_lload_n dX11_pullsFor_145 rfl ?_
          refine sn_iload dX11_pullsFor_146 rfl ?_
          refine sn_jn (pcj := 160) (La := fun v160 : Int => [some (aA v.1), some (aI v.2.1), some (aJ v.2.2.1), none, some (aI v.2.2.2.1), some (aI v.2.2.2.2.1), some (aI v.2.2.2.2.2), some (aI v117)]) (Sa := fun v160 : Int => [aI v160, aJ v.2.2.1, aI (v.2.1 + 1), aA v.1]) ?_ ?_
          · intro v160 μ160
            refine sn_iload dX11_pullsFor_160 rfl ?_
            refine sn_iload dX11_pullsFor_162 rfl ?_
            refine sn_callVV (vs := [aI (v.2.1 + 1), aJ v.2.2.1, aI v160, aI v.2.2.2.2.1, aI v.2.2.2.2.2]) (ci := 11) (hs (v.1, (v.2.1 + 1), v.2.2.1, v160, v.2.2.2.2.1, v.2.2.2.2.2) μ160) dX11_pullsFor_164 cw_X11_326 rfl rfl rfl (by omega) (by omega) (Nat.le_of_ble_eq_true rfl) (fun p164 => ?_)
            refine sn_iinc (L' := [some (aA v.1), some (aI v.2.1), some (aJ v.2.2.1), none, some (aI v.2.2.2.1), some (aI v.2.2.2.2.1), some (aI v.2.2.2.2.2), some (aI (v117 + 1))]) dX11_pullsFor_167 rfl (by decide) rfl ?_
            refine sn_goto (tgt := 83) dX11_pullsFor_170 (by decide) ?_
            exact hnx83 (v117 + 1) p164.2
          intro j160 hj160
          refine sn_if_ne (tgt := 156) dX11_pullsFor_148 (by decide) ?_ ?_
          · refine sn_iload dX11_pullsFor_156 rfl ?_
            refine sn_iconst dX11_pullsFor_158 ?_
            refine sn_iadd dX11_pullsFor_159 ?_
            exact hj160 (v.2.2.2.1 + 1) μ140
          · refine sn_iload dX11_pullsFor_151 rfl ?_
            refine sn_goto (tgt := 160) dX11_pullsFor_153 (by decide) ?_
            exact hj160 v.2.2.2.1 μ140
        intro j140 hj140
        refine sn_if_ne (tgt := 131) dX11_pullsFor_124 (by decide) ?_ ?_
        · refine sn_aload_n dX11_pullsFor_131 rfl ?_
          refine sn_getA (ci := 11) (j := 25) dX11_pullsFor_132 fl_X11_46 (by decide) (fun x132 => ?_)
          refine sn_iload dX11_pullsFor_135 rfl ?_
          refine sn_iconst dX11_pullsFor_137 ?_
          refine sn_isub dX11_pullsFor_138 ?_
          refine sn_iald dX11_pullsFor_139 (fun x139 => ?_)
          exact hj140 x139 μ117
        · refine sn_iconst dX11_pullsFor_127 ?_
          refine sn_goto (tgt := 140) dX11_pullsFor_128 (by decide) ?_
          exact hj140 (-1) μ117
      intro j117 hj117
      refine sn_if_le (tgt := 117) dX11_pullsFor_94 (by decide) ?_ ?_
      · exact hj117 v83 μ83
      · refine sn_aload_n dX11_pullsFor_97 rfl ?_
        refine sn_iload_n dX11_pullsFor_98 rfl ?_
        refine sn_aload_n dX11_pullsFor_99 rfl ?_
        refine sn_getA (ci := 11) (j := 25) dX11_pullsFor_100 fl_X11_46 (by decide) (fun x100 => ?_)
        refine sn_iload dX11_pullsFor_103 rfl ?_
        refine sn_iconst dX11_pullsFor_105 ?_
        refine sn_isub dX11_pullsFor_106 ?_
        refine sn_iald dX11_pullsFor_107 (fun x107 => ?_)
        refine sn_callVI (vs := [aI v.2.1, aI x107]) (ci := 11) (cX11_isEnd_ok n v.1 v.2.1 x107 μ83) dX11_pullsFor_108 cw_X11_166 rfl rfl rfl (by omega) (by omega) (Nat.le_of_ble_eq_true rfl) (fun p108 => ?_)
        refine sn_if_ne (tgt := 117) dX11_pullsFor_111 (by decide) ?_ ?_
        · exact hj117 v83 p108.2
        · refine sn_goto (tgt := 167) dX11_pullsFor_114 (by decide) ?_
          refine sn_iinc (L' := [some (aA v.1), some (aI v.2.1), some (aJ v.2.2.1), none, some (aI v.2.2.2.1), some (aI v.2.2.2.2.1), some (aI v.2.2.2.2.2), some (aI (v83 + 1))]) dX11_pullsFor_167 rfl (by decide) rfl ?_
          refine sn_goto (tgt := 83) dX11_pullsFor_170 (by decide) ?_
          exact hnx83 (v83 + 1) p108.2
  · refine sn_aload_n dX11_pullsFor_10 rfl ?_
    refine sn_lload_n dX11_pullsFor_11 rfl ?_
    refine sn_iload dX11_pullsFor_12 rfl ?_
    refine sn_iload dX11_pullsFor_14 rfl ?_
    refine sn_callVV (vs := [aJ v.2.2.1, aI v.2.2.2.2.1, aI v.2.2.2.2.2]) (ci := 11) (cX11_becomes_ok n v.1 v.2.2.1 v.2.2.2.2.1 v.2.2.2.2.2 μ) dX11_pullsFor_16 cw_X11_296 rfl rfl rfl (by omega) (by omega) (Nat.le_of_ble_eq_true rfl) (fun p16 => ?_)
    refine sn_aload_n dX11_pullsFor_19 rfl ?_
    refine sn_callVI (vs := []) (ci := 11) (cX11_goes_ok n v.1 p16.2) dX11_pullsFor_20 cw_X11_203 rfl rfl rfl (by omega) (by omega) (Nat.le_of_ble_eq_true rfl) (fun p20 => ?_)
    refine sn_pop dX11_pullsFor_23 rfl ?_
    refine sn_aload_n dX11_pullsFor_24 rfl ?_
    refine sn_getA (ci := 11) (j := 1) dX11_pullsFor_25 fl_X11_13 (by decide) (fun x25 => ?_)
    refine sn_bipush dX11_pullsFor_28 (by decide) ?_
    refine sn_iload dX11_pullsFor_30 rfl ?_
    refine sn_iadd dX11_pullsFor_32 ?_
    refine sn_iald dX11_pullsFor_33 (fun x33 => ?_)
    refine sn_iload dX11_pullsFor_34 rfl ?_
    refine sn_icmp_ne (tgt := 56) dX11_pullsFor_36 (by decide) ?_ ?_
    · refine sn_aload_n dX11_pullsFor_56 rfl ?_
      refine sn_getI (ci := 11) (j := 31) dX11_pullsFor_57 fl_X11_323 rfl (fun x57 => ?_)
      refine sn_iconst dX11_pullsFor_60 ?_
      refine sn_jn (pcj := 73) (La := fun v73 : Unit => [some (aA v.1), none, none, none, some (aI v.2.2.2.1), none, none, none]) (Sa := fun v73 : Unit => []) ?_ ?_
      · intro v73 μ73
        refine sn_aload_n dX11_pullsFor_73 rfl ?_
        refine sn_iload dX11_pullsFor_74 rfl ?_
        refine sn_putI (ci := 11) (j := 31) dX11_pullsFor_76 fl_X11_323 rfl (fun q h => by cases h; rfl) (fun μ76 => ?_)
        exact sn_vret dX11_pullsFor_79
      intro j73 hj73
      refine sn_icmp_eq (tgt := 73) dX11_pullsFor_61 (by decide) ?_ ?_
      · exact sn_mask (L' := [some (aA v.1), none, none, none, some (aI v.2.2.2.1), none, none, none]) [true, false, false, false, true, false, false, false] rfl (hj73 () p20.2)
      · refine sn_iload dX11_pullsFor_64 rfl ?_
        refine sn_aload_n dX11_pullsFor_66 rfl ?_
        refine sn_getI (ci := 11) (j := 31) dX11_pullsFor_67 fl_X11_323 rfl (fun x67 => ?_)
        refine sn_icmp_ge (tgt := 79) dX11_pullsFor_70 (by decide) ?_ ?_
        · exact sn_vret dX11_pullsFor_79
        · exact sn_mask (L' := [some (aA v.1), none, none, none, some (aI v.2.2.2.1), none, none, none]) [true, false, false, false, true, false, false, false] rfl (hj73 () p20.2)
    · refine sn_aload_n dX11_pullsFor_39 rfl ?_
      refine sn_aload_n dX11_pullsFor_40 rfl ?_
      refine sn_iload dX11_pullsFor_41 rfl ?_
      refine sn_iload dX11_pullsFor_43 rfl ?_
      refine sn_callVJ (vs := [aI v.2.2.2.2.1, aI v.2.2.2.2.2]) (ci := 11) (cX11_state_ok n v.1 v.2.2.2.2.1 v.2.2.2.2.2 p20.2) dX11_pullsFor_45 cw_X11_300 rfl rfl rfl (by omega) (by omega) (Nat.le_of_ble_eq_true rfl) (fun p45 => ?_)
      refine sn_iload dX11_pullsFor_48 rfl ?_
      refine sn_callVV (vs := [aJ p45.1, aI v.2.2.2.1]) (ci := 11) (cX11_meetsFor_ok n v.1 p45.1 v.2.2.2.1 p45.2) dX11_pullsFor_50 cw_X11_319 rfl rfl rfl (by omega) (by omega) (Nat.le_of_ble_eq_true rfl) (fun p50 => ?_)
      refine sn_goto (tgt := 79) dX11_pullsFor_53 (by decide) ?_
      exact sn_vret dX11_pullsFor_79
def rX11_pullsFor (n : Nat) : Nat → Nat × Int × Int × Int × Int × Int → Mem → Option (Unit × Mem) := lp (bX11_pullsFor n)
theorem rX11_pullsFor_ok (n : Nat) : ∀ (d : Nat) (v : Nat × Int × Int × Int × Int × Int) (μ : Mem), Mc yX11_pullsFor cX11_pullsFor 8 none (3 * d) (72 * d) eV [aA v.1, aI v.2.1, aJ v.2.2.1, aI v.2.2.2.1, aI v.2.2.2.2.1, aI v.2.2.2.2.2] μ (rX11_pullsFor n d v μ)
  | 0, v, μ => fun r μ' h => by cases h
  | d + 1, v, μ => bX11_pullsFor_ok n (rX11_pullsFor n d) (3 * d) (72 * d) (rX11_pullsFor_ok n d) v μ
def mX11_pullsFor (n : Nat) (a : Nat) (b1 : Int) (b2 : Int) (b3 : Int) (b4 : Int) (b5 : Int) (μ : Mem) : Option (Unit × Mem) := rX11_pullsFor n 12 (a, b1, b2, b3, b4, b5) μ
theorem cX11_pullsFor_ok (n : Nat) (a : Nat) (b1 : Int) (b2 : Int) (b3 : Int) (b4 : Int) (b5 : Int) (μ : Mem) : Mc yX11_pullsFor cX11_pullsFor 8 none 36 864 eV [aA a, aI b1, aJ b2, aI b3, aI b4, aI b5] μ (mX11_pullsFor n a b1 b2 b3 b4 b5 μ) := rX11_pullsFor_ok n 12 (a, b1, b2, b3, b4, b5) μ
theorem dX11_cheapest_0 : decode cX11_cheapest 0 = .ok (.aload_n 0, 1) := by decide +kernel
theorem dX11_cheapest_1 : decode cX11_cheapest 1 = .ok (.iconst 0, 1) := by decide +kernel
theorem dX11_cheapest_2 : decode cX11_cheapest 2 = .ok (.putfield 1, 3) := by decide +kernel
theorem dX11_cheapest_5 : decode cX11_cheapest 5 = .ok (.aload_n 0, 1) := by decide +kernel
theorem dX11_cheapest_6 : decode cX11_cheapest 6 = .ok (.iload_n 1, 1) := by decide +kernel
theorem dX11_cheapest_7 : decode cX11_cheapest 7 = .ok (.i2l, 1) := by decide +kernel
theorem dX11_cheapest_8 : decode cX11_cheapest 8 = .ok (.invokevirtual 170, 3) := by decide +kernel
theorem dX11_cheapest_11 : decode cX11_cheapest 11 = .ok (.ifCond .ne 6, 3) := by decide +kernel
theorem dX11_cheapest_14 : decode cX11_cheapest 14 = .ok (.bipush (-2), 2) := by decide +kernel
theorem dX11_cheapest_16 : decode cX11_cheapest 16 = .ok (.ireturn, 1) := by decide +kernel
theorem dX11_cheapest_17 : decode cX11_cheapest 17 = .ok (.iload_n 2, 1) := by decide +kernel
theorem dX11_cheapest_18 : decode cX11_cheapest 18 = .ok (.i2l, 1) := by decide +kernel
theorem dX11_cheapest_19 : decode cX11_cheapest 19 = .ok (.lconst 1, 1) := by decide +kernel
theorem dX11_cheapest_20 : decode cX11_cheapest 20 = .ok (.ldc2_w 330, 3) := by decide +kernel
theorem dX11_cheapest_23 : decode cX11_cheapest 23 = .ok (.invokestatic 146, 3) := by decide +kernel
theorem dX11_cheapest_26 : decode cX11_cheapest 26 = .ok (.ifCond .ne 6, 3) := by decide +kernel
theorem dX11_cheapest_29 : decode cX11_cheapest 29 = .ok (.bipush (-3), 2) := by decide +kernel
theorem dX11_cheapest_31 : decode cX11_cheapest 31 = .ok (.ireturn, 1) := by decide +kernel
theorem dX11_cheapest_32 : decode cX11_cheapest 32 = .ok (.aload_n 0, 1) := by decide +kernel
theorem dX11_cheapest_33 : decode cX11_cheapest 33 = .ok (.invokevirtual 312, 3) := by decide +kernel
theorem dX11_cheapest_36 : decode cX11_cheapest 36 = .ok (.ifCond .ne 6, 3) := by decide +kernel
theorem dX11_cheapest_39 : decode cX11_cheapest 39 = .ok (.bipush (-4), 2) := by decide +kernel
theorem dX11_cheapest_41 : decode cX11_cheapest 41 = .ok (.ireturn, 1) := by decide +kernel
theorem dX11_cheapest_42 : decode cX11_cheapest 42 = .ok (.aload_n 0, 1) := by decide +kernel
theorem dX11_cheapest_43 : decode cX11_cheapest 43 = .ok (.invokevirtual 230, 3) := by decide +kernel
theorem dX11_cheapest_46 : decode cX11_cheapest 46 = .ok (.aload_n 0, 1) := by decide +kernel
theorem dX11_cheapest_47 : decode cX11_cheapest 47 = .ok (.getfield 13, 3) := by decide +kernel
theorem dX11_cheapest_50 : decode cX11_cheapest 50 = .ok (.bipush 46, 2) := by decide +kernel
theorem dX11_cheapest_52 : decode cX11_cheapest 52 = .ok (.iload_n 1, 1) := by decide +kernel
theorem dX11_cheapest_53 : decode cX11_cheapest 53 = .ok (.iadd, 1) := by decide +kernel
theorem dX11_cheapest_54 : decode cX11_cheapest 54 = .ok (.iaload, 1) := by decide +kernel
theorem dX11_cheapest_55 : decode cX11_cheapest 55 = .ok (.istore_n 3, 1) := by decide +kernel
theorem dX11_cheapest_56 : decode cX11_cheapest 56 = .ok (.aload_n 0, 1) := by decide +kernel
theorem dX11_cheapest_57 : decode cX11_cheapest 57 = .ok (.iconst (-1), 1) := by decide +kernel
theorem dX11_cheapest_58 : decode cX11_cheapest 58 = .ok (.putfield 323, 3) := by decide +kernel
theorem dX11_cheapest_61 : decode cX11_cheapest 61 = .ok (.aload_n 0, 1) := by decide +kernel
theorem dX11_cheapest_62 : decode cX11_cheapest 62 = .ok (.getfield 49, 3) := by decide +kernel
theorem dX11_cheapest_65 : decode cX11_cheapest 65 = .ok (.iconst 0, 1) := by decide +kernel
theorem dX11_cheapest_66 : decode cX11_cheapest 66 = .ok (.aload_n 0, 1) := by decide +kernel
theorem dX11_cheapest_67 : decode cX11_cheapest 67 = .ok (.iload_n 1, 1) := by decide +kernel
theorem dX11_cheapest_68 : decode cX11_cheapest 68 = .ok (.iload_n 3, 1) := by decide +kernel
theorem dX11_cheapest_69 : decode cX11_cheapest 69 = .ok (.invokevirtual 300, 3) := by decide +kernel
theorem dX11_cheapest_72 : decode cX11_cheapest 72 = .ok (.lastore, 1) := by decide +kernel
theorem dX11_cheapest_73 : decode cX11_cheapest 73 = .ok (.aload_n 0, 1) := by decide +kernel
theorem dX11_cheapest_74 : decode cX11_cheapest 74 = .ok (.getfield 52, 3) := by decide +kernel
theorem dX11_cheapest_77 : decode cX11_cheapest 77 = .ok (.iconst 0, 1) := by decide +kernel
theorem dX11_cheapest_78 : decode cX11_cheapest 78 = .ok (.iconst 0, 1) := by decide +kernel
theorem dX11_cheapest_79 : decode cX11_cheapest 79 = .ok (.iastore, 1) := by decide +kernel
theorem dX11_cheapest_80 : decode cX11_cheapest 80 = .ok (.iconst 1, 1) := by decide +kernel
theorem dX11_cheapest_81 : decode cX11_cheapest 81 = .ok (.istore 4, 2) := by decide +kernel
theorem dX11_cheapest_83 : decode cX11_cheapest 83 = .ok (.aload_n 0, 1) := by decide +kernel
theorem dX11_cheapest_84 : decode cX11_cheapest 84 = .ok (.invokevirtual 200, 3) := by decide +kernel
theorem dX11_cheapest_87 : decode cX11_cheapest 87 = .ok (.iconst 1, 1) := by decide +kernel
theorem dX11_cheapest_88 : decode cX11_cheapest 88 = .ok (.istore 5, 2) := by decide +kernel
theorem dX11_cheapest_90 : decode cX11_cheapest 90 = .ok (.iload 5, 2) := by decide +kernel
theorem dX11_cheapest_92 : decode cX11_cheapest 92 = .ok (.iload_n 2, 1) := by decide +kernel
theorem dX11_cheapest_93 : decode cX11_cheapest 93 = .ok (.if_icmp .gt 143, 3) := by decide +kernel
theorem dX11_cheapest_96 : decode cX11_cheapest 96 = .ok (.iload 4, 2) := by decide +kernel
theorem dX11_cheapest_98 : decode cX11_cheapest 98 = .ok (.sipush 3000, 3) := by decide +kernel
theorem dX11_cheapest_101 : decode cX11_cheapest 101 = .ok (.if_icmp .gt 135, 3) := by decide +kernel
theorem dX11_cheapest_104 : decode cX11_cheapest 104 = .ok (.iconst 0, 1) := by decide +kernel
theorem dX11_cheapest_105 : decode cX11_cheapest 105 = .ok (.istore 6, 2) := by decide +kernel
theorem dX11_cheapest_107 : decode cX11_cheapest 107 = .ok (.iload 6, 2) := by decide +kernel
theorem dX11_cheapest_109 : decode cX11_cheapest 109 = .ok (.sipush 8192, 3) := by decide +kernel
theorem dX11_cheapest_112 : decode cX11_cheapest 112 = .ok (.if_icmp .ge 17, 3) := by decide +kernel
theorem dX11_cheapest_115 : decode cX11_cheapest 115 = .ok (.aload_n 0, 1) := by decide +kernel
theorem dX11_cheapest_116 : decode cX11_cheapest 116 = .ok (.getfield 43, 3) := by decide +kernel
theorem dX11_cheapest_119 : decode cX11_cheapest 119 = .ok (.iload 6, 2) := by decide +kernel
theorem dX11_cheapest_121 : decode cX11_cheapest 121 = .ok (.iconst 0, 1) := by decide +kernel
theorem dX11_cheapest_122 : decode cX11_cheapest 122 = .ok (.iastore, 1) := by decide +kernel
theorem dX11_cheapest_123 : decode cX11_cheapest 123 = .ok (.iinc 6 1, 3) := by decide +kernel
theorem dX11_cheapest_126 : decode cX11_cheapest 126 = .ok (.goto (-19), 3) := by decide +kernel
theorem dX11_cheapest_129 : decode cX11_cheapest 129 = .ok (.aload_n 0, 1) := by decide +kernel
theorem dX11_cheapest_130 : decode cX11_cheapest 130 = .ok (.iconst 0, 1) := by decide +kernel
theorem dX11_cheapest_131 : decode cX11_cheapest 131 = .ok (.putfield 293, 3) := by decide +kernel
theorem dX11_cheapest_134 : decode cX11_cheapest 134 = .ok (.iconst 0, 1) := by decide +kernel
theorem dX11_cheapest_135 : decode cX11_cheapest 135 = .ok (.istore 6, 2) := by decide +kernel
theorem dX11_cheapest_137 : decode cX11_cheapest 137 = .ok (.iload 6, 2) := by decide +kernel
theorem dX11_cheapest_139 : decode cX11_cheapest 139 = .ok (.iload 4, 2) := by decide +kernel
theorem dX11_cheapest_141 : decode cX11_cheapest 141 = .ok (.if_icmp .ge 30, 3) := by decide +kernel
theorem dX11_cheapest_144 : decode cX11_cheapest 144 = .ok (.aload_n 0, 1) := by decide +kernel
theorem dX11_cheapest_145 : decode cX11_cheapest 145 = .ok (.iconst 0, 1) := by decide +kernel
theorem dX11_cheapest_146 : decode cX11_cheapest 146 = .ok (.aload_n 0, 1) := by decide +kernel
theorem dX11_cheapest_147 : decode cX11_cheapest 147 = .ok (.getfield 49, 3) := by decide +kernel
theorem dX11_cheapest_150 : decode cX11_cheapest 150 = .ok (.iload 6, 2) := by decide +kernel
theorem dX11_cheapest_152 : decode cX11_cheapest 152 = .ok (.laload, 1) := by decide +kernel
theorem dX11_cheapest_153 : decode cX11_cheapest 153 = .ok (.aload_n 0, 1) := by decide +kernel
theorem dX11_cheapest_154 : decode cX11_cheapest 154 = .ok (.getfield 52, 3) := by decide +kernel
theorem dX11_cheapest_157 : decode cX11_cheapest 157 = .ok (.iload 6, 2) := by decide +kernel
theorem dX11_cheapest_159 : decode cX11_cheapest 159 = .ok (.iaload, 1) := by decide +kernel
theorem dX11_cheapest_160 : decode cX11_cheapest 160 = .ok (.iload_n 1, 1) := by decide +kernel
theorem dX11_cheapest_161 : decode cX11_cheapest 161 = .ok (.iload_n 3, 1) := by decide +kernel
theorem dX11_cheapest_162 : decode cX11_cheapest 162 = .ok (.invokevirtual 326, 3) := by decide +kernel
theorem dX11_cheapest_165 : decode cX11_cheapest 165 = .ok (.iinc 6 1, 3) := by decide +kernel
theorem dX11_cheapest_168 : decode cX11_cheapest 168 = .ok (.goto (-31), 3) := by decide +kernel
theorem dX11_cheapest_171 : decode cX11_cheapest 171 = .ok (.iload 5, 2) := by decide +kernel
theorem dX11_cheapest_173 : decode cX11_cheapest 173 = .ok (.iload_n 2, 1) := by decide +kernel
theorem dX11_cheapest_174 : decode cX11_cheapest 174 = .ok (.if_icmp .ne 6, 3) := by decide +kernel
theorem dX11_cheapest_177 : decode cX11_cheapest 177 = .ok (.goto 53, 3) := by decide +kernel
theorem dX11_cheapest_180 : decode cX11_cheapest 180 = .ok (.aload_n 0, 1) := by decide +kernel
theorem dX11_cheapest_181 : decode cX11_cheapest 181 = .ok (.getfield 293, 3) := by decide +kernel
theorem dX11_cheapest_184 : decode cX11_cheapest 184 = .ok (.istore 4, 2) := by decide +kernel
theorem dX11_cheapest_186 : decode cX11_cheapest 186 = .ok (.iconst 0, 1) := by decide +kernel
theorem dX11_cheapest_187 : decode cX11_cheapest 187 = .ok (.istore 6, 2) := by decide +kernel
theorem dX11_cheapest_189 : decode cX11_cheapest 189 = .ok (.iload 6, 2) := by decide +kernel
theorem dX11_cheapest_191 : decode cX11_cheapest 191 = .ok (.iload 4, 2) := by decide +kernel
theorem dX11_cheapest_193 : decode cX11_cheapest 193 = .ok (.if_icmp .ge 37, 3) := by decide +kernel
theorem dX11_cheapest_196 : decode cX11_cheapest 196 = .ok (.aload_n 0, 1) := by decide +kernel
theorem dX11_cheapest_197 : decode cX11_cheapest 197 = .ok (.getfield 49, 3) := by decide +kernel
theorem dX11_cheapest_200 : decode cX11_cheapest 200 = .ok (.iload 6, 2) := by decide +kernel
theorem dX11_cheapest_202 : decode cX11_cheapest 202 = .ok (.aload_n 0, 1) := by decide +kernel
theorem dX11_cheapest_203 : decode cX11_cheapest 203 = .ok (.getfield 39, 3) := by decide +kernel
theorem dX11_cheapest_206 : decode cX11_cheapest 206 = .ok (.iload 6, 2) := by decide +kernel
theorem dX11_cheapest_208 : decode cX11_cheapest 208 = .ok (.laload, 1) := by decide +kernel
theorem dX11_cheapest_209 : decode cX11_cheapest 209 = .ok (.lastore, 1) := by decide +kernel
theorem dX11_cheapest_210 : decode cX11_cheapest 210 = .ok (.aload_n 0, 1) := by decide +kernel
theorem dX11_cheapest_211 : decode cX11_cheapest 211 = .ok (.getfield 52, 3) := by decide +kernel
theorem dX11_cheapest_214 : decode cX11_cheapest 214 = .ok (.iload 6, 2) := by decide +kernel
theorem dX11_cheapest_216 : decode cX11_cheapest 216 = .ok (.aload_n 0, 1) := by decide +kernel
theorem dX11_cheapest_217 : decode cX11_cheapest 217 = .ok (.getfield 55, 3) := by decide +kernel
theorem dX11_cheapest_220 : decode cX11_cheapest 220 = .ok (.iload 6, 2) := by decide +kernel
theorem dX11_cheapest_222 : decode cX11_cheapest 222 = .ok (.iaload, 1) := by decide +kernel
theorem dX11_cheapest_223 : decode cX11_cheapest 223 = .ok (.iastore, 1) := by decide +kernel
theorem dX11_cheapest_224 : decode cX11_cheapest 224 = .ok (.iinc 6 1, 3) := by decide +kernel
theorem dX11_cheapest_227 : decode cX11_cheapest 227 = .ok (.goto (-38), 3) := by decide +kernel
theorem dX11_cheapest_230 : decode cX11_cheapest 230 = .ok (.iinc 5 1, 3) := by decide +kernel
theorem dX11_cheapest_233 : decode cX11_cheapest 233 = .ok (.goto (-143), 3) := by decide +kernel
theorem dX11_cheapest_236 : decode cX11_cheapest 236 = .ok (.aload_n 0, 1) := by decide +kernel
theorem dX11_cheapest_237 : decode cX11_cheapest 237 = .ok (.invokevirtual 236, 3) := by decide +kernel
theorem dX11_cheapest_240 : decode cX11_cheapest 240 = .ok (.iload 4, 2) := by decide +kernel
theorem dX11_cheapest_242 : decode cX11_cheapest 242 = .ok (.sipush 3000, 3) := by decide +kernel
theorem dX11_cheapest_245 : decode cX11_cheapest 245 = .ok (.if_icmp .le 8, 3) := by decide +kernel
theorem dX11_cheapest_248 : decode cX11_cheapest 248 = .ok (.bipush (-4), 2) := by decide +kernel
theorem dX11_cheapest_250 : decode cX11_cheapest 250 = .ok (.goto 7, 3) := by decide +kernel
theorem dX11_cheapest_253 : decode cX11_cheapest 253 = .ok (.aload_n 0, 1) := by decide +kernel
theorem dX11_cheapest_254 : decode cX11_cheapest 254 = .ok (.getfield 323, 3) := by decide +kernel
theorem dX11_cheapest_257 : decode cX11_cheapest 257 = .ok (.ireturn, 1) := by decide +kernel
def mX11_cheapest (n : Nat) (a : Nat) (b1 : Int) (b2 : Int) (μ : Mem) : Option (Int × Mem) :=
  (pI μ 12 a 0 0).bind fun μ2 =>
  (inv μ2 12 a (mX11_isHouse n a (oI2l b1) μ2)).bind fun p8 =>
  if eq32 p8.1 0 then
    some ((-2), p8.2)
  else
  (mX11_within n (oI2l b2) 1 6 p8.2).bind fun p23 =>
  if eq32 p23.1 0 then
    some ((-3), p23.2)
  else
  (inv p23.2 12 a (mX11_areFew n a p23.2)).bind fun p33 =>
  if eq32 p33.1 0 then
    some ((-4), p33.2)
  else
  (inv p33.2 12 a (mX11_keeps n a p33.2)).bind fun p43 =>
  (gA p43.2 12 a 1).bind fun x47 =>
  (ldI p43.2 0 x47 (46 + b1)).bind fun x54 =>
  (pI p43.2 12 a 31 (-1)).bind fun μ58 =>
  (gA μ58 12 a 28).bind fun x62 =>
  (inv μ58 12 a (mX11_state n a b1 x54 μ58)).bind fun p69 =>
  (stI p69.2 3 x62 0 p69.1).bind fun μ72 =>
  (gA μ72 12 a 29).bind fun x74 =>
  (stI μ72 0 x74 0 0).bind fun μ79 =>
  (inv μ79 12 a (mX11_nobody n a μ79)).bind fun p84 =>
  lp (fun nx90 (v90 : Int × Int) (μ90 : Mem) =>
  jn (fun (v236 : Int) (μ236 : Mem) =>
  (inv μ236 12 a (mX11_isAgain n a μ236)).bind fun p237 =>
  if lt32 3000 v236 then
    some ((-4), p237.2)
  else
  (gI p237.2 12 a 31).bind fun x254 =>
  some (x254, p237.2)) (fun j236 =>
  if lt32 b2 v90.2 then
    j236 v90.1 μ90
  else
  if lt32 3000 v90.1 then
    j236 v90.1 μ90
  else
  lp (fun nx107 (v107 : Int) (μ107 : Mem) =>
  if lt32 v107 8192 then
    (gA μ107 12 a 24).bind fun x116 =>
    (stI μ107 0 x116 v107 0).bind fun μ122 =>
    nx107 (v107 + 1) μ122
  else
  (pI μ107 12 a 26 0).bind fun μ131 =>
  lp (fun nx137 (v137 : Int) (μ137 : Mem) =>
  if lt32 v137 v90.1 then
    (gA μ137 12 a 28).bind fun x147 =>
    (ldI μ137 3 x147 v137).bind fun x152 =>
    (gA μ137 12 a 29).bind fun x154 =>
    (ldI μ137 0 x154 v137).bind fun x159 =>
    (inv μ137 12 a (mX11_pullsFor n a 0 x152 x159 b1 x54 μ137)).bind fun p162 =>
    nx137 (v137 + 1) p162.2
  else
  if eq32 v90.2 b2 then
    nx90 (v90.1, (v90.2 + 1)) μ137
  else
  (gI μ137 12 a 26).bind fun x181 =>
  lp (fun nx189 (v189 : Int) (μ189 : Mem) =>
  if lt32 v189 x181 then
    (gA μ189 12 a 28).bind fun x197 =>
    (gA μ189 12 a 23).bind fun x203 =>
    (ldI μ189 3 x203 v189).bind fun x208 =>
    (stI μ189 3 x197 v189 x208).bind fun μ209 =>
    (gA μ209 12 a 29).bind fun x211 =>
    (gA μ209 12 a 30).bind fun x217 =>
    (ldI μ209 0 x217 v189).bind fun x222 =>
    (stI μ209 0 x211 v189 x222).bind fun μ223 =>
    nx189 (v189 + 1) μ223
  else
  nx90 (x181, (v90.2 + 1)) μ189) n 0 μ137) n 0 μ131) n 0 μ90)) n (1, 1) p84.2
set_option maxRecDepth 100000 in
set_option maxHeartbeats 4000000 in
theorem cX11_cheapest_ok (n : Nat) (a : Nat) (b1 : Int) (b2 : Int) (μ : Mem) : Mc yX11_cheapest cX11_cheapest 7 (some .int) 37 891 eI [aA a, aI b1, aI b2] μ (mX11_cheapest n a b1 b2 μ) := by
  refine mc_of (L0 := [some (aA a), some (aI b1), some (aI b2), none, none, none, none]) (k := 4) (by decide) rfl rfl (fun X Γ => ?_)
  unfold mX11_cheapest
  refine sn_aload_n dX11_cheapest_0 rfl ?_
  refine sn_iconst dX11_cheapest_1 ?_
  refine sn_putI (ci := 11) (j := 0) dX11_cheapest_2 fl_X11_1 rfl (fun q h => by cases h; rfl) (fun μ2 => ?_)
  refine sn_aload_n dX11_cheapest_5 rfl ?_
  refine sn_iload_n dX11_cheapest_6 rfl ?_
  refine sn_i2l dX11_cheapest_7 ?_
  refine sn_callVI (vs := [aJ (oI2l b1)]) (ci := 11) (cX11_isHouse_ok n a (oI2l b1) μ2) dX11_cheapest_8 cw_X11_170 rfl rfl rfl (by decide) (by decide) (Nat.le_of_ble_eq_true rfl) (fun p8 => ?_)
  refine sn_if_ne (tgt := 17) dX11_cheapest_11 (by decide) ?_ ?_
  · refine sn_iload_n dX11_cheapest_17 rfl ?_
    refine sn_i2l dX11_cheapest_18 ?_
    refine sn_lconst (v := 1) dX11_cheapest_19 (by decide) ?_
    refine sn_ldc2 (v := 6) dX11_cheapest_20 k_X11_330 (by decide) ?_
    refine sn_callSI (vs := [aJ (oI2l b2), aJ 1, aJ 6]) (cX11_within_ok n (oI2l b2) 1 6 p8.2) dX11_cheapest_23 cw_X11_146 rfl (by decide) (by decide) (Nat.le_of_ble_eq_true rfl) (fun p23 => ?_)
    refine sn_if_ne (tgt := 32) dX11_cheapest_26 (by decide) ?_ ?_
    · refine sn_aload_n dX11_cheapest_32 rfl ?_
      refine sn_callVI (vs := []) (ci := 11) (cX11_areFew_ok n a p23.2) dX11_cheapest_33 cw_X11_312 rfl rfl rfl (by decide) (by decide) (Nat.le_of_ble_eq_true rfl) (fun p33 => ?_)
      refine sn_if_ne (tgt := 42) dX11_cheapest_36 (by decide) ?_ ?_
      · refine sn_aload_n dX11_cheapest_42 rfl ?_
        refine sn_callVV (vs := []) (ci := 11) (cX11_keeps_ok n a p33.2) dX11_cheapest_43 cw_X11_230 rfl rfl rfl (by decide) (by decide) (Nat.le_of_ble_eq_true rfl) (fun p43 => ?_)
        refine sn_aload_n dX11_cheapest_46 rfl ?_
        refine sn_getA (ci := 11) (j := 1) dX11_cheapest_47 fl_X11_13 (by decide) (fun x47 => ?_)
        refine sn_bipush dX11_cheapest_50 (by decide) ?_
        refine sn_iload_n dX11_cheapest_52 rfl ?_
        refine sn_iadd dX11_cheapest_53 ?_
        refine sn_iald dX11_cheapest_54 (fun x54 => ?_)
        refine sn_istore_n (L' := [some (aA a), some (aI b1), some (aI b2), some (aI x54), none, none, none]) dX11_cheapest_55 (by decide) rfl ?_
        refine sn_aload_n dX11_cheapest_56 rfl ?_
        refine sn_iconst dX11_cheapest_57 ?_
        refine sn_putI (ci := 11) (j := 31) dX11_cheapest_58 fl_X11_323 rfl (fun q h => by cases h; rfl) (fun μ58 => ?_)
        refine sn_aload_n dX11_cheapest_61 rfl ?_
        refine sn_getA (ci := 11) (j := 28) dX11_cheapest_62 fl_X11_49 (by decide) (fun x62 => ?_)
        refine sn_iconst dX11_cheapest_65 ?_
        refine sn_aload_n dX11_cheapest_66 rfl ?_
        refine sn_iload_n dX11_cheapest_67 rfl ?_
        refine sn_iload_n dX11_cheapest_68 rfl ?_
        refine sn_callVJ (vs := [aI b1, aI x54]) (ci := 11) (cX11_state_ok n a b1 x54 μ58) dX11_cheapest_69 cw_X11_300 rfl rfl rfl (by decide) (by decide) (Nat.le_of_ble_eq_true rfl) (fun p69 => ?_)
        refine sn_last dX11_cheapest_72 (fun μ72 => ?_)
        refine sn_aload_n dX11_cheapest_73 rfl ?_
        refine sn_getA (ci := 11) (j := 29) dX11_cheapest_74 fl_X11_52 (by decide) (fun x74 => ?_)
        refine sn_iconst dX11_cheapest_77 ?_
        refine sn_iconst dX11_cheapest_78 ?_
        refine sn_iast dX11_cheapest_79 (fun μ79 => ?_)
        refine sn_iconst dX11_cheapest_80 ?_
        refine sn_istore (L' := [some (aA a), some (aI b1), some (aI b2), some (aI x54), some (aI 1), none, none]) dX11_cheapest_81 (by decide) rfl ?_
        refine sn_aload_n dX11_cheapest_83 rfl ?_
        refine sn_callVV (vs := []) (ci := 11) (cX11_nobody_ok n a μ79) dX11_cheapest_84 cw_X11_200 rfl rfl rfl (by decide) (by decide) (Nat.le_of_ble_eq_true rfl) (fun p84 => ?_)
        refine sn_iconst dX11_cheapest_87 ?_
        refine sn_istore (L' := [some (aA a), some (aI b1), some (aI b2), some (aI x54), some (aI 1), some (aI 1), none]) dX11_cheapest_88 (by decide) rfl ?_
        refine sn_lp (La := fun v90 : Int × Int => [some (aA a), some (aI b1), some (aI b2), some (aI x54), some (aI v90.1), some (aI v90.2), none]) ?_ n (1, 1) p84.2
        intro nx90 hnx90 v90 μ90
        refine sn_iload dX11_cheapest_90 rfl ?_
        refine sn_iload_n dX11_cheapest_92 rfl ?_
        refine sn_jn (pcj := 236) (La := fun v236 : Int => [some (aA a), none, none, none, some (aI v236), none, none]) (Sa := fun v236 : Int => []) ?_ ?_
        · intro v236 μ236
          refine sn_aload_n dX11_cheapest_236 rfl ?_
          refine sn_callVV (vs := []) (ci := 11) (cX11_isAgain_ok n a μ236) dX11_cheapest_237 cw_X11_236 rfl rfl rfl (by decide) (by decide) (Nat.le_of_ble_eq_true rfl) (fun p237 => ?_)
          refine sn_iload dX11_cheapest_240 rfl ?_
          refine sn_sipush dX11_cheapest_242 (by decide) ?_
          refine sn_icmp_le (tgt := 253) dX11_cheapest_245 (by decide) ?_ ?_
          · refine sn_aload_n dX11_cheapest_253 rfl ?_
            refine sn_getI (ci := 11) (j := 31) dX11_cheapest_254 fl_X11_323 rfl (fun x254 => ?_)
            exact sn_iret dX11_cheapest_257
          · refine sn_bipush dX11_cheapest_248 (by decide) ?_
            refine sn_goto (tgt := 257) dX11_cheapest_250 (by decide) ?_
            exact sn_iret dX11_cheapest_257
        intro j236 hj236
        refine sn_icmp_gt (tgt := 236) dX11_cheapest_93 (by decide) ?_ ?_
        · exact sn_mask (L' := [some (aA a), none, none, none, some (aI v90.1), none, none]) [true, false, false, false, true, false, false] rfl (hj236 v90.1 μ90)
        · refine sn_iload dX11_cheapest_96 rfl ?_
          refine sn_sipush dX11_cheapest_98 (by decide) ?_
          refine sn_icmp_gt (tgt := 236) dX11_cheapest_101 (by decide) ?_ ?_
          · exact sn_mask (L' := [some (aA a), none, none, none, some (aI v90.1), none, none]) [true, false, false, false, true, false, false] rfl (hj236 v90.1 μ90)
          · refine sn_iconst dX11_cheapest_104 ?_
            refine sn_istore (L' := [some (aA a), some (aI b1), some (aI b2), some (aI x54), some (aI v90.1), some (aI v90.2), some (aI 0)]) dX11_cheapest_105 (by decide) rfl ?_
            refine sn_lp (La := fun v107 : Int => [some (aA a), some (aI b1), some (aI b2), some (aI x54), some (aI v90.1), some (aI v90.2), some (aI v107)]) ?_ n 0 μ90
            intro nx107 hnx107 v107 μ107
            refine sn_iload dX11_cheapest_107 rfl ?_
            refine sn_sipush dX11_cheapest_109 (by decide) ?_
            refine sn_icmp_ge (tgt := 129) dX11_cheapest_112 (by decide) ?_ ?_
            · refine sn_aload_n dX11_cheapest_129 rfl ?_
              refine sn_iconst dX11_cheapest_130 ?_
              refine sn_putI (ci := 11) (j := 26) dX11_cheapest_131 fl_X11_293 rfl (fun q h => by cases h; rfl) (fun μ131 => ?_)
              refine sn_iconst dX11_cheapest_134 ?_
              refine sn_istore (L' := [some (aA a), some (aI b1), some (aI b2), some (aI x54), some (aI v90.1), some (aI v90.2), some (aI 0)]) dX11_cheapest_135 (by decide) rfl ?_
              refine sn_lp (La := fun v137 : Int => [some (aA a), some (aI b1), some (aI b2), some (aI x54), some (aI v90.1), some (aI v90.2), some (aI v137)]) ?_ n 0 μ131
              intro nx137 hnx137 v137 μ137
              refine sn_iload dX11_cheapest_137 rfl ?_
              refine sn_iload dX11_cheapest_139 rfl ?_
              refine sn_icmp_ge (tgt := 171) dX11_cheapest_141 (by decide) ?_ ?_
              · refine sn_iload dX11_cheapest_171 rfl ?_
                refine sn_iload_n dX11_cheapest_173 rfl ?_
                refine sn_icmp_ne (tgt := 180) dX11_cheapest_174 (by decide) ?_ ?_
                · refine sn_aload_n dX11_cheapest_180 rfl ?_
                  refine sn_getI (ci := 11) (j := 26) dX11_cheapest_181 fl_X11_293 rfl (fun x181 => ?_)
                  refine sn_istore (L' := [some (aA a), some (aI b1), some (aI b2), some (aI x54), some (aI x181), some (aI v90.2), some (aI v137)]) dX11_cheapest_184 (by decide) rfl ?_
                  refine sn_iconst dX11_cheapest_186 ?_
                  refine sn_istore (L' := [some (aA a), some (aI b1), some (aI b2), some (aI x54), some (aI x181), some (aI v90.2), some (aI 0)]) dX11_cheapest_187 (by decide) rfl ?_
                  refine sn_lp (La := fun v189 : Int => [some (aA a), some (aI b1), some (aI b2), some (aI x54), some (aI x181), some (aI v90.2), some (aI v189)]) ?_ n 0 μ137
                  intro nx189 hnx189 v189 μ189
                  refine sn_iload dX11_cheapest_189 rfl ?_
                  refine sn_iload dX11_cheapest_191 rfl ?_
                  refine sn_icmp_ge (tgt := 230) dX11_cheapest_193 (by decide) ?_ ?_
                  · refine sn_iinc (L' := [some (aA a), some (aI b1), some (aI b2), some (aI x54), some (aI x181), some (aI (v90.2 + 1)), some (aI v189)]) dX11_cheapest_230 rfl (by decide) rfl ?_
                    refine sn_goto (tgt := 90) dX11_cheapest_233 (by decide) ?_
                    exact sn_mask (L' := [some (aA a), some (aI b1), some (aI b2), some (aI x54), some (aI x181), some (aI (v90.2 + 1)), none]) [true, true, true, true, true, true, false] rfl (hnx90 (x181, (v90.2 + 1)) μ189)
                  · refine sn_aload_n dX11_cheapest_196 rfl ?_
                    refine sn_getA (ci := 11) (j := 28) dX11_cheapest_197 fl_X11_49 (by decide) (fun x197 => ?_)
                    refine sn_iload dX11_cheapest_200 rfl ?_
                    refine sn_aload_n dX11_cheapest_202 rfl ?_
                    refine sn_getA (ci := 11) (j := 23) dX11_cheapest_203 fl_X11_39 (by decide) (fun x203 => ?_)
                    refine sn_iload dX11_cheapest_206 rfl ?_
                    refine sn_lald dX11_cheapest_208 (fun x208 => ?_)
                    refine sn_last dX11_cheapest_209 (fun μ209 => ?_)
                    refine sn_aload_n dX11_cheapest_210 rfl ?_
                    refine sn_getA (ci := 11) (j := 29) dX11_cheapest_211 fl_X11_52 (by decide) (fun x211 => ?_)
                    refine sn_iload dX11_cheapest_214 rfl ?_
                    refine sn_aload_n dX11_cheapest_216 rfl ?_
                    refine sn_getA (ci := 11) (j := 30) dX11_cheapest_217 fl_X11_55 (by decide) (fun x217 => ?_)
                    refine sn_iload dX11_cheapest_220 rfl ?_
                    refine sn_iald dX11_cheapest_222 (fun x222 => ?_)
                    refine sn_iast dX11_cheapest_223 (fun μ223 => ?_)
                    refine sn_iinc (L' := [some (aA a), some (aI b1), some (aI b2), some (aI x54), some (aI x181), some (aI v90.2), some (aI (v189 + 1))]) dX11_cheapest_224 rfl (by decide) rfl ?_
                    refine sn_goto (tgt := 189) dX11_cheapest_227 (by decide) ?_
                    exact hnx189 (v189 + 1) μ223
                · refine sn_goto (tgt := 230) dX11_cheapest_177 (by decide) ?_
                  refine sn_iinc (L' := [some (aA a), some (aI b1), some (aI b2), some (aI x54), some (aI v90.1), some (aI (v90.2 + 1)), some (aI v137)]) dX11_cheapest_230 rfl (by decide) rfl ?_
                  refine sn_goto (tgt := 90) dX11_cheapest_233 (by decide) ?_
                  exact sn_mask (L' := [some (aA a), some (aI b1), some (aI b2), some (aI x54), some (aI v90.1), some (aI (v90.2 + 1)), none]) [true, true, true, true, true, true, false] rfl (hnx90 (v90.1, (v90.2 + 1)) μ137)
              · refine sn_aload_n dX11_cheapest_144 rfl ?_
                refine sn_iconst dX11_cheapest_145 ?_
                refine sn_aload_n dX11_cheapest_146 rfl ?_
                refine sn_getA (ci := 11) (j := 28) dX11_cheapest_147 fl_X11_49 (by decide) (fun x147 => ?_)
                refine sn_iload dX11_cheapest_150 rfl ?_
                refine sn_lald dX11_cheapest_152 (fun x152 => ?_)
                refine sn_aload_n dX11_cheapest_153 rfl ?_
                refine sn_getA (ci := 11) (j := 29) dX11_cheapest_154 fl_X11_52 (by decide) (fun x154 => ?_)
                refine sn_iload dX11_cheapest_157 rfl ?_
                refine sn_iald dX11_cheapest_159 (fun x159 => ?_)
                refine sn_iload_n dX11_cheapest_160 rfl ?_
                refine sn_iload_n dX11_cheapest_161 rfl ?_
                refine sn_callVV (vs := [aI 0, aJ x152, aI x159, aI b1, aI x54]) (ci := 11) (cX11_pullsFor_ok n a 0 x152 x159 b1 x54 μ137) dX11_cheapest_162 cw_X11_326 rfl rfl rfl (by decide) (by decide) (Nat.le_of_ble_eq_true rfl) (fun p162 => ?_)
                refine sn_iinc (L' := [some (aA a), some (aI b1), some (aI b2), some (aI x54), some (aI v90.1), some (aI v90.2), some (aI (v137 + 1))]) dX11_cheapest_165 rfl (by decide) rfl ?_
                refine sn_goto (tgt := 137) dX11_cheapest_168 (by decide) ?_
                exact hnx137 (v137 + 1) p162.2
            · refine sn_aload_n dX11_cheapest_115 rfl ?_
              refine sn_getA (ci := 11) (j := 24) dX11_cheapest_116 fl_X11_43 (by decide) (fun x116 => ?_)
              refine sn_iload dX11_cheapest_119 rfl ?_
              refine sn_iconst dX11_cheapest_121 ?_
              refine sn_iast dX11_cheapest_122 (fun μ122 => ?_)
              refine sn_iinc (L' := [some (aA a), some (aI b1), some (aI b2), some (aI x54), some (aI v90.1), some (aI v90.2), some (aI (v107 + 1))]) dX11_cheapest_123 rfl (by decide) rfl ?_
              refine sn_goto (tgt := 107) dX11_cheapest_126 (by decide) ?_
              exact hnx107 (v107 + 1) μ122
      · refine sn_bipush dX11_cheapest_39 (by decide) ?_
        exact sn_iret dX11_cheapest_41
    · refine sn_bipush dX11_cheapest_29 (by decide) ?_
      exact sn_iret dX11_cheapest_31
  · refine sn_bipush dX11_cheapest_14 (by decide) ?_
    exact sn_iret dX11_cheapest_16
theorem dX11_clashOf_0 : decode cX11_clashOf 0 = .ok (.aload_n 0, 1) := by decide +kernel
theorem dX11_clashOf_1 : decode cX11_clashOf 1 = .ok (.getfield 13, 3) := by decide +kernel
theorem dX11_clashOf_4 : decode cX11_clashOf 4 = .ok (.bipush 36, 2) := by decide +kernel
theorem dX11_clashOf_6 : decode cX11_clashOf 6 = .ok (.iload_n 2, 1) := by decide +kernel
theorem dX11_clashOf_7 : decode cX11_clashOf 7 = .ok (.iadd, 1) := by decide +kernel
theorem dX11_clashOf_8 : decode cX11_clashOf 8 = .ok (.iaload, 1) := by decide +kernel
theorem dX11_clashOf_9 : decode cX11_clashOf 9 = .ok (.aload_n 0, 1) := by decide +kernel
theorem dX11_clashOf_10 : decode cX11_clashOf 10 = .ok (.getfield 13, 3) := by decide +kernel
theorem dX11_clashOf_13 : decode cX11_clashOf 13 = .ok (.bipush 36, 2) := by decide +kernel
theorem dX11_clashOf_15 : decode cX11_clashOf 15 = .ok (.iload_n 3, 1) := by decide +kernel
theorem dX11_clashOf_16 : decode cX11_clashOf 16 = .ok (.iadd, 1) := by decide +kernel
theorem dX11_clashOf_17 : decode cX11_clashOf 17 = .ok (.iaload, 1) := by decide +kernel
theorem dX11_clashOf_18 : decode cX11_clashOf 18 = .ok (.iand, 1) := by decide +kernel
theorem dX11_clashOf_19 : decode cX11_clashOf 19 = .ok (.invokestatic 269, 3) := by decide +kernel
theorem dX11_clashOf_22 : decode cX11_clashOf 22 = .ok (.ireturn, 1) := by decide +kernel
def mX11_clashOf (n : Nat) (a : Nat) (b1 : Int) (b2 : Int) (b3 : Int) (μ : Mem) : Option (Int × Mem) :=
  (gA μ 12 a 1).bind fun x1 =>
  (ldI μ 0 x1 (36 + b2)).bind fun x8 =>
  (gA μ 12 a 1).bind fun x10 =>
  (ldI μ 0 x10 (36 + b3)).bind fun x17 =>
  (mX11_bitsOf n (oAnd x8 x17) μ).bind fun p19 =>
  some (p19.1, p19.2)
set_option maxRecDepth 100000 in
set_option maxHeartbeats 4000000 in
theorem cX11_clashOf_ok (n : Nat) (a : Nat) (b1 : Int) (b2 : Int) (b3 : Int) (μ : Mem) : Mc yX11_clashOf cX11_clashOf 4 (some .int) 1 22 eI [aA a, aI b1, aI b2, aI b3] μ (mX11_clashOf n a b1 b2 b3 μ) := by
  refine mc_of (L0 := [some (aA a), some (aI b1), some (aI b2), some (aI b3)]) (k := 0) (by decide) rfl rfl (fun X Γ => ?_)
  unfold mX11_clashOf
  refine sn_aload_n dX11_clashOf_0 rfl ?_
  refine sn_getA (ci := 11) (j := 1) dX11_clashOf_1 fl_X11_13 (by decide) (fun x1 => ?_)
  refine sn_bipush dX11_clashOf_4 (by decide) ?_
  refine sn_iload_n dX11_clashOf_6 rfl ?_
  refine sn_iadd dX11_clashOf_7 ?_
  refine sn_iald dX11_clashOf_8 (fun x8 => ?_)
  refine sn_aload_n dX11_clashOf_9 rfl ?_
  refine sn_getA (ci := 11) (j := 1) dX11_clashOf_10 fl_X11_13 (by decide) (fun x10 => ?_)
  refine sn_bipush dX11_clashOf_13 (by decide) ?_
  refine sn_iload_n dX11_clashOf_15 rfl ?_
  refine sn_iadd dX11_clashOf_16 ?_
  refine sn_iald dX11_clashOf_17 (fun x17 => ?_)
  refine sn_iand dX11_clashOf_18 ?_
  refine sn_callSI (vs := [aI (oAnd x8 x17)]) (cX11_bitsOf_ok n (oAnd x8 x17) μ) dX11_clashOf_19 cw_X11_269 rfl (by decide) (by decide) (Nat.le_of_ble_eq_true rfl) (fun p19 => ?_)
  exact sn_iret dX11_clashOf_22
theorem dX11_clashes_0 : decode cX11_clashes 0 = .ok (.iconst 0, 1) := by decide +kernel
theorem dX11_clashes_1 : decode cX11_clashes 1 = .ok (.istore_n 2, 1) := by decide +kernel
theorem dX11_clashes_2 : decode cX11_clashes 2 = .ok (.iconst 0, 1) := by decide +kernel
theorem dX11_clashes_3 : decode cX11_clashes 3 = .ok (.istore_n 3, 1) := by decide +kernel
theorem dX11_clashes_4 : decode cX11_clashes 4 = .ok (.iload_n 3, 1) := by decide +kernel
theorem dX11_clashes_5 : decode cX11_clashes 5 = .ok (.aload_n 0, 1) := by decide +kernel
theorem dX11_clashes_6 : decode cX11_clashes 6 = .ok (.getfield 13, 3) := by decide +kernel
theorem dX11_clashes_9 : decode cX11_clashes 9 = .ok (.iconst 1, 1) := by decide +kernel
theorem dX11_clashes_10 : decode cX11_clashes 10 = .ok (.iaload, 1) := by decide +kernel
theorem dX11_clashes_11 : decode cX11_clashes 11 = .ok (.if_icmp .ge 77, 3) := by decide +kernel
theorem dX11_clashes_14 : decode cX11_clashes 14 = .ok (.aload_n 0, 1) := by decide +kernel
theorem dX11_clashes_15 : decode cX11_clashes 15 = .ok (.getfield 13, 3) := by decide +kernel
theorem dX11_clashes_18 : decode cX11_clashes 18 = .ok (.bipush 76, 2) := by decide +kernel
theorem dX11_clashes_20 : decode cX11_clashes 20 = .ok (.iload_n 3, 1) := by decide +kernel
theorem dX11_clashes_21 : decode cX11_clashes 21 = .ok (.iadd, 1) := by decide +kernel
theorem dX11_clashes_22 : decode cX11_clashes 22 = .ok (.iaload, 1) := by decide +kernel
theorem dX11_clashes_23 : decode cX11_clashes 23 = .ok (.istore 4, 2) := by decide +kernel
theorem dX11_clashes_25 : decode cX11_clashes 25 = .ok (.aload_n 0, 1) := by decide +kernel
theorem dX11_clashes_26 : decode cX11_clashes 26 = .ok (.getfield 13, 3) := by decide +kernel
theorem dX11_clashes_29 : decode cX11_clashes 29 = .ok (.bipush 92, 2) := by decide +kernel
theorem dX11_clashes_31 : decode cX11_clashes 31 = .ok (.iload_n 3, 1) := by decide +kernel
theorem dX11_clashes_32 : decode cX11_clashes 32 = .ok (.iadd, 1) := by decide +kernel
theorem dX11_clashes_33 : decode cX11_clashes 33 = .ok (.iaload, 1) := by decide +kernel
theorem dX11_clashes_34 : decode cX11_clashes 34 = .ok (.istore 5, 2) := by decide +kernel
theorem dX11_clashes_36 : decode cX11_clashes 36 = .ok (.aload_n 0, 1) := by decide +kernel
theorem dX11_clashes_37 : decode cX11_clashes 37 = .ok (.iload_n 3, 1) := by decide +kernel
theorem dX11_clashes_38 : decode cX11_clashes 38 = .ok (.invokevirtual 191, 3) := by decide +kernel
theorem dX11_clashes_41 : decode cX11_clashes 41 = .ok (.ifCond .eq 41, 3) := by decide +kernel
theorem dX11_clashes_44 : decode cX11_clashes 44 = .ok (.iload_n 2, 1) := by decide +kernel
theorem dX11_clashes_45 : decode cX11_clashes 45 = .ok (.iload_n 1, 1) := by decide +kernel
theorem dX11_clashes_46 : decode cX11_clashes 46 = .ok (.ifCond .eq 25, 3) := by decide +kernel
theorem dX11_clashes_49 : decode cX11_clashes 49 = .ok (.aload_n 0, 1) := by decide +kernel
theorem dX11_clashes_50 : decode cX11_clashes 50 = .ok (.iload_n 3, 1) := by decide +kernel
theorem dX11_clashes_51 : decode cX11_clashes 51 = .ok (.aload_n 0, 1) := by decide +kernel
theorem dX11_clashes_52 : decode cX11_clashes 52 = .ok (.getfield 67, 3) := by decide +kernel
theorem dX11_clashes_55 : decode cX11_clashes 55 = .ok (.iload 4, 2) := by decide +kernel
theorem dX11_clashes_57 : decode cX11_clashes 57 = .ok (.iaload, 1) := by decide +kernel
theorem dX11_clashes_58 : decode cX11_clashes 58 = .ok (.aload_n 0, 1) := by decide +kernel
theorem dX11_clashes_59 : decode cX11_clashes 59 = .ok (.getfield 67, 3) := by decide +kernel
theorem dX11_clashes_62 : decode cX11_clashes 62 = .ok (.iload 5, 2) := by decide +kernel
theorem dX11_clashes_64 : decode cX11_clashes 64 = .ok (.iaload, 1) := by decide +kernel
theorem dX11_clashes_65 : decode cX11_clashes 65 = .ok (.invokevirtual 344, 3) := by decide +kernel
theorem dX11_clashes_68 : decode cX11_clashes 68 = .ok (.goto 12, 3) := by decide +kernel
theorem dX11_clashes_71 : decode cX11_clashes 71 = .ok (.aload_n 0, 1) := by decide +kernel
theorem dX11_clashes_72 : decode cX11_clashes 72 = .ok (.iload_n 3, 1) := by decide +kernel
theorem dX11_clashes_73 : decode cX11_clashes 73 = .ok (.iload 4, 2) := by decide +kernel
theorem dX11_clashes_75 : decode cX11_clashes 75 = .ok (.iload 5, 2) := by decide +kernel
theorem dX11_clashes_77 : decode cX11_clashes 77 = .ok (.invokevirtual 344, 3) := by decide +kernel
theorem dX11_clashes_80 : decode cX11_clashes 80 = .ok (.iadd, 1) := by decide +kernel
theorem dX11_clashes_81 : decode cX11_clashes 81 = .ok (.istore_n 2, 1) := by decide +kernel
theorem dX11_clashes_82 : decode cX11_clashes 82 = .ok (.iinc 3 1, 3) := by decide +kernel
theorem dX11_clashes_85 : decode cX11_clashes 85 = .ok (.goto (-81), 3) := by decide +kernel
theorem dX11_clashes_88 : decode cX11_clashes 88 = .ok (.iload_n 2, 1) := by decide +kernel
theorem dX11_clashes_89 : decode cX11_clashes 89 = .ok (.ireturn, 1) := by decide +kernel
def mX11_clashes (n : Nat) (a : Nat) (b1 : Int) (μ : Mem) : Option (Int × Mem) :=
  lp (fun nx4 (v4 : Int × Int) (μ4 : Mem) =>
  (gA μ4 12 a 1).bind fun x6 =>
  (ldI μ4 0 x6 1).bind fun x10 =>
  if lt32 v4.2 x10 then
    (gA μ4 12 a 1).bind fun x15 =>
    (ldI μ4 0 x15 (76 + v4.2)).bind fun x22 =>
    (gA μ4 12 a 1).bind fun x26 =>
    (ldI μ4 0 x26 (92 + v4.2)).bind fun x33 =>
    (inv μ4 12 a (mX11_hangs n a v4.2 μ4)).bind fun p38 =>
    if eq32 p38.1 0 then
      nx4 (v4.1, (v4.2 + 1)) p38.2
    else
    if eq32 b1 0 then
      (inv p38.2 12 a (mX11_clashOf n a v4.2 x22 x33 p38.2)).bind fun p77 =>
      nx4 ((v4.1 + p77.1), (v4.2 + 1)) p77.2
    else
    (gA p38.2 12 a 36).bind fun x52 =>
    (ldI p38.2 0 x52 x22).bind fun x57 =>
    (gA p38.2 12 a 36).bind fun x59 =>
    (ldI p38.2 0 x59 x33).bind fun x64 =>
    (inv p38.2 12 a (mX11_clashOf n a v4.2 x57 x64 p38.2)).bind fun p65 =>
    nx4 ((v4.1 + p65.1), (v4.2 + 1)) p65.2
  else
  some (v4.1, μ4)) n (0, 0) μ
set_option maxRecDepth 100000 in
set_option maxHeartbeats 4000000 in
theorem cX11_clashes_ok (n : Nat) (a : Nat) (b1 : Int) (μ : Mem) : Mc yX11_clashes cX11_clashes 6 (some .int) 2 45 eI [aA a, aI b1] μ (mX11_clashes n a b1 μ) := by
  refine mc_of (L0 := [some (aA a), some (aI b1), none, none, none, none]) (k := 4) (by decide) rfl rfl (fun X Γ => ?_)
  unfold mX11_clashes
  refine sn_iconst dX11_clashes_0 ?_
  refine sn_istore_n (L' := [some (aA a), some (aI b1), some (aI 0), none, none, none]) dX11_clashes_1 (by decide) rfl ?_
  refine sn_iconst dX11_clashes_2 ?_
  refine sn_istore_n (L' := [some (aA a), some (aI b1), some (aI 0), some (aI 0), none, none]) dX11_clashes_3 (by decide) rfl ?_
  refine sn_lp (La := fun v4 : Int × Int => [some (aA a), some (aI b1), some (aI v4.1), some (aI v4.2), none, none]) ?_ n (0, 0) μ
  intro nx4 hnx4 v4 μ4
  refine sn_iload_n dX11_clashes_4 rfl ?_
  refine sn_aload_n dX11_clashes_5 rfl ?_
  refine sn_getA (ci := 11) (j := 1) dX11_clashes_6 fl_X11_13 (by decide) (fun x6 => ?_)
  refine sn_iconst dX11_clashes_9 ?_
  refine sn_iald dX11_clashes_10 (fun x10 => ?_)
  refine sn_icmp_ge (tgt := 88) dX11_clashes_11 (by decide) ?_ ?_
  · refine sn_iload_n dX11_clashes_88 rfl ?_
    exact sn_iret dX11_clashes_89
  · refine sn_aload_n dX11_clashes_14 rfl ?_
    refine sn_getA (ci := 11) (j := 1) dX11_clashes_15 fl_X11_13 (by decide) (fun x15 => ?_)
    refine sn_bipush dX11_clashes_18 (by decide) ?_
    refine sn_iload_n dX11_clashes_20 rfl ?_
    refine sn_iadd dX11_clashes_21 ?_
    refine sn_iald dX11_clashes_22 (fun x22 => ?_)
    refine sn_istore (L' := [some (aA a), some (aI b1), some (aI v4.1), some (aI v4.2), some (aI x22), none]) dX11_clashes_23 (by decide) rfl ?_
    refine sn_aload_n dX11_clashes_25 rfl ?_
    refine sn_getA (ci := 11) (j := 1) dX11_clashes_26 fl_X11_13 (by decide) (fun x26 => ?_)
    refine sn_bipush dX11_clashes_29 (by decide) ?_
    refine sn_iload_n dX11_clashes_31 rfl ?_
    refine sn_iadd dX11_clashes_32 ?_
    refine sn_iald dX11_clashes_33 (fun x33 => ?_)
    refine sn_istore (L' := [some (aA a), some (aI b1), some (aI v4.1), some (aI v4.2), some (aI x22), some (aI x33)]) dX11_clashes_34 (by decide) rfl ?_
    refine sn_aload_n dX11_clashes_36 rfl ?_
    refine sn_iload_n dX11_clashes_37 rfl ?_
    refine sn_callVI (vs := [aI v4.2]) (ci := 11) (cX11_hangs_ok n a v4.2 μ4) dX11_clashes_38 cw_X11_191 rfl rfl rfl (by decide) (by decide) (Nat.le_of_ble_eq_true rfl) (fun p38 => ?_)
    refine sn_if_eq (tgt := 82) dX11_clashes_41 (by decide) ?_ ?_
    · refine sn_iinc (L' := [some (aA a), some (aI b1), some (aI v4.1), some (aI (v4.2 + 1)), some (aI x22), some (aI x33)]) dX11_clashes_82 rfl (by decide) rfl ?_
      refine sn_goto (tgt := 4) dX11_clashes_85 (by decide) ?_
      exact sn_mask (L' := [some (aA a), some (aI b1), some (aI v4.1), some (aI (v4.2 + 1)), none, none]) [true, true, true, true, false, false] rfl (hnx4 (v4.1, (v4.2 + 1)) p38.2)
    · refine sn_iload_n dX11_clashes_44 rfl ?_
      refine sn_iload_n dX11_clashes_45 rfl ?_
      refine sn_if_eq (tgt := 71) dX11_clashes_46 (by decide) ?_ ?_
      · refine sn_aload_n dX11_clashes_71 rfl ?_
        refine sn_iload_n dX11_clashes_72 rfl ?_
        refine sn_iload dX11_clashes_73 rfl ?_
        refine sn_iload dX11_clashes_75 rfl ?_
        refine sn_callVI (vs := [aI v4.2, aI x22, aI x33]) (ci := 11) (cX11_clashOf_ok n a v4.2 x22 x33 p38.2) dX11_clashes_77 cw_X11_344 rfl rfl rfl (by decide) (by decide) (Nat.le_of_ble_eq_true rfl) (fun p77 => ?_)
        refine sn_iadd dX11_clashes_80 ?_
        refine sn_istore_n (L' := [some (aA a), some (aI b1), some (aI (v4.1 + p77.1)), some (aI v4.2), some (aI x22), some (aI x33)]) dX11_clashes_81 (by decide) rfl ?_
        refine sn_iinc (L' := [some (aA a), some (aI b1), some (aI (v4.1 + p77.1)), some (aI (v4.2 + 1)), some (aI x22), some (aI x33)]) dX11_clashes_82 rfl (by decide) rfl ?_
        refine sn_goto (tgt := 4) dX11_clashes_85 (by decide) ?_
        exact sn_mask (L' := [some (aA a), some (aI b1), some (aI (v4.1 + p77.1)), some (aI (v4.2 + 1)), none, none]) [true, true, true, true, false, false] rfl (hnx4 ((v4.1 + p77.1), (v4.2 + 1)) p77.2)
      · refine sn_aload_n dX11_clashes_49 rfl ?_
        refine sn_iload_n dX11_clashes_50 rfl ?_
        refine sn_aload_n dX11_clashes_51 rfl ?_
        refine sn_getA (ci := 11) (j := 36) dX11_clashes_52 fl_X11_67 (by decide) (fun x52 => ?_)
        refine sn_iload dX11_clashes_55 rfl ?_
        refine sn_iald dX11_clashes_57 (fun x57 => ?_)
        refine sn_aload_n dX11_clashes_58 rfl ?_
        refine sn_getA (ci := 11) (j := 36) dX11_clashes_59 fl_X11_67 (by decide) (fun x59 => ?_)
        refine sn_iload dX11_clashes_62 rfl ?_
        refine sn_iald dX11_clashes_64 (fun x64 => ?_)
        refine sn_callVI (vs := [aI v4.2, aI x57, aI x64]) (ci := 11) (cX11_clashOf_ok n a v4.2 x57 x64 p38.2) dX11_clashes_65 cw_X11_344 rfl rfl rfl (by decide) (by decide) (Nat.le_of_ble_eq_true rfl) (fun p65 => ?_)
        refine sn_goto (tgt := 80) dX11_clashes_68 (by decide) ?_
        refine sn_iadd dX11_clashes_80 ?_
        refine sn_istore_n (L' := [some (aA a), some (aI b1), some (aI (v4.1 + p65.1)), some (aI v4.2), some (aI x22), some (aI x33)]) dX11_clashes_81 (by decide) rfl ?_
        refine sn_iinc (L' := [some (aA a), some (aI b1), some (aI (v4.1 + p65.1)), some (aI (v4.2 + 1)), some (aI x22), some (aI x33)]) dX11_clashes_82 rfl (by decide) rfl ?_
        refine sn_goto (tgt := 4) dX11_clashes_85 (by decide) ?_
        exact sn_mask (L' := [some (aA a), some (aI b1), some (aI (v4.1 + p65.1)), some (aI (v4.2 + 1)), none, none]) [true, true, true, true, false, false] rfl (hnx4 ((v4.1 + p65.1), (v4.2 + 1)) p65.2)
theorem dX11_isRope_0 : decode cX11_isRope 0 = .ok (.lload_n 1, 1) := by decide +kernel
theorem dX11_isRope_1 : decode cX11_isRope 1 = .ok (.lconst 0, 1) := by decide +kernel
theorem dX11_isRope_2 : decode cX11_isRope 2 = .ok (.aload_n 0, 1) := by decide +kernel
theorem dX11_isRope_3 : decode cX11_isRope 3 = .ok (.getfield 13, 3) := by decide +kernel
theorem dX11_isRope_6 : decode cX11_isRope 6 = .ok (.iconst 1, 1) := by decide +kernel
theorem dX11_isRope_7 : decode cX11_isRope 7 = .ok (.iaload, 1) := by decide +kernel
theorem dX11_isRope_8 : decode cX11_isRope 8 = .ok (.iconst 1, 1) := by decide +kernel
theorem dX11_isRope_9 : decode cX11_isRope 9 = .ok (.isub, 1) := by decide +kernel
theorem dX11_isRope_10 : decode cX11_isRope 10 = .ok (.i2l, 1) := by decide +kernel
theorem dX11_isRope_11 : decode cX11_isRope 11 = .ok (.invokestatic 146, 3) := by decide +kernel
theorem dX11_isRope_14 : decode cX11_isRope 14 = .ok (.ireturn, 1) := by decide +kernel
def mX11_isRope (n : Nat) (a : Nat) (b1 : Int) (μ : Mem) : Option (Int × Mem) :=
  (gA μ 12 a 1).bind fun x3 =>
  (ldI μ 0 x3 1).bind fun x7 =>
  (mX11_within n b1 0 (oI2l (x7 - 1)) μ).bind fun p11 =>
  retZ p11.1 p11.2
set_option maxRecDepth 100000 in
set_option maxHeartbeats 4000000 in
theorem cX11_isRope_ok (n : Nat) (a : Nat) (b1 : Int) (μ : Mem) : Mc yX11_isRope cX11_isRope 3 (some .boolean) 1 25 eI [aA a, aJ b1] μ (mX11_isRope n a b1 μ) := by
  refine mc_of (L0 := [some (aA a), some (aJ b1), none]) (k := 0) (by decide) rfl rfl (fun X Γ => ?_)
  unfold mX11_isRope
  refine sn_lload_n dX11_isRope_0 rfl ?_
  refine sn_lconst (v := 0) dX11_isRope_1 (by decide) ?_
  refine sn_aload_n dX11_isRope_2 rfl ?_
  refine sn_getA (ci := 11) (j := 1) dX11_isRope_3 fl_X11_13 (by decide) (fun x3 => ?_)
  refine sn_iconst dX11_isRope_6 ?_
  refine sn_iald dX11_isRope_7 (fun x7 => ?_)
  refine sn_iconst dX11_isRope_8 ?_
  refine sn_isub dX11_isRope_9 ?_
  refine sn_i2l dX11_isRope_10 ?_
  refine sn_callSI (vs := [aJ b1, aJ 0, aJ (oI2l (x7 - 1))]) (cX11_within_ok n b1 0 (oI2l (x7 - 1)) μ) dX11_isRope_11 cw_X11_146 rfl (by decide) (by decide) (Nat.le_of_ble_eq_true rfl) (fun p11 => ?_)
  exact sn_zret dX11_isRope_14
theorem dX11_clash_0 : decode cX11_clash 0 = .ok (.aload_n 0, 1) := by decide +kernel
theorem dX11_clash_1 : decode cX11_clash 1 = .ok (.iconst 0, 1) := by decide +kernel
theorem dX11_clash_2 : decode cX11_clash 2 = .ok (.putfield 1, 3) := by decide +kernel
theorem dX11_clash_5 : decode cX11_clash 5 = .ok (.iload_n 1, 1) := by decide +kernel
theorem dX11_clash_6 : decode cX11_clash 6 = .ok (.iconst (-1), 1) := by decide +kernel
theorem dX11_clash_7 : decode cX11_clash 7 = .ok (.if_icmp .ne 9, 3) := by decide +kernel
theorem dX11_clash_10 : decode cX11_clash 10 = .ok (.aload_n 0, 1) := by decide +kernel
theorem dX11_clash_11 : decode cX11_clash 11 = .ok (.iconst 0, 1) := by decide +kernel
theorem dX11_clash_12 : decode cX11_clash 12 = .ok (.invokevirtual 347, 3) := by decide +kernel
theorem dX11_clash_15 : decode cX11_clash 15 = .ok (.ireturn, 1) := by decide +kernel
theorem dX11_clash_16 : decode cX11_clash 16 = .ok (.aload_n 0, 1) := by decide +kernel
theorem dX11_clash_17 : decode cX11_clash 17 = .ok (.iload_n 1, 1) := by decide +kernel
theorem dX11_clash_18 : decode cX11_clash 18 = .ok (.i2l, 1) := by decide +kernel
theorem dX11_clash_19 : decode cX11_clash 19 = .ok (.invokevirtual 179, 3) := by decide +kernel
theorem dX11_clash_22 : decode cX11_clash 22 = .ok (.ifCond .eq 29, 3) := by decide +kernel
theorem dX11_clash_25 : decode cX11_clash 25 = .ok (.aload_n 0, 1) := by decide +kernel
theorem dX11_clash_26 : decode cX11_clash 26 = .ok (.iload_n 1, 1) := by decide +kernel
theorem dX11_clash_27 : decode cX11_clash 27 = .ok (.aload_n 0, 1) := by decide +kernel
theorem dX11_clash_28 : decode cX11_clash 28 = .ok (.getfield 13, 3) := by decide +kernel
theorem dX11_clash_31 : decode cX11_clash 31 = .ok (.bipush 76, 2) := by decide +kernel
theorem dX11_clash_33 : decode cX11_clash 33 = .ok (.iload_n 1, 1) := by decide +kernel
theorem dX11_clash_34 : decode cX11_clash 34 = .ok (.iadd, 1) := by decide +kernel
theorem dX11_clash_35 : decode cX11_clash 35 = .ok (.iaload, 1) := by decide +kernel
theorem dX11_clash_36 : decode cX11_clash 36 = .ok (.aload_n 0, 1) := by decide +kernel
theorem dX11_clash_37 : decode cX11_clash 37 = .ok (.getfield 13, 3) := by decide +kernel
theorem dX11_clash_40 : decode cX11_clash 40 = .ok (.bipush 92, 2) := by decide +kernel
theorem dX11_clash_42 : decode cX11_clash 42 = .ok (.iload_n 1, 1) := by decide +kernel
theorem dX11_clash_43 : decode cX11_clash 43 = .ok (.iadd, 1) := by decide +kernel
theorem dX11_clash_44 : decode cX11_clash 44 = .ok (.iaload, 1) := by decide +kernel
theorem dX11_clash_45 : decode cX11_clash 45 = .ok (.invokevirtual 344, 3) := by decide +kernel
theorem dX11_clash_48 : decode cX11_clash 48 = .ok (.goto 5, 3) := by decide +kernel
theorem dX11_clash_51 : decode cX11_clash 51 = .ok (.bipush (-2), 2) := by decide +kernel
theorem dX11_clash_53 : decode cX11_clash 53 = .ok (.ireturn, 1) := by decide +kernel
def mX11_clash (n : Nat) (a : Nat) (b1 : Int) (μ : Mem) : Option (Int × Mem) :=
  (pI μ 12 a 0 0).bind fun μ2 =>
  if eq32 b1 (-1) then
    (inv μ2 12 a (mX11_clashes n a 0 μ2)).bind fun p12 =>
    some (p12.1, p12.2)
  else
  (inv μ2 12 a (mX11_isRope n a (oI2l b1) μ2)).bind fun p19 =>
  if eq32 p19.1 0 then
    some ((-2), p19.2)
  else
  (gA p19.2 12 a 1).bind fun x28 =>
  (ldI p19.2 0 x28 (76 + b1)).bind fun x35 =>
  (gA p19.2 12 a 1).bind fun x37 =>
  (ldI p19.2 0 x37 (92 + b1)).bind fun x44 =>
  (inv p19.2 12 a (mX11_clashOf n a b1 x35 x44 p19.2)).bind fun p45 =>
  some (p45.1, p45.2)
set_option maxRecDepth 100000 in
set_option maxHeartbeats 4000000 in
theorem cX11_clash_ok (n : Nat) (a : Nat) (b1 : Int) (μ : Mem) : Mc yX11_clash cX11_clash 2 (some .int) 3 70 eI [aA a, aI b1] μ (mX11_clash n a b1 μ) := by
  refine mc_of (L0 := [some (aA a), some (aI b1)]) (k := 0) (by decide) rfl rfl (fun X Γ => ?_)
  unfold mX11_clash
  refine sn_aload_n dX11_clash_0 rfl ?_
  refine sn_iconst dX11_clash_1 ?_
  refine sn_putI (ci := 11) (j := 0) dX11_clash_2 fl_X11_1 rfl (fun q h => by cases h; rfl) (fun μ2 => ?_)
  refine sn_iload_n dX11_clash_5 rfl ?_
  refine sn_iconst dX11_clash_6 ?_
  refine sn_icmp_ne (tgt := 16) dX11_clash_7 (by decide) ?_ ?_
  · refine sn_aload_n dX11_clash_16 rfl ?_
    refine sn_iload_n dX11_clash_17 rfl ?_
    refine sn_i2l dX11_clash_18 ?_
    refine sn_callVI (vs := [aJ (oI2l b1)]) (ci := 11) (cX11_isRope_ok n a (oI2l b1) μ2) dX11_clash_19 cw_X11_179 rfl rfl rfl (by decide) (by decide) (Nat.le_of_ble_eq_true rfl) (fun p19 => ?_)
    refine sn_if_eq (tgt := 51) dX11_clash_22 (by decide) ?_ ?_
    · refine sn_bipush dX11_clash_51 (by decide) ?_
      exact sn_iret dX11_clash_53
    · refine sn_aload_n dX11_clash_25 rfl ?_
      refine sn_iload_n dX11_clash_26 rfl ?_
      refine sn_aload_n dX11_clash_27 rfl ?_
      refine sn_getA (ci := 11) (j := 1) dX11_clash_28 fl_X11_13 (by decide) (fun x28 => ?_)
      refine sn_bipush dX11_clash_31 (by decide) ?_
      refine sn_iload_n dX11_clash_33 rfl ?_
      refine sn_iadd dX11_clash_34 ?_
      refine sn_iald dX11_clash_35 (fun x35 => ?_)
      refine sn_aload_n dX11_clash_36 rfl ?_
      refine sn_getA (ci := 11) (j := 1) dX11_clash_37 fl_X11_13 (by decide) (fun x37 => ?_)
      refine sn_bipush dX11_clash_40 (by decide) ?_
      refine sn_iload_n dX11_clash_42 rfl ?_
      refine sn_iadd dX11_clash_43 ?_
      refine sn_iald dX11_clash_44 (fun x44 => ?_)
      refine sn_callVI (vs := [aI b1, aI x35, aI x44]) (ci := 11) (cX11_clashOf_ok n a b1 x35 x44 p19.2) dX11_clash_45 cw_X11_344 rfl rfl rfl (by decide) (by decide) (Nat.le_of_ble_eq_true rfl) (fun p45 => ?_)
      refine sn_goto (tgt := 53) dX11_clash_48 (by decide) ?_
      exact sn_iret dX11_clash_53
  · refine sn_aload_n dX11_clash_10 rfl ?_
    refine sn_iconst dX11_clash_11 ?_
    refine sn_callVI (vs := [aI 0]) (ci := 11) (cX11_clashes_ok n a 0 μ2) dX11_clash_12 cw_X11_347 rfl rfl rfl (by decide) (by decide) (Nat.le_of_ble_eq_true rfl) (fun p12 => ?_)
    exact sn_iret dX11_clash_15
theorem dX11_copy_0 : decode cX11_copy 0 = .ok (.aload_n 0, 1) := by decide +kernel
theorem dX11_copy_1 : decode cX11_copy 1 = .ok (.iconst 0, 1) := by decide +kernel
theorem dX11_copy_2 : decode cX11_copy 2 = .ok (.putfield 1, 3) := by decide +kernel
theorem dX11_copy_5 : decode cX11_copy 5 = .ok (.iload_n 1, 1) := by decide +kernel
theorem dX11_copy_6 : decode cX11_copy 6 = .ok (.i2l, 1) := by decide +kernel
theorem dX11_copy_7 : decode cX11_copy 7 = .ok (.lconst 0, 1) := by decide +kernel
theorem dX11_copy_8 : decode cX11_copy 8 = .ok (.ldc2_w 226, 3) := by decide +kernel
theorem dX11_copy_11 : decode cX11_copy 11 = .ok (.invokestatic 146, 3) := by decide +kernel
theorem dX11_copy_14 : decode cX11_copy 14 = .ok (.ifCond .ne 6, 3) := by decide +kernel
theorem dX11_copy_17 : decode cX11_copy 17 = .ok (.bipush (-2), 2) := by decide +kernel
theorem dX11_copy_19 : decode cX11_copy 19 = .ok (.ireturn, 1) := by decide +kernel
theorem dX11_copy_20 : decode cX11_copy 20 = .ok (.aload_n 0, 1) := by decide +kernel
theorem dX11_copy_21 : decode cX11_copy 21 = .ok (.getfield 73, 3) := by decide +kernel
theorem dX11_copy_24 : decode cX11_copy 24 = .ok (.iload_n 1, 1) := by decide +kernel
theorem dX11_copy_25 : decode cX11_copy 25 = .ok (.iaload, 1) := by decide +kernel
theorem dX11_copy_26 : decode cX11_copy 26 = .ok (.iconst (-1), 1) := by decide +kernel
theorem dX11_copy_27 : decode cX11_copy 27 = .ok (.if_icmp .ne 6, 3) := by decide +kernel
theorem dX11_copy_30 : decode cX11_copy 30 = .ok (.bipush (-6), 2) := by decide +kernel
theorem dX11_copy_32 : decode cX11_copy 32 = .ok (.ireturn, 1) := by decide +kernel
theorem dX11_copy_33 : decode cX11_copy 33 = .ok (.aload_n 0, 1) := by decide +kernel
theorem dX11_copy_34 : decode cX11_copy 34 = .ok (.getfield 76, 3) := by decide +kernel
theorem dX11_copy_37 : decode cX11_copy 37 = .ok (.iload_n 1, 1) := by decide +kernel
theorem dX11_copy_38 : decode cX11_copy 38 = .ok (.iaload, 1) := by decide +kernel
theorem dX11_copy_39 : decode cX11_copy 39 = .ok (.aload_n 0, 1) := by decide +kernel
theorem dX11_copy_40 : decode cX11_copy 40 = .ok (.getfield 13, 3) := by decide +kernel
theorem dX11_copy_43 : decode cX11_copy 43 = .ok (.iconst 1, 1) := by decide +kernel
theorem dX11_copy_44 : decode cX11_copy 44 = .ok (.iaload, 1) := by decide +kernel
theorem dX11_copy_45 : decode cX11_copy 45 = .ok (.if_icmp .ge 6, 3) := by decide +kernel
theorem dX11_copy_48 : decode cX11_copy 48 = .ok (.bipush (-7), 2) := by decide +kernel
theorem dX11_copy_50 : decode cX11_copy 50 = .ok (.ireturn, 1) := by decide +kernel
theorem dX11_copy_51 : decode cX11_copy 51 = .ok (.iconst 0, 1) := by decide +kernel
theorem dX11_copy_52 : decode cX11_copy 52 = .ok (.istore_n 2, 1) := by decide +kernel
theorem dX11_copy_53 : decode cX11_copy 53 = .ok (.iload_n 2, 1) := by decide +kernel
theorem dX11_copy_54 : decode cX11_copy 54 = .ok (.aload_n 0, 1) := by decide +kernel
theorem dX11_copy_55 : decode cX11_copy 55 = .ok (.getfield 13, 3) := by decide +kernel
theorem dX11_copy_58 : decode cX11_copy 58 = .ok (.iconst 1, 1) := by decide +kernel
theorem dX11_copy_59 : decode cX11_copy 59 = .ok (.iaload, 1) := by decide +kernel
theorem dX11_copy_60 : decode cX11_copy 60 = .ok (.if_icmp .ge 30, 3) := by decide +kernel
theorem dX11_copy_63 : decode cX11_copy 63 = .ok (.aload_n 0, 1) := by decide +kernel
theorem dX11_copy_64 : decode cX11_copy 64 = .ok (.getfield 79, 3) := by decide +kernel
theorem dX11_copy_67 : decode cX11_copy 67 = .ok (.bipush 60, 2) := by decide +kernel
theorem dX11_copy_69 : decode cX11_copy 69 = .ok (.iload_n 1, 1) := by decide +kernel
theorem dX11_copy_70 : decode cX11_copy 70 = .ok (.imul, 1) := by decide +kernel
theorem dX11_copy_71 : decode cX11_copy 71 = .ok (.iload_n 2, 1) := by decide +kernel
theorem dX11_copy_72 : decode cX11_copy 72 = .ok (.iadd, 1) := by decide +kernel
theorem dX11_copy_73 : decode cX11_copy 73 = .ok (.aload_n 0, 1) := by decide +kernel
theorem dX11_copy_74 : decode cX11_copy 74 = .ok (.getfield 13, 3) := by decide +kernel
theorem dX11_copy_77 : decode cX11_copy 77 = .ok (.bipush 124, 2) := by decide +kernel
theorem dX11_copy_79 : decode cX11_copy 79 = .ok (.iload_n 2, 1) := by decide +kernel
theorem dX11_copy_80 : decode cX11_copy 80 = .ok (.iadd, 1) := by decide +kernel
theorem dX11_copy_81 : decode cX11_copy 81 = .ok (.iaload, 1) := by decide +kernel
theorem dX11_copy_82 : decode cX11_copy 82 = .ok (.i2l, 1) := by decide +kernel
theorem dX11_copy_83 : decode cX11_copy 83 = .ok (.lastore, 1) := by decide +kernel
theorem dX11_copy_84 : decode cX11_copy 84 = .ok (.iinc 2 1, 3) := by decide +kernel
theorem dX11_copy_87 : decode cX11_copy 87 = .ok (.goto (-34), 3) := by decide +kernel
theorem dX11_copy_90 : decode cX11_copy 90 = .ok (.aload_n 0, 1) := by decide +kernel
theorem dX11_copy_91 : decode cX11_copy 91 = .ok (.getfield 13, 3) := by decide +kernel
theorem dX11_copy_94 : decode cX11_copy 94 = .ok (.iconst 1, 1) := by decide +kernel
theorem dX11_copy_95 : decode cX11_copy 95 = .ok (.iaload, 1) := by decide +kernel
theorem dX11_copy_96 : decode cX11_copy 96 = .ok (.ireturn, 1) := by decide +kernel
def mX11_copy (n : Nat) (a : Nat) (b1 : Int) (μ : Mem) : Option (Int × Mem) :=
  (pI μ 12 a 0 0).bind fun μ2 =>
  (mX11_within n (oI2l b1) 0 3 μ2).bind fun p11 =>
  if eq32 p11.1 0 then
    some ((-2), p11.2)
  else
  (gA p11.2 12 a 41).bind fun x21 =>
  (ldI p11.2 0 x21 b1).bind fun x25 =>
  if eq32 x25 (-1) then
    some ((-6), p11.2)
  else
  (gA p11.2 12 a 42).bind fun x34 =>
  (ldI p11.2 0 x34 b1).bind fun x38 =>
  (gA p11.2 12 a 1).bind fun x40 =>
  (ldI p11.2 0 x40 1).bind fun x44 =>
  if lt32 x38 x44 then
    some ((-7), p11.2)
  else
  lp (fun nx53 (v53 : Int) (μ53 : Mem) =>
  (gA μ53 12 a 1).bind fun x55 =>
  (ldI μ53 0 x55 1).bind fun x59 =>
  if lt32 v53 x59 then
    (gA μ53 12 a 43).bind fun x64 =>
    (gA μ53 12 a 1).bind fun x74 =>
    (ldI μ53 0 x74 (124 + v53)).bind fun x81 =>
    (stI μ53 3 x64 ((60 * b1) + v53) (oI2l x81)).bind fun μ83 =>
    nx53 (v53 + 1) μ83
  else
  (gA μ53 12 a 1).bind fun x91 =>
  (ldI μ53 0 x91 1).bind fun x95 =>
  some (x95, μ53)) n 0 p11.2
set_option maxRecDepth 100000 in
set_option maxHeartbeats 4000000 in
theorem cX11_copy_ok (n : Nat) (a : Nat) (b1 : Int) (μ : Mem) : Mc yX11_copy cX11_copy 3 (some .int) 1 25 eI [aA a, aI b1] μ (mX11_copy n a b1 μ) := by
  refine mc_of (L0 := [some (aA a), some (aI b1), none]) (k := 1) (by decide) rfl rfl (fun X Γ => ?_)
  unfold mX11_copy
  refine sn_aload_n dX11_copy_0 rfl ?_
  refine sn_iconst dX11_copy_1 ?_
  refine sn_putI (ci := 11) (j := 0) dX11_copy_2 fl_X11_1 rfl (fun q h => by cases h; rfl) (fun μ2 => ?_)
  refine sn_iload_n dX11_copy_5 rfl ?_
  refine sn_i2l dX11_copy_6 ?_
  refine sn_lconst (v := 0) dX11_copy_7 (by decide) ?_
  refine sn_ldc2 (v := 3) dX11_copy_8 k_X11_226 (by decide) ?_
  refine sn_callSI (vs := [aJ (oI2l b1), aJ 0, aJ 3]) (cX11_within_ok n (oI2l b1) 0 3 μ2) dX11_copy_11 cw_X11_146 rfl (by decide) (by decide) (Nat.le_of_ble_eq_true rfl) (fun p11 => ?_)
  refine sn_if_ne (tgt := 20) dX11_copy_14 (by decide) ?_ ?_
  · refine sn_aload_n dX11_copy_20 rfl ?_
    refine sn_getA (ci := 11) (j := 41) dX11_copy_21 fl_X11_73 (by decide) (fun x21 => ?_)
    refine sn_iload_n dX11_copy_24 rfl ?_
    refine sn_iald dX11_copy_25 (fun x25 => ?_)
    refine sn_iconst dX11_copy_26 ?_
    refine sn_icmp_ne (tgt := 33) dX11_copy_27 (by decide) ?_ ?_
    · refine sn_aload_n dX11_copy_33 rfl ?_
      refine sn_getA (ci := 11) (j := 42) dX11_copy_34 fl_X11_76 (by decide) (fun x34 => ?_)
      refine sn_iload_n dX11_copy_37 rfl ?_
      refine sn_iald dX11_copy_38 (fun x38 => ?_)
      refine sn_aload_n dX11_copy_39 rfl ?_
      refine sn_getA (ci := 11) (j := 1) dX11_copy_40 fl_X11_13 (by decide) (fun x40 => ?_)
      refine sn_iconst dX11_copy_43 ?_
      refine sn_iald dX11_copy_44 (fun x44 => ?_)
      refine sn_icmp_ge (tgt := 51) dX11_copy_45 (by decide) ?_ ?_
      · refine sn_iconst dX11_copy_51 ?_
        refine sn_istore_n (L' := [some (aA a), some (aI b1), some (aI 0)]) dX11_copy_52 (by decide) rfl ?_
        refine sn_lp (La := fun v53 : Int => [some (aA a), some (aI b1), some (aI v53)]) ?_ n 0 p11.2
        intro nx53 hnx53 v53 μ53
        refine sn_iload_n dX11_copy_53 rfl ?_
        refine sn_aload_n dX11_copy_54 rfl ?_
        refine sn_getA (ci := 11) (j := 1) dX11_copy_55 fl_X11_13 (by decide) (fun x55 => ?_)
        refine sn_iconst dX11_copy_58 ?_
        refine sn_iald dX11_copy_59 (fun x59 => ?_)
        refine sn_icmp_ge (tgt := 90) dX11_copy_60 (by decide) ?_ ?_
        · refine sn_aload_n dX11_copy_90 rfl ?_
          refine sn_getA (ci := 11) (j := 1) dX11_copy_91 fl_X11_13 (by decide) (fun x91 => ?_)
          refine sn_iconst dX11_copy_94 ?_
          refine sn_iald dX11_copy_95 (fun x95 => ?_)
          exact sn_iret dX11_copy_96
        · refine sn_aload_n dX11_copy_63 rfl ?_
          refine sn_getA (ci := 11) (j := 43) dX11_copy_64 fl_X11_79 (by decide) (fun x64 => ?_)
          refine sn_bipush dX11_copy_67 (by decide) ?_
          refine sn_iload_n dX11_copy_69 rfl ?_
          refine sn_imul dX11_copy_70 ?_
          refine sn_iload_n dX11_copy_71 rfl ?_
          refine sn_iadd dX11_copy_72 ?_
          refine sn_aload_n dX11_copy_73 rfl ?_
          refine sn_getA (ci := 11) (j := 1) dX11_copy_74 fl_X11_13 (by decide) (fun x74 => ?_)
          refine sn_bipush dX11_copy_77 (by decide) ?_
          refine sn_iload_n dX11_copy_79 rfl ?_
          refine sn_iadd dX11_copy_80 ?_
          refine sn_iald dX11_copy_81 (fun x81 => ?_)
          refine sn_i2l dX11_copy_82 ?_
          refine sn_last dX11_copy_83 (fun μ83 => ?_)
          refine sn_iinc (L' := [some (aA a), some (aI b1), some (aI (v53 + 1))]) dX11_copy_84 rfl (by decide) rfl ?_
          refine sn_goto (tgt := 53) dX11_copy_87 (by decide) ?_
          exact hnx53 (v53 + 1) μ83
      · refine sn_bipush dX11_copy_48 (by decide) ?_
        exact sn_iret dX11_copy_50
    · refine sn_bipush dX11_copy_30 (by decide) ?_
      exact sn_iret dX11_copy_32
  · refine sn_bipush dX11_copy_17 (by decide) ?_
    exact sn_iret dX11_copy_19
theorem dX11_sumOf_0 : decode cX11_sumOf 0 = .ok (.iconst 0, 1) := by decide +kernel
theorem dX11_sumOf_1 : decode cX11_sumOf 1 = .ok (.istore_n 2, 1) := by decide +kernel
theorem dX11_sumOf_2 : decode cX11_sumOf 2 = .ok (.iconst 0, 1) := by decide +kernel
theorem dX11_sumOf_3 : decode cX11_sumOf 3 = .ok (.istore_n 3, 1) := by decide +kernel
theorem dX11_sumOf_4 : decode cX11_sumOf 4 = .ok (.iload_n 3, 1) := by decide +kernel
theorem dX11_sumOf_5 : decode cX11_sumOf 5 = .ok (.aload_n 0, 1) := by decide +kernel
theorem dX11_sumOf_6 : decode cX11_sumOf 6 = .ok (.getfield 13, 3) := by decide +kernel
theorem dX11_sumOf_9 : decode cX11_sumOf 9 = .ok (.iconst 0, 1) := by decide +kernel
theorem dX11_sumOf_10 : decode cX11_sumOf 10 = .ok (.iaload, 1) := by decide +kernel
theorem dX11_sumOf_11 : decode cX11_sumOf 11 = .ok (.if_icmp .ge 20, 3) := by decide +kernel
theorem dX11_sumOf_14 : decode cX11_sumOf 14 = .ok (.iload_n 2, 1) := by decide +kernel
theorem dX11_sumOf_15 : decode cX11_sumOf 15 = .ok (.aload_n 0, 1) := by decide +kernel
theorem dX11_sumOf_16 : decode cX11_sumOf 16 = .ok (.getfield 13, 3) := by decide +kernel
theorem dX11_sumOf_19 : decode cX11_sumOf 19 = .ok (.iload_n 1, 1) := by decide +kernel
theorem dX11_sumOf_20 : decode cX11_sumOf 20 = .ok (.iload_n 3, 1) := by decide +kernel
theorem dX11_sumOf_21 : decode cX11_sumOf 21 = .ok (.iadd, 1) := by decide +kernel
theorem dX11_sumOf_22 : decode cX11_sumOf 22 = .ok (.iaload, 1) := by decide +kernel
theorem dX11_sumOf_23 : decode cX11_sumOf 23 = .ok (.iadd, 1) := by decide +kernel
theorem dX11_sumOf_24 : decode cX11_sumOf 24 = .ok (.istore_n 2, 1) := by decide +kernel
theorem dX11_sumOf_25 : decode cX11_sumOf 25 = .ok (.iinc 3 1, 3) := by decide +kernel
theorem dX11_sumOf_28 : decode cX11_sumOf 28 = .ok (.goto (-24), 3) := by decide +kernel
theorem dX11_sumOf_31 : decode cX11_sumOf 31 = .ok (.iload_n 2, 1) := by decide +kernel
theorem dX11_sumOf_32 : decode cX11_sumOf 32 = .ok (.ireturn, 1) := by decide +kernel
def mX11_sumOf (n : Nat) (a : Nat) (b1 : Int) (μ : Mem) : Option (Int × Mem) :=
  lp (fun nx4 (v4 : Int × Int) (μ4 : Mem) =>
  (gA μ4 12 a 1).bind fun x6 =>
  (ldI μ4 0 x6 0).bind fun x10 =>
  if lt32 v4.2 x10 then
    (gA μ4 12 a 1).bind fun x16 =>
    (ldI μ4 0 x16 (b1 + v4.2)).bind fun x22 =>
    nx4 ((v4.1 + x22), (v4.2 + 1)) μ4
  else
  some (v4.1, μ4)) n (0, 0) μ
set_option maxRecDepth 100000 in
set_option maxHeartbeats 4000000 in
theorem cX11_sumOf_ok (n : Nat) (a : Nat) (b1 : Int) (μ : Mem) : Mc yX11_sumOf cX11_sumOf 4 (some .int) 0 0 eI [aA a, aI b1] μ (mX11_sumOf n a b1 μ) := by
  refine mc_of (L0 := [some (aA a), some (aI b1), none, none]) (k := 2) (by decide) rfl rfl (fun X Γ => ?_)
  unfold mX11_sumOf
  refine sn_iconst dX11_sumOf_0 ?_
  refine sn_istore_n (L' := [some (aA a), some (aI b1), some (aI 0), none]) dX11_sumOf_1 (by decide) rfl ?_
  refine sn_iconst dX11_sumOf_2 ?_
  refine sn_istore_n (L' := [some (aA a), some (aI b1), some (aI 0), some (aI 0)]) dX11_sumOf_3 (by decide) rfl ?_
  refine sn_lp (La := fun v4 : Int × Int => [some (aA a), some (aI b1), some (aI v4.1), some (aI v4.2)]) ?_ n (0, 0) μ
  intro nx4 hnx4 v4 μ4
  refine sn_iload_n dX11_sumOf_4 rfl ?_
  refine sn_aload_n dX11_sumOf_5 rfl ?_
  refine sn_getA (ci := 11) (j := 1) dX11_sumOf_6 fl_X11_13 (by decide) (fun x6 => ?_)
  refine sn_iconst dX11_sumOf_9 ?_
  refine sn_iald dX11_sumOf_10 (fun x10 => ?_)
  refine sn_icmp_ge (tgt := 31) dX11_sumOf_11 (by decide) ?_ ?_
  · refine sn_iload_n dX11_sumOf_31 rfl ?_
    exact sn_iret dX11_sumOf_32
  · refine sn_iload_n dX11_sumOf_14 rfl ?_
    refine sn_aload_n dX11_sumOf_15 rfl ?_
    refine sn_getA (ci := 11) (j := 1) dX11_sumOf_16 fl_X11_13 (by decide) (fun x16 => ?_)
    refine sn_iload_n dX11_sumOf_19 rfl ?_
    refine sn_iload_n dX11_sumOf_20 rfl ?_
    refine sn_iadd dX11_sumOf_21 ?_
    refine sn_iald dX11_sumOf_22 (fun x22 => ?_)
    refine sn_iadd dX11_sumOf_23 ?_
    refine sn_istore_n (L' := [some (aA a), some (aI b1), some (aI (v4.1 + x22)), some (aI v4.2)]) dX11_sumOf_24 (by decide) rfl ?_
    refine sn_iinc (L' := [some (aA a), some (aI b1), some (aI (v4.1 + x22)), some (aI (v4.2 + 1))]) dX11_sumOf_25 rfl (by decide) rfl ?_
    refine sn_goto (tgt := 4) dX11_sumOf_28 (by decide) ?_
    exact hnx4 ((v4.1 + x22), (v4.2 + 1)) μ4
theorem dX11_fullMany_0 : decode cX11_fullMany 0 = .ok (.iconst 0, 1) := by decide +kernel
theorem dX11_fullMany_1 : decode cX11_fullMany 1 = .ok (.istore_n 1, 1) := by decide +kernel
theorem dX11_fullMany_2 : decode cX11_fullMany 2 = .ok (.iconst 0, 1) := by decide +kernel
theorem dX11_fullMany_3 : decode cX11_fullMany 3 = .ok (.istore_n 2, 1) := by decide +kernel
theorem dX11_fullMany_4 : decode cX11_fullMany 4 = .ok (.iload_n 2, 1) := by decide +kernel
theorem dX11_fullMany_5 : decode cX11_fullMany 5 = .ok (.aload_n 0, 1) := by decide +kernel
theorem dX11_fullMany_6 : decode cX11_fullMany 6 = .ok (.getfield 13, 3) := by decide +kernel
theorem dX11_fullMany_9 : decode cX11_fullMany 9 = .ok (.iconst 1, 1) := by decide +kernel
theorem dX11_fullMany_10 : decode cX11_fullMany 10 = .ok (.iaload, 1) := by decide +kernel
theorem dX11_fullMany_11 : decode cX11_fullMany 11 = .ok (.if_icmp .ge 45, 3) := by decide +kernel
theorem dX11_fullMany_14 : decode cX11_fullMany 14 = .ok (.iload_n 1, 1) := by decide +kernel
theorem dX11_fullMany_15 : decode cX11_fullMany 15 = .ok (.aload_n 0, 1) := by decide +kernel
theorem dX11_fullMany_16 : decode cX11_fullMany 16 = .ok (.iload_n 2, 1) := by decide +kernel
theorem dX11_fullMany_17 : decode cX11_fullMany 17 = .ok (.invokevirtual 191, 3) := by decide +kernel
theorem dX11_fullMany_20 : decode cX11_fullMany 20 = .ok (.ifCond .eq 27, 3) := by decide +kernel
theorem dX11_fullMany_23 : decode cX11_fullMany 23 = .ok (.aload_n 0, 1) := by decide +kernel
theorem dX11_fullMany_24 : decode cX11_fullMany 24 = .ok (.getfield 13, 3) := by decide +kernel
theorem dX11_fullMany_27 : decode cX11_fullMany 27 = .ok (.sipush 172, 3) := by decide +kernel
theorem dX11_fullMany_30 : decode cX11_fullMany 30 = .ok (.iload_n 2, 1) := by decide +kernel
theorem dX11_fullMany_31 : decode cX11_fullMany 31 = .ok (.iadd, 1) := by decide +kernel
theorem dX11_fullMany_32 : decode cX11_fullMany 32 = .ok (.iaload, 1) := by decide +kernel
theorem dX11_fullMany_33 : decode cX11_fullMany 33 = .ok (.aload_n 0, 1) := by decide +kernel
theorem dX11_fullMany_34 : decode cX11_fullMany 34 = .ok (.getfield 13, 3) := by decide +kernel
theorem dX11_fullMany_37 : decode cX11_fullMany 37 = .ok (.sipush 188, 3) := by decide +kernel
theorem dX11_fullMany_40 : decode cX11_fullMany 40 = .ok (.iload_n 2, 1) := by decide +kernel
theorem dX11_fullMany_41 : decode cX11_fullMany 41 = .ok (.iadd, 1) := by decide +kernel
theorem dX11_fullMany_42 : decode cX11_fullMany 42 = .ok (.iaload, 1) := by decide +kernel
theorem dX11_fullMany_43 : decode cX11_fullMany 43 = .ok (.iadd, 1) := by decide +kernel
theorem dX11_fullMany_44 : decode cX11_fullMany 44 = .ok (.goto 4, 3) := by decide +kernel
theorem dX11_fullMany_47 : decode cX11_fullMany 47 = .ok (.iconst 0, 1) := by decide +kernel
theorem dX11_fullMany_48 : decode cX11_fullMany 48 = .ok (.iadd, 1) := by decide +kernel
theorem dX11_fullMany_49 : decode cX11_fullMany 49 = .ok (.istore_n 1, 1) := by decide +kernel
theorem dX11_fullMany_50 : decode cX11_fullMany 50 = .ok (.iinc 2 1, 3) := by decide +kernel
theorem dX11_fullMany_53 : decode cX11_fullMany 53 = .ok (.goto (-49), 3) := by decide +kernel
theorem dX11_fullMany_56 : decode cX11_fullMany 56 = .ok (.iload_n 1, 1) := by decide +kernel
theorem dX11_fullMany_57 : decode cX11_fullMany 57 = .ok (.ireturn, 1) := by decide +kernel
def mX11_fullMany (n : Nat) (a : Nat) (μ : Mem) : Option (Int × Mem) :=
  lp (fun nx4 (v4 : Int × Int) (μ4 : Mem) =>
  (gA μ4 12 a 1).bind fun x6 =>
  (ldI μ4 0 x6 1).bind fun x10 =>
  if lt32 v4.2 x10 then
    (inv μ4 12 a (mX11_hangs n a v4.2 μ4)).bind fun p17 =>
    if eq32 p17.1 0 then
      nx4 ((v4.1 + 0), (v4.2 + 1)) p17.2
    else
    (gA p17.2 12 a 1).bind fun x24 =>
    (ldI p17.2 0 x24 (172 + v4.2)).bind fun x32 =>
    (gA p17.2 12 a 1).bind fun x34 =>
    (ldI p17.2 0 x34 (188 + v4.2)).bind fun x42 =>
    nx4 ((v4.1 + (x32 + x42)), (v4.2 + 1)) p17.2
  else
  some (v4.1, μ4)) n (0, 0) μ
set_option maxRecDepth 100000 in
set_option maxHeartbeats 4000000 in
theorem cX11_fullMany_ok (n : Nat) (a : Nat) (μ : Mem) : Mc yX11_fullMany cX11_fullMany 3 (some .int) 1 21 eI [aA a] μ (mX11_fullMany n a μ) := by
  refine mc_of (L0 := [some (aA a), none, none]) (k := 2) (by decide) rfl rfl (fun X Γ => ?_)
  unfold mX11_fullMany
  refine sn_iconst dX11_fullMany_0 ?_
  refine sn_istore_n (L' := [some (aA a), some (aI 0), none]) dX11_fullMany_1 (by decide) rfl ?_
  refine sn_iconst dX11_fullMany_2 ?_
  refine sn_istore_n (L' := [some (aA a), some (aI 0), some (aI 0)]) dX11_fullMany_3 (by decide) rfl ?_
  refine sn_lp (La := fun v4 : Int × Int => [some (aA a), some (aI v4.1), some (aI v4.2)]) ?_ n (0, 0) μ
  intro nx4 hnx4 v4 μ4
  refine sn_iload_n dX11_fullMany_4 rfl ?_
  refine sn_aload_n dX11_fullMany_5 rfl ?_
  refine sn_getA (ci := 11) (j := 1) dX11_fullMany_6 fl_X11_13 (by decide) (fun x6 => ?_)
  refine sn_iconst dX11_fullMany_9 ?_
  refine sn_iald dX11_fullMany_10 (fun x10 => ?_)
  refine sn_icmp_ge (tgt := 56) dX11_fullMany_11 (by decide) ?_ ?_
  · refine sn_iload_n dX11_fullMany_56 rfl ?_
    exact sn_iret dX11_fullMany_57
  · refine sn_iload_n dX11_fullMany_14 rfl ?_
    refine sn_aload_n dX11_fullMany_15 rfl ?_
    refine sn_iload_n dX11_fullMany_16 rfl ?_
    refine sn_callVI (vs := [aI v4.2]) (ci := 11) (cX11_hangs_ok n a v4.2 μ4) dX11_fullMany_17 cw_X11_191 rfl rfl rfl (by decide) (by decide) (Nat.le_of_ble_eq_true rfl) (fun p17 => ?_)
    refine sn_if_eq (tgt := 47) dX11_fullMany_20 (by decide) ?_ ?_
    · refine sn_iconst dX11_fullMany_47 ?_
      refine sn_iadd dX11_fullMany_48 ?_
      refine sn_istore_n (L' := [some (aA a), some (aI (v4.1 + 0)), some (aI v4.2)]) dX11_fullMany_49 (by decide) rfl ?_
      refine sn_iinc (L' := [some (aA a), some (aI (v4.1 + 0)), some (aI (v4.2 + 1))]) dX11_fullMany_50 rfl (by decide) rfl ?_
      refine sn_goto (tgt := 4) dX11_fullMany_53 (by decide) ?_
      exact hnx4 ((v4.1 + 0), (v4.2 + 1)) p17.2
    · refine sn_aload_n dX11_fullMany_23 rfl ?_
      refine sn_getA (ci := 11) (j := 1) dX11_fullMany_24 fl_X11_13 (by decide) (fun x24 => ?_)
      refine sn_sipush dX11_fullMany_27 (by decide) ?_
      refine sn_iload_n dX11_fullMany_30 rfl ?_
      refine sn_iadd dX11_fullMany_31 ?_
      refine sn_iald dX11_fullMany_32 (fun x32 => ?_)
      refine sn_aload_n dX11_fullMany_33 rfl ?_
      refine sn_getA (ci := 11) (j := 1) dX11_fullMany_34 fl_X11_13 (by decide) (fun x34 => ?_)
      refine sn_sipush dX11_fullMany_37 (by decide) ?_
      refine sn_iload_n dX11_fullMany_40 rfl ?_
      refine sn_iadd dX11_fullMany_41 ?_
      refine sn_iald dX11_fullMany_42 (fun x42 => ?_)
      refine sn_iadd dX11_fullMany_43 ?_
      refine sn_goto (tgt := 48) dX11_fullMany_44 (by decide) ?_
      refine sn_iadd dX11_fullMany_48 ?_
      refine sn_istore_n (L' := [some (aA a), some (aI (v4.1 + (x32 + x42))), some (aI v4.2)]) dX11_fullMany_49 (by decide) rfl ?_
      refine sn_iinc (L' := [some (aA a), some (aI (v4.1 + (x32 + x42))), some (aI (v4.2 + 1))]) dX11_fullMany_50 rfl (by decide) rfl ?_
      refine sn_goto (tgt := 4) dX11_fullMany_53 (by decide) ?_
      exact hnx4 ((v4.1 + (x32 + x42)), (v4.2 + 1)) p17.2
theorem dX11_count_0 : decode cX11_count 0 = .ok (.aload_n 0, 1) := by decide +kernel
theorem dX11_count_1 : decode cX11_count 1 = .ok (.iconst 0, 1) := by decide +kernel
theorem dX11_count_2 : decode cX11_count 2 = .ok (.putfield 1, 3) := by decide +kernel
theorem dX11_count_5 : decode cX11_count 5 = .ok (.iload_n 1, 1) := by decide +kernel
theorem dX11_count_6 : decode cX11_count 6 = .ok (.tableswitch 109 0 8 #[50, 57, 64, 71, 78, 85, 92, 97, 102], 50) := by decide +kernel
theorem dX11_count_56 : decode cX11_count 56 = .ok (.aload_n 0, 1) := by decide +kernel
theorem dX11_count_57 : decode cX11_count 57 = .ok (.getfield 13, 3) := by decide +kernel
theorem dX11_count_60 : decode cX11_count 60 = .ok (.iconst 0, 1) := by decide +kernel
theorem dX11_count_61 : decode cX11_count 61 = .ok (.iaload, 1) := by decide +kernel
theorem dX11_count_62 : decode cX11_count 62 = .ok (.ireturn, 1) := by decide +kernel
theorem dX11_count_63 : decode cX11_count 63 = .ok (.aload_n 0, 1) := by decide +kernel
theorem dX11_count_64 : decode cX11_count 64 = .ok (.getfield 13, 3) := by decide +kernel
theorem dX11_count_67 : decode cX11_count 67 = .ok (.iconst 1, 1) := by decide +kernel
theorem dX11_count_68 : decode cX11_count 68 = .ok (.iaload, 1) := by decide +kernel
theorem dX11_count_69 : decode cX11_count 69 = .ok (.ireturn, 1) := by decide +kernel
theorem dX11_count_70 : decode cX11_count 70 = .ok (.aload_n 0, 1) := by decide +kernel
theorem dX11_count_71 : decode cX11_count 71 = .ok (.getfield 13, 3) := by decide +kernel
theorem dX11_count_74 : decode cX11_count 74 = .ok (.iconst 2, 1) := by decide +kernel
theorem dX11_count_75 : decode cX11_count 75 = .ok (.iaload, 1) := by decide +kernel
theorem dX11_count_76 : decode cX11_count 76 = .ok (.ireturn, 1) := by decide +kernel
theorem dX11_count_77 : decode cX11_count 77 = .ok (.aload_n 0, 1) := by decide +kernel
theorem dX11_count_78 : decode cX11_count 78 = .ok (.getfield 13, 3) := by decide +kernel
theorem dX11_count_81 : decode cX11_count 81 = .ok (.iconst 3, 1) := by decide +kernel
theorem dX11_count_82 : decode cX11_count 82 = .ok (.iaload, 1) := by decide +kernel
theorem dX11_count_83 : decode cX11_count 83 = .ok (.ireturn, 1) := by decide +kernel
theorem dX11_count_84 : decode cX11_count 84 = .ok (.aload_n 0, 1) := by decide +kernel
theorem dX11_count_85 : decode cX11_count 85 = .ok (.getfield 13, 3) := by decide +kernel
theorem dX11_count_88 : decode cX11_count 88 = .ok (.iconst 4, 1) := by decide +kernel
theorem dX11_count_89 : decode cX11_count 89 = .ok (.iaload, 1) := by decide +kernel
theorem dX11_count_90 : decode cX11_count 90 = .ok (.ireturn, 1) := by decide +kernel
theorem dX11_count_91 : decode cX11_count 91 = .ok (.aload_n 0, 1) := by decide +kernel
theorem dX11_count_92 : decode cX11_count 92 = .ok (.bipush 26, 2) := by decide +kernel
theorem dX11_count_94 : decode cX11_count 94 = .ok (.invokevirtual 249, 3) := by decide +kernel
theorem dX11_count_97 : decode cX11_count 97 = .ok (.ireturn, 1) := by decide +kernel
theorem dX11_count_98 : decode cX11_count 98 = .ok (.aload_n 0, 1) := by decide +kernel
theorem dX11_count_99 : decode cX11_count 99 = .ok (.invokevirtual 383, 3) := by decide +kernel
theorem dX11_count_102 : decode cX11_count 102 = .ok (.ireturn, 1) := by decide +kernel
theorem dX11_count_103 : decode cX11_count 103 = .ok (.aload_n 0, 1) := by decide +kernel
theorem dX11_count_104 : decode cX11_count 104 = .ok (.getfield 86, 3) := by decide +kernel
theorem dX11_count_107 : decode cX11_count 107 = .ok (.ireturn, 1) := by decide +kernel
theorem dX11_count_108 : decode cX11_count 108 = .ok (.aload_n 0, 1) := by decide +kernel
theorem dX11_count_109 : decode cX11_count 109 = .ok (.getfield 13, 3) := by decide +kernel
theorem dX11_count_112 : decode cX11_count 112 = .ok (.iconst 5, 1) := by decide +kernel
theorem dX11_count_113 : decode cX11_count 113 = .ok (.iaload, 1) := by decide +kernel
theorem dX11_count_114 : decode cX11_count 114 = .ok (.ireturn, 1) := by decide +kernel
theorem dX11_count_115 : decode cX11_count 115 = .ok (.iconst (-1), 1) := by decide +kernel
theorem dX11_count_116 : decode cX11_count 116 = .ok (.ireturn, 1) := by decide +kernel
def mX11_count (n : Nat) (a : Nat) (b1 : Int) (μ : Mem) : Option (Int × Mem) :=
  (pI μ 12 a 0 0).bind fun μ2 =>
  if eq32 b1 0 then
    (gA μ2 12 a 1).bind fun x57 =>
    (ldI μ2 0 x57 0).bind fun x61 =>
    some (x61, μ2)
  else
  if eq32 b1 1 then
    (gA μ2 12 a 1).bind fun x64 =>
    (ldI μ2 0 x64 1).bind fun x68 =>
    some (x68, μ2)
  else
  if eq32 b1 2 then
    (gA μ2 12 a 1).bind fun x71 =>
    (ldI μ2 0 x71 2).bind fun x75 =>
    some (x75, μ2)
  else
  if eq32 b1 3 then
    (gA μ2 12 a 1).bind fun x78 =>
    (ldI μ2 0 x78 3).bind fun x82 =>
    some (x82, μ2)
  else
  if eq32 b1 4 then
    (gA μ2 12 a 1).bind fun x85 =>
    (ldI μ2 0 x85 4).bind fun x89 =>
    some (x89, μ2)
  else
  if eq32 b1 5 then
    (inv μ2 12 a (mX11_sumOf n a 26 μ2)).bind fun p94 =>
    some (p94.1, p94.2)
  else
  if eq32 b1 6 then
    (inv μ2 12 a (mX11_fullMany n a μ2)).bind fun p99 =>
    some (p99.1, p99.2)
  else
  if eq32 b1 7 then
    (gI μ2 12 a 5).bind fun x104 =>
    some (x104, μ2)
  else
  if eq32 b1 8 then
    (gA μ2 12 a 1).bind fun x109 =>
    (ldI μ2 0 x109 5).bind fun x113 =>
    some (x113, μ2)
  else
  some ((-1), μ2)
set_option maxRecDepth 100000 in
set_option maxHeartbeats 4000000 in
theorem cX11_count_ok (n : Nat) (a : Nat) (b1 : Int) (μ : Mem) : Mc yX11_count cX11_count 2 (some .int) 2 43 eI [aA a, aI b1] μ (mX11_count n a b1 μ) := by
  refine mc_of (L0 := [some (aA a), some (aI b1)]) (k := 0) (by decide) rfl rfl (fun X Γ => ?_)
  unfold mX11_count
  refine sn_aload_n dX11_count_0 rfl ?_
  refine sn_iconst dX11_count_1 ?_
  refine sn_putI (ci := 11) (j := 0) dX11_count_2 fl_X11_1 rfl (fun q h => by cases h; rfl) (fun μ2 => ?_)
  refine sn_iload_n dX11_count_5 rfl ?_
  refine sn_ite (fun c6_0 => ?_) (fun c6_0 => ?_)
  · refine sn_swIn (k := 0) (off := 50) (tgt := 56) dX11_count_6 c6_0 (by decide) (by decide) rfl (by decide) ?_
    refine sn_aload_n dX11_count_56 rfl ?_
    refine sn_getA (ci := 11) (j := 1) dX11_count_57 fl_X11_13 (by decide) (fun x57 => ?_)
    refine sn_iconst dX11_count_60 ?_
    refine sn_iald dX11_count_61 (fun x61 => ?_)
    exact sn_iret dX11_count_62
  refine sn_ite (fun c6_1 => ?_) (fun c6_1 => ?_)
  · refine sn_swIn (k := 1) (off := 57) (tgt := 63) dX11_count_6 c6_1 (by decide) (by decide) rfl (by decide) ?_
    refine sn_aload_n dX11_count_63 rfl ?_
    refine sn_getA (ci := 11) (j := 1) dX11_count_64 fl_X11_13 (by decide) (fun x64 => ?_)
    refine sn_iconst dX11_count_67 ?_
    refine sn_iald dX11_count_68 (fun x68 => ?_)
    exact sn_iret dX11_count_69
  refine sn_ite (fun c6_2 => ?_) (fun c6_2 => ?_)
  · refine sn_swIn (k := 2) (off := 64) (tgt := 70) dX11_count_6 c6_2 (by decide) (by decide) rfl (by decide) ?_
    refine sn_aload_n dX11_count_70 rfl ?_
    refine sn_getA (ci := 11) (j := 1) dX11_count_71 fl_X11_13 (by decide) (fun x71 => ?_)
    refine sn_iconst dX11_count_74 ?_
    refine sn_iald dX11_count_75 (fun x75 => ?_)
    exact sn_iret dX11_count_76
  refine sn_ite (fun c6_3 => ?_) (fun c6_3 => ?_)
  · refine sn_swIn (k := 3) (off := 71) (tgt := 77) dX11_count_6 c6_3 (by decide) (by decide) rfl (by decide) ?_
    refine sn_aload_n dX11_count_77 rfl ?_
    refine sn_getA (ci := 11) (j := 1) dX11_count_78 fl_X11_13 (by decide) (fun x78 => ?_)
    refine sn_iconst dX11_count_81 ?_
    refine sn_iald dX11_count_82 (fun x82 => ?_)
    exact sn_iret dX11_count_83
  refine sn_ite (fun c6_4 => ?_) (fun c6_4 => ?_)
  · refine sn_swIn (k := 4) (off := 78) (tgt := 84) dX11_count_6 c6_4 (by decide) (by decide) rfl (by decide) ?_
    refine sn_aload_n dX11_count_84 rfl ?_
    refine sn_getA (ci := 11) (j := 1) dX11_count_85 fl_X11_13 (by decide) (fun x85 => ?_)
    refine sn_iconst dX11_count_88 ?_
    refine sn_iald dX11_count_89 (fun x89 => ?_)
    exact sn_iret dX11_count_90
  refine sn_ite (fun c6_5 => ?_) (fun c6_5 => ?_)
  · refine sn_swIn (k := 5) (off := 85) (tgt := 91) dX11_count_6 c6_5 (by decide) (by decide) rfl (by decide) ?_
    refine sn_aload_n dX11_count_91 rfl ?_
    refine sn_bipush dX11_count_92 (by decide) ?_
    refine sn_callVI (vs := [aI 26]) (ci := 11) (cX11_sumOf_ok n a 26 μ2) dX11_count_94 cw_X11_249 rfl rfl rfl (by decide) (by decide) (Nat.le_of_ble_eq_true rfl) (fun p94 => ?_)
    exact sn_iret dX11_count_97
  refine sn_ite (fun c6_6 => ?_) (fun c6_6 => ?_)
  · refine sn_swIn (k := 6) (off := 92) (tgt := 98) dX11_count_6 c6_6 (by decide) (by decide) rfl (by decide) ?_
    refine sn_aload_n dX11_count_98 rfl ?_
    refine sn_callVI (vs := []) (ci := 11) (cX11_fullMany_ok n a μ2) dX11_count_99 cw_X11_383 rfl rfl rfl (by decide) (by decide) (Nat.le_of_ble_eq_true rfl) (fun p99 => ?_)
    exact sn_iret dX11_count_102
  refine sn_ite (fun c6_7 => ?_) (fun c6_7 => ?_)
  · refine sn_swIn (k := 7) (off := 97) (tgt := 103) dX11_count_6 c6_7 (by decide) (by decide) rfl (by decide) ?_
    refine sn_aload_n dX11_count_103 rfl ?_
    refine sn_getI (ci := 11) (j := 5) dX11_count_104 fl_X11_86 rfl (fun x104 => ?_)
    exact sn_iret dX11_count_107
  refine sn_ite (fun c6_8 => ?_) (fun c6_8 => ?_)
  · refine sn_swIn (k := 8) (off := 102) (tgt := 108) dX11_count_6 c6_8 (by decide) (by decide) rfl (by decide) ?_
    refine sn_aload_n dX11_count_108 rfl ?_
    refine sn_getA (ci := 11) (j := 1) dX11_count_109 fl_X11_13 (by decide) (fun x109 => ?_)
    refine sn_iconst dX11_count_112 ?_
    refine sn_iald dX11_count_113 (fun x113 => ?_)
    exact sn_iret dX11_count_114
  refine sn_swOut (tgt := 115) dX11_count_6 (by have e0 := sw_ne c6_0 (by decide); have e1 := sw_ne c6_1 (by decide); have e2 := sw_ne c6_2 (by decide); have e3 := sw_ne c6_3 (by decide); have e4 := sw_ne c6_4 (by decide); have e5 := sw_ne c6_5 (by decide); have e6 := sw_ne c6_6 (by decide); have e7 := sw_ne c6_7 (by decide); have e8 := sw_ne c6_8 (by decide); omega) (by decide) ?_
  refine sn_iconst dX11_count_115 ?_
  exact sn_iret dX11_count_116
theorem dX11_lives_0 : decode cX11_lives 0 = .ok (.aload_n 0, 1) := by decide +kernel
theorem dX11_lives_1 : decode cX11_lives 1 = .ok (.iconst 0, 1) := by decide +kernel
theorem dX11_lives_2 : decode cX11_lives 2 = .ok (.putfield 217, 3) := by decide +kernel
theorem dX11_lives_5 : decode cX11_lives 5 = .ok (.aload_n 0, 1) := by decide +kernel
theorem dX11_lives_6 : decode cX11_lives 6 = .ok (.iconst 0, 1) := by decide +kernel
theorem dX11_lives_7 : decode cX11_lives 7 = .ok (.putfield 239, 3) := by decide +kernel
theorem dX11_lives_10 : decode cX11_lives 10 = .ok (.iconst 0, 1) := by decide +kernel
theorem dX11_lives_11 : decode cX11_lives 11 = .ok (.istore_n 2, 1) := by decide +kernel
theorem dX11_lives_12 : decode cX11_lives 12 = .ok (.iconst 0, 1) := by decide +kernel
theorem dX11_lives_13 : decode cX11_lives 13 = .ok (.istore_n 3, 1) := by decide +kernel
theorem dX11_lives_14 : decode cX11_lives 14 = .ok (.iload_n 3, 1) := by decide +kernel
theorem dX11_lives_15 : decode cX11_lives 15 = .ok (.iload_n 1, 1) := by decide +kernel
theorem dX11_lives_16 : decode cX11_lives 16 = .ok (.if_icmp .ge 20, 3) := by decide +kernel
theorem dX11_lives_19 : decode cX11_lives 19 = .ok (.aload_n 0, 1) := by decide +kernel
theorem dX11_lives_20 : decode cX11_lives 20 = .ok (.invokevirtual 242, 3) := by decide +kernel
theorem dX11_lives_23 : decode cX11_lives 23 = .ok (.iload_n 2, 1) := by decide +kernel
theorem dX11_lives_24 : decode cX11_lives 24 = .ok (.aload_n 0, 1) := by decide +kernel
theorem dX11_lives_25 : decode cX11_lives 25 = .ok (.invokevirtual 203, 3) := by decide +kernel
theorem dX11_lives_28 : decode cX11_lives 28 = .ok (.iadd, 1) := by decide +kernel
theorem dX11_lives_29 : decode cX11_lives 29 = .ok (.istore_n 2, 1) := by decide +kernel
theorem dX11_lives_30 : decode cX11_lives 30 = .ok (.iinc 3 1, 3) := by decide +kernel
theorem dX11_lives_33 : decode cX11_lives 33 = .ok (.goto (-19), 3) := by decide +kernel
theorem dX11_lives_36 : decode cX11_lives 36 = .ok (.iload_n 2, 1) := by decide +kernel
theorem dX11_lives_37 : decode cX11_lives 37 = .ok (.ireturn, 1) := by decide +kernel
def mX11_lives (n : Nat) (a : Nat) (b1 : Int) (μ : Mem) : Option (Int × Mem) :=
  (pI μ 12 a 20 0).bind fun μ2 =>
  (pI μ2 12 a 21 0).bind fun μ7 =>
  lp (fun nx14 (v14 : Int × Int) (μ14 : Mem) =>
  if lt32 v14.2 b1 then
    (inv μ14 12 a (mX11_byCustom n a μ14)).bind fun p20 =>
    (inv p20.2 12 a (mX11_goes n a p20.2)).bind fun p25 =>
    nx14 ((v14.1 + p25.1), (v14.2 + 1)) p25.2
  else
  some (v14.1, μ14)) n (0, 0) μ7
set_option maxRecDepth 100000 in
set_option maxHeartbeats 4000000 in
theorem cX11_lives_ok (n : Nat) (a : Nat) (b1 : Int) (μ : Mem) : Mc yX11_lives cX11_lives 4 (some .int) 3 72 eI [aA a, aI b1] μ (mX11_lives n a b1 μ) := by
  refine mc_of (L0 := [some (aA a), some (aI b1), none, none]) (k := 2) (by decide) rfl rfl (fun X Γ => ?_)
  unfold mX11_lives
  refine sn_aload_n dX11_lives_0 rfl ?_
  refine sn_iconst dX11_lives_1 ?_
  refine sn_putI (ci := 11) (j := 20) dX11_lives_2 fl_X11_217 rfl (fun q h => by cases h; rfl) (fun μ2 => ?_)
  refine sn_aload_n dX11_lives_5 rfl ?_
  refine sn_iconst dX11_lives_6 ?_
  refine sn_putI (ci := 11) (j := 21) dX11_lives_7 fl_X11_239 rfl (fun q h => by cases h; rfl) (fun μ7 => ?_)
  refine sn_iconst dX11_lives_10 ?_
  refine sn_istore_n (L' := [some (aA a), some (aI b1), some (aI 0), none]) dX11_lives_11 (by decide) rfl ?_
  refine sn_iconst dX11_lives_12 ?_
  refine sn_istore_n (L' := [some (aA a), some (aI b1), some (aI 0), some (aI 0)]) dX11_lives_13 (by decide) rfl ?_
  refine sn_lp (La := fun v14 : Int × Int => [some (aA a), some (aI b1), some (aI v14.1), some (aI v14.2)]) ?_ n (0, 0) μ7
  intro nx14 hnx14 v14 μ14
  refine sn_iload_n dX11_lives_14 rfl ?_
  refine sn_iload_n dX11_lives_15 rfl ?_
  refine sn_icmp_ge (tgt := 36) dX11_lives_16 (by decide) ?_ ?_
  · refine sn_iload_n dX11_lives_36 rfl ?_
    exact sn_iret dX11_lives_37
  · refine sn_aload_n dX11_lives_19 rfl ?_
    refine sn_callVV (vs := []) (ci := 11) (cX11_byCustom_ok n a μ14) dX11_lives_20 cw_X11_242 rfl rfl rfl (by decide) (by decide) (Nat.le_of_ble_eq_true rfl) (fun p20 => ?_)
    refine sn_iload_n dX11_lives_23 rfl ?_
    refine sn_aload_n dX11_lives_24 rfl ?_
    refine sn_callVI (vs := []) (ci := 11) (cX11_goes_ok n a p20.2) dX11_lives_25 cw_X11_203 rfl rfl rfl (by decide) (by decide) (Nat.le_of_ble_eq_true rfl) (fun p25 => ?_)
    refine sn_iadd dX11_lives_28 ?_
    refine sn_istore_n (L' := [some (aA a), some (aI b1), some (aI (v14.1 + p25.1)), some (aI v14.2)]) dX11_lives_29 (by decide) rfl ?_
    refine sn_iinc (L' := [some (aA a), some (aI b1), some (aI (v14.1 + p25.1)), some (aI (v14.2 + 1))]) dX11_lives_30 rfl (by decide) rfl ?_
    refine sn_goto (tgt := 14) dX11_lives_33 (by decide) ?_
    exact hnx14 ((v14.1 + p25.1), (v14.2 + 1)) p25.2
theorem dX11_custom_0 : decode cX11_custom 0 = .ok (.aload_n 0, 1) := by decide +kernel
theorem dX11_custom_1 : decode cX11_custom 1 = .ok (.iconst 0, 1) := by decide +kernel
theorem dX11_custom_2 : decode cX11_custom 2 = .ok (.putfield 1, 3) := by decide +kernel
theorem dX11_custom_5 : decode cX11_custom 5 = .ok (.iload_n 2, 1) := by decide +kernel
theorem dX11_custom_6 : decode cX11_custom 6 = .ok (.i2l, 1) := by decide +kernel
theorem dX11_custom_7 : decode cX11_custom 7 = .ok (.lconst 0, 1) := by decide +kernel
theorem dX11_custom_8 : decode cX11_custom 8 = .ok (.ldc2_w 226, 3) := by decide +kernel
theorem dX11_custom_11 : decode cX11_custom 11 = .ok (.invokestatic 146, 3) := by decide +kernel
theorem dX11_custom_14 : decode cX11_custom 14 = .ok (.ifCond .ne 27, 3) := by decide +kernel
theorem dX11_custom_17 : decode cX11_custom 17 = .ok (.iload_n 2, 1) := by decide +kernel
theorem dX11_custom_18 : decode cX11_custom 18 = .ok (.i2l, 1) := by decide +kernel
theorem dX11_custom_19 : decode cX11_custom 19 = .ok (.ldc2_w 245, 3) := by decide +kernel
theorem dX11_custom_22 : decode cX11_custom 22 = .ok (.bipush 9, 2) := by decide +kernel
theorem dX11_custom_24 : decode cX11_custom 24 = .ok (.aload_n 0, 1) := by decide +kernel
theorem dX11_custom_25 : decode cX11_custom 25 = .ok (.getfield 13, 3) := by decide +kernel
theorem dX11_custom_28 : decode cX11_custom 28 = .ok (.iconst 0, 1) := by decide +kernel
theorem dX11_custom_29 : decode cX11_custom 29 = .ok (.iaload, 1) := by decide +kernel
theorem dX11_custom_30 : decode cX11_custom 30 = .ok (.iadd, 1) := by decide +kernel
theorem dX11_custom_31 : decode cX11_custom 31 = .ok (.i2l, 1) := by decide +kernel
theorem dX11_custom_32 : decode cX11_custom 32 = .ok (.invokestatic 146, 3) := by decide +kernel
theorem dX11_custom_35 : decode cX11_custom 35 = .ok (.ifCond .ne 6, 3) := by decide +kernel
theorem dX11_custom_38 : decode cX11_custom 38 = .ok (.bipush (-2), 2) := by decide +kernel
theorem dX11_custom_40 : decode cX11_custom 40 = .ok (.ireturn, 1) := by decide +kernel
theorem dX11_custom_41 : decode cX11_custom 41 = .ok (.iload_n 1, 1) := by decide +kernel
theorem dX11_custom_42 : decode cX11_custom 42 = .ok (.i2l, 1) := by decide +kernel
theorem dX11_custom_43 : decode cX11_custom 43 = .ok (.lconst 1, 1) := by decide +kernel
theorem dX11_custom_44 : decode cX11_custom 44 = .ok (.ldc2_w 247, 3) := by decide +kernel
theorem dX11_custom_47 : decode cX11_custom 47 = .ok (.invokestatic 146, 3) := by decide +kernel
theorem dX11_custom_50 : decode cX11_custom 50 = .ok (.ifCond .ne 6, 3) := by decide +kernel
theorem dX11_custom_53 : decode cX11_custom 53 = .ok (.bipush (-3), 2) := by decide +kernel
theorem dX11_custom_55 : decode cX11_custom 55 = .ok (.ireturn, 1) := by decide +kernel
theorem dX11_custom_56 : decode cX11_custom 56 = .ok (.aload_n 0, 1) := by decide +kernel
theorem dX11_custom_57 : decode cX11_custom 57 = .ok (.getfield 13, 3) := by decide +kernel
theorem dX11_custom_60 : decode cX11_custom 60 = .ok (.iconst 2, 1) := by decide +kernel
theorem dX11_custom_61 : decode cX11_custom 61 = .ok (.iaload, 1) := by decide +kernel
theorem dX11_custom_62 : decode cX11_custom 62 = .ok (.iload_n 1, 1) := by decide +kernel
theorem dX11_custom_63 : decode cX11_custom 63 = .ok (.iadd, 1) := by decide +kernel
theorem dX11_custom_64 : decode cX11_custom 64 = .ok (.sipush 9999, 3) := by decide +kernel
theorem dX11_custom_67 : decode cX11_custom 67 = .ok (.if_icmp .le 6, 3) := by decide +kernel
theorem dX11_custom_70 : decode cX11_custom 70 = .ok (.bipush (-5), 2) := by decide +kernel
theorem dX11_custom_72 : decode cX11_custom 72 = .ok (.ireturn, 1) := by decide +kernel
theorem dX11_custom_73 : decode cX11_custom 73 = .ok (.aload_n 0, 1) := by decide +kernel
theorem dX11_custom_74 : decode cX11_custom 74 = .ok (.invokevirtual 230, 3) := by decide +kernel
theorem dX11_custom_77 : decode cX11_custom 77 = .ok (.aload_n 0, 1) := by decide +kernel
theorem dX11_custom_78 : decode cX11_custom 78 = .ok (.bipush 56, 2) := by decide +kernel
theorem dX11_custom_80 : decode cX11_custom 80 = .ok (.invokevirtual 249, 3) := by decide +kernel
theorem dX11_custom_83 : decode cX11_custom 83 = .ok (.istore_n 3, 1) := by decide +kernel
theorem dX11_custom_84 : decode cX11_custom 84 = .ok (.aload_n 0, 1) := by decide +kernel
theorem dX11_custom_85 : decode cX11_custom 85 = .ok (.iload_n 1, 1) := by decide +kernel
theorem dX11_custom_86 : decode cX11_custom 86 = .ok (.invokevirtual 252, 3) := by decide +kernel
theorem dX11_custom_89 : decode cX11_custom 89 = .ok (.istore 4, 2) := by decide +kernel
theorem dX11_custom_91 : decode cX11_custom 91 = .ok (.iload_n 2, 1) := by decide +kernel
theorem dX11_custom_92 : decode cX11_custom 92 = .ok (.ifCond .ne 8, 3) := by decide +kernel
theorem dX11_custom_95 : decode cX11_custom 95 = .ok (.iload 4, 2) := by decide +kernel
theorem dX11_custom_97 : decode cX11_custom 97 = .ok (.goto 68, 3) := by decide +kernel
theorem dX11_custom_100 : decode cX11_custom 100 = .ok (.iload_n 2, 1) := by decide +kernel
theorem dX11_custom_101 : decode cX11_custom 101 = .ok (.iconst 1, 1) := by decide +kernel
theorem dX11_custom_102 : decode cX11_custom 102 = .ok (.if_icmp .ne 14, 3) := by decide +kernel
theorem dX11_custom_105 : decode cX11_custom 105 = .ok (.aload_n 0, 1) := by decide +kernel
theorem dX11_custom_106 : decode cX11_custom 106 = .ok (.bipush 56, 2) := by decide +kernel
theorem dX11_custom_108 : decode cX11_custom 108 = .ok (.invokevirtual 249, 3) := by decide +kernel
theorem dX11_custom_111 : decode cX11_custom 111 = .ok (.iload_n 3, 1) := by decide +kernel
theorem dX11_custom_112 : decode cX11_custom 112 = .ok (.isub, 1) := by decide +kernel
theorem dX11_custom_113 : decode cX11_custom 113 = .ok (.goto 52, 3) := by decide +kernel
theorem dX11_custom_116 : decode cX11_custom 116 = .ok (.iload_n 2, 1) := by decide +kernel
theorem dX11_custom_117 : decode cX11_custom 117 = .ok (.iconst 2, 1) := by decide +kernel
theorem dX11_custom_118 : decode cX11_custom 118 = .ok (.if_icmp .ne 10, 3) := by decide +kernel
theorem dX11_custom_121 : decode cX11_custom 121 = .ok (.aload_n 0, 1) := by decide +kernel
theorem dX11_custom_122 : decode cX11_custom 122 = .ok (.getfield 217, 3) := by decide +kernel
theorem dX11_custom_125 : decode cX11_custom 125 = .ok (.goto 40, 3) := by decide +kernel
theorem dX11_custom_128 : decode cX11_custom 128 = .ok (.iload_n 2, 1) := by decide +kernel
theorem dX11_custom_129 : decode cX11_custom 129 = .ok (.iconst 3, 1) := by decide +kernel
theorem dX11_custom_130 : decode cX11_custom 130 = .ok (.if_icmp .ne 10, 3) := by decide +kernel
theorem dX11_custom_133 : decode cX11_custom 133 = .ok (.aload_n 0, 1) := by decide +kernel
theorem dX11_custom_134 : decode cX11_custom 134 = .ok (.getfield 239, 3) := by decide +kernel
theorem dX11_custom_137 : decode cX11_custom 137 = .ok (.goto 28, 3) := by decide +kernel
theorem dX11_custom_140 : decode cX11_custom 140 = .ok (.aload_n 0, 1) := by decide +kernel
theorem dX11_custom_141 : decode cX11_custom 141 = .ok (.getfield 13, 3) := by decide +kernel
theorem dX11_custom_144 : decode cX11_custom 144 = .ok (.bipush 46, 2) := by decide +kernel
theorem dX11_custom_146 : decode cX11_custom 146 = .ok (.iload_n 2, 1) := by decide +kernel
theorem dX11_custom_147 : decode cX11_custom 147 = .ok (.iadd, 1) := by decide +kernel
theorem dX11_custom_148 : decode cX11_custom 148 = .ok (.bipush 10, 2) := by decide +kernel
theorem dX11_custom_150 : decode cX11_custom 150 = .ok (.isub, 1) := by decide +kernel
theorem dX11_custom_151 : decode cX11_custom 151 = .ok (.iaload, 1) := by decide +kernel
theorem dX11_custom_152 : decode cX11_custom 152 = .ok (.aload_n 0, 1) := by decide +kernel
theorem dX11_custom_153 : decode cX11_custom 153 = .ok (.getfield 33, 3) := by decide +kernel
theorem dX11_custom_156 : decode cX11_custom 156 = .ok (.bipush 46, 2) := by decide +kernel
theorem dX11_custom_158 : decode cX11_custom 158 = .ok (.iload_n 2, 1) := by decide +kernel
theorem dX11_custom_159 : decode cX11_custom 159 = .ok (.iadd, 1) := by decide +kernel
theorem dX11_custom_160 : decode cX11_custom 160 = .ok (.bipush 10, 2) := by decide +kernel
theorem dX11_custom_162 : decode cX11_custom 162 = .ok (.isub, 1) := by decide +kernel
theorem dX11_custom_163 : decode cX11_custom 163 = .ok (.iaload, 1) := by decide +kernel
theorem dX11_custom_164 : decode cX11_custom 164 = .ok (.isub, 1) := by decide +kernel
theorem dX11_custom_165 : decode cX11_custom 165 = .ok (.istore 5, 2) := by decide +kernel
theorem dX11_custom_167 : decode cX11_custom 167 = .ok (.aload_n 0, 1) := by decide +kernel
theorem dX11_custom_168 : decode cX11_custom 168 = .ok (.invokevirtual 236, 3) := by decide +kernel
theorem dX11_custom_171 : decode cX11_custom 171 = .ok (.iload 5, 2) := by decide +kernel
theorem dX11_custom_173 : decode cX11_custom 173 = .ok (.ireturn, 1) := by decide +kernel
def mX11_custom (n : Nat) (a : Nat) (b1 : Int) (b2 : Int) (μ : Mem) : Option (Int × Mem) :=
  (pI μ 12 a 0 0).bind fun μ2 =>
  (mX11_within n (oI2l b2) 0 3 μ2).bind fun p11 =>
  jn (fun (v41 : Unit) (μ41 : Mem) =>
  (mX11_within n (oI2l b1) 1 99 μ41).bind fun p47 =>
  if eq32 p47.1 0 then
    some ((-3), p47.2)
  else
  (gA p47.2 12 a 1).bind fun x57 =>
  (ldI p47.2 0 x57 2).bind fun x61 =>
  if lt32 9999 (x61 + b1) then
    some ((-5), p47.2)
  else
  (inv p47.2 12 a (mX11_keeps n a p47.2)).bind fun p74 =>
  (inv p74.2 12 a (mX11_sumOf n a 56 p74.2)).bind fun p80 =>
  (inv p80.2 12 a (mX11_lives n a b1 p80.2)).bind fun p86 =>
  jn (fun (v165 : Int) (μ165 : Mem) =>
  (inv μ165 12 a (mX11_isAgain n a μ165)).bind fun p168 =>
  some (v165, p168.2)) (fun j165 =>
  if eq32 b2 0 then
    j165 p86.1 p86.2
  else
  if eq32 b2 1 then
    (inv p86.2 12 a (mX11_sumOf n a 56 p86.2)).bind fun p108 =>
    j165 (p108.1 - p80.1) p108.2
  else
  if eq32 b2 2 then
    (gI p86.2 12 a 20).bind fun x122 =>
    j165 x122 p86.2
  else
  if eq32 b2 3 then
    (gI p86.2 12 a 21).bind fun x134 =>
    j165 x134 p86.2
  else
  (gA p86.2 12 a 1).bind fun x141 =>
  (ldI p86.2 0 x141 ((46 + b2) - 10)).bind fun x151 =>
  (gA p86.2 12 a 16).bind fun x153 =>
  (ldI p86.2 0 x153 ((46 + b2) - 10)).bind fun x163 =>
  j165 (x151 - x163) p86.2)) (fun j41 =>
  if eq32 p11.1 0 then
    (gA p11.2 12 a 1).bind fun x25 =>
    (ldI p11.2 0 x25 0).bind fun x29 =>
    (mX11_within n (oI2l b2) 10 (oI2l (9 + x29)) p11.2).bind fun p32 =>
    if eq32 p32.1 0 then
      some ((-2), p32.2)
    else
    j41 () p32.2
  else
  j41 () p11.2)
set_option maxRecDepth 100000 in
set_option maxHeartbeats 4000000 in
theorem cX11_custom_ok (n : Nat) (a : Nat) (b1 : Int) (b2 : Int) (μ : Mem) : Mc yX11_custom cX11_custom 6 (some .int) 4 95 eI [aA a, aI b1, aI b2] μ (mX11_custom n a b1 b2 μ) := by
  refine mc_of (L0 := [some (aA a), some (aI b1), some (aI b2), none, none, none]) (k := 3) (by decide) rfl rfl (fun X Γ => ?_)
  unfold mX11_custom
  refine sn_aload_n dX11_custom_0 rfl ?_
  refine sn_iconst dX11_custom_1 ?_
  refine sn_putI (ci := 11) (j := 0) dX11_custom_2 fl_X11_1 rfl (fun q h => by cases h; rfl) (fun μ2 => ?_)
  refine sn_iload_n dX11_custom_5 rfl ?_
  refine sn_i2l dX11_custom_6 ?_
  refine sn_lconst (v := 0) dX11_custom_7 (by decide) ?_
  refine sn_ldc2 (v := 3) dX11_custom_8 k_X11_226 (by decide) ?_
  refine sn_callSI (vs := [aJ (oI2l b2), aJ 0, aJ 3]) (cX11_within_ok n (oI2l b2) 0 3 μ2) dX11_custom_11 cw_X11_146 rfl (by decide) (by decide) (Nat.le_of_ble_eq_true rfl) (fun p11 => ?_)
  refine sn_jn (pcj := 41) (La := fun v41 : Unit => [some (aA a), some (aI b1), some (aI b2), none, none, none]) (Sa := fun v41 : Unit => []) ?_ ?_
  · intro v41 μ41
    refine sn_iload_n dX11_custom_41 rfl ?_
    refine sn_i2l dX11_custom_42 ?_
    refine sn_lconst (v := 1) dX11_custom_43 (by decide) ?_
    refine sn_ldc2 (v := 99) dX11_custom_44 k_X11_247 (by decide) ?_
    refine sn_callSI (vs := [aJ (oI2l b1), aJ 1, aJ 99]) (cX11_within_ok n (oI2l b1) 1 99 μ41) dX11_custom_47 cw_X11_146 rfl (by decide) (by decide) (Nat.le_of_ble_eq_true rfl) (fun p47 => ?_)
    refine sn_if_ne (tgt := 56) dX11_custom_50 (by decide) ?_ ?_
    · refine sn_aload_n dX11_custom_56 rfl ?_
      refine sn_getA (ci := 11) (j := 1) dX11_custom_57 fl_X11_13 (by decide) (fun x57 => ?_)
      refine sn_iconst dX11_custom_60 ?_
      refine sn_iald dX11_custom_61 (fun x61 => ?_)
      refine sn_iload_n dX11_custom_62 rfl ?_
      refine sn_iadd dX11_custom_63 ?_
      refine sn_sipush dX11_custom_64 (by decide) ?_
      refine sn_icmp_le (tgt := 73) dX11_custom_67 (by decide) ?_ ?_
      · refine sn_aload_n dX11_custom_73 rfl ?_
        refine sn_callVV (vs := []) (ci := 11) (cX11_keeps_ok n a p47.2) dX11_custom_74 cw_X11_230 rfl rfl rfl (by decide) (by decide) (Nat.le_of_ble_eq_true rfl) (fun p74 => ?_)
        refine sn_aload_n dX11_custom_77 rfl ?_
        refine sn_bipush dX11_custom_78 (by decide) ?_
        refine sn_callVI (vs := [aI 56]) (ci := 11) (cX11_sumOf_ok n a 56 p74.2) dX11_custom_80 cw_X11_249 rfl rfl rfl (by decide) (by decide) (Nat.le_of_ble_eq_true rfl) (fun p80 => ?_)
        refine sn_istore_n (L' := [some (aA a), some (aI b1), some (aI b2), some (aI p80.1), none, none]) dX11_custom_83 (by decide) rfl ?_
        refine sn_aload_n dX11_custom_84 rfl ?_
        refine sn_iload_n dX11_custom_85 rfl ?_
        refine sn_callVI (vs := [aI b1]) (ci := 11) (cX11_lives_ok n a b1 p80.2) dX11_custom_86 cw_X11_252 rfl rfl rfl (by decide) (by decide) (Nat.le_of_ble_eq_true rfl) (fun p86 => ?_)
        refine sn_istore (L' := [some (aA a), some (aI b1), some (aI b2), some (aI p80.1), some (aI p86.1), none]) dX11_custom_89 (by decide) rfl ?_
        refine sn_iload_n dX11_custom_91 rfl ?_
        refine sn_jn (pcj := 165) (La := fun v165 : Int => [some (aA a), none, none, none, none, none]) (Sa := fun v165 : Int => [aI v165]) ?_ ?_
        · intro v165 μ165
          refine sn_istore (L' := [some (aA a), none, none, none, none, some (aI v165)]) dX11_custom_165 (by decide) rfl ?_
          refine sn_aload_n dX11_custom_167 rfl ?_
          refine sn_callVV (vs := []) (ci := 11) (cX11_isAgain_ok n a μ165) dX11_custom_168 cw_X11_236 rfl rfl rfl (by decide) (by decide) (Nat.le_of_ble_eq_true rfl) (fun p168 => ?_)
          refine sn_iload dX11_custom_171 rfl ?_
          exact sn_iret dX11_custom_173
        intro j165 hj165
        refine sn_if_ne (tgt := 100) dX11_custom_92 (by decide) ?_ ?_
        · refine sn_iload_n dX11_custom_100 rfl ?_
          refine sn_iconst dX11_custom_101 ?_
          refine sn_icmp_ne (tgt := 116) dX11_custom_102 (by decide) ?_ ?_
          · refine sn_iload_n dX11_custom_116 rfl ?_
            refine sn_iconst dX11_custom_117 ?_
            refine sn_icmp_ne (tgt := 128) dX11_custom_118 (by decide) ?_ ?_
            · refine sn_iload_n dX11_custom_128 rfl ?_
              refine sn_iconst dX11_custom_129 ?_
              refine sn_icmp_ne (tgt := 140) dX11_custom_130 (by decide) ?_ ?_
              · refine sn_aload_n dX11_custom_140 rfl ?_
                refine sn_getA (ci := 11) (j := 1) dX11_custom_141 fl_X11_13 (by decide) (fun x141 => ?_)
                refine sn_bipush dX11_custom_144 (by decide) ?_
                refine sn_iload_n dX11_custom_146 rfl ?_
                refine sn_iadd dX11_custom_147 ?_
                refine sn_bipush dX11_custom_148 (by decide) ?_
                refine sn_isub dX11_custom_150 ?_
                refine sn_iald dX11_custom_151 (fun x151 => ?_)
                refine sn_aload_n dX11_custom_152 rfl ?_
                refine sn_getA (ci := 11) (j := 16) dX11_custom_153 fl_X11_33 (by decide) (fun x153 => ?_)
                refine sn_bipush dX11_custom_156 (by decide) ?_
                refine sn_iload_n dX11_custom_158 rfl ?_
                refine sn_iadd dX11_custom_159 ?_
                refine sn_bipush dX11_custom_160 (by decide) ?_
                refine sn_isub dX11_custom_162 ?_
                refine sn_iald dX11_custom_163 (fun x163 => ?_)
                refine sn_isub dX11_custom_164 ?_
                exact sn_mask (L' := [some (aA a), none, none, none, none, none]) [true, false, false, false, false, false] rfl (hj165 (x151 - x163) p86.2)
              · refine sn_aload_n dX11_custom_133 rfl ?_
                refine sn_getI (ci := 11) (j := 21) dX11_custom_134 fl_X11_239 rfl (fun x134 => ?_)
                refine sn_goto (tgt := 165) dX11_custom_137 (by decide) ?_
                exact sn_mask (L' := [some (aA a), none, none, none, none, none]) [true, false, false, false, false, false] rfl (hj165 x134 p86.2)
            · refine sn_aload_n dX11_custom_121 rfl ?_
              refine sn_getI (ci := 11) (j := 20) dX11_custom_122 fl_X11_217 rfl (fun x122 => ?_)
              refine sn_goto (tgt := 165) dX11_custom_125 (by decide) ?_
              exact sn_mask (L' := [some (aA a), none, none, none, none, none]) [true, false, false, false, false, false] rfl (hj165 x122 p86.2)
          · refine sn_aload_n dX11_custom_105 rfl ?_
            refine sn_bipush dX11_custom_106 (by decide) ?_
            refine sn_callVI (vs := [aI 56]) (ci := 11) (cX11_sumOf_ok n a 56 p86.2) dX11_custom_108 cw_X11_249 rfl rfl rfl (by decide) (by decide) (Nat.le_of_ble_eq_true rfl) (fun p108 => ?_)
            refine sn_iload_n dX11_custom_111 rfl ?_
            refine sn_isub dX11_custom_112 ?_
            refine sn_goto (tgt := 165) dX11_custom_113 (by decide) ?_
            exact sn_mask (L' := [some (aA a), none, none, none, none, none]) [true, false, false, false, false, false] rfl (hj165 (p108.1 - p80.1) p108.2)
        · refine sn_iload dX11_custom_95 rfl ?_
          refine sn_goto (tgt := 165) dX11_custom_97 (by decide) ?_
          exact sn_mask (L' := [some (aA a), none, none, none, none, none]) [true, false, false, false, false, false] rfl (hj165 p86.1 p86.2)
      · refine sn_bipush dX11_custom_70 (by decide) ?_
        exact sn_iret dX11_custom_72
    · refine sn_bipush dX11_custom_53 (by decide) ?_
      exact sn_iret dX11_custom_55
  intro j41 hj41
  refine sn_if_ne (tgt := 41) dX11_custom_14 (by decide) ?_ ?_
  · exact hj41 () p11.2
  · refine sn_iload_n dX11_custom_17 rfl ?_
    refine sn_i2l dX11_custom_18 ?_
    refine sn_ldc2 (v := 10) dX11_custom_19 k_X11_245 (by decide) ?_
    refine sn_bipush dX11_custom_22 (by decide) ?_
    refine sn_aload_n dX11_custom_24 rfl ?_
    refine sn_getA (ci := 11) (j := 1) dX11_custom_25 fl_X11_13 (by decide) (fun x25 => ?_)
    refine sn_iconst dX11_custom_28 ?_
    refine sn_iald dX11_custom_29 (fun x29 => ?_)
    refine sn_iadd dX11_custom_30 ?_
    refine sn_i2l dX11_custom_31 ?_
    refine sn_callSI (vs := [aJ (oI2l b2), aJ 10, aJ (oI2l (9 + x29))]) (cX11_within_ok n (oI2l b2) 10 (oI2l (9 + x29)) p11.2) dX11_custom_32 cw_X11_146 rfl (by decide) (by decide) (Nat.le_of_ble_eq_true rfl) (fun p32 => ?_)
    refine sn_if_ne (tgt := 41) dX11_custom_35 (by decide) ?_ ?_
    · exact hj41 () p32.2
    · refine sn_bipush dX11_custom_38 (by decide) ?_
      exact sn_iret dX11_custom_40
theorem dX11_cut_0 : decode cX11_cut 0 = .ok (.aload_n 0, 1) := by decide +kernel
theorem dX11_cut_1 : decode cX11_cut 1 = .ok (.iconst 0, 1) := by decide +kernel
theorem dX11_cut_2 : decode cX11_cut 2 = .ok (.putfield 1, 3) := by decide +kernel
theorem dX11_cut_5 : decode cX11_cut 5 = .ok (.aload_n 0, 1) := by decide +kernel
theorem dX11_cut_6 : decode cX11_cut 6 = .ok (.iload_n 1, 1) := by decide +kernel
theorem dX11_cut_7 : decode cX11_cut 7 = .ok (.i2l, 1) := by decide +kernel
theorem dX11_cut_8 : decode cX11_cut 8 = .ok (.invokevirtual 179, 3) := by decide +kernel
theorem dX11_cut_11 : decode cX11_cut 11 = .ok (.ifCond .ne 6, 3) := by decide +kernel
theorem dX11_cut_14 : decode cX11_cut 14 = .ok (.bipush (-2), 2) := by decide +kernel
theorem dX11_cut_16 : decode cX11_cut 16 = .ok (.ireturn, 1) := by decide +kernel
theorem dX11_cut_17 : decode cX11_cut 17 = .ok (.aload_n 0, 1) := by decide +kernel
theorem dX11_cut_18 : decode cX11_cut 18 = .ok (.iload_n 1, 1) := by decide +kernel
theorem dX11_cut_19 : decode cX11_cut 19 = .ok (.invokevirtual 191, 3) := by decide +kernel
theorem dX11_cut_22 : decode cX11_cut 22 = .ok (.ifCond .ne 6, 3) := by decide +kernel
theorem dX11_cut_25 : decode cX11_cut 25 = .ok (.bipush (-5), 2) := by decide +kernel
theorem dX11_cut_27 : decode cX11_cut 27 = .ok (.ireturn, 1) := by decide +kernel
theorem dX11_cut_28 : decode cX11_cut 28 = .ok (.aload_n 0, 1) := by decide +kernel
theorem dX11_cut_29 : decode cX11_cut 29 = .ok (.getfield 13, 3) := by decide +kernel
theorem dX11_cut_32 : decode cX11_cut 32 = .ok (.sipush 204, 3) := by decide +kernel
theorem dX11_cut_35 : decode cX11_cut 35 = .ok (.iload_n 1, 1) := by decide +kernel
theorem dX11_cut_36 : decode cX11_cut 36 = .ok (.iadd, 1) := by decide +kernel
theorem dX11_cut_37 : decode cX11_cut 37 = .ok (.iconst 1, 1) := by decide +kernel
theorem dX11_cut_38 : decode cX11_cut 38 = .ok (.iastore, 1) := by decide +kernel
theorem dX11_cut_39 : decode cX11_cut 39 = .ok (.iconst 0, 1) := by decide +kernel
theorem dX11_cut_40 : decode cX11_cut 40 = .ok (.ireturn, 1) := by decide +kernel
def mX11_cut (n : Nat) (a : Nat) (b1 : Int) (μ : Mem) : Option (Int × Mem) :=
  (pI μ 12 a 0 0).bind fun μ2 =>
  (inv μ2 12 a (mX11_isRope n a (oI2l b1) μ2)).bind fun p8 =>
  if eq32 p8.1 0 then
    some ((-2), p8.2)
  else
  (inv p8.2 12 a (mX11_hangs n a b1 p8.2)).bind fun p19 =>
  if eq32 p19.1 0 then
    some ((-5), p19.2)
  else
  (gA p19.2 12 a 1).bind fun x29 =>
  (stI p19.2 0 x29 (204 + b1) 1).bind fun μ38 =>
  some (0, μ38)
set_option maxRecDepth 100000 in
set_option maxHeartbeats 4000000 in
theorem cX11_cut_ok (n : Nat) (a : Nat) (b1 : Int) (μ : Mem) : Mc yX11_cut cX11_cut 2 (some .int) 2 47 eI [aA a, aI b1] μ (mX11_cut n a b1 μ) := by
  refine mc_of (L0 := [some (aA a), some (aI b1)]) (k := 0) (by decide) rfl rfl (fun X Γ => ?_)
  unfold mX11_cut
  refine sn_aload_n dX11_cut_0 rfl ?_
  refine sn_iconst dX11_cut_1 ?_
  refine sn_putI (ci := 11) (j := 0) dX11_cut_2 fl_X11_1 rfl (fun q h => by cases h; rfl) (fun μ2 => ?_)
  refine sn_aload_n dX11_cut_5 rfl ?_
  refine sn_iload_n dX11_cut_6 rfl ?_
  refine sn_i2l dX11_cut_7 ?_
  refine sn_callVI (vs := [aJ (oI2l b1)]) (ci := 11) (cX11_isRope_ok n a (oI2l b1) μ2) dX11_cut_8 cw_X11_179 rfl rfl rfl (by decide) (by decide) (Nat.le_of_ble_eq_true rfl) (fun p8 => ?_)
  refine sn_if_ne (tgt := 17) dX11_cut_11 (by decide) ?_ ?_
  · refine sn_aload_n dX11_cut_17 rfl ?_
    refine sn_iload_n dX11_cut_18 rfl ?_
    refine sn_callVI (vs := [aI b1]) (ci := 11) (cX11_hangs_ok n a b1 p8.2) dX11_cut_19 cw_X11_191 rfl rfl rfl (by decide) (by decide) (Nat.le_of_ble_eq_true rfl) (fun p19 => ?_)
    refine sn_if_ne (tgt := 28) dX11_cut_22 (by decide) ?_ ?_
    · refine sn_aload_n dX11_cut_28 rfl ?_
      refine sn_getA (ci := 11) (j := 1) dX11_cut_29 fl_X11_13 (by decide) (fun x29 => ?_)
      refine sn_sipush dX11_cut_32 (by decide) ?_
      refine sn_iload_n dX11_cut_35 rfl ?_
      refine sn_iadd dX11_cut_36 ?_
      refine sn_iconst dX11_cut_37 ?_
      refine sn_iast dX11_cut_38 (fun μ38 => ?_)
      refine sn_iconst dX11_cut_39 ?_
      exact sn_iret dX11_cut_40
    · refine sn_bipush dX11_cut_25 (by decide) ?_
      exact sn_iret dX11_cut_27
  · refine sn_bipush dX11_cut_14 (by decide) ?_
    exact sn_iret dX11_cut_16
theorem dX11_cutTo_0 : decode cX11_cutTo 0 = .ok (.iload_n 2, 1) := by decide +kernel
theorem dX11_cutTo_1 : decode cX11_cutTo 1 = .ok (.ifCond .ne 10, 3) := by decide +kernel
theorem dX11_cutTo_4 : decode cX11_cutTo 4 = .ok (.lload_n 0, 1) := by decide +kernel
theorem dX11_cutTo_5 : decode cX11_cutTo 5 = .ok (.l2i, 1) := by decide +kernel
theorem dX11_cutTo_6 : decode cX11_cutTo 6 = .ok (.i2b, 1) := by decide +kernel
theorem dX11_cutTo_7 : decode cX11_cutTo 7 = .ok (.i2l, 1) := by decide +kernel
theorem dX11_cutTo_8 : decode cX11_cutTo 8 = .ok (.goto 27, 3) := by decide +kernel
theorem dX11_cutTo_11 : decode cX11_cutTo 11 = .ok (.iload_n 2, 1) := by decide +kernel
theorem dX11_cutTo_12 : decode cX11_cutTo 12 = .ok (.iconst 1, 1) := by decide +kernel
theorem dX11_cutTo_13 : decode cX11_cutTo 13 = .ok (.if_icmp .ne 10, 3) := by decide +kernel
theorem dX11_cutTo_16 : decode cX11_cutTo 16 = .ok (.lload_n 0, 1) := by decide +kernel
theorem dX11_cutTo_17 : decode cX11_cutTo 17 = .ok (.l2i, 1) := by decide +kernel
theorem dX11_cutTo_18 : decode cX11_cutTo 18 = .ok (.i2s, 1) := by decide +kernel
theorem dX11_cutTo_19 : decode cX11_cutTo 19 = .ok (.i2l, 1) := by decide +kernel
theorem dX11_cutTo_20 : decode cX11_cutTo 20 = .ok (.goto 15, 3) := by decide +kernel
theorem dX11_cutTo_23 : decode cX11_cutTo 23 = .ok (.iload_n 2, 1) := by decide +kernel
theorem dX11_cutTo_24 : decode cX11_cutTo 24 = .ok (.iconst 2, 1) := by decide +kernel
theorem dX11_cutTo_25 : decode cX11_cutTo 25 = .ok (.if_icmp .ne 9, 3) := by decide +kernel
theorem dX11_cutTo_28 : decode cX11_cutTo 28 = .ok (.lload_n 0, 1) := by decide +kernel
theorem dX11_cutTo_29 : decode cX11_cutTo 29 = .ok (.l2i, 1) := by decide +kernel
theorem dX11_cutTo_30 : decode cX11_cutTo 30 = .ok (.i2l, 1) := by decide +kernel
theorem dX11_cutTo_31 : decode cX11_cutTo 31 = .ok (.goto 4, 3) := by decide +kernel
theorem dX11_cutTo_34 : decode cX11_cutTo 34 = .ok (.lload_n 0, 1) := by decide +kernel
theorem dX11_cutTo_35 : decode cX11_cutTo 35 = .ok (.lreturn, 1) := by decide +kernel
def mX11_cutTo (n : Nat) (b1 : Int) (b2 : Int) (μ : Mem) : Option (Int × Mem) :=
  if eq32 b2 0 then
    some ((oI2l (oI2b b1)), μ)
  else
  if eq32 b2 1 then
    some ((oI2l (oI2s b1)), μ)
  else
  if eq32 b2 2 then
    some ((oI2l b1), μ)
  else
  some (b1, μ)
set_option maxRecDepth 100000 in
set_option maxHeartbeats 4000000 in
theorem cX11_cutTo_ok (n : Nat) (b1 : Int) (b2 : Int) (μ : Mem) : Mc yX11_cutTo cX11_cutTo 3 (some .long) 0 0 eJ [aJ b1, aI b2] μ (mX11_cutTo n b1 b2 μ) := by
  refine mc_of (L0 := [some (aJ b1), none, some (aI b2)]) (k := 0) (by decide) rfl rfl (fun X Γ => ?_)
  unfold mX11_cutTo
  refine sn_iload_n dX11_cutTo_0 rfl ?_
  refine sn_if_ne (tgt := 11) dX11_cutTo_1 (by decide) ?_ ?_
  · refine sn_iload_n dX11_cutTo_11 rfl ?_
    refine sn_iconst dX11_cutTo_12 ?_
    refine sn_icmp_ne (tgt := 23) dX11_cutTo_13 (by decide) ?_ ?_
    · refine sn_iload_n dX11_cutTo_23 rfl ?_
      refine sn_iconst dX11_cutTo_24 ?_
      refine sn_icmp_ne (tgt := 34) dX11_cutTo_25 (by decide) ?_ ?_
      · refine sn_lload_n dX11_cutTo_34 rfl ?_
        exact sn_lret dX11_cutTo_35
      · refine sn_lload_n dX11_cutTo_28 rfl ?_
        refine sn_l2i dX11_cutTo_29 ?_
        refine sn_i2l dX11_cutTo_30 ?_
        refine sn_goto (tgt := 35) dX11_cutTo_31 (by decide) ?_
        exact sn_lret dX11_cutTo_35
    · refine sn_lload_n dX11_cutTo_16 rfl ?_
      refine sn_l2i dX11_cutTo_17 ?_
      refine sn_i2s dX11_cutTo_18 ?_
      refine sn_i2l dX11_cutTo_19 ?_
      refine sn_goto (tgt := 35) dX11_cutTo_20 (by decide) ?_
      exact sn_lret dX11_cutTo_35
  · refine sn_lload_n dX11_cutTo_4 rfl ?_
    refine sn_l2i dX11_cutTo_5 ?_
    refine sn_i2b dX11_cutTo_6 ?_
    refine sn_i2l dX11_cutTo_7 ?_
    refine sn_goto (tgt := 35) dX11_cutTo_8 (by decide) ?_
    exact sn_lret dX11_cutTo_35
