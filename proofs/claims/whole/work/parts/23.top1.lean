/-! layer 1: top1 -/
theorem dX10_alone_0 : decode cX10_alone 0 = .ok (.iload_n 3, 1) := by decide +kernel
theorem dX10_alone_1 : decode cX10_alone 1 = .ok (.bipush 10, 2) := by decide +kernel
theorem dX10_alone_3 : decode cX10_alone 3 = .ok (.if_icmp .lt 13, 3) := by decide +kernel
theorem dX10_alone_6 : decode cX10_alone 6 = .ok (.iload_n 3, 1) := by decide +kernel
theorem dX10_alone_7 : decode cX10_alone 7 = .ok (.bipush 17, 2) := by decide +kernel
theorem dX10_alone_9 : decode cX10_alone 9 = .ok (.if_icmp .ge 7, 3) := by decide +kernel
theorem dX10_alone_12 : decode cX10_alone 12 = .ok (.iconst 1, 1) := by decide +kernel
theorem dX10_alone_13 : decode cX10_alone 13 = .ok (.goto 4, 3) := by decide +kernel
theorem dX10_alone_16 : decode cX10_alone 16 = .ok (.iconst 0, 1) := by decide +kernel
theorem dX10_alone_17 : decode cX10_alone 17 = .ok (.istore 4, 2) := by decide +kernel
theorem dX10_alone_19 : decode cX10_alone 19 = .ok (.aload_n 0, 1) := by decide +kernel
theorem dX10_alone_20 : decode cX10_alone 20 = .ok (.getfield 19, 3) := by decide +kernel
theorem dX10_alone_23 : decode cX10_alone 23 = .ok (.iload_n 1, 1) := by decide +kernel
theorem dX10_alone_24 : decode cX10_alone 24 = .ok (.invokevirtual 101, 3) := by decide +kernel
theorem dX10_alone_27 : decode cX10_alone 27 = .ok (.ifCond .eq 12, 3) := by decide +kernel
theorem dX10_alone_30 : decode cX10_alone 30 = .ok (.iload_n 3, 1) := by decide +kernel
theorem dX10_alone_31 : decode cX10_alone 31 = .ok (.ifCond .eq 11, 3) := by decide +kernel
theorem dX10_alone_34 : decode cX10_alone 34 = .ok (.iload 4, 2) := by decide +kernel
theorem dX10_alone_36 : decode cX10_alone 36 = .ok (.ifCond .ne 6, 3) := by decide +kernel
theorem dX10_alone_39 : decode cX10_alone 39 = .ok (.bipush (-2), 2) := by decide +kernel
theorem dX10_alone_41 : decode cX10_alone 41 = .ok (.ireturn, 1) := by decide +kernel
theorem dX10_alone_42 : decode cX10_alone 42 = .ok (.iload_n 2, 1) := by decide +kernel
theorem dX10_alone_43 : decode cX10_alone 43 = .ok (.iconst 1, 1) := by decide +kernel
theorem dX10_alone_44 : decode cX10_alone 44 = .ok (.if_icmp .lt 9, 3) := by decide +kernel
theorem dX10_alone_47 : decode cX10_alone 47 = .ok (.iload_n 2, 1) := by decide +kernel
theorem dX10_alone_48 : decode cX10_alone 48 = .ok (.bipush 7, 2) := by decide +kernel
theorem dX10_alone_50 : decode cX10_alone 50 = .ok (.if_icmp .le 6, 3) := by decide +kernel
theorem dX10_alone_53 : decode cX10_alone 53 = .ok (.bipush (-3), 2) := by decide +kernel
theorem dX10_alone_55 : decode cX10_alone 55 = .ok (.ireturn, 1) := by decide +kernel
theorem dX10_alone_56 : decode cX10_alone 56 = .ok (.aload_n 0, 1) := by decide +kernel
theorem dX10_alone_57 : decode cX10_alone 57 = .ok (.getfield 19, 3) := by decide +kernel
theorem dX10_alone_60 : decode cX10_alone 60 = .ok (.iload_n 1, 1) := by decide +kernel
theorem dX10_alone_61 : decode cX10_alone 61 = .ok (.invokevirtual 262, 3) := by decide +kernel
theorem dX10_alone_64 : decode cX10_alone 64 = .ok (.iconst 3, 1) := by decide +kernel
theorem dX10_alone_65 : decode cX10_alone 65 = .ok (.if_icmp .le 6, 3) := by decide +kernel
theorem dX10_alone_68 : decode cX10_alone 68 = .ok (.bipush (-4), 2) := by decide +kernel
theorem dX10_alone_70 : decode cX10_alone 70 = .ok (.ireturn, 1) := by decide +kernel
theorem dX10_alone_71 : decode cX10_alone 71 = .ok (.iload 4, 2) := by decide +kernel
theorem dX10_alone_73 : decode cX10_alone 73 = .ok (.ifCond .eq 14, 3) := by decide +kernel
theorem dX10_alone_76 : decode cX10_alone 76 = .ok (.iload_n 3, 1) := by decide +kernel
theorem dX10_alone_77 : decode cX10_alone 77 = .ok (.bipush 10, 2) := by decide +kernel
theorem dX10_alone_79 : decode cX10_alone 79 = .ok (.isub, 1) := by decide +kernel
theorem dX10_alone_80 : decode cX10_alone 80 = .ok (.iload_n 2, 1) := by decide +kernel
theorem dX10_alone_81 : decode cX10_alone 81 = .ok (.if_icmp .lt 6, 3) := by decide +kernel
theorem dX10_alone_84 : decode cX10_alone 84 = .ok (.bipush (-7), 2) := by decide +kernel
theorem dX10_alone_86 : decode cX10_alone 86 = .ok (.ireturn, 1) := by decide +kernel
theorem dX10_alone_87 : decode cX10_alone 87 = .ok (.aload_n 0, 1) := by decide +kernel
theorem dX10_alone_88 : decode cX10_alone 88 = .ok (.getfield 57, 3) := by decide +kernel
theorem dX10_alone_91 : decode cX10_alone 91 = .ok (.aload_n 0, 1) := by decide +kernel
theorem dX10_alone_92 : decode cX10_alone 92 = .ok (.getfield 19, 3) := by decide +kernel
theorem dX10_alone_95 : decode cX10_alone 95 = .ok (.iload_n 1, 1) := by decide +kernel
theorem dX10_alone_96 : decode cX10_alone 96 = .ok (.iload_n 2, 1) := by decide +kernel
theorem dX10_alone_97 : decode cX10_alone 97 = .ok (.invokevirtual 265, 3) := by decide +kernel
theorem dX10_alone_100 : decode cX10_alone 100 = .ok (.iload 4, 2) := by decide +kernel
theorem dX10_alone_102 : decode cX10_alone 102 = .ok (.ifCond .eq 18, 3) := by decide +kernel
theorem dX10_alone_105 : decode cX10_alone 105 = .ok (.aload_n 0, 1) := by decide +kernel
theorem dX10_alone_106 : decode cX10_alone 106 = .ok (.getfield 57, 3) := by decide +kernel
theorem dX10_alone_109 : decode cX10_alone 109 = .ok (.getfield 268, 3) := by decide +kernel
theorem dX10_alone_112 : decode cX10_alone 112 = .ok (.iload_n 3, 1) := by decide +kernel
theorem dX10_alone_113 : decode cX10_alone 113 = .ok (.bipush 10, 2) := by decide +kernel
theorem dX10_alone_115 : decode cX10_alone 115 = .ok (.isub, 1) := by decide +kernel
theorem dX10_alone_116 : decode cX10_alone 116 = .ok (.iaload, 1) := by decide +kernel
theorem dX10_alone_117 : decode cX10_alone 117 = .ok (.goto 10, 3) := by decide +kernel
theorem dX10_alone_120 : decode cX10_alone 120 = .ok (.aload_n 0, 1) := by decide +kernel
theorem dX10_alone_121 : decode cX10_alone 121 = .ok (.getfield 57, 3) := by decide +kernel
theorem dX10_alone_124 : decode cX10_alone 124 = .ok (.getfield 271, 3) := by decide +kernel
theorem dX10_alone_127 : decode cX10_alone 127 = .ok (.ireturn, 1) := by decide +kernel
def mX10_alone (n : Nat) (a : Nat) (b1 : Int) (b2 : Int) (b3 : Int) (μ : Mem) : Option (Int × Mem) :=
  jn (fun (v17 : Int) (μ17 : Mem) =>
  (gA μ17 11 a 1).bind fun x20 =>
  (inv μ17 2 x20 (mX1_hasHouse n x20 b1 μ17)).bind fun p24 =>
  if eq32 p24.1 0 then
    some ((-2), p24.2)
  else
  jn (fun (v42 : Unit) (μ42 : Mem) =>
  if lt32 b2 1 then
    some ((-3), μ42)
  else
  if lt32 7 b2 then
    some ((-3), μ42)
  else
  (gA μ42 11 a 1).bind fun x57 =>
  (inv μ42 2 x57 (mX1_openCount n x57 b1 μ42)).bind fun p61 =>
  if lt32 3 p61.1 then
    some ((-4), p61.2)
  else
  jn (fun (v87 : Unit) (μ87 : Mem) =>
  (gA μ87 11 a 8).bind fun x88 =>
  (gA μ87 11 a 1).bind fun x92 =>
  (inv μ87 3 x88 (mX2_seek n x88 x92 b1 b2 μ87)).bind fun p97 =>
  if eq32 v17 0 then
    (gA p97.2 11 a 8).bind fun x121 =>
    (gI p97.2 3 x121 0).bind fun x124 =>
    some (x124, p97.2)
  else
  (gA p97.2 11 a 8).bind fun x106 =>
  (gA p97.2 3 x106 1).bind fun x109 =>
  (ldI p97.2 0 x109 (b3 - 10)).bind fun x116 =>
  some (x116, p97.2)) (fun j87 =>
  if eq32 v17 0 then
    j87 () p61.2
  else
  if lt32 (b3 - 10) b2 then
    j87 () p61.2
  else
  some ((-7), p61.2))) (fun j42 =>
  if eq32 b3 0 then
    j42 () p24.2
  else
  if eq32 v17 0 then
    some ((-2), p24.2)
  else
  j42 () p24.2)) (fun j17 =>
  if lt32 b3 10 then
    j17 0 μ
  else
  if lt32 b3 17 then
    j17 1 μ
  else
  j17 0 μ)
set_option maxRecDepth 100000 in
set_option maxHeartbeats 4000000 in
theorem cX10_alone_ok (n : Nat) (a : Nat) (b1 : Int) (b2 : Int) (b3 : Int) (μ : Mem) : Mc yX10_alone cX10_alone 5 (some .int) 62 1632 eI [aA a, aI b1, aI b2, aI b3] μ (mX10_alone n a b1 b2 b3 μ) := by
  refine mc_of (L0 := [some (aA a), some (aI b1), some (aI b2), some (aI b3), none]) (k := 1) (by decide) rfl rfl (fun X Γ => ?_)
  unfold mX10_alone
  refine sn_iload_n dX10_alone_0 rfl ?_
  refine sn_bipush dX10_alone_1 (by decide) ?_
  refine sn_jn (pcj := 17) (La := fun v17 : Int => [some (aA a), some (aI b1), some (aI b2), some (aI b3), none]) (Sa := fun v17 : Int => [aI v17]) ?_ ?_
  · intro v17 μ17
    refine sn_istore (L' := [some (aA a), some (aI b1), some (aI b2), some (aI b3), some (aI v17)]) dX10_alone_17 (by decide) rfl ?_
    refine sn_aload_n dX10_alone_19 rfl ?_
    refine sn_getA (ci := 10) (j := 1) dX10_alone_20 fl_X10_19 (by decide) (fun x20 => ?_)
    refine sn_iload_n dX10_alone_23 rfl ?_
    refine sn_callVI (vs := [aI b1]) (ci := 1) (cX1_hasHouse_ok n x20 b1 μ17) dX10_alone_24 cw_X10_101 rfl rfl rfl (by decide) (by decide) (Nat.le_of_ble_eq_true rfl) (fun p24 => ?_)
    refine sn_if_eq (tgt := 39) dX10_alone_27 (by decide) ?_ ?_
    · refine sn_bipush dX10_alone_39 (by decide) ?_
      exact sn_iret dX10_alone_41
    · refine sn_iload_n dX10_alone_30 rfl ?_
      refine sn_jn (pcj := 42) (La := fun v42 : Unit => [some (aA a), some (aI b1), some (aI b2), some (aI b3), some (aI v17)]) (Sa := fun v42 : Unit => []) ?_ ?_
      · intro v42 μ42
        refine sn_iload_n dX10_alone_42 rfl ?_
        refine sn_iconst dX10_alone_43 ?_
        refine sn_icmp_lt (tgt := 53) dX10_alone_44 (by decide) ?_ ?_
        · refine sn_bipush dX10_alone_53 (by decide) ?_
          exact sn_iret dX10_alone_55
        · refine sn_iload_n dX10_alone_47 rfl ?_
          refine sn_bipush dX10_alone_48 (by decide) ?_
          refine sn_icmp_le (tgt := 56) dX10_alone_50 (by decide) ?_ ?_
          · refine sn_aload_n dX10_alone_56 rfl ?_
            refine sn_getA (ci := 10) (j := 1) dX10_alone_57 fl_X10_19 (by decide) (fun x57 => ?_)
            refine sn_iload_n dX10_alone_60 rfl ?_
            refine sn_callVI (vs := [aI b1]) (ci := 1) (cX1_openCount_ok n x57 b1 μ42) dX10_alone_61 cw_X10_262 rfl rfl rfl (by decide) (by decide) (Nat.le_of_ble_eq_true rfl) (fun p61 => ?_)
            refine sn_iconst dX10_alone_64 ?_
            refine sn_icmp_le (tgt := 71) dX10_alone_65 (by decide) ?_ ?_
            · refine sn_iload dX10_alone_71 rfl ?_
              refine sn_jn (pcj := 87) (La := fun v87 : Unit => [some (aA a), some (aI b1), some (aI b2), some (aI b3), some (aI v17)]) (Sa := fun v87 : Unit => []) ?_ ?_
              · intro v87 μ87
                refine sn_aload_n dX10_alone_87 rfl ?_
                refine sn_getA (ci := 10) (j := 8) dX10_alone_88 fl_X10_57 (by decide) (fun x88 => ?_)
                refine sn_aload_n dX10_alone_91 rfl ?_
                refine sn_getA (ci := 10) (j := 1) dX10_alone_92 fl_X10_19 (by decide) (fun x92 => ?_)
                refine sn_iload_n dX10_alone_95 rfl ?_
                refine sn_iload_n dX10_alone_96 rfl ?_
                refine sn_callVV (vs := [aA x92, aI b1, aI b2]) (ci := 2) (cX2_seek_ok n x88 x92 b1 b2 μ87) dX10_alone_97 cw_X10_265 rfl rfl rfl (by decide) (by decide) (Nat.le_of_ble_eq_true rfl) (fun p97 => ?_)
                refine sn_iload dX10_alone_100 rfl ?_
                refine sn_if_eq (tgt := 120) dX10_alone_102 (by decide) ?_ ?_
                · refine sn_aload_n dX10_alone_120 rfl ?_
                  refine sn_getA (ci := 10) (j := 8) dX10_alone_121 fl_X10_57 (by decide) (fun x121 => ?_)
                  refine sn_getI (ci := 2) (j := 0) dX10_alone_124 fl_X10_271 rfl (fun x124 => ?_)
                  exact sn_iret dX10_alone_127
                · refine sn_aload_n dX10_alone_105 rfl ?_
                  refine sn_getA (ci := 10) (j := 8) dX10_alone_106 fl_X10_57 (by decide) (fun x106 => ?_)
                  refine sn_getA (ci := 2) (j := 1) dX10_alone_109 fl_X10_268 (by decide) (fun x109 => ?_)
                  refine sn_iload_n dX10_alone_112 rfl ?_
                  refine sn_bipush dX10_alone_113 (by decide) ?_
                  refine sn_isub dX10_alone_115 ?_
                  refine sn_iald dX10_alone_116 (fun x116 => ?_)
                  refine sn_goto (tgt := 127) dX10_alone_117 (by decide) ?_
                  exact sn_iret dX10_alone_127
              intro j87 hj87
              refine sn_if_eq (tgt := 87) dX10_alone_73 (by decide) ?_ ?_
              · exact hj87 () p61.2
              · refine sn_iload_n dX10_alone_76 rfl ?_
                refine sn_bipush dX10_alone_77 (by decide) ?_
                refine sn_isub dX10_alone_79 ?_
                refine sn_iload_n dX10_alone_80 rfl ?_
                refine sn_icmp_lt (tgt := 87) dX10_alone_81 (by decide) ?_ ?_
                · exact hj87 () p61.2
                · refine sn_bipush dX10_alone_84 (by decide) ?_
                  exact sn_iret dX10_alone_86
            · refine sn_bipush dX10_alone_68 (by decide) ?_
              exact sn_iret dX10_alone_70
          · refine sn_bipush dX10_alone_53 (by decide) ?_
            exact sn_iret dX10_alone_55
      intro j42 hj42
      refine sn_if_eq (tgt := 42) dX10_alone_31 (by decide) ?_ ?_
      · exact hj42 () p24.2
      · refine sn_iload dX10_alone_34 rfl ?_
        refine sn_if_ne (tgt := 42) dX10_alone_36 (by decide) ?_ ?_
        · exact hj42 () p24.2
        · refine sn_bipush dX10_alone_39 (by decide) ?_
          exact sn_iret dX10_alone_41
  intro j17 hj17
  refine sn_icmp_lt (tgt := 16) dX10_alone_3 (by decide) ?_ ?_
  · refine sn_iconst dX10_alone_16 ?_
    exact hj17 0 μ
  · refine sn_iload_n dX10_alone_6 rfl ?_
    refine sn_bipush dX10_alone_7 (by decide) ?_
    refine sn_icmp_ge (tgt := 16) dX10_alone_9 (by decide) ?_ ?_
    · refine sn_iconst dX10_alone_16 ?_
      exact hj17 0 μ
    · refine sn_iconst dX10_alone_12 ?_
      refine sn_goto (tgt := 17) dX10_alone_13 (by decide) ?_
      exact hj17 1 μ
theorem dX10_calm_0 : decode cX10_calm 0 = .ok (.aload_n 0, 1) := by decide +kernel
theorem dX10_calm_1 : decode cX10_calm 1 = .ok (.getfield 23, 3) := by decide +kernel
theorem dX10_calm_4 : decode cX10_calm 4 = .ok (.aload_n 0, 1) := by decide +kernel
theorem dX10_calm_5 : decode cX10_calm 5 = .ok (.getfield 19, 3) := by decide +kernel
theorem dX10_calm_8 : decode cX10_calm 8 = .ok (.invokevirtual 91, 3) := by decide +kernel
theorem dX10_calm_11 : decode cX10_calm 11 = .ok (.iconst 0, 1) := by decide +kernel
theorem dX10_calm_12 : decode cX10_calm 12 = .ok (.istore_n 1, 1) := by decide +kernel
theorem dX10_calm_13 : decode cX10_calm 13 = .ok (.iload_n 1, 1) := by decide +kernel
theorem dX10_calm_14 : decode cX10_calm 14 = .ok (.bipush 99, 2) := by decide +kernel
theorem dX10_calm_16 : decode cX10_calm 16 = .ok (.if_icmp .gt 45, 3) := by decide +kernel
theorem dX10_calm_19 : decode cX10_calm 19 = .ok (.aload_n 0, 1) := by decide +kernel
theorem dX10_calm_20 : decode cX10_calm 20 = .ok (.getfield 23, 3) := by decide +kernel
theorem dX10_calm_23 : decode cX10_calm 23 = .ok (.invokevirtual 209, 3) := by decide +kernel
theorem dX10_calm_26 : decode cX10_calm 26 = .ok (.iconst 1, 1) := by decide +kernel
theorem dX10_calm_27 : decode cX10_calm 27 = .ok (.aload_n 0, 1) := by decide +kernel
theorem dX10_calm_28 : decode cX10_calm 28 = .ok (.getfield 23, 3) := by decide +kernel
theorem dX10_calm_31 : decode cX10_calm 31 = .ok (.getfield 212, 3) := by decide +kernel
theorem dX10_calm_34 : decode cX10_calm 34 = .ok (.ishl, 1) := by decide +kernel
theorem dX10_calm_35 : decode cX10_calm 35 = .ok (.iconst 1, 1) := by decide +kernel
theorem dX10_calm_36 : decode cX10_calm 36 = .ok (.isub, 1) := by decide +kernel
theorem dX10_calm_37 : decode cX10_calm 37 = .ok (.if_icmp .ne 5, 3) := by decide +kernel
theorem dX10_calm_40 : decode cX10_calm 40 = .ok (.iload_n 1, 1) := by decide +kernel
theorem dX10_calm_41 : decode cX10_calm 41 = .ok (.ireturn, 1) := by decide +kernel
theorem dX10_calm_42 : decode cX10_calm 42 = .ok (.aload_n 0, 1) := by decide +kernel
theorem dX10_calm_43 : decode cX10_calm 43 = .ok (.getfield 43, 3) := by decide +kernel
theorem dX10_calm_46 : decode cX10_calm 46 = .ok (.aload_n 0, 1) := by decide +kernel
theorem dX10_calm_47 : decode cX10_calm 47 = .ok (.getfield 23, 3) := by decide +kernel
theorem dX10_calm_50 : decode cX10_calm 50 = .ok (.iconst (-1), 1) := by decide +kernel
theorem dX10_calm_51 : decode cX10_calm 51 = .ok (.iconst (-1), 1) := by decide +kernel
theorem dX10_calm_52 : decode cX10_calm 52 = .ok (.invokevirtual 155, 3) := by decide +kernel
theorem dX10_calm_55 : decode cX10_calm 55 = .ok (.iinc 1 1, 3) := by decide +kernel
theorem dX10_calm_58 : decode cX10_calm 58 = .ok (.goto (-45), 3) := by decide +kernel
theorem dX10_calm_61 : decode cX10_calm 61 = .ok (.iconst (-1), 1) := by decide +kernel
theorem dX10_calm_62 : decode cX10_calm 62 = .ok (.ireturn, 1) := by decide +kernel
def mX10_calm (n : Nat) (a : Nat) (μ : Mem) : Option (Int × Mem) :=
  (gA μ 11 a 2).bind fun x1 =>
  (gA μ 11 a 1).bind fun x5 =>
  (inv μ 2 x1 (mX1_takeAll n x1 x5 μ)).bind fun p8 =>
  lp (fun nx13 (v13 : Int) (μ13 : Mem) =>
  if lt32 99 v13 then
    some ((-1), μ13)
  else
  (gA μ13 11 a 2).bind fun x20 =>
  (inv μ13 2 x20 (mX1_restBits n x20 μ13)).bind fun p23 =>
  (gA p23.2 11 a 2).bind fun x28 =>
  (gI p23.2 2 x28 1).bind fun x31 =>
  if eq32 p23.1 ((oShl 1 x31) - 1) then
    some (v13, p23.2)
  else
  (gA p23.2 11 a 6).bind fun x43 =>
  (gA p23.2 11 a 2).bind fun x47 =>
  (inv p23.2 8 x43 (mX7_doHour n x43 x47 (-1) (-1) p23.2)).bind fun p52 =>
  nx13 (v13 + 1) p52.2) n 0 p8.2
set_option maxRecDepth 100000 in
set_option maxHeartbeats 4000000 in
theorem cX10_calm_ok (n : Nat) (a : Nat) (μ : Mem) : Mc yX10_calm cX10_calm 2 (some .int) 6 154 eI [aA a] μ (mX10_calm n a μ) := by
  refine mc_of (L0 := [some (aA a), none]) (k := 1) (by decide) rfl rfl (fun X Γ => ?_)
  unfold mX10_calm
  refine sn_aload_n dX10_calm_0 rfl ?_
  refine sn_getA (ci := 10) (j := 2) dX10_calm_1 fl_X10_23 (by decide) (fun x1 => ?_)
  refine sn_aload_n dX10_calm_4 rfl ?_
  refine sn_getA (ci := 10) (j := 1) dX10_calm_5 fl_X10_19 (by decide) (fun x5 => ?_)
  refine sn_callVV (vs := [aA x5]) (ci := 1) (cX1_takeAll_ok n x1 x5 μ) dX10_calm_8 cw_X10_91 rfl rfl rfl (by decide) (by decide) (Nat.le_of_ble_eq_true rfl) (fun p8 => ?_)
  refine sn_iconst dX10_calm_11 ?_
  refine sn_istore_n (L' := [some (aA a), some (aI 0)]) dX10_calm_12 (by decide) rfl ?_
  refine sn_lp (La := fun v13 : Int => [some (aA a), some (aI v13)]) ?_ n 0 p8.2
  intro nx13 hnx13 v13 μ13
  refine sn_iload_n dX10_calm_13 rfl ?_
  refine sn_bipush dX10_calm_14 (by decide) ?_
  refine sn_icmp_gt (tgt := 61) dX10_calm_16 (by decide) ?_ ?_
  · refine sn_iconst dX10_calm_61 ?_
    exact sn_iret dX10_calm_62
  · refine sn_aload_n dX10_calm_19 rfl ?_
    refine sn_getA (ci := 10) (j := 2) dX10_calm_20 fl_X10_23 (by decide) (fun x20 => ?_)
    refine sn_callVI (vs := []) (ci := 1) (cX1_restBits_ok n x20 μ13) dX10_calm_23 cw_X10_209 rfl rfl rfl (by decide) (by decide) (Nat.le_of_ble_eq_true rfl) (fun p23 => ?_)
    refine sn_iconst dX10_calm_26 ?_
    refine sn_aload_n dX10_calm_27 rfl ?_
    refine sn_getA (ci := 10) (j := 2) dX10_calm_28 fl_X10_23 (by decide) (fun x28 => ?_)
    refine sn_getI (ci := 1) (j := 1) dX10_calm_31 fl_X10_212 rfl (fun x31 => ?_)
    refine sn_ishl dX10_calm_34 ?_
    refine sn_iconst dX10_calm_35 ?_
    refine sn_isub dX10_calm_36 ?_
    refine sn_icmp_ne (tgt := 42) dX10_calm_37 (by decide) ?_ ?_
    · refine sn_aload_n dX10_calm_42 rfl ?_
      refine sn_getA (ci := 10) (j := 6) dX10_calm_43 fl_X10_43 (by decide) (fun x43 => ?_)
      refine sn_aload_n dX10_calm_46 rfl ?_
      refine sn_getA (ci := 10) (j := 2) dX10_calm_47 fl_X10_23 (by decide) (fun x47 => ?_)
      refine sn_iconst dX10_calm_50 ?_
      refine sn_iconst dX10_calm_51 ?_
      refine sn_callVV (vs := [aA x47, aI (-1), aI (-1)]) (ci := 7) (cX7_doHour_ok n x43 x47 (-1) (-1) p23.2) dX10_calm_52 cw_X10_155 rfl rfl rfl (by decide) (by decide) (Nat.le_of_ble_eq_true rfl) (fun p52 => ?_)
      refine sn_iinc (L' := [some (aA a), some (aI (v13 + 1))]) dX10_calm_55 rfl (by decide) rfl ?_
      refine sn_goto (tgt := 13) dX10_calm_58 (by decide) ?_
      exact hnx13 (v13 + 1) p52.2
    · refine sn_iload_n dX10_calm_40 rfl ?_
      exact sn_iret dX10_calm_41
theorem dX10_searcher_0 : decode cX10_searcher 0 = .ok (.aload_n 0, 1) := by decide +kernel
theorem dX10_searcher_1 : decode cX10_searcher 1 = .ok (.getfield 256, 3) := by decide +kernel
theorem dX10_searcher_4 : decode cX10_searcher 4 = .ok (.ifnonnull 18, 3) := by decide +kernel
theorem dX10_searcher_7 : decode cX10_searcher 7 = .ok (.aload_n 0, 1) := by decide +kernel
theorem dX10_searcher_8 : decode cX10_searcher 8 = .ok (.new 248, 3) := by decide +kernel
theorem dX10_searcher_11 : decode cX10_searcher 11 = .ok (.dup, 1) := by decide +kernel
theorem dX10_searcher_12 : decode cX10_searcher 12 = .ok (.aload_n 0, 1) := by decide +kernel
theorem dX10_searcher_13 : decode cX10_searcher 13 = .ok (.getfield 19, 3) := by decide +kernel
theorem dX10_searcher_16 : decode cX10_searcher 16 = .ok (.invokespecial 260, 3) := by decide +kernel
theorem dX10_searcher_19 : decode cX10_searcher 19 = .ok (.putfield 256, 3) := by decide +kernel
theorem dX10_searcher_22 : decode cX10_searcher 22 = .ok (.aload_n 0, 1) := by decide +kernel
theorem dX10_searcher_23 : decode cX10_searcher 23 = .ok (.getfield 256, 3) := by decide +kernel
theorem dX10_searcher_26 : decode cX10_searcher 26 = .ok (.areturn, 1) := by decide +kernel
def mX10_searcher (n : Nat) (a : Nat) (μ : Mem) : Option (Nat × Mem) :=
  (gA μ 11 a 11).bind fun x1 =>
  jn (fun (v22 : Unit) (μ22 : Mem) =>
  (gA μ22 11 a 11).bind fun x23 =>
  some (x23, μ22)) (fun j22 =>
  if x1 = 0 then
    (nwO μ 5 14).bind fun p8 =>
    (gA p8.2 11 a 1).bind fun x13 =>
    if p8.1 = 0 then none else (mX4_init n p8.1 x13 p8.2).bind fun p16 =>
    (pA p16.2 11 a 11 p8.1).bind fun μ19 =>
    j22 () μ19
  else
  j22 () μ)
set_option maxRecDepth 100000 in
set_option maxHeartbeats 4000000 in
theorem cX10_searcher_ok (n : Nat) (a : Nat) (μ : Mem) : Mc yX10_searcher cX10_searcher 1 (some (.object "TwoWells$Search")) 3 61 eA [aA a] μ (mX10_searcher n a μ) := by
  refine mc_of (L0 := [some (aA a)]) (k := 0) (by decide) rfl rfl (fun X Γ => ?_)
  unfold mX10_searcher
  refine sn_aload_n dX10_searcher_0 rfl ?_
  refine sn_getA (ci := 10) (j := 11) dX10_searcher_1 fl_X10_256 (by decide) (fun x1 => ?_)
  refine sn_jn (pcj := 22) (La := fun v22 : Unit => [some (aA a)]) (Sa := fun v22 : Unit => []) ?_ ?_
  · intro v22 μ22
    refine sn_aload_n dX10_searcher_22 rfl ?_
    refine sn_getA (ci := 10) (j := 11) dX10_searcher_23 fl_X10_256 (by decide) (fun x23 => ?_)
    exact sn_aret dX10_searcher_26
  intro j22 hj22
  refine sn_ifnonnull (tgt := 22) dX10_searcher_4 (by decide) ?_ ?_
  · refine sn_aload_n dX10_searcher_7 rfl ?_
    refine sn_new (ci := 4) dX10_searcher_8 rfl cl_X10_248 is_4 in_X4 (fun p8 => ?_)
    refine sn_dup dX10_searcher_11 rfl ?_
    refine sn_aload_n dX10_searcher_12 rfl ?_
    refine sn_getA (ci := 10) (j := 1) dX10_searcher_13 fl_X10_19 (by decide) (fun x13 => ?_)
    refine sn_callI (vs := [aA x13]) (cX4_init_ok n p8.1 x13 p8.2) dX10_searcher_16 cw_X10_260 rfl rfl (by decide) (by decide) (Nat.le_of_ble_eq_true rfl) (fun p16 => ?_)
    refine sn_putA (ci := 10) (j := 11) dX10_searcher_19 fl_X10_256 (Or.inl ⟨_, rfl⟩) (Or.inl (fun q h => by cases h; rfl)) (fun μ19 => ?_)
    exact hj22 () μ19
  · exact hj22 () μ
theorem dX10_cheapest_0 : decode cX10_cheapest 0 = .ok (.aload_n 0, 1) := by decide +kernel
theorem dX10_cheapest_1 : decode cX10_cheapest 1 = .ok (.getfield 19, 3) := by decide +kernel
theorem dX10_cheapest_4 : decode cX10_cheapest 4 = .ok (.iload_n 1, 1) := by decide +kernel
theorem dX10_cheapest_5 : decode cX10_cheapest 5 = .ok (.invokevirtual 101, 3) := by decide +kernel
theorem dX10_cheapest_8 : decode cX10_cheapest 8 = .ok (.ifCond .ne 6, 3) := by decide +kernel
theorem dX10_cheapest_11 : decode cX10_cheapest 11 = .ok (.bipush (-2), 2) := by decide +kernel
theorem dX10_cheapest_13 : decode cX10_cheapest 13 = .ok (.ireturn, 1) := by decide +kernel
theorem dX10_cheapest_14 : decode cX10_cheapest 14 = .ok (.iload_n 2, 1) := by decide +kernel
theorem dX10_cheapest_15 : decode cX10_cheapest 15 = .ok (.iconst 1, 1) := by decide +kernel
theorem dX10_cheapest_16 : decode cX10_cheapest 16 = .ok (.if_icmp .lt 9, 3) := by decide +kernel
theorem dX10_cheapest_19 : decode cX10_cheapest 19 = .ok (.iload_n 2, 1) := by decide +kernel
theorem dX10_cheapest_20 : decode cX10_cheapest 20 = .ok (.bipush 6, 2) := by decide +kernel
theorem dX10_cheapest_22 : decode cX10_cheapest 22 = .ok (.if_icmp .le 6, 3) := by decide +kernel
theorem dX10_cheapest_25 : decode cX10_cheapest 25 = .ok (.bipush (-3), 2) := by decide +kernel
theorem dX10_cheapest_27 : decode cX10_cheapest 27 = .ok (.ireturn, 1) := by decide +kernel
theorem dX10_cheapest_28 : decode cX10_cheapest 28 = .ok (.aload_n 0, 1) := by decide +kernel
theorem dX10_cheapest_29 : decode cX10_cheapest 29 = .ok (.invokevirtual 243, 3) := by decide +kernel
theorem dX10_cheapest_32 : decode cX10_cheapest 32 = .ok (.iload_n 1, 1) := by decide +kernel
theorem dX10_cheapest_33 : decode cX10_cheapest 33 = .ok (.iload_n 2, 1) := by decide +kernel
theorem dX10_cheapest_34 : decode cX10_cheapest 34 = .ok (.invokevirtual 253, 3) := by decide +kernel
theorem dX10_cheapest_37 : decode cX10_cheapest 37 = .ok (.ireturn, 1) := by decide +kernel
def mX10_cheapest (n : Nat) (a : Nat) (b1 : Int) (b2 : Int) (μ : Mem) : Option (Int × Mem) :=
  (gA μ 11 a 1).bind fun x1 =>
  (inv μ 2 x1 (mX1_hasHouse n x1 b1 μ)).bind fun p5 =>
  if eq32 p5.1 0 then
    some ((-2), p5.2)
  else
  if lt32 b2 1 then
    some ((-3), p5.2)
  else
  if lt32 6 b2 then
    some ((-3), p5.2)
  else
  (inv p5.2 11 a (mX10_searcher n a p5.2)).bind fun p29 =>
  (inv p29.2 5 p29.1 (mX4_fewestPulls n p29.1 b1 b2 p29.2)).bind fun p34 =>
  some (p34.1, p34.2)
set_option maxRecDepth 100000 in
set_option maxHeartbeats 4000000 in
theorem cX10_cheapest_ok (n : Nat) (a : Nat) (b1 : Int) (b2 : Int) (μ : Mem) : Mc yX10_cheapest cX10_cheapest 3 (some .int) 16 394 eI [aA a, aI b1, aI b2] μ (mX10_cheapest n a b1 b2 μ) := by
  refine mc_of (L0 := [some (aA a), some (aI b1), some (aI b2)]) (k := 0) (by decide) rfl rfl (fun X Γ => ?_)
  unfold mX10_cheapest
  refine sn_aload_n dX10_cheapest_0 rfl ?_
  refine sn_getA (ci := 10) (j := 1) dX10_cheapest_1 fl_X10_19 (by decide) (fun x1 => ?_)
  refine sn_iload_n dX10_cheapest_4 rfl ?_
  refine sn_callVI (vs := [aI b1]) (ci := 1) (cX1_hasHouse_ok n x1 b1 μ) dX10_cheapest_5 cw_X10_101 rfl rfl rfl (by decide) (by decide) (Nat.le_of_ble_eq_true rfl) (fun p5 => ?_)
  refine sn_if_ne (tgt := 14) dX10_cheapest_8 (by decide) ?_ ?_
  · refine sn_iload_n dX10_cheapest_14 rfl ?_
    refine sn_iconst dX10_cheapest_15 ?_
    refine sn_icmp_lt (tgt := 25) dX10_cheapest_16 (by decide) ?_ ?_
    · refine sn_bipush dX10_cheapest_25 (by decide) ?_
      exact sn_iret dX10_cheapest_27
    · refine sn_iload_n dX10_cheapest_19 rfl ?_
      refine sn_bipush dX10_cheapest_20 (by decide) ?_
      refine sn_icmp_le (tgt := 28) dX10_cheapest_22 (by decide) ?_ ?_
      · refine sn_aload_n dX10_cheapest_28 rfl ?_
        refine sn_callVA (vs := []) (ci := 10) (cX10_searcher_ok n a p5.2) dX10_cheapest_29 cw_X10_243 rfl rfl rfl (by decide) (by decide) (Nat.le_of_ble_eq_true rfl) (fun p29 => ?_)
        refine sn_iload_n dX10_cheapest_32 rfl ?_
        refine sn_iload_n dX10_cheapest_33 rfl ?_
        refine sn_callVI (vs := [aI b1, aI b2]) (ci := 4) (cX4_fewestPulls_ok n p29.1 b1 b2 p29.2) dX10_cheapest_34 cw_X10_253 rfl rfl rfl (by decide) (by decide) (Nat.le_of_ble_eq_true rfl) (fun p34 => ?_)
        exact sn_iret dX10_cheapest_37
      · refine sn_bipush dX10_cheapest_25 (by decide) ?_
        exact sn_iret dX10_cheapest_27
  · refine sn_bipush dX10_cheapest_11 (by decide) ?_
    exact sn_iret dX10_cheapest_13
theorem dX10_clash_0 : decode cX10_clash 0 = .ok (.iload_n 1, 1) := by decide +kernel
theorem dX10_clash_1 : decode cX10_clash 1 = .ok (.iconst (-1), 1) := by decide +kernel
theorem dX10_clash_2 : decode cX10_clash 2 = .ok (.if_icmp .eq 28, 3) := by decide +kernel
theorem dX10_clash_5 : decode cX10_clash 5 = .ok (.aload_n 0, 1) := by decide +kernel
theorem dX10_clash_6 : decode cX10_clash 6 = .ok (.getfield 19, 3) := by decide +kernel
theorem dX10_clash_9 : decode cX10_clash 9 = .ok (.iload_n 1, 1) := by decide +kernel
theorem dX10_clash_10 : decode cX10_clash 10 = .ok (.invokevirtual 131, 3) := by decide +kernel
theorem dX10_clash_13 : decode cX10_clash 13 = .ok (.ifCond .eq 14, 3) := by decide +kernel
theorem dX10_clash_16 : decode cX10_clash 16 = .ok (.aload_n 0, 1) := by decide +kernel
theorem dX10_clash_17 : decode cX10_clash 17 = .ok (.getfield 19, 3) := by decide +kernel
theorem dX10_clash_20 : decode cX10_clash 20 = .ok (.iload_n 1, 1) := by decide +kernel
theorem dX10_clash_21 : decode cX10_clash 21 = .ok (.invokevirtual 297, 3) := by decide +kernel
theorem dX10_clash_24 : decode cX10_clash 24 = .ok (.goto 5, 3) := by decide +kernel
theorem dX10_clash_27 : decode cX10_clash 27 = .ok (.bipush (-2), 2) := by decide +kernel
theorem dX10_clash_29 : decode cX10_clash 29 = .ok (.ireturn, 1) := by decide +kernel
theorem dX10_clash_30 : decode cX10_clash 30 = .ok (.iconst 0, 1) := by decide +kernel
theorem dX10_clash_31 : decode cX10_clash 31 = .ok (.istore_n 2, 1) := by decide +kernel
theorem dX10_clash_32 : decode cX10_clash 32 = .ok (.iconst 0, 1) := by decide +kernel
theorem dX10_clash_33 : decode cX10_clash 33 = .ok (.istore_n 3, 1) := by decide +kernel
theorem dX10_clash_34 : decode cX10_clash 34 = .ok (.iload_n 3, 1) := by decide +kernel
theorem dX10_clash_35 : decode cX10_clash 35 = .ok (.aload_n 0, 1) := by decide +kernel
theorem dX10_clash_36 : decode cX10_clash 36 = .ok (.getfield 19, 3) := by decide +kernel
theorem dX10_clash_39 : decode cX10_clash 39 = .ok (.getfield 212, 3) := by decide +kernel
theorem dX10_clash_42 : decode cX10_clash 42 = .ok (.if_icmp .ge 32, 3) := by decide +kernel
theorem dX10_clash_45 : decode cX10_clash 45 = .ok (.aload_n 0, 1) := by decide +kernel
theorem dX10_clash_46 : decode cX10_clash 46 = .ok (.getfield 19, 3) := by decide +kernel
theorem dX10_clash_49 : decode cX10_clash 49 = .ok (.getfield 149, 3) := by decide +kernel
theorem dX10_clash_52 : decode cX10_clash 52 = .ok (.iload_n 3, 1) := by decide +kernel
theorem dX10_clash_53 : decode cX10_clash 53 = .ok (.baload, 1) := by decide +kernel
theorem dX10_clash_54 : decode cX10_clash 54 = .ok (.ifCond .ne 14, 3) := by decide +kernel
theorem dX10_clash_57 : decode cX10_clash 57 = .ok (.iload_n 2, 1) := by decide +kernel
theorem dX10_clash_58 : decode cX10_clash 58 = .ok (.aload_n 0, 1) := by decide +kernel
theorem dX10_clash_59 : decode cX10_clash 59 = .ok (.getfield 19, 3) := by decide +kernel
theorem dX10_clash_62 : decode cX10_clash 62 = .ok (.iload_n 3, 1) := by decide +kernel
theorem dX10_clash_63 : decode cX10_clash 63 = .ok (.invokevirtual 297, 3) := by decide +kernel
theorem dX10_clash_66 : decode cX10_clash 66 = .ok (.iadd, 1) := by decide +kernel
theorem dX10_clash_67 : decode cX10_clash 67 = .ok (.istore_n 2, 1) := by decide +kernel
theorem dX10_clash_68 : decode cX10_clash 68 = .ok (.iinc 3 1, 3) := by decide +kernel
theorem dX10_clash_71 : decode cX10_clash 71 = .ok (.goto (-37), 3) := by decide +kernel
theorem dX10_clash_74 : decode cX10_clash 74 = .ok (.iload_n 2, 1) := by decide +kernel
theorem dX10_clash_75 : decode cX10_clash 75 = .ok (.ireturn, 1) := by decide +kernel
def mX10_clash (n : Nat) (a : Nat) (b1 : Int) (μ : Mem) : Option (Int × Mem) :=
  if eq32 b1 (-1) then
    lp (fun nx34 (v34 : Int × Int) (μ34 : Mem) =>
    (gA μ34 11 a 1).bind fun x36 =>
    (gI μ34 2 x36 1).bind fun x39 =>
    if lt32 v34.2 x39 then
      (gA μ34 11 a 1).bind fun x46 =>
      (gA μ34 2 x46 14).bind fun x49 =>
      (ldI μ34 2 x49 v34.2).bind fun x53 =>
      if eq32 x53 0 then
        (gA μ34 11 a 1).bind fun x59 =>
        (inv μ34 2 x59 (mX1_sharedThirst n x59 v34.2 μ34)).bind fun p63 =>
        nx34 ((v34.1 + p63.1), (v34.2 + 1)) p63.2
      else
      nx34 (v34.1, (v34.2 + 1)) μ34
    else
    some (v34.1, μ34)) n (0, 0) μ
  else
  (gA μ 11 a 1).bind fun x6 =>
  (inv μ 2 x6 (mX1_hasRope n x6 b1 μ)).bind fun p10 =>
  if eq32 p10.1 0 then
    some ((-2), p10.2)
  else
  (gA p10.2 11 a 1).bind fun x17 =>
  (inv p10.2 2 x17 (mX1_sharedThirst n x17 b1 p10.2)).bind fun p21 =>
  some (p21.1, p21.2)
set_option maxRecDepth 100000 in
set_option maxHeartbeats 4000000 in
theorem cX10_clash_ok (n : Nat) (a : Nat) (b1 : Int) (μ : Mem) : Mc yX10_clash cX10_clash 4 (some .int) 2 41 eI [aA a, aI b1] μ (mX10_clash n a b1 μ) := by
  refine mc_of (L0 := [some (aA a), some (aI b1), none, none]) (k := 2) (by decide) rfl rfl (fun X Γ => ?_)
  unfold mX10_clash
  refine sn_iload_n dX10_clash_0 rfl ?_
  refine sn_iconst dX10_clash_1 ?_
  refine sn_icmp_eq (tgt := 30) dX10_clash_2 (by decide) ?_ ?_
  · refine sn_iconst dX10_clash_30 ?_
    refine sn_istore_n (L' := [some (aA a), some (aI b1), some (aI 0), none]) dX10_clash_31 (by decide) rfl ?_
    refine sn_iconst dX10_clash_32 ?_
    refine sn_istore_n (L' := [some (aA a), some (aI b1), some (aI 0), some (aI 0)]) dX10_clash_33 (by decide) rfl ?_
    refine sn_mask (L' := [some (aA a), none, some (aI 0), some (aI 0)]) [true, false, true, true] rfl ?_
    refine sn_lp (La := fun v34 : Int × Int => [some (aA a), none, some (aI v34.1), some (aI v34.2)]) ?_ n (0, 0) μ
    intro nx34 hnx34 v34 μ34
    refine sn_iload_n dX10_clash_34 rfl ?_
    refine sn_aload_n dX10_clash_35 rfl ?_
    refine sn_getA (ci := 10) (j := 1) dX10_clash_36 fl_X10_19 (by decide) (fun x36 => ?_)
    refine sn_getI (ci := 1) (j := 1) dX10_clash_39 fl_X10_212 rfl (fun x39 => ?_)
    refine sn_icmp_ge (tgt := 74) dX10_clash_42 (by decide) ?_ ?_
    · refine sn_iload_n dX10_clash_74 rfl ?_
      exact sn_iret dX10_clash_75
    · refine sn_aload_n dX10_clash_45 rfl ?_
      refine sn_getA (ci := 10) (j := 1) dX10_clash_46 fl_X10_19 (by decide) (fun x46 => ?_)
      refine sn_getA (ci := 1) (j := 14) dX10_clash_49 fl_X10_149 (by decide) (fun x49 => ?_)
      refine sn_iload_n dX10_clash_52 rfl ?_
      refine sn_zald dX10_clash_53 (fun x53 => ?_)
      refine sn_if_ne (tgt := 68) dX10_clash_54 (by decide) ?_ ?_
      · refine sn_iinc (L' := [some (aA a), none, some (aI v34.1), some (aI (v34.2 + 1))]) dX10_clash_68 rfl (by decide) rfl ?_
        refine sn_goto (tgt := 34) dX10_clash_71 (by decide) ?_
        exact hnx34 (v34.1, (v34.2 + 1)) μ34
      · refine sn_iload_n dX10_clash_57 rfl ?_
        refine sn_aload_n dX10_clash_58 rfl ?_
        refine sn_getA (ci := 10) (j := 1) dX10_clash_59 fl_X10_19 (by decide) (fun x59 => ?_)
        refine sn_iload_n dX10_clash_62 rfl ?_
        refine sn_callVI (vs := [aI v34.2]) (ci := 1) (cX1_sharedThirst_ok n x59 v34.2 μ34) dX10_clash_63 cw_X10_297 rfl rfl rfl (by decide) (by decide) (Nat.le_of_ble_eq_true rfl) (fun p63 => ?_)
        refine sn_iadd dX10_clash_66 ?_
        refine sn_istore_n (L' := [some (aA a), none, some (aI (v34.1 + p63.1)), some (aI v34.2)]) dX10_clash_67 (by decide) rfl ?_
        refine sn_iinc (L' := [some (aA a), none, some (aI (v34.1 + p63.1)), some (aI (v34.2 + 1))]) dX10_clash_68 rfl (by decide) rfl ?_
        refine sn_goto (tgt := 34) dX10_clash_71 (by decide) ?_
        exact hnx34 ((v34.1 + p63.1), (v34.2 + 1)) p63.2
  · refine sn_aload_n dX10_clash_5 rfl ?_
    refine sn_getA (ci := 10) (j := 1) dX10_clash_6 fl_X10_19 (by decide) (fun x6 => ?_)
    refine sn_iload_n dX10_clash_9 rfl ?_
    refine sn_callVI (vs := [aI b1]) (ci := 1) (cX1_hasRope_ok n x6 b1 μ) dX10_clash_10 cw_X10_131 rfl rfl rfl (by decide) (by decide) (Nat.le_of_ble_eq_true rfl) (fun p10 => ?_)
    refine sn_if_eq (tgt := 27) dX10_clash_13 (by decide) ?_ ?_
    · refine sn_bipush dX10_clash_27 (by decide) ?_
      exact sn_iret dX10_clash_29
    · refine sn_aload_n dX10_clash_16 rfl ?_
      refine sn_getA (ci := 10) (j := 1) dX10_clash_17 fl_X10_19 (by decide) (fun x17 => ?_)
      refine sn_iload_n dX10_clash_20 rfl ?_
      refine sn_callVI (vs := [aI b1]) (ci := 1) (cX1_sharedThirst_ok n x17 b1 p10.2) dX10_clash_21 cw_X10_297 rfl rfl rfl (by decide) (by decide) (Nat.le_of_ble_eq_true rfl) (fun p21 => ?_)
      refine sn_goto (tgt := 29) dX10_clash_24 (by decide) ?_
      exact sn_iret dX10_clash_29
theorem dX10_isRow_0 : decode cX10_isRow 0 = .ok (.iload_n 0, 1) := by decide +kernel
theorem dX10_isRow_1 : decode cX10_isRow 1 = .ok (.ifCond .lt 12, 3) := by decide +kernel
theorem dX10_isRow_4 : decode cX10_isRow 4 = .ok (.iload_n 0, 1) := by decide +kernel
theorem dX10_isRow_5 : decode cX10_isRow 5 = .ok (.iconst 4, 1) := by decide +kernel
theorem dX10_isRow_6 : decode cX10_isRow 6 = .ok (.if_icmp .ge 7, 3) := by decide +kernel
theorem dX10_isRow_9 : decode cX10_isRow 9 = .ok (.iconst 1, 1) := by decide +kernel
theorem dX10_isRow_10 : decode cX10_isRow 10 = .ok (.goto 4, 3) := by decide +kernel
theorem dX10_isRow_13 : decode cX10_isRow 13 = .ok (.iconst 0, 1) := by decide +kernel
theorem dX10_isRow_14 : decode cX10_isRow 14 = .ok (.ireturn, 1) := by decide +kernel
def mX10_isRow (n : Nat) (b1 : Int) (μ : Mem) : Option (Int × Mem) :=
  if lt32 b1 0 then
    retZ 0 μ
  else
  if lt32 b1 4 then
    retZ 1 μ
  else
  retZ 0 μ
set_option maxRecDepth 100000 in
set_option maxHeartbeats 4000000 in
theorem cX10_isRow_ok (n : Nat) (b1 : Int) (μ : Mem) : Mc yX10_isRow cX10_isRow 1 (some .boolean) 0 0 eI [aI b1] μ (mX10_isRow n b1 μ) := by
  refine mc_of (L0 := [some (aI b1)]) (k := 0) (by decide) rfl rfl (fun X Γ => ?_)
  unfold mX10_isRow
  refine sn_iload_n dX10_isRow_0 rfl ?_
  refine sn_if_lt (tgt := 13) dX10_isRow_1 (by decide) ?_ ?_
  · refine sn_iconst dX10_isRow_13 ?_
    exact sn_zret dX10_isRow_14
  · refine sn_iload_n dX10_isRow_4 rfl ?_
    refine sn_iconst dX10_isRow_5 ?_
    refine sn_icmp_ge (tgt := 13) dX10_isRow_6 (by decide) ?_ ?_
    · refine sn_iconst dX10_isRow_13 ?_
      exact sn_zret dX10_isRow_14
    · refine sn_iconst dX10_isRow_9 ?_
      refine sn_goto (tgt := 14) dX10_isRow_10 (by decide) ?_
      exact sn_zret dX10_isRow_14
theorem dX10_copy_0 : decode cX10_copy 0 = .ok (.iload_n 1, 1) := by decide +kernel
theorem dX10_copy_1 : decode cX10_copy 1 = .ok (.invokestatic 166, 3) := by decide +kernel
theorem dX10_copy_4 : decode cX10_copy 4 = .ok (.ifCond .ne 6, 3) := by decide +kernel
theorem dX10_copy_7 : decode cX10_copy 7 = .ok (.bipush (-2), 2) := by decide +kernel
theorem dX10_copy_9 : decode cX10_copy 9 = .ok (.ireturn, 1) := by decide +kernel
theorem dX10_copy_10 : decode cX10_copy 10 = .ok (.aload_n 0, 1) := by decide +kernel
theorem dX10_copy_11 : decode cX10_copy 11 = .ok (.getfield 36, 3) := by decide +kernel
theorem dX10_copy_14 : decode cX10_copy 14 = .ok (.iload_n 1, 1) := by decide +kernel
theorem dX10_copy_15 : decode cX10_copy 15 = .ok (.aaload, 1) := by decide +kernel
theorem dX10_copy_16 : decode cX10_copy 16 = .ok (.invokevirtual 169, 3) := by decide +kernel
theorem dX10_copy_19 : decode cX10_copy 19 = .ok (.ifCond .eq 6, 3) := by decide +kernel
theorem dX10_copy_22 : decode cX10_copy 22 = .ok (.bipush (-6), 2) := by decide +kernel
theorem dX10_copy_24 : decode cX10_copy 24 = .ok (.ireturn, 1) := by decide +kernel
theorem dX10_copy_25 : decode cX10_copy 25 = .ok (.aload_n 0, 1) := by decide +kernel
theorem dX10_copy_26 : decode cX10_copy 26 = .ok (.getfield 36, 3) := by decide +kernel
theorem dX10_copy_29 : decode cX10_copy 29 = .ok (.iload_n 1, 1) := by decide +kernel
theorem dX10_copy_30 : decode cX10_copy 30 = .ok (.aaload, 1) := by decide +kernel
theorem dX10_copy_31 : decode cX10_copy 31 = .ok (.getfield 312, 3) := by decide +kernel
theorem dX10_copy_34 : decode cX10_copy 34 = .ok (.aload_n 0, 1) := by decide +kernel
theorem dX10_copy_35 : decode cX10_copy 35 = .ok (.getfield 19, 3) := by decide +kernel
theorem dX10_copy_38 : decode cX10_copy 38 = .ok (.getfield 212, 3) := by decide +kernel
theorem dX10_copy_41 : decode cX10_copy 41 = .ok (.if_icmp .ge 6, 3) := by decide +kernel
theorem dX10_copy_44 : decode cX10_copy 44 = .ok (.bipush (-7), 2) := by decide +kernel
theorem dX10_copy_46 : decode cX10_copy 46 = .ok (.ireturn, 1) := by decide +kernel
theorem dX10_copy_47 : decode cX10_copy 47 = .ok (.iconst 0, 1) := by decide +kernel
theorem dX10_copy_48 : decode cX10_copy 48 = .ok (.istore_n 2, 1) := by decide +kernel
theorem dX10_copy_49 : decode cX10_copy 49 = .ok (.iload_n 2, 1) := by decide +kernel
theorem dX10_copy_50 : decode cX10_copy 50 = .ok (.aload_n 0, 1) := by decide +kernel
theorem dX10_copy_51 : decode cX10_copy 51 = .ok (.getfield 19, 3) := by decide +kernel
theorem dX10_copy_54 : decode cX10_copy 54 = .ok (.getfield 212, 3) := by decide +kernel
theorem dX10_copy_57 : decode cX10_copy 57 = .ok (.if_icmp .ge 30, 3) := by decide +kernel
theorem dX10_copy_60 : decode cX10_copy 60 = .ok (.aload_n 0, 1) := by decide +kernel
theorem dX10_copy_61 : decode cX10_copy 61 = .ok (.getfield 36, 3) := by decide +kernel
theorem dX10_copy_64 : decode cX10_copy 64 = .ok (.iload_n 1, 1) := by decide +kernel
theorem dX10_copy_65 : decode cX10_copy 65 = .ok (.aaload, 1) := by decide +kernel
theorem dX10_copy_66 : decode cX10_copy 66 = .ok (.iload_n 2, 1) := by decide +kernel
theorem dX10_copy_67 : decode cX10_copy 67 = .ok (.aload_n 0, 1) := by decide +kernel
theorem dX10_copy_68 : decode cX10_copy 68 = .ok (.getfield 19, 3) := by decide +kernel
theorem dX10_copy_71 : decode cX10_copy 71 = .ok (.getfield 220, 3) := by decide +kernel
theorem dX10_copy_74 : decode cX10_copy 74 = .ok (.iload_n 2, 1) := by decide +kernel
theorem dX10_copy_75 : decode cX10_copy 75 = .ok (.iaload, 1) := by decide +kernel
theorem dX10_copy_76 : decode cX10_copy 76 = .ok (.i2l, 1) := by decide +kernel
theorem dX10_copy_77 : decode cX10_copy 77 = .ok (.invokevirtual 325, 3) := by decide +kernel
theorem dX10_copy_80 : decode cX10_copy 80 = .ok (.pop2, 1) := by decide +kernel
theorem dX10_copy_81 : decode cX10_copy 81 = .ok (.iinc 2 1, 3) := by decide +kernel
theorem dX10_copy_84 : decode cX10_copy 84 = .ok (.goto (-35), 3) := by decide +kernel
theorem dX10_copy_87 : decode cX10_copy 87 = .ok (.aload_n 0, 1) := by decide +kernel
theorem dX10_copy_88 : decode cX10_copy 88 = .ok (.getfield 19, 3) := by decide +kernel
theorem dX10_copy_91 : decode cX10_copy 91 = .ok (.getfield 212, 3) := by decide +kernel
theorem dX10_copy_94 : decode cX10_copy 94 = .ok (.ireturn, 1) := by decide +kernel
def mX10_copy (n : Nat) (a : Nat) (b1 : Int) (μ : Mem) : Option (Int × Mem) :=
  (mX10_isRow n b1 μ).bind fun p1 =>
  if eq32 p1.1 0 then
    some ((-2), p1.2)
  else
  (gA p1.2 11 a 5).bind fun x11 =>
  (ldA p1.2 5 x11 b1).bind fun x15 =>
  (inv p1.2 4 x15 (mX3_isMissing n x15 p1.2)).bind fun p16 =>
  if eq32 p16.1 0 then
    (gA p16.2 11 a 5).bind fun x26 =>
    (ldA p16.2 5 x26 b1).bind fun x30 =>
    (gI p16.2 4 x30 0).bind fun x31 =>
    (gA p16.2 11 a 1).bind fun x35 =>
    (gI p16.2 2 x35 1).bind fun x38 =>
    if lt32 x31 x38 then
      some ((-7), p16.2)
    else
    lp (fun nx49 (v49 : Int) (μ49 : Mem) =>
    (gA μ49 11 a 1).bind fun x51 =>
    (gI μ49 2 x51 1).bind fun x54 =>
    if lt32 v49 x54 then
      (gA μ49 11 a 5).bind fun x61 =>
      (ldA μ49 5 x61 b1).bind fun x65 =>
      (gA μ49 11 a 1).bind fun x68 =>
      (gA μ49 2 x68 13).bind fun x71 =>
      (ldI μ49 0 x71 v49).bind fun x75 =>
      (inv μ49 4 x65 (mX3_put n x65 v49 (oI2l x75) μ49)).bind fun p77 =>
      nx49 (v49 + 1) p77.2
    else
    (gA μ49 11 a 1).bind fun x88 =>
    (gI μ49 2 x88 1).bind fun x91 =>
    some (x91, μ49)) n 0 p16.2
  else
  some ((-6), p16.2)
set_option maxRecDepth 100000 in
set_option maxHeartbeats 4000000 in
theorem cX10_copy_ok (n : Nat) (a : Nat) (b1 : Int) (μ : Mem) : Mc yX10_copy cX10_copy 3 (some .int) 2 45 eI [aA a, aI b1] μ (mX10_copy n a b1 μ) := by
  refine mc_of (L0 := [some (aA a), some (aI b1), none]) (k := 1) (by decide) rfl rfl (fun X Γ => ?_)
  unfold mX10_copy
  refine sn_iload_n dX10_copy_0 rfl ?_
  refine sn_callSI (vs := [aI b1]) (cX10_isRow_ok n b1 μ) dX10_copy_1 cw_X10_166 rfl (by decide) (by decide) (Nat.le_of_ble_eq_true rfl) (fun p1 => ?_)
  refine sn_if_ne (tgt := 10) dX10_copy_4 (by decide) ?_ ?_
  · refine sn_aload_n dX10_copy_10 rfl ?_
    refine sn_getA (ci := 10) (j := 5) dX10_copy_11 fl_X10_36 (by decide) (fun x11 => ?_)
    refine sn_iload_n dX10_copy_14 rfl ?_
    refine sn_aald5 dX10_copy_15 (fun x15 => ?_)
    refine sn_callVI (vs := []) (ci := 3) (cX3_isMissing_ok n x15 p1.2) dX10_copy_16 cw_X10_169 rfl rfl rfl (by decide) (by decide) (Nat.le_of_ble_eq_true rfl) (fun p16 => ?_)
    refine sn_if_eq (tgt := 25) dX10_copy_19 (by decide) ?_ ?_
    · refine sn_aload_n dX10_copy_25 rfl ?_
      refine sn_getA (ci := 10) (j := 5) dX10_copy_26 fl_X10_36 (by decide) (fun x26 => ?_)
      refine sn_iload_n dX10_copy_29 rfl ?_
      refine sn_aald5 dX10_copy_30 (fun x30 => ?_)
      refine sn_getI (ci := 3) (j := 0) dX10_copy_31 fl_X10_312 rfl (fun x31 => ?_)
      refine sn_aload_n dX10_copy_34 rfl ?_
      refine sn_getA (ci := 10) (j := 1) dX10_copy_35 fl_X10_19 (by decide) (fun x35 => ?_)
      refine sn_getI (ci := 1) (j := 1) dX10_copy_38 fl_X10_212 rfl (fun x38 => ?_)
      refine sn_icmp_ge (tgt := 47) dX10_copy_41 (by decide) ?_ ?_
      · refine sn_iconst dX10_copy_47 ?_
        refine sn_istore_n (L' := [some (aA a), some (aI b1), some (aI 0)]) dX10_copy_48 (by decide) rfl ?_
        refine sn_lp (La := fun v49 : Int => [some (aA a), some (aI b1), some (aI v49)]) ?_ n 0 p16.2
        intro nx49 hnx49 v49 μ49
        refine sn_iload_n dX10_copy_49 rfl ?_
        refine sn_aload_n dX10_copy_50 rfl ?_
        refine sn_getA (ci := 10) (j := 1) dX10_copy_51 fl_X10_19 (by decide) (fun x51 => ?_)
        refine sn_getI (ci := 1) (j := 1) dX10_copy_54 fl_X10_212 rfl (fun x54 => ?_)
        refine sn_icmp_ge (tgt := 87) dX10_copy_57 (by decide) ?_ ?_
        · refine sn_aload_n dX10_copy_87 rfl ?_
          refine sn_getA (ci := 10) (j := 1) dX10_copy_88 fl_X10_19 (by decide) (fun x88 => ?_)
          refine sn_getI (ci := 1) (j := 1) dX10_copy_91 fl_X10_212 rfl (fun x91 => ?_)
          exact sn_iret dX10_copy_94
        · refine sn_aload_n dX10_copy_60 rfl ?_
          refine sn_getA (ci := 10) (j := 5) dX10_copy_61 fl_X10_36 (by decide) (fun x61 => ?_)
          refine sn_iload_n dX10_copy_64 rfl ?_
          refine sn_aald5 dX10_copy_65 (fun x65 => ?_)
          refine sn_iload_n dX10_copy_66 rfl ?_
          refine sn_aload_n dX10_copy_67 rfl ?_
          refine sn_getA (ci := 10) (j := 1) dX10_copy_68 fl_X10_19 (by decide) (fun x68 => ?_)
          refine sn_getA (ci := 1) (j := 13) dX10_copy_71 fl_X10_220 (by decide) (fun x71 => ?_)
          refine sn_iload_n dX10_copy_74 rfl ?_
          refine sn_iald dX10_copy_75 (fun x75 => ?_)
          refine sn_i2l dX10_copy_76 ?_
          refine sn_callVJ (vs := [aI v49, aJ (oI2l x75)]) (ci := 3) (cX3_put_ok n x65 v49 (oI2l x75) μ49) dX10_copy_77 cw_X10_325 rfl rfl rfl (by decide) (by decide) (Nat.le_of_ble_eq_true rfl) (fun p77 => ?_)
          refine sn_pop2 dX10_copy_80 rfl ?_
          refine sn_iinc (L' := [some (aA a), some (aI b1), some (aI (v49 + 1))]) dX10_copy_81 rfl (by decide) rfl ?_
          refine sn_goto (tgt := 49) dX10_copy_84 (by decide) ?_
          exact hnx49 (v49 + 1) p77.2
      · refine sn_bipush dX10_copy_44 (by decide) ?_
        exact sn_iret dX10_copy_46
    · refine sn_bipush dX10_copy_22 (by decide) ?_
      exact sn_iret dX10_copy_24
  · refine sn_bipush dX10_copy_7 (by decide) ?_
    exact sn_iret dX10_copy_9
theorem dX10_count_0 : decode cX10_count 0 = .ok (.iload_n 1, 1) := by decide +kernel
theorem dX10_count_1 : decode cX10_count 1 = .ok (.tableswitch 123 0 8 #[51, 59, 67, 75, 83, 91, 99, 107, 115], 51) := by decide +kernel
theorem dX10_count_52 : decode cX10_count 52 = .ok (.aload_n 0, 1) := by decide +kernel
theorem dX10_count_53 : decode cX10_count 53 = .ok (.getfield 19, 3) := by decide +kernel
theorem dX10_count_56 : decode cX10_count 56 = .ok (.getfield 274, 3) := by decide +kernel
theorem dX10_count_59 : decode cX10_count 59 = .ok (.ireturn, 1) := by decide +kernel
theorem dX10_count_60 : decode cX10_count 60 = .ok (.aload_n 0, 1) := by decide +kernel
theorem dX10_count_61 : decode cX10_count 61 = .ok (.getfield 19, 3) := by decide +kernel
theorem dX10_count_64 : decode cX10_count 64 = .ok (.getfield 212, 3) := by decide +kernel
theorem dX10_count_67 : decode cX10_count 67 = .ok (.ireturn, 1) := by decide +kernel
theorem dX10_count_68 : decode cX10_count 68 = .ok (.aload_n 0, 1) := by decide +kernel
theorem dX10_count_69 : decode cX10_count 69 = .ok (.getfield 19, 3) := by decide +kernel
theorem dX10_count_72 : decode cX10_count 72 = .ok (.getfield 152, 3) := by decide +kernel
theorem dX10_count_75 : decode cX10_count 75 = .ok (.ireturn, 1) := by decide +kernel
theorem dX10_count_76 : decode cX10_count 76 = .ok (.aload_n 0, 1) := by decide +kernel
theorem dX10_count_77 : decode cX10_count 77 = .ok (.getfield 19, 3) := by decide +kernel
theorem dX10_count_80 : decode cX10_count 80 = .ok (.getfield 329, 3) := by decide +kernel
theorem dX10_count_83 : decode cX10_count 83 = .ok (.ireturn, 1) := by decide +kernel
theorem dX10_count_84 : decode cX10_count 84 = .ok (.aload_n 0, 1) := by decide +kernel
theorem dX10_count_85 : decode cX10_count 85 = .ok (.getfield 19, 3) := by decide +kernel
theorem dX10_count_88 : decode cX10_count 88 = .ok (.getfield 332, 3) := by decide +kernel
theorem dX10_count_91 : decode cX10_count 91 = .ok (.ireturn, 1) := by decide +kernel
theorem dX10_count_92 : decode cX10_count 92 = .ok (.aload_n 0, 1) := by decide +kernel
theorem dX10_count_93 : decode cX10_count 93 = .ok (.getfield 19, 3) := by decide +kernel
theorem dX10_count_96 : decode cX10_count 96 = .ok (.invokevirtual 335, 3) := by decide +kernel
theorem dX10_count_99 : decode cX10_count 99 = .ok (.ireturn, 1) := by decide +kernel
theorem dX10_count_100 : decode cX10_count 100 = .ok (.aload_n 0, 1) := by decide +kernel
theorem dX10_count_101 : decode cX10_count 101 = .ok (.getfield 19, 3) := by decide +kernel
theorem dX10_count_104 : decode cX10_count 104 = .ok (.invokevirtual 338, 3) := by decide +kernel
theorem dX10_count_107 : decode cX10_count 107 = .ok (.ireturn, 1) := by decide +kernel
theorem dX10_count_108 : decode cX10_count 108 = .ok (.aload_n 0, 1) := by decide +kernel
theorem dX10_count_109 : decode cX10_count 109 = .ok (.getfield 10, 3) := by decide +kernel
theorem dX10_count_112 : decode cX10_count 112 = .ok (.getfield 76, 3) := by decide +kernel
theorem dX10_count_115 : decode cX10_count 115 = .ok (.ireturn, 1) := by decide +kernel
theorem dX10_count_116 : decode cX10_count 116 = .ok (.aload_n 0, 1) := by decide +kernel
theorem dX10_count_117 : decode cX10_count 117 = .ok (.getfield 19, 3) := by decide +kernel
theorem dX10_count_120 : decode cX10_count 120 = .ok (.getfield 95, 3) := by decide +kernel
theorem dX10_count_123 : decode cX10_count 123 = .ok (.ireturn, 1) := by decide +kernel
theorem dX10_count_124 : decode cX10_count 124 = .ok (.iconst (-1), 1) := by decide +kernel
theorem dX10_count_125 : decode cX10_count 125 = .ok (.ireturn, 1) := by decide +kernel
def mX10_count (n : Nat) (a : Nat) (b1 : Int) (μ : Mem) : Option (Int × Mem) :=
  if eq32 b1 0 then
    (gA μ 11 a 1).bind fun x53 =>
    (gI μ 2 x53 0).bind fun x56 =>
    some (x56, μ)
  else
  if eq32 b1 1 then
    (gA μ 11 a 1).bind fun x61 =>
    (gI μ 2 x61 1).bind fun x64 =>
    some (x64, μ)
  else
  if eq32 b1 2 then
    (gA μ 11 a 1).bind fun x69 =>
    (gI μ 2 x69 2).bind fun x72 =>
    some (x72, μ)
  else
  if eq32 b1 3 then
    (gA μ 11 a 1).bind fun x77 =>
    (gI μ 2 x77 3).bind fun x80 =>
    some (x80, μ)
  else
  if eq32 b1 4 then
    (gA μ 11 a 1).bind fun x85 =>
    (gI μ 2 x85 4).bind fun x88 =>
    some (x88, μ)
  else
  if eq32 b1 5 then
    (gA μ 11 a 1).bind fun x93 =>
    (inv μ 2 x93 (mX1_allStock n x93 μ)).bind fun p96 =>
    some (p96.1, p96.2)
  else
  if eq32 b1 6 then
    (gA μ 11 a 1).bind fun x101 =>
    (inv μ 2 x101 (mX1_fullBuckets n x101 μ)).bind fun p104 =>
    some (p104.1, p104.2)
  else
  if eq32 b1 7 then
    (gA μ 11 a 0).bind fun x109 =>
    (gI μ 9 x109 0).bind fun x112 =>
    some (x112, μ)
  else
  if eq32 b1 8 then
    (gA μ 11 a 1).bind fun x117 =>
    (gI μ 2 x117 5).bind fun x120 =>
    some (x120, μ)
  else
  some ((-1), μ)
set_option maxRecDepth 100000 in
set_option maxHeartbeats 4000000 in
theorem cX10_count_ok (n : Nat) (a : Nat) (b1 : Int) (μ : Mem) : Mc yX10_count cX10_count 2 (some .int) 1 22 eI [aA a, aI b1] μ (mX10_count n a b1 μ) := by
  refine mc_of (L0 := [some (aA a), some (aI b1)]) (k := 0) (by decide) rfl rfl (fun X Γ => ?_)
  unfold mX10_count
  refine sn_iload_n dX10_count_0 rfl ?_
  refine sn_ite (fun c1_0 => ?_) (fun c1_0 => ?_)
  · refine sn_swIn (k := 0) (off := 51) (tgt := 52) dX10_count_1 c1_0 (by decide) (by decide) rfl (by decide) ?_
    refine sn_aload_n dX10_count_52 rfl ?_
    refine sn_getA (ci := 10) (j := 1) dX10_count_53 fl_X10_19 (by decide) (fun x53 => ?_)
    refine sn_getI (ci := 1) (j := 0) dX10_count_56 fl_X10_274 rfl (fun x56 => ?_)
    exact sn_iret dX10_count_59
  refine sn_ite (fun c1_1 => ?_) (fun c1_1 => ?_)
  · refine sn_swIn (k := 1) (off := 59) (tgt := 60) dX10_count_1 c1_1 (by decide) (by decide) rfl (by decide) ?_
    refine sn_aload_n dX10_count_60 rfl ?_
    refine sn_getA (ci := 10) (j := 1) dX10_count_61 fl_X10_19 (by decide) (fun x61 => ?_)
    refine sn_getI (ci := 1) (j := 1) dX10_count_64 fl_X10_212 rfl (fun x64 => ?_)
    exact sn_iret dX10_count_67
  refine sn_ite (fun c1_2 => ?_) (fun c1_2 => ?_)
  · refine sn_swIn (k := 2) (off := 67) (tgt := 68) dX10_count_1 c1_2 (by decide) (by decide) rfl (by decide) ?_
    refine sn_aload_n dX10_count_68 rfl ?_
    refine sn_getA (ci := 10) (j := 1) dX10_count_69 fl_X10_19 (by decide) (fun x69 => ?_)
    refine sn_getI (ci := 1) (j := 2) dX10_count_72 fl_X10_152 rfl (fun x72 => ?_)
    exact sn_iret dX10_count_75
  refine sn_ite (fun c1_3 => ?_) (fun c1_3 => ?_)
  · refine sn_swIn (k := 3) (off := 75) (tgt := 76) dX10_count_1 c1_3 (by decide) (by decide) rfl (by decide) ?_
    refine sn_aload_n dX10_count_76 rfl ?_
    refine sn_getA (ci := 10) (j := 1) dX10_count_77 fl_X10_19 (by decide) (fun x77 => ?_)
    refine sn_getI (ci := 1) (j := 3) dX10_count_80 fl_X10_329 rfl (fun x80 => ?_)
    exact sn_iret dX10_count_83
  refine sn_ite (fun c1_4 => ?_) (fun c1_4 => ?_)
  · refine sn_swIn (k := 4) (off := 83) (tgt := 84) dX10_count_1 c1_4 (by decide) (by decide) rfl (by decide) ?_
    refine sn_aload_n dX10_count_84 rfl ?_
    refine sn_getA (ci := 10) (j := 1) dX10_count_85 fl_X10_19 (by decide) (fun x85 => ?_)
    refine sn_getI (ci := 1) (j := 4) dX10_count_88 fl_X10_332 rfl (fun x88 => ?_)
    exact sn_iret dX10_count_91
  refine sn_ite (fun c1_5 => ?_) (fun c1_5 => ?_)
  · refine sn_swIn (k := 5) (off := 91) (tgt := 92) dX10_count_1 c1_5 (by decide) (by decide) rfl (by decide) ?_
    refine sn_aload_n dX10_count_92 rfl ?_
    refine sn_getA (ci := 10) (j := 1) dX10_count_93 fl_X10_19 (by decide) (fun x93 => ?_)
    refine sn_callVI (vs := []) (ci := 1) (cX1_allStock_ok n x93 μ) dX10_count_96 cw_X10_335 rfl rfl rfl (by decide) (by decide) (Nat.le_of_ble_eq_true rfl) (fun p96 => ?_)
    exact sn_iret dX10_count_99
  refine sn_ite (fun c1_6 => ?_) (fun c1_6 => ?_)
  · refine sn_swIn (k := 6) (off := 99) (tgt := 100) dX10_count_1 c1_6 (by decide) (by decide) rfl (by decide) ?_
    refine sn_aload_n dX10_count_100 rfl ?_
    refine sn_getA (ci := 10) (j := 1) dX10_count_101 fl_X10_19 (by decide) (fun x101 => ?_)
    refine sn_callVI (vs := []) (ci := 1) (cX1_fullBuckets_ok n x101 μ) dX10_count_104 cw_X10_338 rfl rfl rfl (by decide) (by decide) (Nat.le_of_ble_eq_true rfl) (fun p104 => ?_)
    exact sn_iret dX10_count_107
  refine sn_ite (fun c1_7 => ?_) (fun c1_7 => ?_)
  · refine sn_swIn (k := 7) (off := 107) (tgt := 108) dX10_count_1 c1_7 (by decide) (by decide) rfl (by decide) ?_
    refine sn_aload_n dX10_count_108 rfl ?_
    refine sn_getA (ci := 10) (j := 0) dX10_count_109 fl_X10_10 (by decide) (fun x109 => ?_)
    refine sn_getI (ci := 8) (j := 0) dX10_count_112 fl_X10_76 rfl (fun x112 => ?_)
    exact sn_iret dX10_count_115
  refine sn_ite (fun c1_8 => ?_) (fun c1_8 => ?_)
  · refine sn_swIn (k := 8) (off := 115) (tgt := 116) dX10_count_1 c1_8 (by decide) (by decide) rfl (by decide) ?_
    refine sn_aload_n dX10_count_116 rfl ?_
    refine sn_getA (ci := 10) (j := 1) dX10_count_117 fl_X10_19 (by decide) (fun x117 => ?_)
    refine sn_getI (ci := 1) (j := 5) dX10_count_120 fl_X10_95 rfl (fun x120 => ?_)
    exact sn_iret dX10_count_123
  refine sn_swOut (tgt := 124) dX10_count_1 (by have e0 := sw_ne c1_0 (by decide); have e1 := sw_ne c1_1 (by decide); have e2 := sw_ne c1_2 (by decide); have e3 := sw_ne c1_3 (by decide); have e4 := sw_ne c1_4 (by decide); have e5 := sw_ne c1_5 (by decide); have e6 := sw_ne c1_6 (by decide); have e7 := sw_ne c1_7 (by decide); have e8 := sw_ne c1_8 (by decide); omega) (by decide) ?_
  refine sn_iconst dX10_count_124 ?_
  exact sn_iret dX10_count_125
theorem dX10_customRefusal_0 : decode cX10_customRefusal 0 = .ok (.iload_n 1, 1) := by decide +kernel
theorem dX10_customRefusal_1 : decode cX10_customRefusal 1 = .ok (.iconst 1, 1) := by decide +kernel
theorem dX10_customRefusal_2 : decode cX10_customRefusal 2 = .ok (.if_icmp .lt 9, 3) := by decide +kernel
theorem dX10_customRefusal_5 : decode cX10_customRefusal 5 = .ok (.iload_n 1, 1) := by decide +kernel
theorem dX10_customRefusal_6 : decode cX10_customRefusal 6 = .ok (.bipush 99, 2) := by decide +kernel
theorem dX10_customRefusal_8 : decode cX10_customRefusal 8 = .ok (.if_icmp .le 6, 3) := by decide +kernel
theorem dX10_customRefusal_11 : decode cX10_customRefusal 11 = .ok (.bipush (-3), 2) := by decide +kernel
theorem dX10_customRefusal_13 : decode cX10_customRefusal 13 = .ok (.ireturn, 1) := by decide +kernel
theorem dX10_customRefusal_14 : decode cX10_customRefusal 14 = .ok (.aload_n 0, 1) := by decide +kernel
theorem dX10_customRefusal_15 : decode cX10_customRefusal 15 = .ok (.getfield 19, 3) := by decide +kernel
theorem dX10_customRefusal_18 : decode cX10_customRefusal 18 = .ok (.getfield 152, 3) := by decide +kernel
theorem dX10_customRefusal_21 : decode cX10_customRefusal 21 = .ok (.iload_n 1, 1) := by decide +kernel
theorem dX10_customRefusal_22 : decode cX10_customRefusal 22 = .ok (.iadd, 1) := by decide +kernel
theorem dX10_customRefusal_23 : decode cX10_customRefusal 23 = .ok (.sipush 9999, 3) := by decide +kernel
theorem dX10_customRefusal_26 : decode cX10_customRefusal 26 = .ok (.if_icmp .le 8, 3) := by decide +kernel
theorem dX10_customRefusal_29 : decode cX10_customRefusal 29 = .ok (.bipush (-5), 2) := by decide +kernel
theorem dX10_customRefusal_31 : decode cX10_customRefusal 31 = .ok (.goto 4, 3) := by decide +kernel
theorem dX10_customRefusal_34 : decode cX10_customRefusal 34 = .ok (.iconst 0, 1) := by decide +kernel
theorem dX10_customRefusal_35 : decode cX10_customRefusal 35 = .ok (.ireturn, 1) := by decide +kernel
def mX10_customRefusal (n : Nat) (a : Nat) (b1 : Int) (μ : Mem) : Option (Int × Mem) :=
  if lt32 b1 1 then
    some ((-3), μ)
  else
  if lt32 99 b1 then
    some ((-3), μ)
  else
  (gA μ 11 a 1).bind fun x15 =>
  (gI μ 2 x15 2).bind fun x18 =>
  if lt32 9999 (x18 + b1) then
    some ((-5), μ)
  else
  some (0, μ)
set_option maxRecDepth 100000 in
set_option maxHeartbeats 4000000 in
theorem cX10_customRefusal_ok (n : Nat) (a : Nat) (b1 : Int) (μ : Mem) : Mc yX10_customRefusal cX10_customRefusal 2 (some .int) 0 0 eI [aA a, aI b1] μ (mX10_customRefusal n a b1 μ) := by
  refine mc_of (L0 := [some (aA a), some (aI b1)]) (k := 0) (by decide) rfl rfl (fun X Γ => ?_)
  unfold mX10_customRefusal
  refine sn_iload_n dX10_customRefusal_0 rfl ?_
  refine sn_iconst dX10_customRefusal_1 ?_
  refine sn_icmp_lt (tgt := 11) dX10_customRefusal_2 (by decide) ?_ ?_
  · refine sn_bipush dX10_customRefusal_11 (by decide) ?_
    exact sn_iret dX10_customRefusal_13
  · refine sn_iload_n dX10_customRefusal_5 rfl ?_
    refine sn_bipush dX10_customRefusal_6 (by decide) ?_
    refine sn_icmp_le (tgt := 14) dX10_customRefusal_8 (by decide) ?_ ?_
    · refine sn_aload_n dX10_customRefusal_14 rfl ?_
      refine sn_getA (ci := 10) (j := 1) dX10_customRefusal_15 fl_X10_19 (by decide) (fun x15 => ?_)
      refine sn_getI (ci := 1) (j := 2) dX10_customRefusal_18 fl_X10_152 rfl (fun x18 => ?_)
      refine sn_iload_n dX10_customRefusal_21 rfl ?_
      refine sn_iadd dX10_customRefusal_22 ?_
      refine sn_sipush dX10_customRefusal_23 (by decide) ?_
      refine sn_icmp_le (tgt := 34) dX10_customRefusal_26 (by decide) ?_ ?_
      · refine sn_iconst dX10_customRefusal_34 ?_
        exact sn_iret dX10_customRefusal_35
      · refine sn_bipush dX10_customRefusal_29 (by decide) ?_
        refine sn_goto (tgt := 35) dX10_customRefusal_31 (by decide) ?_
        exact sn_iret dX10_customRefusal_35
    · refine sn_bipush dX10_customRefusal_11 (by decide) ?_
      exact sn_iret dX10_customRefusal_13
theorem dX10_custom_0 : decode cX10_custom 0 = .ok (.iload_n 2, 1) := by decide +kernel
theorem dX10_custom_1 : decode cX10_custom 1 = .ok (.bipush 10, 2) := by decide +kernel
theorem dX10_custom_3 : decode cX10_custom 3 = .ok (.if_icmp .lt 21, 3) := by decide +kernel
theorem dX10_custom_6 : decode cX10_custom 6 = .ok (.aload_n 0, 1) := by decide +kernel
theorem dX10_custom_7 : decode cX10_custom 7 = .ok (.getfield 19, 3) := by decide +kernel
theorem dX10_custom_10 : decode cX10_custom 10 = .ok (.iload_n 2, 1) := by decide +kernel
theorem dX10_custom_11 : decode cX10_custom 11 = .ok (.bipush 10, 2) := by decide +kernel
theorem dX10_custom_13 : decode cX10_custom 13 = .ok (.isub, 1) := by decide +kernel
theorem dX10_custom_14 : decode cX10_custom 14 = .ok (.invokevirtual 101, 3) := by decide +kernel
theorem dX10_custom_17 : decode cX10_custom 17 = .ok (.ifCond .eq 7, 3) := by decide +kernel
theorem dX10_custom_20 : decode cX10_custom 20 = .ok (.iconst 1, 1) := by decide +kernel
theorem dX10_custom_21 : decode cX10_custom 21 = .ok (.goto 4, 3) := by decide +kernel
theorem dX10_custom_24 : decode cX10_custom 24 = .ok (.iconst 0, 1) := by decide +kernel
theorem dX10_custom_25 : decode cX10_custom 25 = .ok (.istore_n 3, 1) := by decide +kernel
theorem dX10_custom_26 : decode cX10_custom 26 = .ok (.iload_n 3, 1) := by decide +kernel
theorem dX10_custom_27 : decode cX10_custom 27 = .ok (.ifCond .ne 15, 3) := by decide +kernel
theorem dX10_custom_30 : decode cX10_custom 30 = .ok (.iload_n 2, 1) := by decide +kernel
theorem dX10_custom_31 : decode cX10_custom 31 = .ok (.ifCond .lt 8, 3) := by decide +kernel
theorem dX10_custom_34 : decode cX10_custom 34 = .ok (.iload_n 2, 1) := by decide +kernel
theorem dX10_custom_35 : decode cX10_custom 35 = .ok (.iconst 3, 1) := by decide +kernel
theorem dX10_custom_36 : decode cX10_custom 36 = .ok (.if_icmp .le 6, 3) := by decide +kernel
theorem dX10_custom_39 : decode cX10_custom 39 = .ok (.bipush (-2), 2) := by decide +kernel
theorem dX10_custom_41 : decode cX10_custom 41 = .ok (.ireturn, 1) := by decide +kernel
theorem dX10_custom_42 : decode cX10_custom 42 = .ok (.aload_n 0, 1) := by decide +kernel
theorem dX10_custom_43 : decode cX10_custom 43 = .ok (.iload_n 1, 1) := by decide +kernel
theorem dX10_custom_44 : decode cX10_custom 44 = .ok (.invokevirtual 189, 3) := by decide +kernel
theorem dX10_custom_47 : decode cX10_custom 47 = .ok (.istore 4, 2) := by decide +kernel
theorem dX10_custom_49 : decode cX10_custom 49 = .ok (.iload 4, 2) := by decide +kernel
theorem dX10_custom_51 : decode cX10_custom 51 = .ok (.ifCond .eq 6, 3) := by decide +kernel
theorem dX10_custom_54 : decode cX10_custom 54 = .ok (.iload 4, 2) := by decide +kernel
theorem dX10_custom_56 : decode cX10_custom 56 = .ok (.ireturn, 1) := by decide +kernel
theorem dX10_custom_57 : decode cX10_custom 57 = .ok (.aload_n 0, 1) := by decide +kernel
theorem dX10_custom_58 : decode cX10_custom 58 = .ok (.getfield 23, 3) := by decide +kernel
theorem dX10_custom_61 : decode cX10_custom 61 = .ok (.aload_n 0, 1) := by decide +kernel
theorem dX10_custom_62 : decode cX10_custom 62 = .ok (.getfield 19, 3) := by decide +kernel
theorem dX10_custom_65 : decode cX10_custom 65 = .ok (.invokevirtual 91, 3) := by decide +kernel
theorem dX10_custom_68 : decode cX10_custom 68 = .ok (.aload_n 0, 1) := by decide +kernel
theorem dX10_custom_69 : decode cX10_custom 69 = .ok (.getfield 43, 3) := by decide +kernel
theorem dX10_custom_72 : decode cX10_custom 72 = .ok (.aload_n 0, 1) := by decide +kernel
theorem dX10_custom_73 : decode cX10_custom 73 = .ok (.getfield 23, 3) := by decide +kernel
theorem dX10_custom_76 : decode cX10_custom 76 = .ok (.iload_n 1, 1) := by decide +kernel
theorem dX10_custom_77 : decode cX10_custom 77 = .ok (.invokevirtual 192, 3) := by decide +kernel
theorem dX10_custom_80 : decode cX10_custom 80 = .ok (.iload_n 3, 1) := by decide +kernel
theorem dX10_custom_81 : decode cX10_custom 81 = .ok (.ifCond .eq 27, 3) := by decide +kernel
theorem dX10_custom_84 : decode cX10_custom 84 = .ok (.aload_n 0, 1) := by decide +kernel
theorem dX10_custom_85 : decode cX10_custom 85 = .ok (.getfield 23, 3) := by decide +kernel
theorem dX10_custom_88 : decode cX10_custom 88 = .ok (.iload_n 2, 1) := by decide +kernel
theorem dX10_custom_89 : decode cX10_custom 89 = .ok (.bipush 10, 2) := by decide +kernel
theorem dX10_custom_91 : decode cX10_custom 91 = .ok (.isub, 1) := by decide +kernel
theorem dX10_custom_92 : decode cX10_custom 92 = .ok (.invokevirtual 118, 3) := by decide +kernel
theorem dX10_custom_95 : decode cX10_custom 95 = .ok (.aload_n 0, 1) := by decide +kernel
theorem dX10_custom_96 : decode cX10_custom 96 = .ok (.getfield 19, 3) := by decide +kernel
theorem dX10_custom_99 : decode cX10_custom 99 = .ok (.iload_n 2, 1) := by decide +kernel
theorem dX10_custom_100 : decode cX10_custom 100 = .ok (.bipush 10, 2) := by decide +kernel
theorem dX10_custom_102 : decode cX10_custom 102 = .ok (.isub, 1) := by decide +kernel
theorem dX10_custom_103 : decode cX10_custom 103 = .ok (.invokevirtual 118, 3) := by decide +kernel
theorem dX10_custom_106 : decode cX10_custom 106 = .ok (.isub, 1) := by decide +kernel
theorem dX10_custom_107 : decode cX10_custom 107 = .ok (.ireturn, 1) := by decide +kernel
theorem dX10_custom_108 : decode cX10_custom 108 = .ok (.iload_n 2, 1) := by decide +kernel
theorem dX10_custom_109 : decode cX10_custom 109 = .ok (.tableswitch 59 0 2 #[27, 35, 51], 27) := by decide +kernel
theorem dX10_custom_136 : decode cX10_custom 136 = .ok (.aload_n 0, 1) := by decide +kernel
theorem dX10_custom_137 : decode cX10_custom 137 = .ok (.getfield 43, 3) := by decide +kernel
theorem dX10_custom_140 : decode cX10_custom 140 = .ok (.getfield 159, 3) := by decide +kernel
theorem dX10_custom_143 : decode cX10_custom 143 = .ok (.ireturn, 1) := by decide +kernel
theorem dX10_custom_144 : decode cX10_custom 144 = .ok (.aload_n 0, 1) := by decide +kernel
theorem dX10_custom_145 : decode cX10_custom 145 = .ok (.getfield 23, 3) := by decide +kernel
theorem dX10_custom_148 : decode cX10_custom 148 = .ok (.invokevirtual 196, 3) := by decide +kernel
theorem dX10_custom_151 : decode cX10_custom 151 = .ok (.aload_n 0, 1) := by decide +kernel
theorem dX10_custom_152 : decode cX10_custom 152 = .ok (.getfield 19, 3) := by decide +kernel
theorem dX10_custom_155 : decode cX10_custom 155 = .ok (.invokevirtual 196, 3) := by decide +kernel
theorem dX10_custom_158 : decode cX10_custom 158 = .ok (.isub, 1) := by decide +kernel
theorem dX10_custom_159 : decode cX10_custom 159 = .ok (.ireturn, 1) := by decide +kernel
theorem dX10_custom_160 : decode cX10_custom 160 = .ok (.aload_n 0, 1) := by decide +kernel
theorem dX10_custom_161 : decode cX10_custom 161 = .ok (.getfield 43, 3) := by decide +kernel
theorem dX10_custom_164 : decode cX10_custom 164 = .ok (.getfield 186, 3) := by decide +kernel
theorem dX10_custom_167 : decode cX10_custom 167 = .ok (.ireturn, 1) := by decide +kernel
theorem dX10_custom_168 : decode cX10_custom 168 = .ok (.aload_n 0, 1) := by decide +kernel
theorem dX10_custom_169 : decode cX10_custom 169 = .ok (.getfield 43, 3) := by decide +kernel
theorem dX10_custom_172 : decode cX10_custom 172 = .ok (.getfield 200, 3) := by decide +kernel
theorem dX10_custom_175 : decode cX10_custom 175 = .ok (.ireturn, 1) := by decide +kernel
def mX10_custom (n : Nat) (a : Nat) (b1 : Int) (b2 : Int) (μ : Mem) : Option (Int × Mem) :=
  jn (fun (v25 : Int) (μ25 : Mem) =>
  jn (fun (v42 : Unit) (μ42 : Mem) =>
  (inv μ42 11 a (mX10_customRefusal n a b1 μ42)).bind fun p44 =>
  if eq32 p44.1 0 then
    (gA p44.2 11 a 2).bind fun x58 =>
    (gA p44.2 11 a 1).bind fun x62 =>
    (inv p44.2 2 x58 (mX1_takeAll n x58 x62 p44.2)).bind fun p65 =>
    (gA p65.2 11 a 6).bind fun x69 =>
    (gA p65.2 11 a 2).bind fun x73 =>
    (inv p65.2 8 x69 (mX7_doCustom n x69 x73 b1 p65.2)).bind fun p77 =>
    if eq32 v25 0 then
      if eq32 b2 0 then
        (gA p77.2 11 a 6).bind fun x137 =>
        (gI p77.2 8 x137 3).bind fun x140 =>
        some (x140, p77.2)
      else
      if eq32 b2 1 then
        (gA p77.2 11 a 2).bind fun x145 =>
        (inv p77.2 2 x145 (mX1_allQuenched n x145 p77.2)).bind fun p148 =>
        (gA p148.2 11 a 1).bind fun x152 =>
        (inv p148.2 2 x152 (mX1_allQuenched n x152 p148.2)).bind fun p155 =>
        some ((p148.1 - p155.1), p155.2)
      else
      if eq32 b2 2 then
        (gA p77.2 11 a 6).bind fun x161 =>
        (gI p77.2 8 x161 4).bind fun x164 =>
        some (x164, p77.2)
      else
      (gA p77.2 11 a 6).bind fun x169 =>
      (gI p77.2 8 x169 5).bind fun x172 =>
      some (x172, p77.2)
    else
    (gA p77.2 11 a 2).bind fun x85 =>
    (inv p77.2 2 x85 (mX1_had n x85 (b2 - 10) p77.2)).bind fun p92 =>
    (gA p92.2 11 a 1).bind fun x96 =>
    (inv p92.2 2 x96 (mX1_had n x96 (b2 - 10) p92.2)).bind fun p103 =>
    some ((p92.1 - p103.1), p103.2)
  else
  some (p44.1, p44.2)) (fun j42 =>
  if eq32 v25 0 then
    if lt32 b2 0 then
      some ((-2), μ25)
    else
    if lt32 3 b2 then
      some ((-2), μ25)
    else
    j42 () μ25
  else
  j42 () μ25)) (fun j25 =>
  if lt32 b2 10 then
    j25 0 μ
  else
  (gA μ 11 a 1).bind fun x7 =>
  (inv μ 2 x7 (mX1_hasHouse n x7 (b2 - 10) μ)).bind fun p14 =>
  if eq32 p14.1 0 then
    j25 0 p14.2
  else
  j25 1 p14.2)
set_option maxRecDepth 100000 in
set_option maxHeartbeats 4000000 in
theorem cX10_custom_ok (n : Nat) (a : Nat) (b1 : Int) (b2 : Int) (μ : Mem) : Mc yX10_custom cX10_custom 5 (some .int) 6 156 eI [aA a, aI b1, aI b2] μ (mX10_custom n a b1 b2 μ) := by
  refine mc_of (L0 := [some (aA a), some (aI b1), some (aI b2), none, none]) (k := 2) (by decide) rfl rfl (fun X Γ => ?_)
  unfold mX10_custom
  refine sn_iload_n dX10_custom_0 rfl ?_
  refine sn_bipush dX10_custom_1 (by decide) ?_
  refine sn_jn (pcj := 25) (La := fun v25 : Int => [some (aA a), some (aI b1), some (aI b2), none, none]) (Sa := fun v25 : Int => [aI v25]) ?_ ?_
  · intro v25 μ25
    refine sn_istore_n (L' := [some (aA a), some (aI b1), some (aI b2), some (aI v25), none]) dX10_custom_25 (by decide) rfl ?_
    refine sn_iload_n dX10_custom_26 rfl ?_
    refine sn_jn (pcj := 42) (La := fun v42 : Unit => [some (aA a), some (aI b1), some (aI b2), some (aI v25), none]) (Sa := fun v42 : Unit => []) ?_ ?_
    · intro v42 μ42
      refine sn_aload_n dX10_custom_42 rfl ?_
      refine sn_iload_n dX10_custom_43 rfl ?_
      refine sn_callVI (vs := [aI b1]) (ci := 10) (cX10_customRefusal_ok n a b1 μ42) dX10_custom_44 cw_X10_189 rfl rfl rfl (by decide) (by decide) (Nat.le_of_ble_eq_true rfl) (fun p44 => ?_)
      refine sn_istore (L' := [some (aA a), some (aI b1), some (aI b2), some (aI v25), some (aI p44.1)]) dX10_custom_47 (by decide) rfl ?_
      refine sn_iload dX10_custom_49 rfl ?_
      refine sn_if_eq (tgt := 57) dX10_custom_51 (by decide) ?_ ?_
      · refine sn_aload_n dX10_custom_57 rfl ?_
        refine sn_getA (ci := 10) (j := 2) dX10_custom_58 fl_X10_23 (by decide) (fun x58 => ?_)
        refine sn_aload_n dX10_custom_61 rfl ?_
        refine sn_getA (ci := 10) (j := 1) dX10_custom_62 fl_X10_19 (by decide) (fun x62 => ?_)
        refine sn_callVV (vs := [aA x62]) (ci := 1) (cX1_takeAll_ok n x58 x62 p44.2) dX10_custom_65 cw_X10_91 rfl rfl rfl (by decide) (by decide) (Nat.le_of_ble_eq_true rfl) (fun p65 => ?_)
        refine sn_aload_n dX10_custom_68 rfl ?_
        refine sn_getA (ci := 10) (j := 6) dX10_custom_69 fl_X10_43 (by decide) (fun x69 => ?_)
        refine sn_aload_n dX10_custom_72 rfl ?_
        refine sn_getA (ci := 10) (j := 2) dX10_custom_73 fl_X10_23 (by decide) (fun x73 => ?_)
        refine sn_iload_n dX10_custom_76 rfl ?_
        refine sn_callVV (vs := [aA x73, aI b1]) (ci := 7) (cX7_doCustom_ok n x69 x73 b1 p65.2) dX10_custom_77 cw_X10_192 rfl rfl rfl (by decide) (by decide) (Nat.le_of_ble_eq_true rfl) (fun p77 => ?_)
        refine sn_iload_n dX10_custom_80 rfl ?_
        refine sn_if_eq (tgt := 108) dX10_custom_81 (by decide) ?_ ?_
        · refine sn_iload_n dX10_custom_108 rfl ?_
          refine sn_ite (fun c109_0 => ?_) (fun c109_0 => ?_)
          · refine sn_swIn (k := 0) (off := 27) (tgt := 136) dX10_custom_109 c109_0 (by decide) (by decide) rfl (by decide) ?_
            refine sn_aload_n dX10_custom_136 rfl ?_
            refine sn_getA (ci := 10) (j := 6) dX10_custom_137 fl_X10_43 (by decide) (fun x137 => ?_)
            refine sn_getI (ci := 7) (j := 3) dX10_custom_140 fl_X10_159 rfl (fun x140 => ?_)
            exact sn_iret dX10_custom_143
          refine sn_ite (fun c109_1 => ?_) (fun c109_1 => ?_)
          · refine sn_swIn (k := 1) (off := 35) (tgt := 144) dX10_custom_109 c109_1 (by decide) (by decide) rfl (by decide) ?_
            refine sn_aload_n dX10_custom_144 rfl ?_
            refine sn_getA (ci := 10) (j := 2) dX10_custom_145 fl_X10_23 (by decide) (fun x145 => ?_)
            refine sn_callVI (vs := []) (ci := 1) (cX1_allQuenched_ok n x145 p77.2) dX10_custom_148 cw_X10_196 rfl rfl rfl (by decide) (by decide) (Nat.le_of_ble_eq_true rfl) (fun p148 => ?_)
            refine sn_aload_n dX10_custom_151 rfl ?_
            refine sn_getA (ci := 10) (j := 1) dX10_custom_152 fl_X10_19 (by decide) (fun x152 => ?_)
            refine sn_callVI (vs := []) (ci := 1) (cX1_allQuenched_ok n x152 p148.2) dX10_custom_155 cw_X10_196 rfl rfl rfl (by decide) (by decide) (Nat.le_of_ble_eq_true rfl) (fun p155 => ?_)
            refine sn_isub dX10_custom_158 ?_
            exact sn_iret dX10_custom_159
          refine sn_ite (fun c109_2 => ?_) (fun c109_2 => ?_)
          · refine sn_swIn (k := 2) (off := 51) (tgt := 160) dX10_custom_109 c109_2 (by decide) (by decide) rfl (by decide) ?_
            refine sn_aload_n dX10_custom_160 rfl ?_
            refine sn_getA (ci := 10) (j := 6) dX10_custom_161 fl_X10_43 (by decide) (fun x161 => ?_)
            refine sn_getI (ci := 7) (j := 4) dX10_custom_164 fl_X10_186 rfl (fun x164 => ?_)
            exact sn_iret dX10_custom_167
          refine sn_swOut (tgt := 168) dX10_custom_109 (by have e0 := sw_ne c109_0 (by decide); have e1 := sw_ne c109_1 (by decide); have e2 := sw_ne c109_2 (by decide); omega) (by decide) ?_
          refine sn_aload_n dX10_custom_168 rfl ?_
          refine sn_getA (ci := 10) (j := 6) dX10_custom_169 fl_X10_43 (by decide) (fun x169 => ?_)
          refine sn_getI (ci := 7) (j := 5) dX10_custom_172 fl_X10_200 rfl (fun x172 => ?_)
          exact sn_iret dX10_custom_175
        · refine sn_aload_n dX10_custom_84 rfl ?_
          refine sn_getA (ci := 10) (j := 2) dX10_custom_85 fl_X10_23 (by decide) (fun x85 => ?_)
          refine sn_iload_n dX10_custom_88 rfl ?_
          refine sn_bipush dX10_custom_89 (by decide) ?_
          refine sn_isub dX10_custom_91 ?_
          refine sn_callVI (vs := [aI (b2 - 10)]) (ci := 1) (cX1_had_ok n x85 (b2 - 10) p77.2) dX10_custom_92 cw_X10_118 rfl rfl rfl (by decide) (by decide) (Nat.le_of_ble_eq_true rfl) (fun p92 => ?_)
          refine sn_aload_n dX10_custom_95 rfl ?_
          refine sn_getA (ci := 10) (j := 1) dX10_custom_96 fl_X10_19 (by decide) (fun x96 => ?_)
          refine sn_iload_n dX10_custom_99 rfl ?_
          refine sn_bipush dX10_custom_100 (by decide) ?_
          refine sn_isub dX10_custom_102 ?_
          refine sn_callVI (vs := [aI (b2 - 10)]) (ci := 1) (cX1_had_ok n x96 (b2 - 10) p92.2) dX10_custom_103 cw_X10_118 rfl rfl rfl (by decide) (by decide) (Nat.le_of_ble_eq_true rfl) (fun p103 => ?_)
          refine sn_isub dX10_custom_106 ?_
          exact sn_iret dX10_custom_107
      · refine sn_iload dX10_custom_54 rfl ?_
        exact sn_iret dX10_custom_56
    intro j42 hj42
    refine sn_if_ne (tgt := 42) dX10_custom_27 (by decide) ?_ ?_
    · exact hj42 () μ25
    · refine sn_iload_n dX10_custom_30 rfl ?_
      refine sn_if_lt (tgt := 39) dX10_custom_31 (by decide) ?_ ?_
      · refine sn_bipush dX10_custom_39 (by decide) ?_
        exact sn_iret dX10_custom_41
      · refine sn_iload_n dX10_custom_34 rfl ?_
        refine sn_iconst dX10_custom_35 ?_
        refine sn_icmp_le (tgt := 42) dX10_custom_36 (by decide) ?_ ?_
        · exact hj42 () μ25
        · refine sn_bipush dX10_custom_39 (by decide) ?_
          exact sn_iret dX10_custom_41
  intro j25 hj25
  refine sn_icmp_lt (tgt := 24) dX10_custom_3 (by decide) ?_ ?_
  · refine sn_iconst dX10_custom_24 ?_
    exact hj25 0 μ
  · refine sn_aload_n dX10_custom_6 rfl ?_
    refine sn_getA (ci := 10) (j := 1) dX10_custom_7 fl_X10_19 (by decide) (fun x7 => ?_)
    refine sn_iload_n dX10_custom_10 rfl ?_
    refine sn_bipush dX10_custom_11 (by decide) ?_
    refine sn_isub dX10_custom_13 ?_
    refine sn_callVI (vs := [aI (b2 - 10)]) (ci := 1) (cX1_hasHouse_ok n x7 (b2 - 10) μ) dX10_custom_14 cw_X10_101 rfl rfl rfl (by decide) (by decide) (Nat.le_of_ble_eq_true rfl) (fun p14 => ?_)
    refine sn_if_eq (tgt := 24) dX10_custom_17 (by decide) ?_ ?_
    · refine sn_iconst dX10_custom_24 ?_
      exact hj25 0 p14.2
    · refine sn_iconst dX10_custom_20 ?_
      refine sn_goto (tgt := 25) dX10_custom_21 (by decide) ?_
      exact hj25 1 p14.2
theorem dX10_cut_0 : decode cX10_cut 0 = .ok (.aload_n 0, 1) := by decide +kernel
theorem dX10_cut_1 : decode cX10_cut 1 = .ok (.getfield 19, 3) := by decide +kernel
theorem dX10_cut_4 : decode cX10_cut 4 = .ok (.iload_n 1, 1) := by decide +kernel
theorem dX10_cut_5 : decode cX10_cut 5 = .ok (.invokevirtual 131, 3) := by decide +kernel
theorem dX10_cut_8 : decode cX10_cut 8 = .ok (.ifCond .ne 6, 3) := by decide +kernel
theorem dX10_cut_11 : decode cX10_cut 11 = .ok (.bipush (-2), 2) := by decide +kernel
theorem dX10_cut_13 : decode cX10_cut 13 = .ok (.ireturn, 1) := by decide +kernel
theorem dX10_cut_14 : decode cX10_cut 14 = .ok (.aload_n 0, 1) := by decide +kernel
theorem dX10_cut_15 : decode cX10_cut 15 = .ok (.getfield 19, 3) := by decide +kernel
theorem dX10_cut_18 : decode cX10_cut 18 = .ok (.getfield 149, 3) := by decide +kernel
theorem dX10_cut_21 : decode cX10_cut 21 = .ok (.iload_n 1, 1) := by decide +kernel
theorem dX10_cut_22 : decode cX10_cut 22 = .ok (.baload, 1) := by decide +kernel
theorem dX10_cut_23 : decode cX10_cut 23 = .ok (.ifCond .eq 6, 3) := by decide +kernel
theorem dX10_cut_26 : decode cX10_cut 26 = .ok (.bipush (-5), 2) := by decide +kernel
theorem dX10_cut_28 : decode cX10_cut 28 = .ok (.ireturn, 1) := by decide +kernel
theorem dX10_cut_29 : decode cX10_cut 29 = .ok (.aload_n 0, 1) := by decide +kernel
theorem dX10_cut_30 : decode cX10_cut 30 = .ok (.getfield 19, 3) := by decide +kernel
theorem dX10_cut_33 : decode cX10_cut 33 = .ok (.getfield 149, 3) := by decide +kernel
theorem dX10_cut_36 : decode cX10_cut 36 = .ok (.iload_n 1, 1) := by decide +kernel
theorem dX10_cut_37 : decode cX10_cut 37 = .ok (.iconst 1, 1) := by decide +kernel
theorem dX10_cut_38 : decode cX10_cut 38 = .ok (.bastore, 1) := by decide +kernel
theorem dX10_cut_39 : decode cX10_cut 39 = .ok (.iconst 0, 1) := by decide +kernel
theorem dX10_cut_40 : decode cX10_cut 40 = .ok (.ireturn, 1) := by decide +kernel
def mX10_cut (n : Nat) (a : Nat) (b1 : Int) (μ : Mem) : Option (Int × Mem) :=
  (gA μ 11 a 1).bind fun x1 =>
  (inv μ 2 x1 (mX1_hasRope n x1 b1 μ)).bind fun p5 =>
  if eq32 p5.1 0 then
    some ((-2), p5.2)
  else
  (gA p5.2 11 a 1).bind fun x15 =>
  (gA p5.2 2 x15 14).bind fun x18 =>
  (ldI p5.2 2 x18 b1).bind fun x22 =>
  if eq32 x22 0 then
    (gA p5.2 11 a 1).bind fun x30 =>
    (gA p5.2 2 x30 14).bind fun x33 =>
    (stZ p5.2 x33 b1 1).bind fun μ38 =>
    some (0, μ38)
  else
  some ((-5), p5.2)
set_option maxRecDepth 100000 in
set_option maxHeartbeats 4000000 in
theorem cX10_cut_ok (n : Nat) (a : Nat) (b1 : Int) (μ : Mem) : Mc yX10_cut cX10_cut 2 (some .int) 1 21 eI [aA a, aI b1] μ (mX10_cut n a b1 μ) := by
  refine mc_of (L0 := [some (aA a), some (aI b1)]) (k := 0) (by decide) rfl rfl (fun X Γ => ?_)
  unfold mX10_cut
  refine sn_aload_n dX10_cut_0 rfl ?_
  refine sn_getA (ci := 10) (j := 1) dX10_cut_1 fl_X10_19 (by decide) (fun x1 => ?_)
  refine sn_iload_n dX10_cut_4 rfl ?_
  refine sn_callVI (vs := [aI b1]) (ci := 1) (cX1_hasRope_ok n x1 b1 μ) dX10_cut_5 cw_X10_131 rfl rfl rfl (by decide) (by decide) (Nat.le_of_ble_eq_true rfl) (fun p5 => ?_)
  refine sn_if_ne (tgt := 14) dX10_cut_8 (by decide) ?_ ?_
  · refine sn_aload_n dX10_cut_14 rfl ?_
    refine sn_getA (ci := 10) (j := 1) dX10_cut_15 fl_X10_19 (by decide) (fun x15 => ?_)
    refine sn_getA (ci := 1) (j := 14) dX10_cut_18 fl_X10_149 (by decide) (fun x18 => ?_)
    refine sn_iload_n dX10_cut_21 rfl ?_
    refine sn_zald dX10_cut_22 (fun x22 => ?_)
    refine sn_if_eq (tgt := 29) dX10_cut_23 (by decide) ?_ ?_
    · refine sn_aload_n dX10_cut_29 rfl ?_
      refine sn_getA (ci := 10) (j := 1) dX10_cut_30 fl_X10_19 (by decide) (fun x30 => ?_)
      refine sn_getA (ci := 1) (j := 14) dX10_cut_33 fl_X10_149 (by decide) (fun x33 => ?_)
      refine sn_iload_n dX10_cut_36 rfl ?_
      refine sn_iconst dX10_cut_37 ?_
      refine sn_zast dX10_cut_38 (fun μ38 => ?_)
      refine sn_iconst dX10_cut_39 ?_
      exact sn_iret dX10_cut_40
    · refine sn_bipush dX10_cut_26 (by decide) ?_
      exact sn_iret dX10_cut_28
  · refine sn_bipush dX10_cut_11 (by decide) ?_
    exact sn_iret dX10_cut_13
theorem dX10_drought_0 : decode cX10_drought 0 = .ok (.iload_n 2, 1) := by decide +kernel
theorem dX10_drought_1 : decode cX10_drought 1 = .ok (.iconst 1, 1) := by decide +kernel
theorem dX10_drought_2 : decode cX10_drought 2 = .ok (.if_icmp .lt 9, 3) := by decide +kernel
theorem dX10_drought_5 : decode cX10_drought 5 = .ok (.iload_n 2, 1) := by decide +kernel
theorem dX10_drought_6 : decode cX10_drought 6 = .ok (.bipush 60, 2) := by decide +kernel
theorem dX10_drought_8 : decode cX10_drought 8 = .ok (.if_icmp .le 6, 3) := by decide +kernel
theorem dX10_drought_11 : decode cX10_drought 11 = .ok (.bipush (-3), 2) := by decide +kernel
theorem dX10_drought_13 : decode cX10_drought 13 = .ok (.ireturn, 1) := by decide +kernel
theorem dX10_drought_14 : decode cX10_drought 14 = .ok (.aload_n 0, 1) := by decide +kernel
theorem dX10_drought_15 : decode cX10_drought 15 = .ok (.getfield 19, 3) := by decide +kernel
theorem dX10_drought_18 : decode cX10_drought 18 = .ok (.getfield 152, 3) := by decide +kernel
theorem dX10_drought_21 : decode cX10_drought 21 = .ok (.iload_n 2, 1) := by decide +kernel
theorem dX10_drought_22 : decode cX10_drought 22 = .ok (.iadd, 1) := by decide +kernel
theorem dX10_drought_23 : decode cX10_drought 23 = .ok (.sipush 9999, 3) := by decide +kernel
theorem dX10_drought_26 : decode cX10_drought 26 = .ok (.if_icmp .le 6, 3) := by decide +kernel
theorem dX10_drought_29 : decode cX10_drought 29 = .ok (.bipush (-5), 2) := by decide +kernel
theorem dX10_drought_31 : decode cX10_drought 31 = .ok (.ireturn, 1) := by decide +kernel
theorem dX10_drought_32 : decode cX10_drought 32 = .ok (.aload_n 0, 1) := by decide +kernel
theorem dX10_drought_33 : decode cX10_drought 33 = .ok (.getfield 43, 3) := by decide +kernel
theorem dX10_drought_36 : decode cX10_drought 36 = .ok (.aload_n 0, 1) := by decide +kernel
theorem dX10_drought_37 : decode cX10_drought 37 = .ok (.getfield 19, 3) := by decide +kernel
theorem dX10_drought_40 : decode cX10_drought 40 = .ok (.iload_n 1, 1) := by decide +kernel
theorem dX10_drought_41 : decode cX10_drought 41 = .ok (.iload_n 2, 1) := by decide +kernel
theorem dX10_drought_42 : decode cX10_drought 42 = .ok (.invokevirtual 203, 3) := by decide +kernel
theorem dX10_drought_45 : decode cX10_drought 45 = .ok (.aload_n 0, 1) := by decide +kernel
theorem dX10_drought_46 : decode cX10_drought 46 = .ok (.getfield 43, 3) := by decide +kernel
theorem dX10_drought_49 : decode cX10_drought 49 = .ok (.getfield 159, 3) := by decide +kernel
theorem dX10_drought_52 : decode cX10_drought 52 = .ok (.ireturn, 1) := by decide +kernel
def mX10_drought (n : Nat) (a : Nat) (b1 : Int) (b2 : Int) (μ : Mem) : Option (Int × Mem) :=
  if lt32 b2 1 then
    some ((-3), μ)
  else
  if lt32 60 b2 then
    some ((-3), μ)
  else
  (gA μ 11 a 1).bind fun x15 =>
  (gI μ 2 x15 2).bind fun x18 =>
  if lt32 9999 (x18 + b2) then
    some ((-5), μ)
  else
  (gA μ 11 a 6).bind fun x33 =>
  (gA μ 11 a 1).bind fun x37 =>
  (inv μ 8 x33 (mX7_doDrawn n x33 x37 b1 b2 μ)).bind fun p42 =>
  (gA p42.2 11 a 6).bind fun x46 =>
  (gI p42.2 8 x46 3).bind fun x49 =>
  some (x49, p42.2)
set_option maxRecDepth 100000 in
set_option maxHeartbeats 4000000 in
theorem cX10_drought_ok (n : Nat) (a : Nat) (b1 : Int) (b2 : Int) (μ : Mem) : Mc yX10_drought cX10_drought 3 (some .int) 6 158 eI [aA a, aI b1, aI b2] μ (mX10_drought n a b1 b2 μ) := by
  refine mc_of (L0 := [some (aA a), some (aI b1), some (aI b2)]) (k := 0) (by decide) rfl rfl (fun X Γ => ?_)
  unfold mX10_drought
  refine sn_iload_n dX10_drought_0 rfl ?_
  refine sn_iconst dX10_drought_1 ?_
  refine sn_icmp_lt (tgt := 11) dX10_drought_2 (by decide) ?_ ?_
  · refine sn_bipush dX10_drought_11 (by decide) ?_
    exact sn_iret dX10_drought_13
  · refine sn_iload_n dX10_drought_5 rfl ?_
    refine sn_bipush dX10_drought_6 (by decide) ?_
    refine sn_icmp_le (tgt := 14) dX10_drought_8 (by decide) ?_ ?_
    · refine sn_aload_n dX10_drought_14 rfl ?_
      refine sn_getA (ci := 10) (j := 1) dX10_drought_15 fl_X10_19 (by decide) (fun x15 => ?_)
      refine sn_getI (ci := 1) (j := 2) dX10_drought_18 fl_X10_152 rfl (fun x18 => ?_)
      refine sn_iload_n dX10_drought_21 rfl ?_
      refine sn_iadd dX10_drought_22 ?_
      refine sn_sipush dX10_drought_23 (by decide) ?_
      refine sn_icmp_le (tgt := 32) dX10_drought_26 (by decide) ?_ ?_
      · refine sn_aload_n dX10_drought_32 rfl ?_
        refine sn_getA (ci := 10) (j := 6) dX10_drought_33 fl_X10_43 (by decide) (fun x33 => ?_)
        refine sn_aload_n dX10_drought_36 rfl ?_
        refine sn_getA (ci := 10) (j := 1) dX10_drought_37 fl_X10_19 (by decide) (fun x37 => ?_)
        refine sn_iload_n dX10_drought_40 rfl ?_
        refine sn_iload_n dX10_drought_41 rfl ?_
        refine sn_callVV (vs := [aA x37, aI b1, aI b2]) (ci := 7) (cX7_doDrawn_ok n x33 x37 b1 b2 μ) dX10_drought_42 cw_X10_203 rfl rfl rfl (by decide) (by decide) (Nat.le_of_ble_eq_true rfl) (fun p42 => ?_)
        refine sn_aload_n dX10_drought_45 rfl ?_
        refine sn_getA (ci := 10) (j := 6) dX10_drought_46 fl_X10_43 (by decide) (fun x46 => ?_)
        refine sn_getI (ci := 7) (j := 3) dX10_drought_49 fl_X10_159 rfl (fun x49 => ?_)
        exact sn_iret dX10_drought_52
      · refine sn_bipush dX10_drought_29 (by decide) ?_
        exact sn_iret dX10_drought_31
    · refine sn_bipush dX10_drought_11 (by decide) ?_
      exact sn_iret dX10_drought_13
theorem dX10_dwellings_0 : decode cX10_dwellings 0 = .ok (.iload_n 1, 1) := by decide +kernel
theorem dX10_dwellings_1 : decode cX10_dwellings 1 = .ok (.bipush 10, 2) := by decide +kernel
theorem dX10_dwellings_3 : decode cX10_dwellings 3 = .ok (.if_icmp .lt 21, 3) := by decide +kernel
theorem dX10_dwellings_6 : decode cX10_dwellings 6 = .ok (.aload_n 0, 1) := by decide +kernel
theorem dX10_dwellings_7 : decode cX10_dwellings 7 = .ok (.getfield 19, 3) := by decide +kernel
theorem dX10_dwellings_10 : decode cX10_dwellings 10 = .ok (.iload_n 1, 1) := by decide +kernel
theorem dX10_dwellings_11 : decode cX10_dwellings 11 = .ok (.bipush 10, 2) := by decide +kernel
theorem dX10_dwellings_13 : decode cX10_dwellings 13 = .ok (.isub, 1) := by decide +kernel
theorem dX10_dwellings_14 : decode cX10_dwellings 14 = .ok (.invokevirtual 101, 3) := by decide +kernel
theorem dX10_dwellings_17 : decode cX10_dwellings 17 = .ok (.ifCond .eq 7, 3) := by decide +kernel
theorem dX10_dwellings_20 : decode cX10_dwellings 20 = .ok (.iconst 1, 1) := by decide +kernel
theorem dX10_dwellings_21 : decode cX10_dwellings 21 = .ok (.goto 4, 3) := by decide +kernel
theorem dX10_dwellings_24 : decode cX10_dwellings 24 = .ok (.iconst 0, 1) := by decide +kernel
theorem dX10_dwellings_25 : decode cX10_dwellings 25 = .ok (.istore_n 2, 1) := by decide +kernel
theorem dX10_dwellings_26 : decode cX10_dwellings 26 = .ok (.iload_n 2, 1) := by decide +kernel
theorem dX10_dwellings_27 : decode cX10_dwellings 27 = .ok (.ifCond .ne 15, 3) := by decide +kernel
theorem dX10_dwellings_30 : decode cX10_dwellings 30 = .ok (.iload_n 1, 1) := by decide +kernel
theorem dX10_dwellings_31 : decode cX10_dwellings 31 = .ok (.ifCond .eq 11, 3) := by decide +kernel
theorem dX10_dwellings_34 : decode cX10_dwellings 34 = .ok (.iload_n 1, 1) := by decide +kernel
theorem dX10_dwellings_35 : decode cX10_dwellings 35 = .ok (.iconst 1, 1) := by decide +kernel
theorem dX10_dwellings_36 : decode cX10_dwellings 36 = .ok (.if_icmp .eq 6, 3) := by decide +kernel
theorem dX10_dwellings_39 : decode cX10_dwellings 39 = .ok (.bipush (-2), 2) := by decide +kernel
theorem dX10_dwellings_41 : decode cX10_dwellings 41 = .ok (.ireturn, 1) := by decide +kernel
theorem dX10_dwellings_42 : decode cX10_dwellings 42 = .ok (.aload_n 0, 1) := by decide +kernel
theorem dX10_dwellings_43 : decode cX10_dwellings 43 = .ok (.getfield 19, 3) := by decide +kernel
theorem dX10_dwellings_46 : decode cX10_dwellings 46 = .ok (.getfield 274, 3) := by decide +kernel
theorem dX10_dwellings_49 : decode cX10_dwellings 49 = .ok (.bipush 7, 2) := by decide +kernel
theorem dX10_dwellings_51 : decode cX10_dwellings 51 = .ok (.if_icmp .le 6, 3) := by decide +kernel
theorem dX10_dwellings_54 : decode cX10_dwellings 54 = .ok (.bipush (-4), 2) := by decide +kernel
theorem dX10_dwellings_56 : decode cX10_dwellings 56 = .ok (.ireturn, 1) := by decide +kernel
theorem dX10_dwellings_57 : decode cX10_dwellings 57 = .ok (.aload_n 0, 1) := by decide +kernel
theorem dX10_dwellings_58 : decode cX10_dwellings 58 = .ok (.getfield 64, 3) := by decide +kernel
theorem dX10_dwellings_61 : decode cX10_dwellings 61 = .ok (.aload_n 0, 1) := by decide +kernel
theorem dX10_dwellings_62 : decode cX10_dwellings 62 = .ok (.getfield 19, 3) := by decide +kernel
theorem dX10_dwellings_65 : decode cX10_dwellings 65 = .ok (.invokevirtual 285, 3) := by decide +kernel
theorem dX10_dwellings_68 : decode cX10_dwellings 68 = .ok (.iload_n 2, 1) := by decide +kernel
theorem dX10_dwellings_69 : decode cX10_dwellings 69 = .ok (.ifCond .eq 16, 3) := by decide +kernel
theorem dX10_dwellings_72 : decode cX10_dwellings 72 = .ok (.aload_n 0, 1) := by decide +kernel
theorem dX10_dwellings_73 : decode cX10_dwellings 73 = .ok (.getfield 64, 3) := by decide +kernel
theorem dX10_dwellings_76 : decode cX10_dwellings 76 = .ok (.getfield 288, 3) := by decide +kernel
theorem dX10_dwellings_79 : decode cX10_dwellings 79 = .ok (.iload_n 1, 1) := by decide +kernel
theorem dX10_dwellings_80 : decode cX10_dwellings 80 = .ok (.bipush 10, 2) := by decide +kernel
theorem dX10_dwellings_82 : decode cX10_dwellings 82 = .ok (.isub, 1) := by decide +kernel
theorem dX10_dwellings_83 : decode cX10_dwellings 83 = .ok (.iaload, 1) := by decide +kernel
theorem dX10_dwellings_84 : decode cX10_dwellings 84 = .ok (.ireturn, 1) := by decide +kernel
theorem dX10_dwellings_85 : decode cX10_dwellings 85 = .ok (.iload_n 1, 1) := by decide +kernel
theorem dX10_dwellings_86 : decode cX10_dwellings 86 = .ok (.ifCond .ne 13, 3) := by decide +kernel
theorem dX10_dwellings_89 : decode cX10_dwellings 89 = .ok (.aload_n 0, 1) := by decide +kernel
theorem dX10_dwellings_90 : decode cX10_dwellings 90 = .ok (.getfield 64, 3) := by decide +kernel
theorem dX10_dwellings_93 : decode cX10_dwellings 93 = .ok (.getfield 291, 3) := by decide +kernel
theorem dX10_dwellings_96 : decode cX10_dwellings 96 = .ok (.goto 10, 3) := by decide +kernel
theorem dX10_dwellings_99 : decode cX10_dwellings 99 = .ok (.aload_n 0, 1) := by decide +kernel
theorem dX10_dwellings_100 : decode cX10_dwellings 100 = .ok (.getfield 64, 3) := by decide +kernel
theorem dX10_dwellings_103 : decode cX10_dwellings 103 = .ok (.getfield 294, 3) := by decide +kernel
theorem dX10_dwellings_106 : decode cX10_dwellings 106 = .ok (.ireturn, 1) := by decide +kernel
def mX10_dwellings (n : Nat) (a : Nat) (b1 : Int) (μ : Mem) : Option (Int × Mem) :=
  jn (fun (v25 : Int) (μ25 : Mem) =>
  jn (fun (v42 : Unit) (μ42 : Mem) =>
  (gA μ42 11 a 1).bind fun x43 =>
  (gI μ42 2 x43 0).bind fun x46 =>
  if lt32 7 x46 then
    some ((-4), μ42)
  else
  (gA μ42 11 a 9).bind fun x58 =>
  (gA μ42 11 a 1).bind fun x62 =>
  (inv μ42 1 x58 (mX0_settle n x58 x62 μ42)).bind fun p65 =>
  if eq32 v25 0 then
    if eq32 b1 0 then
      (gA p65.2 11 a 9).bind fun x90 =>
      (gI p65.2 1 x90 0).bind fun x93 =>
      some (x93, p65.2)
    else
    (gA p65.2 11 a 9).bind fun x100 =>
    (gI p65.2 1 x100 1).bind fun x103 =>
    some (x103, p65.2)
  else
  (gA p65.2 11 a 9).bind fun x73 =>
  (gA p65.2 1 x73 2).bind fun x76 =>
  (ldI p65.2 0 x76 (b1 - 10)).bind fun x83 =>
  some (x83, p65.2)) (fun j42 =>
  if eq32 v25 0 then
    if eq32 b1 0 then
      j42 () μ25
    else
    if eq32 b1 1 then
      j42 () μ25
    else
    some ((-2), μ25)
  else
  j42 () μ25)) (fun j25 =>
  if lt32 b1 10 then
    j25 0 μ
  else
  (gA μ 11 a 1).bind fun x7 =>
  (inv μ 2 x7 (mX1_hasHouse n x7 (b1 - 10) μ)).bind fun p14 =>
  if eq32 p14.1 0 then
    j25 0 p14.2
  else
  j25 1 p14.2)
set_option maxRecDepth 100000 in
set_option maxHeartbeats 4000000 in
theorem cX10_dwellings_ok (n : Nat) (a : Nat) (b1 : Int) (μ : Mem) : Mc yX10_dwellings cX10_dwellings 3 (some .int) 26 1008 eI [aA a, aI b1] μ (mX10_dwellings n a b1 μ) := by
  refine mc_of (L0 := [some (aA a), some (aI b1), none]) (k := 1) (by decide) rfl rfl (fun X Γ => ?_)
  unfold mX10_dwellings
  refine sn_iload_n dX10_dwellings_0 rfl ?_
  refine sn_bipush dX10_dwellings_1 (by decide) ?_
  refine sn_jn (pcj := 25) (La := fun v25 : Int => [some (aA a), some (aI b1), none]) (Sa := fun v25 : Int => [aI v25]) ?_ ?_
  · intro v25 μ25
    refine sn_istore_n (L' := [some (aA a), some (aI b1), some (aI v25)]) dX10_dwellings_25 (by decide) rfl ?_
    refine sn_iload_n dX10_dwellings_26 rfl ?_
    refine sn_jn (pcj := 42) (La := fun v42 : Unit => [some (aA a), some (aI b1), some (aI v25)]) (Sa := fun v42 : Unit => []) ?_ ?_
    · intro v42 μ42
      refine sn_aload_n dX10_dwellings_42 rfl ?_
      refine sn_getA (ci := 10) (j := 1) dX10_dwellings_43 fl_X10_19 (by decide) (fun x43 => ?_)
      refine sn_getI (ci := 1) (j := 0) dX10_dwellings_46 fl_X10_274 rfl (fun x46 => ?_)
      refine sn_bipush dX10_dwellings_49 (by decide) ?_
      refine sn_icmp_le (tgt := 57) dX10_dwellings_51 (by decide) ?_ ?_
      · refine sn_aload_n dX10_dwellings_57 rfl ?_
        refine sn_getA (ci := 10) (j := 9) dX10_dwellings_58 fl_X10_64 (by decide) (fun x58 => ?_)
        refine sn_aload_n dX10_dwellings_61 rfl ?_
        refine sn_getA (ci := 10) (j := 1) dX10_dwellings_62 fl_X10_19 (by decide) (fun x62 => ?_)
        refine sn_callVV (vs := [aA x62]) (ci := 0) (cX0_settle_ok n x58 x62 μ42) dX10_dwellings_65 cw_X10_285 rfl rfl rfl (by decide) (by decide) (Nat.le_of_ble_eq_true rfl) (fun p65 => ?_)
        refine sn_iload_n dX10_dwellings_68 rfl ?_
        refine sn_if_eq (tgt := 85) dX10_dwellings_69 (by decide) ?_ ?_
        · refine sn_iload_n dX10_dwellings_85 rfl ?_
          refine sn_if_ne (tgt := 99) dX10_dwellings_86 (by decide) ?_ ?_
          · refine sn_aload_n dX10_dwellings_99 rfl ?_
            refine sn_getA (ci := 10) (j := 9) dX10_dwellings_100 fl_X10_64 (by decide) (fun x100 => ?_)
            refine sn_getI (ci := 0) (j := 1) dX10_dwellings_103 fl_X10_294 rfl (fun x103 => ?_)
            exact sn_iret dX10_dwellings_106
          · refine sn_aload_n dX10_dwellings_89 rfl ?_
            refine sn_getA (ci := 10) (j := 9) dX10_dwellings_90 fl_X10_64 (by decide) (fun x90 => ?_)
            refine sn_getI (ci := 0) (j := 0) dX10_dwellings_93 fl_X10_291 rfl (fun x93 => ?_)
            refine sn_goto (tgt := 106) dX10_dwellings_96 (by decide) ?_
            exact sn_iret dX10_dwellings_106
        · refine sn_aload_n dX10_dwellings_72 rfl ?_
          refine sn_getA (ci := 10) (j := 9) dX10_dwellings_73 fl_X10_64 (by decide) (fun x73 => ?_)
          refine sn_getA (ci := 0) (j := 2) dX10_dwellings_76 fl_X10_288 (by decide) (fun x76 => ?_)
          refine sn_iload_n dX10_dwellings_79 rfl ?_
          refine sn_bipush dX10_dwellings_80 (by decide) ?_
          refine sn_isub dX10_dwellings_82 ?_
          refine sn_iald dX10_dwellings_83 (fun x83 => ?_)
          exact sn_iret dX10_dwellings_84
      · refine sn_bipush dX10_dwellings_54 (by decide) ?_
        exact sn_iret dX10_dwellings_56
    intro j42 hj42
    refine sn_if_ne (tgt := 42) dX10_dwellings_27 (by decide) ?_ ?_
    · exact hj42 () μ25
    · refine sn_iload_n dX10_dwellings_30 rfl ?_
      refine sn_if_eq (tgt := 42) dX10_dwellings_31 (by decide) ?_ ?_
      · exact hj42 () μ25
      · refine sn_iload_n dX10_dwellings_34 rfl ?_
        refine sn_iconst dX10_dwellings_35 ?_
        refine sn_icmp_eq (tgt := 42) dX10_dwellings_36 (by decide) ?_ ?_
        · exact hj42 () μ25
        · refine sn_bipush dX10_dwellings_39 (by decide) ?_
          exact sn_iret dX10_dwellings_41
  intro j25 hj25
  refine sn_icmp_lt (tgt := 24) dX10_dwellings_3 (by decide) ?_ ?_
  · refine sn_iconst dX10_dwellings_24 ?_
    exact hj25 0 μ
  · refine sn_aload_n dX10_dwellings_6 rfl ?_
    refine sn_getA (ci := 10) (j := 1) dX10_dwellings_7 fl_X10_19 (by decide) (fun x7 => ?_)
    refine sn_iload_n dX10_dwellings_10 rfl ?_
    refine sn_bipush dX10_dwellings_11 (by decide) ?_
    refine sn_isub dX10_dwellings_13 ?_
    refine sn_callVI (vs := [aI (b1 - 10)]) (ci := 1) (cX1_hasHouse_ok n x7 (b1 - 10) μ) dX10_dwellings_14 cw_X10_101 rfl rfl rfl (by decide) (by decide) (Nat.le_of_ble_eq_true rfl) (fun p14 => ?_)
    refine sn_if_eq (tgt := 24) dX10_dwellings_17 (by decide) ?_ ?_
    · refine sn_iconst dX10_dwellings_24 ?_
      exact hj25 0 p14.2
    · refine sn_iconst dX10_dwellings_20 ?_
      refine sn_goto (tgt := 25) dX10_dwellings_21 (by decide) ?_
      exact hj25 1 p14.2
theorem dX10_even_0 : decode cX10_even 0 = .ok (.iconst 0, 1) := by decide +kernel
theorem dX10_even_1 : decode cX10_even 1 = .ok (.istore_n 1, 1) := by decide +kernel
theorem dX10_even_2 : decode cX10_even 2 = .ok (.iconst 0, 1) := by decide +kernel
theorem dX10_even_3 : decode cX10_even 3 = .ok (.istore_n 2, 1) := by decide +kernel
theorem dX10_even_4 : decode cX10_even 4 = .ok (.iload_n 2, 1) := by decide +kernel
theorem dX10_even_5 : decode cX10_even 5 = .ok (.aload_n 0, 1) := by decide +kernel
theorem dX10_even_6 : decode cX10_even 6 = .ok (.getfield 19, 3) := by decide +kernel
theorem dX10_even_9 : decode cX10_even 9 = .ok (.getfield 212, 3) := by decide +kernel
theorem dX10_even_12 : decode cX10_even 12 = .ok (.if_icmp .ge 50, 3) := by decide +kernel
theorem dX10_even_15 : decode cX10_even 15 = .ok (.aload_n 0, 1) := by decide +kernel
theorem dX10_even_16 : decode cX10_even 16 = .ok (.getfield 19, 3) := by decide +kernel
theorem dX10_even_19 : decode cX10_even 19 = .ok (.getfield 149, 3) := by decide +kernel
theorem dX10_even_22 : decode cX10_even 22 = .ok (.iload_n 2, 1) := by decide +kernel
theorem dX10_even_23 : decode cX10_even 23 = .ok (.baload, 1) := by decide +kernel
theorem dX10_even_24 : decode cX10_even 24 = .ok (.ifCond .ne 32, 3) := by decide +kernel
theorem dX10_even_27 : decode cX10_even 27 = .ok (.iload_n 1, 1) := by decide +kernel
theorem dX10_even_28 : decode cX10_even 28 = .ok (.aload_n 0, 1) := by decide +kernel
theorem dX10_even_29 : decode cX10_even 29 = .ok (.getfield 19, 3) := by decide +kernel
theorem dX10_even_32 : decode cX10_even 32 = .ok (.iconst 2, 1) := by decide +kernel
theorem dX10_even_33 : decode cX10_even 33 = .ok (.iload_n 2, 1) := by decide +kernel
theorem dX10_even_34 : decode cX10_even 34 = .ok (.imul, 1) := by decide +kernel
theorem dX10_even_35 : decode cX10_even 35 = .ok (.invokevirtual 146, 3) := by decide +kernel
theorem dX10_even_38 : decode cX10_even 38 = .ok (.aload_n 0, 1) := by decide +kernel
theorem dX10_even_39 : decode cX10_even 39 = .ok (.getfield 19, 3) := by decide +kernel
theorem dX10_even_42 : decode cX10_even 42 = .ok (.iconst 2, 1) := by decide +kernel
theorem dX10_even_43 : decode cX10_even 43 = .ok (.iload_n 2, 1) := by decide +kernel
theorem dX10_even_44 : decode cX10_even 44 = .ok (.imul, 1) := by decide +kernel
theorem dX10_even_45 : decode cX10_even 45 = .ok (.iconst 1, 1) := by decide +kernel
theorem dX10_even_46 : decode cX10_even 46 = .ok (.iadd, 1) := by decide +kernel
theorem dX10_even_47 : decode cX10_even 47 = .ok (.invokevirtual 146, 3) := by decide +kernel
theorem dX10_even_50 : decode cX10_even 50 = .ok (.isub, 1) := by decide +kernel
theorem dX10_even_51 : decode cX10_even 51 = .ok (.invokestatic 215, 3) := by decide +kernel
theorem dX10_even_54 : decode cX10_even 54 = .ok (.iadd, 1) := by decide +kernel
theorem dX10_even_55 : decode cX10_even 55 = .ok (.istore_n 1, 1) := by decide +kernel
theorem dX10_even_56 : decode cX10_even 56 = .ok (.iinc 2 1, 3) := by decide +kernel
theorem dX10_even_59 : decode cX10_even 59 = .ok (.goto (-55), 3) := by decide +kernel
theorem dX10_even_62 : decode cX10_even 62 = .ok (.iload_n 1, 1) := by decide +kernel
theorem dX10_even_63 : decode cX10_even 63 = .ok (.ireturn, 1) := by decide +kernel
def mX10_even (n : Nat) (a : Nat) (μ : Mem) : Option (Int × Mem) :=
  lp (fun nx4 (v4 : Int × Int) (μ4 : Mem) =>
  (gA μ4 11 a 1).bind fun x6 =>
  (gI μ4 2 x6 1).bind fun x9 =>
  if lt32 v4.2 x9 then
    (gA μ4 11 a 1).bind fun x16 =>
    (gA μ4 2 x16 14).bind fun x19 =>
    (ldI μ4 2 x19 v4.2).bind fun x23 =>
    if eq32 x23 0 then
      (gA μ4 11 a 1).bind fun x29 =>
      (inv μ4 2 x29 (mX1_weight n x29 (2 * v4.2) μ4)).bind fun p35 =>
      (gA p35.2 11 a 1).bind fun x39 =>
      (inv p35.2 2 x39 (mX1_weight n x39 ((2 * v4.2) + 1) p35.2)).bind fun p47 =>
      nx4 ((v4.1 + (mAbs (p35.1 - p47.1))), (v4.2 + 1)) p47.2
    else
    nx4 (v4.1, (v4.2 + 1)) μ4
  else
  some (v4.1, μ4)) n (0, 0) μ
set_option maxRecDepth 100000 in
set_option maxHeartbeats 4000000 in
theorem cX10_even_ok (n : Nat) (a : Nat) (μ : Mem) : Mc yX10_even cX10_even 3 (some .int) 2 42 eI [aA a] μ (mX10_even n a μ) := by
  refine mc_of (L0 := [some (aA a), none, none]) (k := 2) (by decide) rfl rfl (fun X Γ => ?_)
  unfold mX10_even
  refine sn_iconst dX10_even_0 ?_
  refine sn_istore_n (L' := [some (aA a), some (aI 0), none]) dX10_even_1 (by decide) rfl ?_
  refine sn_iconst dX10_even_2 ?_
  refine sn_istore_n (L' := [some (aA a), some (aI 0), some (aI 0)]) dX10_even_3 (by decide) rfl ?_
  refine sn_lp (La := fun v4 : Int × Int => [some (aA a), some (aI v4.1), some (aI v4.2)]) ?_ n (0, 0) μ
  intro nx4 hnx4 v4 μ4
  refine sn_iload_n dX10_even_4 rfl ?_
  refine sn_aload_n dX10_even_5 rfl ?_
  refine sn_getA (ci := 10) (j := 1) dX10_even_6 fl_X10_19 (by decide) (fun x6 => ?_)
  refine sn_getI (ci := 1) (j := 1) dX10_even_9 fl_X10_212 rfl (fun x9 => ?_)
  refine sn_icmp_ge (tgt := 62) dX10_even_12 (by decide) ?_ ?_
  · refine sn_iload_n dX10_even_62 rfl ?_
    exact sn_iret dX10_even_63
  · refine sn_aload_n dX10_even_15 rfl ?_
    refine sn_getA (ci := 10) (j := 1) dX10_even_16 fl_X10_19 (by decide) (fun x16 => ?_)
    refine sn_getA (ci := 1) (j := 14) dX10_even_19 fl_X10_149 (by decide) (fun x19 => ?_)
    refine sn_iload_n dX10_even_22 rfl ?_
    refine sn_zald dX10_even_23 (fun x23 => ?_)
    refine sn_if_ne (tgt := 56) dX10_even_24 (by decide) ?_ ?_
    · refine sn_iinc (L' := [some (aA a), some (aI v4.1), some (aI (v4.2 + 1))]) dX10_even_56 rfl (by decide) rfl ?_
      refine sn_goto (tgt := 4) dX10_even_59 (by decide) ?_
      exact hnx4 (v4.1, (v4.2 + 1)) μ4
    · refine sn_iload_n dX10_even_27 rfl ?_
      refine sn_aload_n dX10_even_28 rfl ?_
      refine sn_getA (ci := 10) (j := 1) dX10_even_29 fl_X10_19 (by decide) (fun x29 => ?_)
      refine sn_iconst dX10_even_32 ?_
      refine sn_iload_n dX10_even_33 rfl ?_
      refine sn_imul dX10_even_34 ?_
      refine sn_callVI (vs := [aI (2 * v4.2)]) (ci := 1) (cX1_weight_ok n x29 (2 * v4.2) μ4) dX10_even_35 cw_X10_146 rfl rfl rfl (by decide) (by decide) (Nat.le_of_ble_eq_true rfl) (fun p35 => ?_)
      refine sn_aload_n dX10_even_38 rfl ?_
      refine sn_getA (ci := 10) (j := 1) dX10_even_39 fl_X10_19 (by decide) (fun x39 => ?_)
      refine sn_iconst dX10_even_42 ?_
      refine sn_iload_n dX10_even_43 rfl ?_
      refine sn_imul dX10_even_44 ?_
      refine sn_iconst dX10_even_45 ?_
      refine sn_iadd dX10_even_46 ?_
      refine sn_callVI (vs := [aI ((2 * v4.2) + 1)]) (ci := 1) (cX1_weight_ok n x39 ((2 * v4.2) + 1) p35.2) dX10_even_47 cw_X10_146 rfl rfl rfl (by decide) (by decide) (Nat.le_of_ble_eq_true rfl) (fun p47 => ?_)
      refine sn_isub dX10_even_50 ?_
      refine sn_mAbs dX10_even_51 ml_X10_215 (by decide) (by decide) (Nat.le_of_ble_eq_true rfl) ?_
      refine sn_iadd dX10_even_54 ?_
      refine sn_istore_n (L' := [some (aA a), some (aI (v4.1 + (mAbs (p35.1 - p47.1)))), some (aI v4.2)]) dX10_even_55 (by decide) rfl ?_
      refine sn_iinc (L' := [some (aA a), some (aI (v4.1 + (mAbs (p35.1 - p47.1)))), some (aI (v4.2 + 1))]) dX10_even_56 rfl (by decide) rfl ?_
      refine sn_goto (tgt := 4) dX10_even_59 (by decide) ?_
      exact hnx4 ((v4.1 + (mAbs (p35.1 - p47.1))), (v4.2 + 1)) p47.2
theorem dX10_fault_0 : decode cX10_fault 0 = .ok (.iload_n 1, 1) := by decide +kernel
theorem dX10_fault_1 : decode cX10_fault 1 = .ok (.lookupswitch 43 #[(0, 27), (1, 35)], 27) := by decide +kernel
theorem dX10_fault_28 : decode cX10_fault 28 = .ok (.aload_n 0, 1) := by decide +kernel
theorem dX10_fault_29 : decode cX10_fault 29 = .ok (.getfield 10, 3) := by decide +kernel
theorem dX10_fault_32 : decode cX10_fault 32 = .ok (.getfield 88, 3) := by decide +kernel
theorem dX10_fault_35 : decode cX10_fault 35 = .ok (.ireturn, 1) := by decide +kernel
theorem dX10_fault_36 : decode cX10_fault 36 = .ok (.aload_n 0, 1) := by decide +kernel
theorem dX10_fault_37 : decode cX10_fault 37 = .ok (.getfield 10, 3) := by decide +kernel
theorem dX10_fault_40 : decode cX10_fault 40 = .ok (.getfield 98, 3) := by decide +kernel
theorem dX10_fault_43 : decode cX10_fault 43 = .ok (.ireturn, 1) := by decide +kernel
theorem dX10_fault_44 : decode cX10_fault 44 = .ok (.iconst (-1), 1) := by decide +kernel
theorem dX10_fault_45 : decode cX10_fault 45 = .ok (.ireturn, 1) := by decide +kernel
def mX10_fault (n : Nat) (a : Nat) (b1 : Int) (μ : Mem) : Option (Int × Mem) :=
  if eq32 b1 0 then
    (gA μ 11 a 0).bind fun x29 =>
    (gI μ 9 x29 1).bind fun x32 =>
    some (x32, μ)
  else
  if eq32 b1 1 then
    (gA μ 11 a 0).bind fun x37 =>
    (gI μ 9 x37 2).bind fun x40 =>
    some (x40, μ)
  else
  some ((-1), μ)
set_option maxRecDepth 100000 in
set_option maxHeartbeats 4000000 in
theorem cX10_fault_ok (n : Nat) (a : Nat) (b1 : Int) (μ : Mem) : Mc yX10_fault cX10_fault 2 (some .int) 0 0 eI [aA a, aI b1] μ (mX10_fault n a b1 μ) := by
  refine mc_of (L0 := [some (aA a), some (aI b1)]) (k := 0) (by decide) rfl rfl (fun X Γ => ?_)
  unfold mX10_fault
  refine sn_iload_n dX10_fault_0 rfl ?_
  refine sn_ite (fun c1_0 => ?_) (fun c1_0 => ?_)
  · refine sn_lsw (off := 27) (tgt := 28) dX10_fault_1 (by decide) (by rw [show Int32.ofInt _ = Int32.ofInt 0 from c1_0]; decide) (by decide) ?_
    refine sn_aload_n dX10_fault_28 rfl ?_
    refine sn_getA (ci := 10) (j := 0) dX10_fault_29 fl_X10_10 (by decide) (fun x29 => ?_)
    refine sn_getI (ci := 8) (j := 1) dX10_fault_32 fl_X10_88 rfl (fun x32 => ?_)
    exact sn_iret dX10_fault_35
  refine sn_ite (fun c1_1 => ?_) (fun c1_1 => ?_)
  · refine sn_lsw (off := 35) (tgt := 36) dX10_fault_1 (by decide) (by rw [show Int32.ofInt _ = Int32.ofInt 1 from c1_1]; decide) (by decide) ?_
    refine sn_aload_n dX10_fault_36 rfl ?_
    refine sn_getA (ci := 10) (j := 0) dX10_fault_37 fl_X10_10 (by decide) (fun x37 => ?_)
    refine sn_getI (ci := 8) (j := 2) dX10_fault_40 fl_X10_98 rfl (fun x40 => ?_)
    exact sn_iret dX10_fault_43
  refine sn_lsw (off := 43) (tgt := 44) dX10_fault_1 (by decide) (by rw [show Op.lookupswitch.offset _ _ _ = _ from lv_osw (k := Int32.ofInt 0) c1_0 (by decide)]; rw [show Op.lookupswitch.offset _ _ _ = _ from lv_osw (k := Int32.ofInt 1) c1_1 (by decide)]; rfl) (by decide) ?_
  refine sn_iconst dX10_fault_44 ?_
  exact sn_iret dX10_fault_45
theorem dX10_feed_0 : decode cX10_feed 0 = .ok (.aload_n 0, 1) := by decide +kernel
theorem dX10_feed_1 : decode cX10_feed 1 = .ok (.getfield 10, 3) := by decide +kernel
theorem dX10_feed_4 : decode cX10_feed 4 = .ok (.getfield 76, 3) := by decide +kernel
theorem dX10_feed_7 : decode cX10_feed 7 = .ok (.bipush 20, 2) := by decide +kernel
theorem dX10_feed_9 : decode cX10_feed 9 = .ok (.iadd, 1) := by decide +kernel
theorem dX10_feed_10 : decode cX10_feed 10 = .ok (.sipush 900, 3) := by decide +kernel
theorem dX10_feed_13 : decode cX10_feed 13 = .ok (.if_icmp .le 6, 3) := by decide +kernel
theorem dX10_feed_16 : decode cX10_feed 16 = .ok (.bipush (-5), 2) := by decide +kernel
theorem dX10_feed_18 : decode cX10_feed 18 = .ok (.ireturn, 1) := by decide +kernel
theorem dX10_feed_19 : decode cX10_feed 19 = .ok (.aload_n 0, 1) := by decide +kernel
theorem dX10_feed_20 : decode cX10_feed 20 = .ok (.getfield 10, 3) := by decide +kernel
theorem dX10_feed_23 : decode cX10_feed 23 = .ok (.iload_n 1, 1) := by decide +kernel
theorem dX10_feed_24 : decode cX10_feed 24 = .ok (.invokevirtual 80, 3) := by decide +kernel
theorem dX10_feed_27 : decode cX10_feed 27 = .ok (.aload_n 0, 1) := by decide +kernel
theorem dX10_feed_28 : decode cX10_feed 28 = .ok (.getfield 10, 3) := by decide +kernel
theorem dX10_feed_31 : decode cX10_feed 31 = .ok (.iload_n 2, 1) := by decide +kernel
theorem dX10_feed_32 : decode cX10_feed 32 = .ok (.invokevirtual 80, 3) := by decide +kernel
theorem dX10_feed_35 : decode cX10_feed 35 = .ok (.aload_n 0, 1) := by decide +kernel
theorem dX10_feed_36 : decode cX10_feed 36 = .ok (.getfield 10, 3) := by decide +kernel
theorem dX10_feed_39 : decode cX10_feed 39 = .ok (.iload_n 3, 1) := by decide +kernel
theorem dX10_feed_40 : decode cX10_feed 40 = .ok (.invokevirtual 80, 3) := by decide +kernel
theorem dX10_feed_43 : decode cX10_feed 43 = .ok (.aload_n 0, 1) := by decide +kernel
theorem dX10_feed_44 : decode cX10_feed 44 = .ok (.getfield 10, 3) := by decide +kernel
theorem dX10_feed_47 : decode cX10_feed 47 = .ok (.iload 4, 2) := by decide +kernel
theorem dX10_feed_49 : decode cX10_feed 49 = .ok (.invokevirtual 80, 3) := by decide +kernel
theorem dX10_feed_52 : decode cX10_feed 52 = .ok (.aload_n 0, 1) := by decide +kernel
theorem dX10_feed_53 : decode cX10_feed 53 = .ok (.getfield 10, 3) := by decide +kernel
theorem dX10_feed_56 : decode cX10_feed 56 = .ok (.iload 5, 2) := by decide +kernel
theorem dX10_feed_58 : decode cX10_feed 58 = .ok (.invokevirtual 80, 3) := by decide +kernel
theorem dX10_feed_61 : decode cX10_feed 61 = .ok (.aload_n 0, 1) := by decide +kernel
theorem dX10_feed_62 : decode cX10_feed 62 = .ok (.getfield 10, 3) := by decide +kernel
theorem dX10_feed_65 : decode cX10_feed 65 = .ok (.getfield 76, 3) := by decide +kernel
theorem dX10_feed_68 : decode cX10_feed 68 = .ok (.ireturn, 1) := by decide +kernel
def mX10_feed (n : Nat) (a : Nat) (b1 : Int) (b2 : Int) (b3 : Int) (b4 : Int) (b5 : Int) (μ : Mem) : Option (Int × Mem) :=
  (gA μ 11 a 0).bind fun x1 =>
  (gI μ 9 x1 0).bind fun x4 =>
  if lt32 900 (x4 + 20) then
    some ((-5), μ)
  else
  (gA μ 11 a 0).bind fun x20 =>
  (inv μ 9 x20 (mX8_addInt n x20 b1 μ)).bind fun p24 =>
  (gA p24.2 11 a 0).bind fun x28 =>
  (inv p24.2 9 x28 (mX8_addInt n x28 b2 p24.2)).bind fun p32 =>
  (gA p32.2 11 a 0).bind fun x36 =>
  (inv p32.2 9 x36 (mX8_addInt n x36 b3 p32.2)).bind fun p40 =>
  (gA p40.2 11 a 0).bind fun x44 =>
  (inv p40.2 9 x44 (mX8_addInt n x44 b4 p40.2)).bind fun p49 =>
  (gA p49.2 11 a 0).bind fun x53 =>
  (inv p49.2 9 x53 (mX8_addInt n x53 b5 p49.2)).bind fun p58 =>
  (gA p58.2 11 a 0).bind fun x62 =>
  (gI p58.2 9 x62 0).bind fun x65 =>
  some (x65, p58.2)
set_option maxRecDepth 100000 in
set_option maxHeartbeats 4000000 in
theorem cX10_feed_ok (n : Nat) (a : Nat) (b1 : Int) (b2 : Int) (b3 : Int) (b4 : Int) (b5 : Int) (μ : Mem) : Mc yX10_feed cX10_feed 6 (some .int) 1 22 eI [aA a, aI b1, aI b2, aI b3, aI b4, aI b5] μ (mX10_feed n a b1 b2 b3 b4 b5 μ) := by
  refine mc_of (L0 := [some (aA a), some (aI b1), some (aI b2), some (aI b3), some (aI b4), some (aI b5)]) (k := 0) (by decide) rfl rfl (fun X Γ => ?_)
  unfold mX10_feed
  refine sn_aload_n dX10_feed_0 rfl ?_
  refine sn_getA (ci := 10) (j := 0) dX10_feed_1 fl_X10_10 (by decide) (fun x1 => ?_)
  refine sn_getI (ci := 8) (j := 0) dX10_feed_4 fl_X10_76 rfl (fun x4 => ?_)
  refine sn_bipush dX10_feed_7 (by decide) ?_
  refine sn_iadd dX10_feed_9 ?_
  refine sn_sipush dX10_feed_10 (by decide) ?_
  refine sn_icmp_le (tgt := 19) dX10_feed_13 (by decide) ?_ ?_
  · refine sn_aload_n dX10_feed_19 rfl ?_
    refine sn_getA (ci := 10) (j := 0) dX10_feed_20 fl_X10_10 (by decide) (fun x20 => ?_)
    refine sn_iload_n dX10_feed_23 rfl ?_
    refine sn_callVV (vs := [aI b1]) (ci := 8) (cX8_addInt_ok n x20 b1 μ) dX10_feed_24 cw_X10_80 rfl rfl rfl (by decide) (by decide) (Nat.le_of_ble_eq_true rfl) (fun p24 => ?_)
    refine sn_aload_n dX10_feed_27 rfl ?_
    refine sn_getA (ci := 10) (j := 0) dX10_feed_28 fl_X10_10 (by decide) (fun x28 => ?_)
    refine sn_iload_n dX10_feed_31 rfl ?_
    refine sn_callVV (vs := [aI b2]) (ci := 8) (cX8_addInt_ok n x28 b2 p24.2) dX10_feed_32 cw_X10_80 rfl rfl rfl (by decide) (by decide) (Nat.le_of_ble_eq_true rfl) (fun p32 => ?_)
    refine sn_aload_n dX10_feed_35 rfl ?_
    refine sn_getA (ci := 10) (j := 0) dX10_feed_36 fl_X10_10 (by decide) (fun x36 => ?_)
    refine sn_iload_n dX10_feed_39 rfl ?_
    refine sn_callVV (vs := [aI b3]) (ci := 8) (cX8_addInt_ok n x36 b3 p32.2) dX10_feed_40 cw_X10_80 rfl rfl rfl (by decide) (by decide) (Nat.le_of_ble_eq_true rfl) (fun p40 => ?_)
    refine sn_aload_n dX10_feed_43 rfl ?_
    refine sn_getA (ci := 10) (j := 0) dX10_feed_44 fl_X10_10 (by decide) (fun x44 => ?_)
    refine sn_iload dX10_feed_47 rfl ?_
    refine sn_callVV (vs := [aI b4]) (ci := 8) (cX8_addInt_ok n x44 b4 p40.2) dX10_feed_49 cw_X10_80 rfl rfl rfl (by decide) (by decide) (Nat.le_of_ble_eq_true rfl) (fun p49 => ?_)
    refine sn_aload_n dX10_feed_52 rfl ?_
    refine sn_getA (ci := 10) (j := 0) dX10_feed_53 fl_X10_10 (by decide) (fun x53 => ?_)
    refine sn_iload dX10_feed_56 rfl ?_
    refine sn_callVV (vs := [aI b5]) (ci := 8) (cX8_addInt_ok n x53 b5 p49.2) dX10_feed_58 cw_X10_80 rfl rfl rfl (by decide) (by decide) (Nat.le_of_ble_eq_true rfl) (fun p58 => ?_)
    refine sn_aload_n dX10_feed_61 rfl ?_
    refine sn_getA (ci := 10) (j := 0) dX10_feed_62 fl_X10_10 (by decide) (fun x62 => ?_)
    refine sn_getI (ci := 8) (j := 0) dX10_feed_65 fl_X10_76 rfl (fun x65 => ?_)
    exact sn_iret dX10_feed_68
  · refine sn_bipush dX10_feed_16 (by decide) ?_
    exact sn_iret dX10_feed_18
theorem dX10_house_0 : decode cX10_house 0 = .ok (.aload_n 0, 1) := by decide +kernel
theorem dX10_house_1 : decode cX10_house 1 = .ok (.getfield 19, 3) := by decide +kernel
theorem dX10_house_4 : decode cX10_house 4 = .ok (.iload_n 1, 1) := by decide +kernel
theorem dX10_house_5 : decode cX10_house 5 = .ok (.invokevirtual 101, 3) := by decide +kernel
theorem dX10_house_8 : decode cX10_house 8 = .ok (.ifCond .ne 6, 3) := by decide +kernel
theorem dX10_house_11 : decode cX10_house 11 = .ok (.bipush (-2), 2) := by decide +kernel
theorem dX10_house_13 : decode cX10_house 13 = .ok (.ireturn, 1) := by decide +kernel
theorem dX10_house_14 : decode cX10_house 14 = .ok (.iload_n 2, 1) := by decide +kernel
theorem dX10_house_15 : decode cX10_house 15 = .ok (.tableswitch 123 0 7 #[45, 55, 65, 75, 85, 94, 104, 114], 45) := by decide +kernel
theorem dX10_house_60 : decode cX10_house 60 = .ok (.aload_n 0, 1) := by decide +kernel
theorem dX10_house_61 : decode cX10_house 61 = .ok (.getfield 19, 3) := by decide +kernel
theorem dX10_house_64 : decode cX10_house 64 = .ok (.getfield 105, 3) := by decide +kernel
theorem dX10_house_67 : decode cX10_house 67 = .ok (.iload_n 1, 1) := by decide +kernel
theorem dX10_house_68 : decode cX10_house 68 = .ok (.iaload, 1) := by decide +kernel
theorem dX10_house_69 : decode cX10_house 69 = .ok (.ireturn, 1) := by decide +kernel
theorem dX10_house_70 : decode cX10_house 70 = .ok (.aload_n 0, 1) := by decide +kernel
theorem dX10_house_71 : decode cX10_house 71 = .ok (.getfield 19, 3) := by decide +kernel
theorem dX10_house_74 : decode cX10_house 74 = .ok (.getfield 109, 3) := by decide +kernel
theorem dX10_house_77 : decode cX10_house 77 = .ok (.iload_n 1, 1) := by decide +kernel
theorem dX10_house_78 : decode cX10_house 78 = .ok (.iaload, 1) := by decide +kernel
theorem dX10_house_79 : decode cX10_house 79 = .ok (.ireturn, 1) := by decide +kernel
theorem dX10_house_80 : decode cX10_house 80 = .ok (.aload_n 0, 1) := by decide +kernel
theorem dX10_house_81 : decode cX10_house 81 = .ok (.getfield 19, 3) := by decide +kernel
theorem dX10_house_84 : decode cX10_house 84 = .ok (.getfield 112, 3) := by decide +kernel
theorem dX10_house_87 : decode cX10_house 87 = .ok (.iload_n 1, 1) := by decide +kernel
theorem dX10_house_88 : decode cX10_house 88 = .ok (.iaload, 1) := by decide +kernel
theorem dX10_house_89 : decode cX10_house 89 = .ok (.ireturn, 1) := by decide +kernel
theorem dX10_house_90 : decode cX10_house 90 = .ok (.aload_n 0, 1) := by decide +kernel
theorem dX10_house_91 : decode cX10_house 91 = .ok (.getfield 19, 3) := by decide +kernel
theorem dX10_house_94 : decode cX10_house 94 = .ok (.getfield 115, 3) := by decide +kernel
theorem dX10_house_97 : decode cX10_house 97 = .ok (.iload_n 1, 1) := by decide +kernel
theorem dX10_house_98 : decode cX10_house 98 = .ok (.iaload, 1) := by decide +kernel
theorem dX10_house_99 : decode cX10_house 99 = .ok (.ireturn, 1) := by decide +kernel
theorem dX10_house_100 : decode cX10_house 100 = .ok (.aload_n 0, 1) := by decide +kernel
theorem dX10_house_101 : decode cX10_house 101 = .ok (.getfield 19, 3) := by decide +kernel
theorem dX10_house_104 : decode cX10_house 104 = .ok (.iload_n 1, 1) := by decide +kernel
theorem dX10_house_105 : decode cX10_house 105 = .ok (.invokevirtual 118, 3) := by decide +kernel
theorem dX10_house_108 : decode cX10_house 108 = .ok (.ireturn, 1) := by decide +kernel
theorem dX10_house_109 : decode cX10_house 109 = .ok (.aload_n 0, 1) := by decide +kernel
theorem dX10_house_110 : decode cX10_house 110 = .ok (.getfield 19, 3) := by decide +kernel
theorem dX10_house_113 : decode cX10_house 113 = .ok (.getfield 122, 3) := by decide +kernel
theorem dX10_house_116 : decode cX10_house 116 = .ok (.iload_n 1, 1) := by decide +kernel
theorem dX10_house_117 : decode cX10_house 117 = .ok (.iaload, 1) := by decide +kernel
theorem dX10_house_118 : decode cX10_house 118 = .ok (.ireturn, 1) := by decide +kernel
theorem dX10_house_119 : decode cX10_house 119 = .ok (.aload_n 0, 1) := by decide +kernel
theorem dX10_house_120 : decode cX10_house 120 = .ok (.getfield 19, 3) := by decide +kernel
theorem dX10_house_123 : decode cX10_house 123 = .ok (.getfield 125, 3) := by decide +kernel
theorem dX10_house_126 : decode cX10_house 126 = .ok (.iload_n 1, 1) := by decide +kernel
theorem dX10_house_127 : decode cX10_house 127 = .ok (.iaload, 1) := by decide +kernel
theorem dX10_house_128 : decode cX10_house 128 = .ok (.ireturn, 1) := by decide +kernel
theorem dX10_house_129 : decode cX10_house 129 = .ok (.aload_n 0, 1) := by decide +kernel
theorem dX10_house_130 : decode cX10_house 130 = .ok (.getfield 19, 3) := by decide +kernel
theorem dX10_house_133 : decode cX10_house 133 = .ok (.iload_n 1, 1) := by decide +kernel
theorem dX10_house_134 : decode cX10_house 134 = .ok (.invokevirtual 128, 3) := by decide +kernel
theorem dX10_house_137 : decode cX10_house 137 = .ok (.ireturn, 1) := by decide +kernel
theorem dX10_house_138 : decode cX10_house 138 = .ok (.bipush (-2), 2) := by decide +kernel
theorem dX10_house_140 : decode cX10_house 140 = .ok (.ireturn, 1) := by decide +kernel
def mX10_house (n : Nat) (a : Nat) (b1 : Int) (b2 : Int) (μ : Mem) : Option (Int × Mem) :=
  (gA μ 11 a 1).bind fun x1 =>
  (inv μ 2 x1 (mX1_hasHouse n x1 b1 μ)).bind fun p5 =>
  if eq32 p5.1 0 then
    some ((-2), p5.2)
  else
  if eq32 b2 0 then
    (gA p5.2 11 a 1).bind fun x61 =>
    (gA p5.2 2 x61 6).bind fun x64 =>
    (ldI p5.2 0 x64 b1).bind fun x68 =>
    some (x68, p5.2)
  else
  if eq32 b2 1 then
    (gA p5.2 11 a 1).bind fun x71 =>
    (gA p5.2 2 x71 7).bind fun x74 =>
    (ldI p5.2 0 x74 b1).bind fun x78 =>
    some (x78, p5.2)
  else
  if eq32 b2 2 then
    (gA p5.2 11 a 1).bind fun x81 =>
    (gA p5.2 2 x81 8).bind fun x84 =>
    (ldI p5.2 0 x84 b1).bind fun x88 =>
    some (x88, p5.2)
  else
  if eq32 b2 3 then
    (gA p5.2 11 a 1).bind fun x91 =>
    (gA p5.2 2 x91 9).bind fun x94 =>
    (ldI p5.2 0 x94 b1).bind fun x98 =>
    some (x98, p5.2)
  else
  if eq32 b2 4 then
    (gA p5.2 11 a 1).bind fun x101 =>
    (inv p5.2 2 x101 (mX1_had n x101 b1 p5.2)).bind fun p105 =>
    some (p105.1, p105.2)
  else
  if eq32 b2 5 then
    (gA p5.2 11 a 1).bind fun x110 =>
    (gA p5.2 2 x110 10).bind fun x113 =>
    (ldI p5.2 0 x113 b1).bind fun x117 =>
    some (x117, p5.2)
  else
  if eq32 b2 6 then
    (gA p5.2 11 a 1).bind fun x120 =>
    (gA p5.2 2 x120 11).bind fun x123 =>
    (ldI p5.2 0 x123 b1).bind fun x127 =>
    some (x127, p5.2)
  else
  if eq32 b2 7 then
    (gA p5.2 11 a 1).bind fun x130 =>
    (inv p5.2 2 x130 (mX1_ropeBits n x130 b1 p5.2)).bind fun p134 =>
    some (p134.1, p134.2)
  else
  some ((-2), p5.2)
set_option maxRecDepth 100000 in
set_option maxHeartbeats 4000000 in
theorem cX10_house_ok (n : Nat) (a : Nat) (b1 : Int) (b2 : Int) (μ : Mem) : Mc yX10_house cX10_house 3 (some .int) 3 66 eI [aA a, aI b1, aI b2] μ (mX10_house n a b1 b2 μ) := by
  refine mc_of (L0 := [some (aA a), some (aI b1), some (aI b2)]) (k := 0) (by decide) rfl rfl (fun X Γ => ?_)
  unfold mX10_house
  refine sn_aload_n dX10_house_0 rfl ?_
  refine sn_getA (ci := 10) (j := 1) dX10_house_1 fl_X10_19 (by decide) (fun x1 => ?_)
  refine sn_iload_n dX10_house_4 rfl ?_
  refine sn_callVI (vs := [aI b1]) (ci := 1) (cX1_hasHouse_ok n x1 b1 μ) dX10_house_5 cw_X10_101 rfl rfl rfl (by decide) (by decide) (Nat.le_of_ble_eq_true rfl) (fun p5 => ?_)
  refine sn_if_ne (tgt := 14) dX10_house_8 (by decide) ?_ ?_
  · refine sn_iload_n dX10_house_14 rfl ?_
    refine sn_ite (fun c15_0 => ?_) (fun c15_0 => ?_)
    · refine sn_swIn (k := 0) (off := 45) (tgt := 60) dX10_house_15 c15_0 (by decide) (by decide) rfl (by decide) ?_
      refine sn_aload_n dX10_house_60 rfl ?_
      refine sn_getA (ci := 10) (j := 1) dX10_house_61 fl_X10_19 (by decide) (fun x61 => ?_)
      refine sn_getA (ci := 1) (j := 6) dX10_house_64 fl_X10_105 (by decide) (fun x64 => ?_)
      refine sn_iload_n dX10_house_67 rfl ?_
      refine sn_iald dX10_house_68 (fun x68 => ?_)
      exact sn_iret dX10_house_69
    refine sn_ite (fun c15_1 => ?_) (fun c15_1 => ?_)
    · refine sn_swIn (k := 1) (off := 55) (tgt := 70) dX10_house_15 c15_1 (by decide) (by decide) rfl (by decide) ?_
      refine sn_aload_n dX10_house_70 rfl ?_
      refine sn_getA (ci := 10) (j := 1) dX10_house_71 fl_X10_19 (by decide) (fun x71 => ?_)
      refine sn_getA (ci := 1) (j := 7) dX10_house_74 fl_X10_109 (by decide) (fun x74 => ?_)
      refine sn_iload_n dX10_house_77 rfl ?_
      refine sn_iald dX10_house_78 (fun x78 => ?_)
      exact sn_iret dX10_house_79
    refine sn_ite (fun c15_2 => ?_) (fun c15_2 => ?_)
    · refine sn_swIn (k := 2) (off := 65) (tgt := 80) dX10_house_15 c15_2 (by decide) (by decide) rfl (by decide) ?_
      refine sn_aload_n dX10_house_80 rfl ?_
      refine sn_getA (ci := 10) (j := 1) dX10_house_81 fl_X10_19 (by decide) (fun x81 => ?_)
      refine sn_getA (ci := 1) (j := 8) dX10_house_84 fl_X10_112 (by decide) (fun x84 => ?_)
      refine sn_iload_n dX10_house_87 rfl ?_
      refine sn_iald dX10_house_88 (fun x88 => ?_)
      exact sn_iret dX10_house_89
    refine sn_ite (fun c15_3 => ?_) (fun c15_3 => ?_)
    · refine sn_swIn (k := 3) (off := 75) (tgt := 90) dX10_house_15 c15_3 (by decide) (by decide) rfl (by decide) ?_
      refine sn_aload_n dX10_house_90 rfl ?_
      refine sn_getA (ci := 10) (j := 1) dX10_house_91 fl_X10_19 (by decide) (fun x91 => ?_)
      refine sn_getA (ci := 1) (j := 9) dX10_house_94 fl_X10_115 (by decide) (fun x94 => ?_)
      refine sn_iload_n dX10_house_97 rfl ?_
      refine sn_iald dX10_house_98 (fun x98 => ?_)
      exact sn_iret dX10_house_99
    refine sn_ite (fun c15_4 => ?_) (fun c15_4 => ?_)
    · refine sn_swIn (k := 4) (off := 85) (tgt := 100) dX10_house_15 c15_4 (by decide) (by decide) rfl (by decide) ?_
      refine sn_aload_n dX10_house_100 rfl ?_
      refine sn_getA (ci := 10) (j := 1) dX10_house_101 fl_X10_19 (by decide) (fun x101 => ?_)
      refine sn_iload_n dX10_house_104 rfl ?_
      refine sn_callVI (vs := [aI b1]) (ci := 1) (cX1_had_ok n x101 b1 p5.2) dX10_house_105 cw_X10_118 rfl rfl rfl (by decide) (by decide) (Nat.le_of_ble_eq_true rfl) (fun p105 => ?_)
      exact sn_iret dX10_house_108
    refine sn_ite (fun c15_5 => ?_) (fun c15_5 => ?_)
    · refine sn_swIn (k := 5) (off := 94) (tgt := 109) dX10_house_15 c15_5 (by decide) (by decide) rfl (by decide) ?_
      refine sn_aload_n dX10_house_109 rfl ?_
      refine sn_getA (ci := 10) (j := 1) dX10_house_110 fl_X10_19 (by decide) (fun x110 => ?_)
      refine sn_getA (ci := 1) (j := 10) dX10_house_113 fl_X10_122 (by decide) (fun x113 => ?_)
      refine sn_iload_n dX10_house_116 rfl ?_
      refine sn_iald dX10_house_117 (fun x117 => ?_)
      exact sn_iret dX10_house_118
    refine sn_ite (fun c15_6 => ?_) (fun c15_6 => ?_)
    · refine sn_swIn (k := 6) (off := 104) (tgt := 119) dX10_house_15 c15_6 (by decide) (by decide) rfl (by decide) ?_
      refine sn_aload_n dX10_house_119 rfl ?_
      refine sn_getA (ci := 10) (j := 1) dX10_house_120 fl_X10_19 (by decide) (fun x120 => ?_)
      refine sn_getA (ci := 1) (j := 11) dX10_house_123 fl_X10_125 (by decide) (fun x123 => ?_)
      refine sn_iload_n dX10_house_126 rfl ?_
      refine sn_iald dX10_house_127 (fun x127 => ?_)
      exact sn_iret dX10_house_128
    refine sn_ite (fun c15_7 => ?_) (fun c15_7 => ?_)
    · refine sn_swIn (k := 7) (off := 114) (tgt := 129) dX10_house_15 c15_7 (by decide) (by decide) rfl (by decide) ?_
      refine sn_aload_n dX10_house_129 rfl ?_
      refine sn_getA (ci := 10) (j := 1) dX10_house_130 fl_X10_19 (by decide) (fun x130 => ?_)
      refine sn_iload_n dX10_house_133 rfl ?_
      refine sn_callVI (vs := [aI b1]) (ci := 1) (cX1_ropeBits_ok n x130 b1 p5.2) dX10_house_134 cw_X10_128 rfl rfl rfl (by decide) (by decide) (Nat.le_of_ble_eq_true rfl) (fun p134 => ?_)
      exact sn_iret dX10_house_137
    refine sn_swOut (tgt := 138) dX10_house_15 (by have e0 := sw_ne c15_0 (by decide); have e1 := sw_ne c15_1 (by decide); have e2 := sw_ne c15_2 (by decide); have e3 := sw_ne c15_3 (by decide); have e4 := sw_ne c15_4 (by decide); have e5 := sw_ne c15_5 (by decide); have e6 := sw_ne c15_6 (by decide); have e7 := sw_ne c15_7 (by decide); omega) (by decide) ?_
    refine sn_bipush dX10_house_138 (by decide) ?_
    exact sn_iret dX10_house_140
  · refine sn_bipush dX10_house_11 (by decide) ?_
    exact sn_iret dX10_house_13
theorem dX10_image_0 : decode cX10_image 0 = .ok (.iload_n 1, 1) := by decide +kernel
theorem dX10_image_1 : decode cX10_image 1 = .ok (.ifCond .lt 8, 3) := by decide +kernel
theorem dX10_image_4 : decode cX10_image 4 = .ok (.iload_n 1, 1) := by decide +kernel
theorem dX10_image_5 : decode cX10_image 5 = .ok (.iconst 2, 1) := by decide +kernel
theorem dX10_image_6 : decode cX10_image 6 = .ok (.if_icmp .lt 6, 3) := by decide +kernel
theorem dX10_image_9 : decode cX10_image 9 = .ok (.bipush (-2), 2) := by decide +kernel
theorem dX10_image_11 : decode cX10_image 11 = .ok (.ireturn, 1) := by decide +kernel
theorem dX10_image_12 : decode cX10_image 12 = .ok (.aload_n 0, 1) := by decide +kernel
theorem dX10_image_13 : decode cX10_image 13 = .ok (.getfield 26, 3) := by decide +kernel
theorem dX10_image_16 : decode cX10_image 16 = .ok (.iload_n 1, 1) := by decide +kernel
theorem dX10_image_17 : decode cX10_image 17 = .ok (.aaload, 1) := by decide +kernel
theorem dX10_image_18 : decode cX10_image 18 = .ok (.aload_n 0, 1) := by decide +kernel
theorem dX10_image_19 : decode cX10_image 19 = .ok (.getfield 19, 3) := by decide +kernel
theorem dX10_image_22 : decode cX10_image 22 = .ok (.invokevirtual 91, 3) := by decide +kernel
theorem dX10_image_25 : decode cX10_image 25 = .ok (.aload_n 0, 1) := by decide +kernel
theorem dX10_image_26 : decode cX10_image 26 = .ok (.getfield 30, 3) := by decide +kernel
theorem dX10_image_29 : decode cX10_image 29 = .ok (.iload_n 1, 1) := by decide +kernel
theorem dX10_image_30 : decode cX10_image 30 = .ok (.iconst 1, 1) := by decide +kernel
theorem dX10_image_31 : decode cX10_image 31 = .ok (.bastore, 1) := by decide +kernel
theorem dX10_image_32 : decode cX10_image 32 = .ok (.iconst 0, 1) := by decide +kernel
theorem dX10_image_33 : decode cX10_image 33 = .ok (.ireturn, 1) := by decide +kernel
def mX10_image (n : Nat) (a : Nat) (b1 : Int) (μ : Mem) : Option (Int × Mem) :=
  if lt32 b1 0 then
    some ((-2), μ)
  else
  if lt32 b1 2 then
    (gA μ 11 a 3).bind fun x13 =>
    (ldA μ 4 x13 b1).bind fun x17 =>
    (gA μ 11 a 1).bind fun x19 =>
    (inv μ 2 x17 (mX1_takeAll n x17 x19 μ)).bind fun p22 =>
    (gA p22.2 11 a 4).bind fun x26 =>
    (stZ p22.2 x26 b1 1).bind fun μ31 =>
    some (0, μ31)
  else
  some ((-2), μ)
set_option maxRecDepth 100000 in
set_option maxHeartbeats 4000000 in
theorem cX10_image_ok (n : Nat) (a : Nat) (b1 : Int) (μ : Mem) : Mc yX10_image cX10_image 2 (some .int) 3 122 eI [aA a, aI b1] μ (mX10_image n a b1 μ) := by
  refine mc_of (L0 := [some (aA a), some (aI b1)]) (k := 0) (by decide) rfl rfl (fun X Γ => ?_)
  unfold mX10_image
  refine sn_iload_n dX10_image_0 rfl ?_
  refine sn_if_lt (tgt := 9) dX10_image_1 (by decide) ?_ ?_
  · refine sn_bipush dX10_image_9 (by decide) ?_
    exact sn_iret dX10_image_11
  · refine sn_iload_n dX10_image_4 rfl ?_
    refine sn_iconst dX10_image_5 ?_
    refine sn_icmp_lt (tgt := 12) dX10_image_6 (by decide) ?_ ?_
    · refine sn_aload_n dX10_image_12 rfl ?_
      refine sn_getA (ci := 10) (j := 3) dX10_image_13 fl_X10_26 (by decide) (fun x13 => ?_)
      refine sn_iload_n dX10_image_16 rfl ?_
      refine sn_aald4 dX10_image_17 (fun x17 => ?_)
      refine sn_aload_n dX10_image_18 rfl ?_
      refine sn_getA (ci := 10) (j := 1) dX10_image_19 fl_X10_19 (by decide) (fun x19 => ?_)
      refine sn_callVV (vs := [aA x19]) (ci := 1) (cX1_takeAll_ok n x17 x19 μ) dX10_image_22 cw_X10_91 rfl rfl rfl (by decide) (by decide) (Nat.le_of_ble_eq_true rfl) (fun p22 => ?_)
      refine sn_aload_n dX10_image_25 rfl ?_
      refine sn_getA (ci := 10) (j := 4) dX10_image_26 fl_X10_30 (by decide) (fun x26 => ?_)
      refine sn_iload_n dX10_image_29 rfl ?_
      refine sn_iconst dX10_image_30 ?_
      refine sn_zast dX10_image_31 (fun μ31 => ?_)
      refine sn_iconst dX10_image_32 ?_
      exact sn_iret dX10_image_33
    · refine sn_bipush dX10_image_9 (by decide) ?_
      exact sn_iret dX10_image_11
