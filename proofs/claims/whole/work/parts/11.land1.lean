/-! layer 1: land1 -/
theorem dX1_hasHouse_0 : decode cX1_hasHouse 0 = .ok (.iload_n 1, 1) := by decide +kernel
theorem dX1_hasHouse_1 : decode cX1_hasHouse 1 = .ok (.ifCond .lt 15, 3) := by decide +kernel
theorem dX1_hasHouse_4 : decode cX1_hasHouse 4 = .ok (.iload_n 1, 1) := by decide +kernel
theorem dX1_hasHouse_5 : decode cX1_hasHouse 5 = .ok (.aload_n 0, 1) := by decide +kernel
theorem dX1_hasHouse_6 : decode cX1_hasHouse 6 = .ok (.getfield 56, 3) := by decide +kernel
theorem dX1_hasHouse_9 : decode cX1_hasHouse 9 = .ok (.if_icmp .ge 7, 3) := by decide +kernel
theorem dX1_hasHouse_12 : decode cX1_hasHouse 12 = .ok (.iconst 1, 1) := by decide +kernel
theorem dX1_hasHouse_13 : decode cX1_hasHouse 13 = .ok (.goto 4, 3) := by decide +kernel
theorem dX1_hasHouse_16 : decode cX1_hasHouse 16 = .ok (.iconst 0, 1) := by decide +kernel
theorem dX1_hasHouse_17 : decode cX1_hasHouse 17 = .ok (.ireturn, 1) := by decide +kernel
def mX1_hasHouse (n : Nat) (a : Nat) (b1 : Int) (μ : Mem) : Option (Int × Mem) :=
  if lt32 b1 0 then
    retZ 0 μ
  else
  (gI μ 2 a 0).bind fun x6 =>
  if lt32 b1 x6 then
    retZ 1 μ
  else
  retZ 0 μ
set_option maxRecDepth 100000 in
set_option maxHeartbeats 4000000 in
theorem cX1_hasHouse_ok (n : Nat) (a : Nat) (b1 : Int) (μ : Mem) : Mc yX1_hasHouse cX1_hasHouse 2 (some .boolean) 0 0 eI [aA a, aI b1] μ (mX1_hasHouse n a b1 μ) := by
  refine mc_of (L0 := [some (aA a), some (aI b1)]) (k := 0) (by decide) rfl rfl (fun X Γ => ?_)
  unfold mX1_hasHouse
  refine sn_iload_n dX1_hasHouse_0 rfl ?_
  refine sn_if_lt (tgt := 16) dX1_hasHouse_1 (by decide) ?_ ?_
  · refine sn_iconst dX1_hasHouse_16 ?_
    exact sn_zret dX1_hasHouse_17
  · refine sn_iload_n dX1_hasHouse_4 rfl ?_
    refine sn_aload_n dX1_hasHouse_5 rfl ?_
    refine sn_getI (ci := 1) (j := 0) dX1_hasHouse_6 fl_X1_56 rfl (fun x6 => ?_)
    refine sn_icmp_ge (tgt := 16) dX1_hasHouse_9 (by decide) ?_ ?_
    · refine sn_iconst dX1_hasHouse_16 ?_
      exact sn_zret dX1_hasHouse_17
    · refine sn_iconst dX1_hasHouse_12 ?_
      refine sn_goto (tgt := 17) dX1_hasHouse_13 (by decide) ?_
      exact sn_zret dX1_hasHouse_17
theorem dX1_hasRope_0 : decode cX1_hasRope 0 = .ok (.iload_n 1, 1) := by decide +kernel
theorem dX1_hasRope_1 : decode cX1_hasRope 1 = .ok (.ifCond .lt 15, 3) := by decide +kernel
theorem dX1_hasRope_4 : decode cX1_hasRope 4 = .ok (.iload_n 1, 1) := by decide +kernel
theorem dX1_hasRope_5 : decode cX1_hasRope 5 = .ok (.aload_n 0, 1) := by decide +kernel
theorem dX1_hasRope_6 : decode cX1_hasRope 6 = .ok (.getfield 59, 3) := by decide +kernel
theorem dX1_hasRope_9 : decode cX1_hasRope 9 = .ok (.if_icmp .ge 7, 3) := by decide +kernel
theorem dX1_hasRope_12 : decode cX1_hasRope 12 = .ok (.iconst 1, 1) := by decide +kernel
theorem dX1_hasRope_13 : decode cX1_hasRope 13 = .ok (.goto 4, 3) := by decide +kernel
theorem dX1_hasRope_16 : decode cX1_hasRope 16 = .ok (.iconst 0, 1) := by decide +kernel
theorem dX1_hasRope_17 : decode cX1_hasRope 17 = .ok (.ireturn, 1) := by decide +kernel
def mX1_hasRope (n : Nat) (a : Nat) (b1 : Int) (μ : Mem) : Option (Int × Mem) :=
  if lt32 b1 0 then
    retZ 0 μ
  else
  (gI μ 2 a 1).bind fun x6 =>
  if lt32 b1 x6 then
    retZ 1 μ
  else
  retZ 0 μ
set_option maxRecDepth 100000 in
set_option maxHeartbeats 4000000 in
theorem cX1_hasRope_ok (n : Nat) (a : Nat) (b1 : Int) (μ : Mem) : Mc yX1_hasRope cX1_hasRope 2 (some .boolean) 0 0 eI [aA a, aI b1] μ (mX1_hasRope n a b1 μ) := by
  refine mc_of (L0 := [some (aA a), some (aI b1)]) (k := 0) (by decide) rfl rfl (fun X Γ => ?_)
  unfold mX1_hasRope
  refine sn_iload_n dX1_hasRope_0 rfl ?_
  refine sn_if_lt (tgt := 16) dX1_hasRope_1 (by decide) ?_ ?_
  · refine sn_iconst dX1_hasRope_16 ?_
    exact sn_zret dX1_hasRope_17
  · refine sn_iload_n dX1_hasRope_4 rfl ?_
    refine sn_aload_n dX1_hasRope_5 rfl ?_
    refine sn_getI (ci := 1) (j := 1) dX1_hasRope_6 fl_X1_59 rfl (fun x6 => ?_)
    refine sn_icmp_ge (tgt := 16) dX1_hasRope_9 (by decide) ?_ ?_
    · refine sn_iconst dX1_hasRope_16 ?_
      exact sn_zret dX1_hasRope_17
    · refine sn_iconst dX1_hasRope_12 ?_
      refine sn_goto (tgt := 17) dX1_hasRope_13 (by decide) ?_
      exact sn_zret dX1_hasRope_17
theorem dX1_hangs_0 : decode cX1_hangs 0 = .ok (.aload_n 0, 1) := by decide +kernel
theorem dX1_hangs_1 : decode cX1_hangs 1 = .ok (.iload_n 2, 1) := by decide +kernel
theorem dX1_hangs_2 : decode cX1_hangs 2 = .ok (.invokevirtual 82, 3) := by decide +kernel
theorem dX1_hangs_5 : decode cX1_hangs 5 = .ok (.ifCond .eq 41, 3) := by decide +kernel
theorem dX1_hangs_8 : decode cX1_hangs 8 = .ok (.aload_n 0, 1) := by decide +kernel
theorem dX1_hangs_9 : decode cX1_hangs 9 = .ok (.iload_n 1, 1) := by decide +kernel
theorem dX1_hangs_10 : decode cX1_hangs 10 = .ok (.invokevirtual 86, 3) := by decide +kernel
theorem dX1_hangs_13 : decode cX1_hangs 13 = .ok (.ifCond .eq 33, 3) := by decide +kernel
theorem dX1_hangs_16 : decode cX1_hangs 16 = .ok (.aload_n 0, 1) := by decide +kernel
theorem dX1_hangs_17 : decode cX1_hangs 17 = .ok (.getfield 40, 3) := by decide +kernel
theorem dX1_hangs_20 : decode cX1_hangs 20 = .ok (.iconst 2, 1) := by decide +kernel
theorem dX1_hangs_21 : decode cX1_hangs 21 = .ok (.iload_n 1, 1) := by decide +kernel
theorem dX1_hangs_22 : decode cX1_hangs 22 = .ok (.imul, 1) := by decide +kernel
theorem dX1_hangs_23 : decode cX1_hangs 23 = .ok (.iaload, 1) := by decide +kernel
theorem dX1_hangs_24 : decode cX1_hangs 24 = .ok (.iload_n 2, 1) := by decide +kernel
theorem dX1_hangs_25 : decode cX1_hangs 25 = .ok (.if_icmp .eq 17, 3) := by decide +kernel
theorem dX1_hangs_28 : decode cX1_hangs 28 = .ok (.aload_n 0, 1) := by decide +kernel
theorem dX1_hangs_29 : decode cX1_hangs 29 = .ok (.getfield 40, 3) := by decide +kernel
theorem dX1_hangs_32 : decode cX1_hangs 32 = .ok (.iconst 2, 1) := by decide +kernel
theorem dX1_hangs_33 : decode cX1_hangs 33 = .ok (.iload_n 1, 1) := by decide +kernel
theorem dX1_hangs_34 : decode cX1_hangs 34 = .ok (.imul, 1) := by decide +kernel
theorem dX1_hangs_35 : decode cX1_hangs 35 = .ok (.iconst 1, 1) := by decide +kernel
theorem dX1_hangs_36 : decode cX1_hangs 36 = .ok (.iadd, 1) := by decide +kernel
theorem dX1_hangs_37 : decode cX1_hangs 37 = .ok (.iaload, 1) := by decide +kernel
theorem dX1_hangs_38 : decode cX1_hangs 38 = .ok (.iload_n 2, 1) := by decide +kernel
theorem dX1_hangs_39 : decode cX1_hangs 39 = .ok (.if_icmp .ne 7, 3) := by decide +kernel
theorem dX1_hangs_42 : decode cX1_hangs 42 = .ok (.iconst 1, 1) := by decide +kernel
theorem dX1_hangs_43 : decode cX1_hangs 43 = .ok (.goto 4, 3) := by decide +kernel
theorem dX1_hangs_46 : decode cX1_hangs 46 = .ok (.iconst 0, 1) := by decide +kernel
theorem dX1_hangs_47 : decode cX1_hangs 47 = .ok (.ireturn, 1) := by decide +kernel
def mX1_hangs (n : Nat) (a : Nat) (b1 : Int) (b2 : Int) (μ : Mem) : Option (Int × Mem) :=
  (inv μ 2 a (mX1_hasHouse n a b2 μ)).bind fun p2 =>
  if eq32 p2.1 0 then
    retZ 0 p2.2
  else
  (inv p2.2 2 a (mX1_hasRope n a b1 p2.2)).bind fun p10 =>
  if eq32 p10.1 0 then
    retZ 0 p10.2
  else
  (gA p10.2 2 a 15).bind fun x17 =>
  (ldI p10.2 0 x17 (2 * b1)).bind fun x23 =>
  if eq32 x23 b2 then
    retZ 1 p10.2
  else
  (gA p10.2 2 a 15).bind fun x29 =>
  (ldI p10.2 0 x29 ((2 * b1) + 1)).bind fun x37 =>
  if eq32 x37 b2 then
    retZ 1 p10.2
  else
  retZ 0 p10.2
set_option maxRecDepth 100000 in
set_option maxHeartbeats 4000000 in
theorem cX1_hangs_ok (n : Nat) (a : Nat) (b1 : Int) (b2 : Int) (μ : Mem) : Mc yX1_hangs cX1_hangs 3 (some .boolean) 1 21 eI [aA a, aI b1, aI b2] μ (mX1_hangs n a b1 b2 μ) := by
  refine mc_of (L0 := [some (aA a), some (aI b1), some (aI b2)]) (k := 0) (by decide) rfl rfl (fun X Γ => ?_)
  unfold mX1_hangs
  refine sn_aload_n dX1_hangs_0 rfl ?_
  refine sn_iload_n dX1_hangs_1 rfl ?_
  refine sn_callVI (vs := [aI b2]) (ci := 1) (cX1_hasHouse_ok n a b2 μ) dX1_hangs_2 cw_X1_82 rfl rfl rfl (by decide) (by decide) (Nat.le_of_ble_eq_true rfl) (fun p2 => ?_)
  refine sn_if_eq (tgt := 46) dX1_hangs_5 (by decide) ?_ ?_
  · refine sn_iconst dX1_hangs_46 ?_
    exact sn_zret dX1_hangs_47
  · refine sn_aload_n dX1_hangs_8 rfl ?_
    refine sn_iload_n dX1_hangs_9 rfl ?_
    refine sn_callVI (vs := [aI b1]) (ci := 1) (cX1_hasRope_ok n a b1 p2.2) dX1_hangs_10 cw_X1_86 rfl rfl rfl (by decide) (by decide) (Nat.le_of_ble_eq_true rfl) (fun p10 => ?_)
    refine sn_if_eq (tgt := 46) dX1_hangs_13 (by decide) ?_ ?_
    · refine sn_iconst dX1_hangs_46 ?_
      exact sn_zret dX1_hangs_47
    · refine sn_aload_n dX1_hangs_16 rfl ?_
      refine sn_getA (ci := 1) (j := 15) dX1_hangs_17 fl_X1_40 (by decide) (fun x17 => ?_)
      refine sn_iconst dX1_hangs_20 ?_
      refine sn_iload_n dX1_hangs_21 rfl ?_
      refine sn_imul dX1_hangs_22 ?_
      refine sn_iald dX1_hangs_23 (fun x23 => ?_)
      refine sn_iload_n dX1_hangs_24 rfl ?_
      refine sn_icmp_eq (tgt := 42) dX1_hangs_25 (by decide) ?_ ?_
      · refine sn_iconst dX1_hangs_42 ?_
        refine sn_goto (tgt := 47) dX1_hangs_43 (by decide) ?_
        exact sn_zret dX1_hangs_47
      · refine sn_aload_n dX1_hangs_28 rfl ?_
        refine sn_getA (ci := 1) (j := 15) dX1_hangs_29 fl_X1_40 (by decide) (fun x29 => ?_)
        refine sn_iconst dX1_hangs_32 ?_
        refine sn_iload_n dX1_hangs_33 rfl ?_
        refine sn_imul dX1_hangs_34 ?_
        refine sn_iconst dX1_hangs_35 ?_
        refine sn_iadd dX1_hangs_36 ?_
        refine sn_iald dX1_hangs_37 (fun x37 => ?_)
        refine sn_iload_n dX1_hangs_38 rfl ?_
        refine sn_icmp_ne (tgt := 46) dX1_hangs_39 (by decide) ?_ ?_
        · refine sn_iconst dX1_hangs_46 ?_
          exact sn_zret dX1_hangs_47
        · refine sn_iconst dX1_hangs_42 ?_
          refine sn_goto (tgt := 47) dX1_hangs_43 (by decide) ?_
          exact sn_zret dX1_hangs_47
theorem dX1_hangsOpen_0 : decode cX1_hangsOpen 0 = .ok (.aload_n 0, 1) := by decide +kernel
theorem dX1_hangsOpen_1 : decode cX1_hangsOpen 1 = .ok (.iload_n 1, 1) := by decide +kernel
theorem dX1_hangsOpen_2 : decode cX1_hangsOpen 2 = .ok (.iload_n 2, 1) := by decide +kernel
theorem dX1_hangsOpen_3 : decode cX1_hangsOpen 3 = .ok (.invokevirtual 89, 3) := by decide +kernel
theorem dX1_hangsOpen_6 : decode cX1_hangsOpen 6 = .ok (.ifCond .eq 16, 3) := by decide +kernel
theorem dX1_hangsOpen_9 : decode cX1_hangsOpen 9 = .ok (.aload_n 0, 1) := by decide +kernel
theorem dX1_hangsOpen_10 : decode cX1_hangsOpen 10 = .ok (.getfield 36, 3) := by decide +kernel
theorem dX1_hangsOpen_13 : decode cX1_hangsOpen 13 = .ok (.iload_n 1, 1) := by decide +kernel
theorem dX1_hangsOpen_14 : decode cX1_hangsOpen 14 = .ok (.baload, 1) := by decide +kernel
theorem dX1_hangsOpen_15 : decode cX1_hangsOpen 15 = .ok (.ifCond .ne 7, 3) := by decide +kernel
theorem dX1_hangsOpen_18 : decode cX1_hangsOpen 18 = .ok (.iconst 1, 1) := by decide +kernel
theorem dX1_hangsOpen_19 : decode cX1_hangsOpen 19 = .ok (.goto 4, 3) := by decide +kernel
theorem dX1_hangsOpen_22 : decode cX1_hangsOpen 22 = .ok (.iconst 0, 1) := by decide +kernel
theorem dX1_hangsOpen_23 : decode cX1_hangsOpen 23 = .ok (.ireturn, 1) := by decide +kernel
def mX1_hangsOpen (n : Nat) (a : Nat) (b1 : Int) (b2 : Int) (μ : Mem) : Option (Int × Mem) :=
  (inv μ 2 a (mX1_hangs n a b1 b2 μ)).bind fun p3 =>
  if eq32 p3.1 0 then
    retZ 0 p3.2
  else
  (gA p3.2 2 a 14).bind fun x10 =>
  (ldI p3.2 2 x10 b1).bind fun x14 =>
  if eq32 x14 0 then
    retZ 1 p3.2
  else
  retZ 0 p3.2
set_option maxRecDepth 100000 in
set_option maxHeartbeats 4000000 in
theorem cX1_hangsOpen_ok (n : Nat) (a : Nat) (b1 : Int) (b2 : Int) (μ : Mem) : Mc yX1_hangsOpen cX1_hangsOpen 3 (some .boolean) 2 43 eI [aA a, aI b1, aI b2] μ (mX1_hangsOpen n a b1 b2 μ) := by
  refine mc_of (L0 := [some (aA a), some (aI b1), some (aI b2)]) (k := 0) (by decide) rfl rfl (fun X Γ => ?_)
  unfold mX1_hangsOpen
  refine sn_aload_n dX1_hangsOpen_0 rfl ?_
  refine sn_iload_n dX1_hangsOpen_1 rfl ?_
  refine sn_iload_n dX1_hangsOpen_2 rfl ?_
  refine sn_callVI (vs := [aI b1, aI b2]) (ci := 1) (cX1_hangs_ok n a b1 b2 μ) dX1_hangsOpen_3 cw_X1_89 rfl rfl rfl (by decide) (by decide) (Nat.le_of_ble_eq_true rfl) (fun p3 => ?_)
  refine sn_if_eq (tgt := 22) dX1_hangsOpen_6 (by decide) ?_ ?_
  · refine sn_iconst dX1_hangsOpen_22 ?_
    exact sn_zret dX1_hangsOpen_23
  · refine sn_aload_n dX1_hangsOpen_9 rfl ?_
    refine sn_getA (ci := 1) (j := 14) dX1_hangsOpen_10 fl_X1_36 (by decide) (fun x10 => ?_)
    refine sn_iload_n dX1_hangsOpen_13 rfl ?_
    refine sn_zald dX1_hangsOpen_14 (fun x14 => ?_)
    refine sn_if_ne (tgt := 22) dX1_hangsOpen_15 (by decide) ?_ ?_
    · refine sn_iconst dX1_hangsOpen_22 ?_
      exact sn_zret dX1_hangsOpen_23
    · refine sn_iconst dX1_hangsOpen_18 ?_
      refine sn_goto (tgt := 23) dX1_hangsOpen_19 (by decide) ?_
      exact sn_zret dX1_hangsOpen_23
theorem dX1_openCount_0 : decode cX1_openCount 0 = .ok (.iconst 0, 1) := by decide +kernel
theorem dX1_openCount_1 : decode cX1_openCount 1 = .ok (.istore_n 2, 1) := by decide +kernel
theorem dX1_openCount_2 : decode cX1_openCount 2 = .ok (.iconst 0, 1) := by decide +kernel
theorem dX1_openCount_3 : decode cX1_openCount 3 = .ok (.istore_n 3, 1) := by decide +kernel
theorem dX1_openCount_4 : decode cX1_openCount 4 = .ok (.iload_n 3, 1) := by decide +kernel
theorem dX1_openCount_5 : decode cX1_openCount 5 = .ok (.aload_n 0, 1) := by decide +kernel
theorem dX1_openCount_6 : decode cX1_openCount 6 = .ok (.getfield 59, 3) := by decide +kernel
theorem dX1_openCount_9 : decode cX1_openCount 9 = .ok (.if_icmp .ge 21, 3) := by decide +kernel
theorem dX1_openCount_12 : decode cX1_openCount 12 = .ok (.aload_n 0, 1) := by decide +kernel
theorem dX1_openCount_13 : decode cX1_openCount 13 = .ok (.iload_n 3, 1) := by decide +kernel
theorem dX1_openCount_14 : decode cX1_openCount 14 = .ok (.iload_n 1, 1) := by decide +kernel
theorem dX1_openCount_15 : decode cX1_openCount 15 = .ok (.invokevirtual 93, 3) := by decide +kernel
theorem dX1_openCount_18 : decode cX1_openCount 18 = .ok (.ifCond .eq 6, 3) := by decide +kernel
theorem dX1_openCount_21 : decode cX1_openCount 21 = .ok (.iinc 2 1, 3) := by decide +kernel
theorem dX1_openCount_24 : decode cX1_openCount 24 = .ok (.iinc 3 1, 3) := by decide +kernel
theorem dX1_openCount_27 : decode cX1_openCount 27 = .ok (.goto (-23), 3) := by decide +kernel
theorem dX1_openCount_30 : decode cX1_openCount 30 = .ok (.iload_n 2, 1) := by decide +kernel
theorem dX1_openCount_31 : decode cX1_openCount 31 = .ok (.ireturn, 1) := by decide +kernel
def mX1_openCount (n : Nat) (a : Nat) (b1 : Int) (μ : Mem) : Option (Int × Mem) :=
  lp (fun nx4 (v4 : Int × Int) (μ4 : Mem) =>
  (gI μ4 2 a 1).bind fun x6 =>
  if lt32 v4.2 x6 then
    (inv μ4 2 a (mX1_hangsOpen n a v4.2 b1 μ4)).bind fun p15 =>
    if eq32 p15.1 0 then
      nx4 (v4.1, (v4.2 + 1)) p15.2
    else
    nx4 ((v4.1 + 1), (v4.2 + 1)) p15.2
  else
  some (v4.1, μ4)) n (0, 0) μ
set_option maxRecDepth 100000 in
set_option maxHeartbeats 4000000 in
theorem cX1_openCount_ok (n : Nat) (a : Nat) (b1 : Int) (μ : Mem) : Mc yX1_openCount cX1_openCount 4 (some .int) 3 65 eI [aA a, aI b1] μ (mX1_openCount n a b1 μ) := by
  refine mc_of (L0 := [some (aA a), some (aI b1), none, none]) (k := 2) (by decide) rfl rfl (fun X Γ => ?_)
  unfold mX1_openCount
  refine sn_iconst dX1_openCount_0 ?_
  refine sn_istore_n (L' := [some (aA a), some (aI b1), some (aI 0), none]) dX1_openCount_1 (by decide) rfl ?_
  refine sn_iconst dX1_openCount_2 ?_
  refine sn_istore_n (L' := [some (aA a), some (aI b1), some (aI 0), some (aI 0)]) dX1_openCount_3 (by decide) rfl ?_
  refine sn_lp (La := fun v4 : Int × Int => [some (aA a), some (aI b1), some (aI v4.1), some (aI v4.2)]) ?_ n (0, 0) μ
  intro nx4 hnx4 v4 μ4
  refine sn_iload_n dX1_openCount_4 rfl ?_
  refine sn_aload_n dX1_openCount_5 rfl ?_
  refine sn_getI (ci := 1) (j := 1) dX1_openCount_6 fl_X1_59 rfl (fun x6 => ?_)
  refine sn_icmp_ge (tgt := 30) dX1_openCount_9 (by decide) ?_ ?_
  · refine sn_iload_n dX1_openCount_30 rfl ?_
    exact sn_iret dX1_openCount_31
  · refine sn_aload_n dX1_openCount_12 rfl ?_
    refine sn_iload_n dX1_openCount_13 rfl ?_
    refine sn_iload_n dX1_openCount_14 rfl ?_
    refine sn_callVI (vs := [aI v4.2, aI b1]) (ci := 1) (cX1_hangsOpen_ok n a v4.2 b1 μ4) dX1_openCount_15 cw_X1_93 rfl rfl rfl (by decide) (by decide) (Nat.le_of_ble_eq_true rfl) (fun p15 => ?_)
    refine sn_if_eq (tgt := 24) dX1_openCount_18 (by decide) ?_ ?_
    · refine sn_iinc (L' := [some (aA a), some (aI b1), some (aI v4.1), some (aI (v4.2 + 1))]) dX1_openCount_24 rfl (by decide) rfl ?_
      refine sn_goto (tgt := 4) dX1_openCount_27 (by decide) ?_
      exact hnx4 (v4.1, (v4.2 + 1)) p15.2
    · refine sn_iinc (L' := [some (aA a), some (aI b1), some (aI (v4.1 + 1)), some (aI v4.2)]) dX1_openCount_21 rfl (by decide) rfl ?_
      refine sn_iinc (L' := [some (aA a), some (aI b1), some (aI (v4.1 + 1)), some (aI (v4.2 + 1))]) dX1_openCount_24 rfl (by decide) rfl ?_
      refine sn_goto (tgt := 4) dX1_openCount_27 (by decide) ?_
      exact hnx4 ((v4.1 + 1), (v4.2 + 1)) p15.2
theorem dX1_takeMoved_0 : decode cX1_takeMoved 0 = .ok (.aload_n 0, 1) := by decide +kernel
theorem dX1_takeMoved_1 : decode cX1_takeMoved 1 = .ok (.aload_n 1, 1) := by decide +kernel
theorem dX1_takeMoved_2 : decode cX1_takeMoved 2 = .ok (.getfield 62, 3) := by decide +kernel
theorem dX1_takeMoved_5 : decode cX1_takeMoved 5 = .ok (.putfield 62, 3) := by decide +kernel
theorem dX1_takeMoved_8 : decode cX1_takeMoved 8 = .ok (.aload_n 1, 1) := by decide +kernel
theorem dX1_takeMoved_9 : decode cX1_takeMoved 9 = .ok (.getfield 18, 3) := by decide +kernel
theorem dX1_takeMoved_12 : decode cX1_takeMoved 12 = .ok (.iconst 0, 1) := by decide +kernel
theorem dX1_takeMoved_13 : decode cX1_takeMoved 13 = .ok (.aload_n 0, 1) := by decide +kernel
theorem dX1_takeMoved_14 : decode cX1_takeMoved 14 = .ok (.getfield 18, 3) := by decide +kernel
theorem dX1_takeMoved_17 : decode cX1_takeMoved 17 = .ok (.iconst 0, 1) := by decide +kernel
theorem dX1_takeMoved_18 : decode cX1_takeMoved 18 = .ok (.bipush 10, 2) := by decide +kernel
theorem dX1_takeMoved_20 : decode cX1_takeMoved 20 = .ok (.invokestatic 72, 3) := by decide +kernel
theorem dX1_takeMoved_23 : decode cX1_takeMoved 23 = .ok (.aload_n 1, 1) := by decide +kernel
theorem dX1_takeMoved_24 : decode cX1_takeMoved 24 = .ok (.getfield 24, 3) := by decide +kernel
theorem dX1_takeMoved_27 : decode cX1_takeMoved 27 = .ok (.iconst 0, 1) := by decide +kernel
theorem dX1_takeMoved_28 : decode cX1_takeMoved 28 = .ok (.aload_n 0, 1) := by decide +kernel
theorem dX1_takeMoved_29 : decode cX1_takeMoved 29 = .ok (.getfield 24, 3) := by decide +kernel
theorem dX1_takeMoved_32 : decode cX1_takeMoved 32 = .ok (.iconst 0, 1) := by decide +kernel
theorem dX1_takeMoved_33 : decode cX1_takeMoved 33 = .ok (.bipush 10, 2) := by decide +kernel
theorem dX1_takeMoved_35 : decode cX1_takeMoved 35 = .ok (.invokestatic 72, 3) := by decide +kernel
theorem dX1_takeMoved_38 : decode cX1_takeMoved 38 = .ok (.aload_n 1, 1) := by decide +kernel
theorem dX1_takeMoved_39 : decode cX1_takeMoved 39 = .ok (.getfield 27, 3) := by decide +kernel
theorem dX1_takeMoved_42 : decode cX1_takeMoved 42 = .ok (.iconst 0, 1) := by decide +kernel
theorem dX1_takeMoved_43 : decode cX1_takeMoved 43 = .ok (.aload_n 0, 1) := by decide +kernel
theorem dX1_takeMoved_44 : decode cX1_takeMoved 44 = .ok (.getfield 27, 3) := by decide +kernel
theorem dX1_takeMoved_47 : decode cX1_takeMoved 47 = .ok (.iconst 0, 1) := by decide +kernel
theorem dX1_takeMoved_48 : decode cX1_takeMoved 48 = .ok (.bipush 10, 2) := by decide +kernel
theorem dX1_takeMoved_50 : decode cX1_takeMoved 50 = .ok (.invokestatic 72, 3) := by decide +kernel
theorem dX1_takeMoved_53 : decode cX1_takeMoved 53 = .ok (.aload_n 1, 1) := by decide +kernel
theorem dX1_takeMoved_54 : decode cX1_takeMoved 54 = .ok (.getfield 33, 3) := by decide +kernel
theorem dX1_takeMoved_57 : decode cX1_takeMoved 57 = .ok (.iconst 0, 1) := by decide +kernel
theorem dX1_takeMoved_58 : decode cX1_takeMoved 58 = .ok (.aload_n 0, 1) := by decide +kernel
theorem dX1_takeMoved_59 : decode cX1_takeMoved 59 = .ok (.getfield 33, 3) := by decide +kernel
theorem dX1_takeMoved_62 : decode cX1_takeMoved 62 = .ok (.iconst 0, 1) := by decide +kernel
theorem dX1_takeMoved_63 : decode cX1_takeMoved 63 = .ok (.bipush 16, 2) := by decide +kernel
theorem dX1_takeMoved_65 : decode cX1_takeMoved 65 = .ok (.invokestatic 72, 3) := by decide +kernel
theorem dX1_takeMoved_68 : decode cX1_takeMoved 68 = .ok (.aload_n 1, 1) := by decide +kernel
theorem dX1_takeMoved_69 : decode cX1_takeMoved 69 = .ok (.getfield 46, 3) := by decide +kernel
theorem dX1_takeMoved_72 : decode cX1_takeMoved 72 = .ok (.iconst 0, 1) := by decide +kernel
theorem dX1_takeMoved_73 : decode cX1_takeMoved 73 = .ok (.aload_n 0, 1) := by decide +kernel
theorem dX1_takeMoved_74 : decode cX1_takeMoved 74 = .ok (.getfield 46, 3) := by decide +kernel
theorem dX1_takeMoved_77 : decode cX1_takeMoved 77 = .ok (.iconst 0, 1) := by decide +kernel
theorem dX1_takeMoved_78 : decode cX1_takeMoved 78 = .ok (.bipush 32, 2) := by decide +kernel
theorem dX1_takeMoved_80 : decode cX1_takeMoved 80 = .ok (.invokestatic 72, 3) := by decide +kernel
theorem dX1_takeMoved_83 : decode cX1_takeMoved 83 = .ok (.return_, 1) := by decide +kernel
def mX1_takeMoved (n : Nat) (a : Nat) (b1 : Nat) (μ : Mem) : Option (Unit × Mem) :=
  (gI μ 2 b1 2).bind fun x2 =>
  (pI μ 2 a 2 x2).bind fun μ5 =>
  (gA μ5 2 b1 8).bind fun x9 =>
  (gA μ5 2 a 8).bind fun x14 =>
  (cpI μ5 0 x9 0 x14 0 10).bind fun μ20 =>
  (gA μ20 2 b1 10).bind fun x24 =>
  (gA μ20 2 a 10).bind fun x29 =>
  (cpI μ20 0 x24 0 x29 0 10).bind fun μ35 =>
  (gA μ35 2 b1 11).bind fun x39 =>
  (gA μ35 2 a 11).bind fun x44 =>
  (cpI μ35 0 x39 0 x44 0 10).bind fun μ50 =>
  (gA μ50 2 b1 13).bind fun x54 =>
  (gA μ50 2 a 13).bind fun x59 =>
  (cpI μ50 0 x54 0 x59 0 16).bind fun μ65 =>
  (gA μ65 2 b1 17).bind fun x69 =>
  (gA μ65 2 a 17).bind fun x74 =>
  (cpI μ65 2 x69 0 x74 0 32).bind fun μ80 =>
  some ((), μ80)
set_option maxRecDepth 100000 in
set_option maxHeartbeats 4000000 in
theorem cX1_takeMoved_ok (n : Nat) (a : Nat) (b1 : Nat) (μ : Mem) : Mc yX1_takeMoved cX1_takeMoved 2 none 1 80 eV [aA a, aA b1] μ (mX1_takeMoved n a b1 μ) := by
  refine mc_of (L0 := [some (aA a), some (aA b1)]) (k := 0) (by decide) rfl rfl (fun X Γ => ?_)
  unfold mX1_takeMoved
  refine sn_aload_n dX1_takeMoved_0 rfl ?_
  refine sn_aload_n dX1_takeMoved_1 rfl ?_
  refine sn_getI (ci := 1) (j := 2) dX1_takeMoved_2 fl_X1_62 rfl (fun x2 => ?_)
  refine sn_putI (ci := 1) (j := 2) dX1_takeMoved_5 fl_X1_62 rfl (fun q h => by cases h; rfl) (fun μ5 => ?_)
  refine sn_aload_n dX1_takeMoved_8 rfl ?_
  refine sn_getA (ci := 1) (j := 8) dX1_takeMoved_9 fl_X1_18 (by decide) (fun x9 => ?_)
  refine sn_iconst dX1_takeMoved_12 ?_
  refine sn_aload_n dX1_takeMoved_13 rfl ?_
  refine sn_getA (ci := 1) (j := 8) dX1_takeMoved_14 fl_X1_18 (by decide) (fun x14 => ?_)
  refine sn_iconst dX1_takeMoved_17 ?_
  refine sn_bipush dX1_takeMoved_18 (by decide) ?_
  refine sn_copy (t := 0) dX1_takeMoved_20 ml_X1_72 (by decide) (by decide) (by decide) (Nat.le_of_ble_eq_true rfl) (fun μ20 => ?_)
  refine sn_aload_n dX1_takeMoved_23 rfl ?_
  refine sn_getA (ci := 1) (j := 10) dX1_takeMoved_24 fl_X1_24 (by decide) (fun x24 => ?_)
  refine sn_iconst dX1_takeMoved_27 ?_
  refine sn_aload_n dX1_takeMoved_28 rfl ?_
  refine sn_getA (ci := 1) (j := 10) dX1_takeMoved_29 fl_X1_24 (by decide) (fun x29 => ?_)
  refine sn_iconst dX1_takeMoved_32 ?_
  refine sn_bipush dX1_takeMoved_33 (by decide) ?_
  refine sn_copy (t := 0) dX1_takeMoved_35 ml_X1_72 (by decide) (by decide) (by decide) (Nat.le_of_ble_eq_true rfl) (fun μ35 => ?_)
  refine sn_aload_n dX1_takeMoved_38 rfl ?_
  refine sn_getA (ci := 1) (j := 11) dX1_takeMoved_39 fl_X1_27 (by decide) (fun x39 => ?_)
  refine sn_iconst dX1_takeMoved_42 ?_
  refine sn_aload_n dX1_takeMoved_43 rfl ?_
  refine sn_getA (ci := 1) (j := 11) dX1_takeMoved_44 fl_X1_27 (by decide) (fun x44 => ?_)
  refine sn_iconst dX1_takeMoved_47 ?_
  refine sn_bipush dX1_takeMoved_48 (by decide) ?_
  refine sn_copy (t := 0) dX1_takeMoved_50 ml_X1_72 (by decide) (by decide) (by decide) (Nat.le_of_ble_eq_true rfl) (fun μ50 => ?_)
  refine sn_aload_n dX1_takeMoved_53 rfl ?_
  refine sn_getA (ci := 1) (j := 13) dX1_takeMoved_54 fl_X1_33 (by decide) (fun x54 => ?_)
  refine sn_iconst dX1_takeMoved_57 ?_
  refine sn_aload_n dX1_takeMoved_58 rfl ?_
  refine sn_getA (ci := 1) (j := 13) dX1_takeMoved_59 fl_X1_33 (by decide) (fun x59 => ?_)
  refine sn_iconst dX1_takeMoved_62 ?_
  refine sn_bipush dX1_takeMoved_63 (by decide) ?_
  refine sn_copy (t := 0) dX1_takeMoved_65 ml_X1_72 (by decide) (by decide) (by decide) (Nat.le_of_ble_eq_true rfl) (fun μ65 => ?_)
  refine sn_aload_n dX1_takeMoved_68 rfl ?_
  refine sn_getA (ci := 1) (j := 17) dX1_takeMoved_69 fl_X1_46 (by decide) (fun x69 => ?_)
  refine sn_iconst dX1_takeMoved_72 ?_
  refine sn_aload_n dX1_takeMoved_73 rfl ?_
  refine sn_getA (ci := 1) (j := 17) dX1_takeMoved_74 fl_X1_46 (by decide) (fun x74 => ?_)
  refine sn_iconst dX1_takeMoved_77 ?_
  refine sn_bipush dX1_takeMoved_78 (by decide) ?_
  refine sn_copy (t := 2) dX1_takeMoved_80 ml_X1_72 (by decide) (by decide) (by decide) (Nat.le_of_ble_eq_true rfl) (fun μ80 => ?_)
  exact sn_vret dX1_takeMoved_83
theorem dX1_takeAll_0 : decode cX1_takeAll 0 = .ok (.aload_n 0, 1) := by decide +kernel
theorem dX1_takeAll_1 : decode cX1_takeAll 1 = .ok (.aload_n 1, 1) := by decide +kernel
theorem dX1_takeAll_2 : decode cX1_takeAll 2 = .ok (.getfield 56, 3) := by decide +kernel
theorem dX1_takeAll_5 : decode cX1_takeAll 5 = .ok (.putfield 56, 3) := by decide +kernel
theorem dX1_takeAll_8 : decode cX1_takeAll 8 = .ok (.aload_n 0, 1) := by decide +kernel
theorem dX1_takeAll_9 : decode cX1_takeAll 9 = .ok (.aload_n 1, 1) := by decide +kernel
theorem dX1_takeAll_10 : decode cX1_takeAll 10 = .ok (.getfield 59, 3) := by decide +kernel
theorem dX1_takeAll_13 : decode cX1_takeAll 13 = .ok (.putfield 59, 3) := by decide +kernel
theorem dX1_takeAll_16 : decode cX1_takeAll 16 = .ok (.aload_n 0, 1) := by decide +kernel
theorem dX1_takeAll_17 : decode cX1_takeAll 17 = .ok (.aload_n 1, 1) := by decide +kernel
theorem dX1_takeAll_18 : decode cX1_takeAll 18 = .ok (.getfield 49, 3) := by decide +kernel
theorem dX1_takeAll_21 : decode cX1_takeAll 21 = .ok (.putfield 49, 3) := by decide +kernel
theorem dX1_takeAll_24 : decode cX1_takeAll 24 = .ok (.aload_n 0, 1) := by decide +kernel
theorem dX1_takeAll_25 : decode cX1_takeAll 25 = .ok (.aload_n 1, 1) := by decide +kernel
theorem dX1_takeAll_26 : decode cX1_takeAll 26 = .ok (.getfield 53, 3) := by decide +kernel
theorem dX1_takeAll_29 : decode cX1_takeAll 29 = .ok (.putfield 53, 3) := by decide +kernel
theorem dX1_takeAll_32 : decode cX1_takeAll 32 = .ok (.aload_n 0, 1) := by decide +kernel
theorem dX1_takeAll_33 : decode cX1_takeAll 33 = .ok (.aload_n 1, 1) := by decide +kernel
theorem dX1_takeAll_34 : decode cX1_takeAll 34 = .ok (.getfield 65, 3) := by decide +kernel
theorem dX1_takeAll_37 : decode cX1_takeAll 37 = .ok (.putfield 65, 3) := by decide +kernel
theorem dX1_takeAll_40 : decode cX1_takeAll 40 = .ok (.aload_n 1, 1) := by decide +kernel
theorem dX1_takeAll_41 : decode cX1_takeAll 41 = .ok (.getfield 9, 3) := by decide +kernel
theorem dX1_takeAll_44 : decode cX1_takeAll 44 = .ok (.iconst 0, 1) := by decide +kernel
theorem dX1_takeAll_45 : decode cX1_takeAll 45 = .ok (.aload_n 0, 1) := by decide +kernel
theorem dX1_takeAll_46 : decode cX1_takeAll 46 = .ok (.getfield 9, 3) := by decide +kernel
theorem dX1_takeAll_49 : decode cX1_takeAll 49 = .ok (.iconst 0, 1) := by decide +kernel
theorem dX1_takeAll_50 : decode cX1_takeAll 50 = .ok (.bipush 10, 2) := by decide +kernel
theorem dX1_takeAll_52 : decode cX1_takeAll 52 = .ok (.invokestatic 72, 3) := by decide +kernel
theorem dX1_takeAll_55 : decode cX1_takeAll 55 = .ok (.aload_n 1, 1) := by decide +kernel
theorem dX1_takeAll_56 : decode cX1_takeAll 56 = .ok (.getfield 15, 3) := by decide +kernel
theorem dX1_takeAll_59 : decode cX1_takeAll 59 = .ok (.iconst 0, 1) := by decide +kernel
theorem dX1_takeAll_60 : decode cX1_takeAll 60 = .ok (.aload_n 0, 1) := by decide +kernel
theorem dX1_takeAll_61 : decode cX1_takeAll 61 = .ok (.getfield 15, 3) := by decide +kernel
theorem dX1_takeAll_64 : decode cX1_takeAll 64 = .ok (.iconst 0, 1) := by decide +kernel
theorem dX1_takeAll_65 : decode cX1_takeAll 65 = .ok (.bipush 10, 2) := by decide +kernel
theorem dX1_takeAll_67 : decode cX1_takeAll 67 = .ok (.invokestatic 72, 3) := by decide +kernel
theorem dX1_takeAll_70 : decode cX1_takeAll 70 = .ok (.aload_n 1, 1) := by decide +kernel
theorem dX1_takeAll_71 : decode cX1_takeAll 71 = .ok (.getfield 21, 3) := by decide +kernel
theorem dX1_takeAll_74 : decode cX1_takeAll 74 = .ok (.iconst 0, 1) := by decide +kernel
theorem dX1_takeAll_75 : decode cX1_takeAll 75 = .ok (.aload_n 0, 1) := by decide +kernel
theorem dX1_takeAll_76 : decode cX1_takeAll 76 = .ok (.getfield 21, 3) := by decide +kernel
theorem dX1_takeAll_79 : decode cX1_takeAll 79 = .ok (.iconst 0, 1) := by decide +kernel
theorem dX1_takeAll_80 : decode cX1_takeAll 80 = .ok (.bipush 10, 2) := by decide +kernel
theorem dX1_takeAll_82 : decode cX1_takeAll 82 = .ok (.invokestatic 72, 3) := by decide +kernel
theorem dX1_takeAll_85 : decode cX1_takeAll 85 = .ok (.aload_n 1, 1) := by decide +kernel
theorem dX1_takeAll_86 : decode cX1_takeAll 86 = .ok (.getfield 30, 3) := by decide +kernel
theorem dX1_takeAll_89 : decode cX1_takeAll 89 = .ok (.iconst 0, 1) := by decide +kernel
theorem dX1_takeAll_90 : decode cX1_takeAll 90 = .ok (.aload_n 0, 1) := by decide +kernel
theorem dX1_takeAll_91 : decode cX1_takeAll 91 = .ok (.getfield 30, 3) := by decide +kernel
theorem dX1_takeAll_94 : decode cX1_takeAll 94 = .ok (.iconst 0, 1) := by decide +kernel
theorem dX1_takeAll_95 : decode cX1_takeAll 95 = .ok (.bipush 16, 2) := by decide +kernel
theorem dX1_takeAll_97 : decode cX1_takeAll 97 = .ok (.invokestatic 72, 3) := by decide +kernel
theorem dX1_takeAll_100 : decode cX1_takeAll 100 = .ok (.aload_n 1, 1) := by decide +kernel
theorem dX1_takeAll_101 : decode cX1_takeAll 101 = .ok (.getfield 36, 3) := by decide +kernel
theorem dX1_takeAll_104 : decode cX1_takeAll 104 = .ok (.iconst 0, 1) := by decide +kernel
theorem dX1_takeAll_105 : decode cX1_takeAll 105 = .ok (.aload_n 0, 1) := by decide +kernel
theorem dX1_takeAll_106 : decode cX1_takeAll 106 = .ok (.getfield 36, 3) := by decide +kernel
theorem dX1_takeAll_109 : decode cX1_takeAll 109 = .ok (.iconst 0, 1) := by decide +kernel
theorem dX1_takeAll_110 : decode cX1_takeAll 110 = .ok (.bipush 16, 2) := by decide +kernel
theorem dX1_takeAll_112 : decode cX1_takeAll 112 = .ok (.invokestatic 72, 3) := by decide +kernel
theorem dX1_takeAll_115 : decode cX1_takeAll 115 = .ok (.aload_n 1, 1) := by decide +kernel
theorem dX1_takeAll_116 : decode cX1_takeAll 116 = .ok (.getfield 40, 3) := by decide +kernel
theorem dX1_takeAll_119 : decode cX1_takeAll 119 = .ok (.iconst 0, 1) := by decide +kernel
theorem dX1_takeAll_120 : decode cX1_takeAll 120 = .ok (.aload_n 0, 1) := by decide +kernel
theorem dX1_takeAll_121 : decode cX1_takeAll 121 = .ok (.getfield 40, 3) := by decide +kernel
theorem dX1_takeAll_124 : decode cX1_takeAll 124 = .ok (.iconst 0, 1) := by decide +kernel
theorem dX1_takeAll_125 : decode cX1_takeAll 125 = .ok (.bipush 32, 2) := by decide +kernel
theorem dX1_takeAll_127 : decode cX1_takeAll 127 = .ok (.invokestatic 72, 3) := by decide +kernel
theorem dX1_takeAll_130 : decode cX1_takeAll 130 = .ok (.aload_n 1, 1) := by decide +kernel
theorem dX1_takeAll_131 : decode cX1_takeAll 131 = .ok (.getfield 43, 3) := by decide +kernel
theorem dX1_takeAll_134 : decode cX1_takeAll 134 = .ok (.iconst 0, 1) := by decide +kernel
theorem dX1_takeAll_135 : decode cX1_takeAll 135 = .ok (.aload_n 0, 1) := by decide +kernel
theorem dX1_takeAll_136 : decode cX1_takeAll 136 = .ok (.getfield 43, 3) := by decide +kernel
theorem dX1_takeAll_139 : decode cX1_takeAll 139 = .ok (.iconst 0, 1) := by decide +kernel
theorem dX1_takeAll_140 : decode cX1_takeAll 140 = .ok (.bipush 32, 2) := by decide +kernel
theorem dX1_takeAll_142 : decode cX1_takeAll 142 = .ok (.invokestatic 72, 3) := by decide +kernel
theorem dX1_takeAll_145 : decode cX1_takeAll 145 = .ok (.aload_n 0, 1) := by decide +kernel
theorem dX1_takeAll_146 : decode cX1_takeAll 146 = .ok (.aload_n 1, 1) := by decide +kernel
theorem dX1_takeAll_147 : decode cX1_takeAll 147 = .ok (.invokevirtual 78, 3) := by decide +kernel
theorem dX1_takeAll_150 : decode cX1_takeAll 150 = .ok (.return_, 1) := by decide +kernel
def mX1_takeAll (n : Nat) (a : Nat) (b1 : Nat) (μ : Mem) : Option (Unit × Mem) :=
  (gI μ 2 b1 0).bind fun x2 =>
  (pI μ 2 a 0 x2).bind fun μ5 =>
  (gI μ5 2 b1 1).bind fun x10 =>
  (pI μ5 2 a 1 x10).bind fun μ13 =>
  (gI μ13 2 b1 3).bind fun x18 =>
  (pI μ13 2 a 3 x18).bind fun μ21 =>
  (gI μ21 2 b1 4).bind fun x26 =>
  (pI μ21 2 a 4 x26).bind fun μ29 =>
  (gI μ29 2 b1 5).bind fun x34 =>
  (pI μ29 2 a 5 x34).bind fun μ37 =>
  (gA μ37 2 b1 6).bind fun x41 =>
  (gA μ37 2 a 6).bind fun x46 =>
  (cpI μ37 0 x41 0 x46 0 10).bind fun μ52 =>
  (gA μ52 2 b1 7).bind fun x56 =>
  (gA μ52 2 a 7).bind fun x61 =>
  (cpI μ52 0 x56 0 x61 0 10).bind fun μ67 =>
  (gA μ67 2 b1 9).bind fun x71 =>
  (gA μ67 2 a 9).bind fun x76 =>
  (cpI μ67 0 x71 0 x76 0 10).bind fun μ82 =>
  (gA μ82 2 b1 12).bind fun x86 =>
  (gA μ82 2 a 12).bind fun x91 =>
  (cpI μ82 0 x86 0 x91 0 16).bind fun μ97 =>
  (gA μ97 2 b1 14).bind fun x101 =>
  (gA μ97 2 a 14).bind fun x106 =>
  (cpI μ97 2 x101 0 x106 0 16).bind fun μ112 =>
  (gA μ112 2 b1 15).bind fun x116 =>
  (gA μ112 2 a 15).bind fun x121 =>
  (cpI μ112 0 x116 0 x121 0 32).bind fun μ127 =>
  (gA μ127 2 b1 16).bind fun x131 =>
  (gA μ127 2 a 16).bind fun x136 =>
  (cpI μ127 0 x131 0 x136 0 32).bind fun μ142 =>
  (inv μ142 2 a (mX1_takeMoved n a b1 μ142)).bind fun p147 =>
  some ((), p147.2)
set_option maxRecDepth 100000 in
set_option maxHeartbeats 4000000 in
theorem cX1_takeAll_ok (n : Nat) (a : Nat) (b1 : Nat) (μ : Mem) : Mc yX1_takeAll cX1_takeAll 2 none 2 101 eV [aA a, aA b1] μ (mX1_takeAll n a b1 μ) := by
  refine mc_of (L0 := [some (aA a), some (aA b1)]) (k := 0) (by decide) rfl rfl (fun X Γ => ?_)
  unfold mX1_takeAll
  refine sn_aload_n dX1_takeAll_0 rfl ?_
  refine sn_aload_n dX1_takeAll_1 rfl ?_
  refine sn_getI (ci := 1) (j := 0) dX1_takeAll_2 fl_X1_56 rfl (fun x2 => ?_)
  refine sn_putI (ci := 1) (j := 0) dX1_takeAll_5 fl_X1_56 rfl (fun q h => by cases h; rfl) (fun μ5 => ?_)
  refine sn_aload_n dX1_takeAll_8 rfl ?_
  refine sn_aload_n dX1_takeAll_9 rfl ?_
  refine sn_getI (ci := 1) (j := 1) dX1_takeAll_10 fl_X1_59 rfl (fun x10 => ?_)
  refine sn_putI (ci := 1) (j := 1) dX1_takeAll_13 fl_X1_59 rfl (fun q h => by cases h; rfl) (fun μ13 => ?_)
  refine sn_aload_n dX1_takeAll_16 rfl ?_
  refine sn_aload_n dX1_takeAll_17 rfl ?_
  refine sn_getI (ci := 1) (j := 3) dX1_takeAll_18 fl_X1_49 rfl (fun x18 => ?_)
  refine sn_putI (ci := 1) (j := 3) dX1_takeAll_21 fl_X1_49 rfl (fun q h => by cases h; rfl) (fun μ21 => ?_)
  refine sn_aload_n dX1_takeAll_24 rfl ?_
  refine sn_aload_n dX1_takeAll_25 rfl ?_
  refine sn_getI (ci := 1) (j := 4) dX1_takeAll_26 fl_X1_53 rfl (fun x26 => ?_)
  refine sn_putI (ci := 1) (j := 4) dX1_takeAll_29 fl_X1_53 rfl (fun q h => by cases h; rfl) (fun μ29 => ?_)
  refine sn_aload_n dX1_takeAll_32 rfl ?_
  refine sn_aload_n dX1_takeAll_33 rfl ?_
  refine sn_getI (ci := 1) (j := 5) dX1_takeAll_34 fl_X1_65 rfl (fun x34 => ?_)
  refine sn_putI (ci := 1) (j := 5) dX1_takeAll_37 fl_X1_65 rfl (fun q h => by cases h; rfl) (fun μ37 => ?_)
  refine sn_aload_n dX1_takeAll_40 rfl ?_
  refine sn_getA (ci := 1) (j := 6) dX1_takeAll_41 fl_X1_9 (by decide) (fun x41 => ?_)
  refine sn_iconst dX1_takeAll_44 ?_
  refine sn_aload_n dX1_takeAll_45 rfl ?_
  refine sn_getA (ci := 1) (j := 6) dX1_takeAll_46 fl_X1_9 (by decide) (fun x46 => ?_)
  refine sn_iconst dX1_takeAll_49 ?_
  refine sn_bipush dX1_takeAll_50 (by decide) ?_
  refine sn_copy (t := 0) dX1_takeAll_52 ml_X1_72 (by decide) (by decide) (by decide) (Nat.le_of_ble_eq_true rfl) (fun μ52 => ?_)
  refine sn_aload_n dX1_takeAll_55 rfl ?_
  refine sn_getA (ci := 1) (j := 7) dX1_takeAll_56 fl_X1_15 (by decide) (fun x56 => ?_)
  refine sn_iconst dX1_takeAll_59 ?_
  refine sn_aload_n dX1_takeAll_60 rfl ?_
  refine sn_getA (ci := 1) (j := 7) dX1_takeAll_61 fl_X1_15 (by decide) (fun x61 => ?_)
  refine sn_iconst dX1_takeAll_64 ?_
  refine sn_bipush dX1_takeAll_65 (by decide) ?_
  refine sn_copy (t := 0) dX1_takeAll_67 ml_X1_72 (by decide) (by decide) (by decide) (Nat.le_of_ble_eq_true rfl) (fun μ67 => ?_)
  refine sn_aload_n dX1_takeAll_70 rfl ?_
  refine sn_getA (ci := 1) (j := 9) dX1_takeAll_71 fl_X1_21 (by decide) (fun x71 => ?_)
  refine sn_iconst dX1_takeAll_74 ?_
  refine sn_aload_n dX1_takeAll_75 rfl ?_
  refine sn_getA (ci := 1) (j := 9) dX1_takeAll_76 fl_X1_21 (by decide) (fun x76 => ?_)
  refine sn_iconst dX1_takeAll_79 ?_
  refine sn_bipush dX1_takeAll_80 (by decide) ?_
  refine sn_copy (t := 0) dX1_takeAll_82 ml_X1_72 (by decide) (by decide) (by decide) (Nat.le_of_ble_eq_true rfl) (fun μ82 => ?_)
  refine sn_aload_n dX1_takeAll_85 rfl ?_
  refine sn_getA (ci := 1) (j := 12) dX1_takeAll_86 fl_X1_30 (by decide) (fun x86 => ?_)
  refine sn_iconst dX1_takeAll_89 ?_
  refine sn_aload_n dX1_takeAll_90 rfl ?_
  refine sn_getA (ci := 1) (j := 12) dX1_takeAll_91 fl_X1_30 (by decide) (fun x91 => ?_)
  refine sn_iconst dX1_takeAll_94 ?_
  refine sn_bipush dX1_takeAll_95 (by decide) ?_
  refine sn_copy (t := 0) dX1_takeAll_97 ml_X1_72 (by decide) (by decide) (by decide) (Nat.le_of_ble_eq_true rfl) (fun μ97 => ?_)
  refine sn_aload_n dX1_takeAll_100 rfl ?_
  refine sn_getA (ci := 1) (j := 14) dX1_takeAll_101 fl_X1_36 (by decide) (fun x101 => ?_)
  refine sn_iconst dX1_takeAll_104 ?_
  refine sn_aload_n dX1_takeAll_105 rfl ?_
  refine sn_getA (ci := 1) (j := 14) dX1_takeAll_106 fl_X1_36 (by decide) (fun x106 => ?_)
  refine sn_iconst dX1_takeAll_109 ?_
  refine sn_bipush dX1_takeAll_110 (by decide) ?_
  refine sn_copy (t := 2) dX1_takeAll_112 ml_X1_72 (by decide) (by decide) (by decide) (Nat.le_of_ble_eq_true rfl) (fun μ112 => ?_)
  refine sn_aload_n dX1_takeAll_115 rfl ?_
  refine sn_getA (ci := 1) (j := 15) dX1_takeAll_116 fl_X1_40 (by decide) (fun x116 => ?_)
  refine sn_iconst dX1_takeAll_119 ?_
  refine sn_aload_n dX1_takeAll_120 rfl ?_
  refine sn_getA (ci := 1) (j := 15) dX1_takeAll_121 fl_X1_40 (by decide) (fun x121 => ?_)
  refine sn_iconst dX1_takeAll_124 ?_
  refine sn_bipush dX1_takeAll_125 (by decide) ?_
  refine sn_copy (t := 0) dX1_takeAll_127 ml_X1_72 (by decide) (by decide) (by decide) (Nat.le_of_ble_eq_true rfl) (fun μ127 => ?_)
  refine sn_aload_n dX1_takeAll_130 rfl ?_
  refine sn_getA (ci := 1) (j := 16) dX1_takeAll_131 fl_X1_43 (by decide) (fun x131 => ?_)
  refine sn_iconst dX1_takeAll_134 ?_
  refine sn_aload_n dX1_takeAll_135 rfl ?_
  refine sn_getA (ci := 1) (j := 16) dX1_takeAll_136 fl_X1_43 (by decide) (fun x136 => ?_)
  refine sn_iconst dX1_takeAll_139 ?_
  refine sn_bipush dX1_takeAll_140 (by decide) ?_
  refine sn_copy (t := 0) dX1_takeAll_142 ml_X1_72 (by decide) (by decide) (by decide) (Nat.le_of_ble_eq_true rfl) (fun μ142 => ?_)
  refine sn_aload_n dX1_takeAll_145 rfl ?_
  refine sn_aload_n dX1_takeAll_146 rfl ?_
  refine sn_callVV (vs := [aA b1]) (ci := 1) (cX1_takeMoved_ok n a b1 μ142) dX1_takeAll_147 cw_X1_78 rfl rfl rfl (by decide) (by decide) (Nat.le_of_ble_eq_true rfl) (fun p147 => ?_)
  exact sn_vret dX1_takeAll_150
theorem dX1_had_0 : decode cX1_had 0 = .ok (.aload_n 0, 1) := by decide +kernel
theorem dX1_had_1 : decode cX1_had 1 = .ok (.getfield 24, 3) := by decide +kernel
theorem dX1_had_4 : decode cX1_had 4 = .ok (.iload_n 1, 1) := by decide +kernel
theorem dX1_had_5 : decode cX1_had 5 = .ok (.iaload, 1) := by decide +kernel
theorem dX1_had_6 : decode cX1_had 6 = .ok (.aload_n 0, 1) := by decide +kernel
theorem dX1_had_7 : decode cX1_had 7 = .ok (.getfield 27, 3) := by decide +kernel
theorem dX1_had_10 : decode cX1_had 10 = .ok (.iload_n 1, 1) := by decide +kernel
theorem dX1_had_11 : decode cX1_had 11 = .ok (.iaload, 1) := by decide +kernel
theorem dX1_had_12 : decode cX1_had 12 = .ok (.iadd, 1) := by decide +kernel
theorem dX1_had_13 : decode cX1_had 13 = .ok (.ireturn, 1) := by decide +kernel
def mX1_had (n : Nat) (a : Nat) (b1 : Int) (μ : Mem) : Option (Int × Mem) :=
  (gA μ 2 a 10).bind fun x1 =>
  (ldI μ 0 x1 b1).bind fun x5 =>
  (gA μ 2 a 11).bind fun x7 =>
  (ldI μ 0 x7 b1).bind fun x11 =>
  some ((x5 + x11), μ)
set_option maxRecDepth 100000 in
set_option maxHeartbeats 4000000 in
theorem cX1_had_ok (n : Nat) (a : Nat) (b1 : Int) (μ : Mem) : Mc yX1_had cX1_had 2 (some .int) 0 0 eI [aA a, aI b1] μ (mX1_had n a b1 μ) := by
  refine mc_of (L0 := [some (aA a), some (aI b1)]) (k := 0) (by decide) rfl rfl (fun X Γ => ?_)
  unfold mX1_had
  refine sn_aload_n dX1_had_0 rfl ?_
  refine sn_getA (ci := 1) (j := 10) dX1_had_1 fl_X1_24 (by decide) (fun x1 => ?_)
  refine sn_iload_n dX1_had_4 rfl ?_
  refine sn_iald dX1_had_5 (fun x5 => ?_)
  refine sn_aload_n dX1_had_6 rfl ?_
  refine sn_getA (ci := 1) (j := 11) dX1_had_7 fl_X1_27 (by decide) (fun x7 => ?_)
  refine sn_iload_n dX1_had_10 rfl ?_
  refine sn_iald dX1_had_11 (fun x11 => ?_)
  refine sn_iadd dX1_had_12 ?_
  exact sn_iret dX1_had_13
theorem dX1_emptyWeight_0 : decode cX1_emptyWeight 0 = .ok (.iconst 2, 1) := by decide +kernel
theorem dX1_emptyWeight_1 : decode cX1_emptyWeight 1 = .ok (.aload_n 0, 1) := by decide +kernel
theorem dX1_emptyWeight_2 : decode cX1_emptyWeight 2 = .ok (.getfield 43, 3) := by decide +kernel
theorem dX1_emptyWeight_5 : decode cX1_emptyWeight 5 = .ok (.iload_n 1, 1) := by decide +kernel
theorem dX1_emptyWeight_6 : decode cX1_emptyWeight 6 = .ok (.iaload, 1) := by decide +kernel
theorem dX1_emptyWeight_7 : decode cX1_emptyWeight 7 = .ok (.iadd, 1) := by decide +kernel
theorem dX1_emptyWeight_8 : decode cX1_emptyWeight 8 = .ok (.ireturn, 1) := by decide +kernel
def mX1_emptyWeight (n : Nat) (a : Nat) (b1 : Int) (μ : Mem) : Option (Int × Mem) :=
  (gA μ 2 a 16).bind fun x2 =>
  (ldI μ 0 x2 b1).bind fun x6 =>
  some ((2 + x6), μ)
set_option maxRecDepth 100000 in
set_option maxHeartbeats 4000000 in
theorem cX1_emptyWeight_ok (n : Nat) (a : Nat) (b1 : Int) (μ : Mem) : Mc yX1_emptyWeight cX1_emptyWeight 2 (some .int) 0 0 eI [aA a, aI b1] μ (mX1_emptyWeight n a b1 μ) := by
  refine mc_of (L0 := [some (aA a), some (aI b1)]) (k := 0) (by decide) rfl rfl (fun X Γ => ?_)
  unfold mX1_emptyWeight
  refine sn_iconst dX1_emptyWeight_0 ?_
  refine sn_aload_n dX1_emptyWeight_1 rfl ?_
  refine sn_getA (ci := 1) (j := 16) dX1_emptyWeight_2 fl_X1_43 (by decide) (fun x2 => ?_)
  refine sn_iload_n dX1_emptyWeight_5 rfl ?_
  refine sn_iald dX1_emptyWeight_6 (fun x6 => ?_)
  refine sn_iadd dX1_emptyWeight_7 ?_
  exact sn_iret dX1_emptyWeight_8
theorem dX1_weight_0 : decode cX1_weight 0 = .ok (.aload_n 0, 1) := by decide +kernel
theorem dX1_weight_1 : decode cX1_weight 1 = .ok (.iload_n 1, 1) := by decide +kernel
theorem dX1_weight_2 : decode cX1_weight 2 = .ok (.invokevirtual 102, 3) := by decide +kernel
theorem dX1_weight_5 : decode cX1_weight 5 = .ok (.aload_n 0, 1) := by decide +kernel
theorem dX1_weight_6 : decode cX1_weight 6 = .ok (.getfield 46, 3) := by decide +kernel
theorem dX1_weight_9 : decode cX1_weight 9 = .ok (.iload_n 1, 1) := by decide +kernel
theorem dX1_weight_10 : decode cX1_weight 10 = .ok (.baload, 1) := by decide +kernel
theorem dX1_weight_11 : decode cX1_weight 11 = .ok (.ifCond .eq 10, 3) := by decide +kernel
theorem dX1_weight_14 : decode cX1_weight 14 = .ok (.aload_n 0, 1) := by decide +kernel
theorem dX1_weight_15 : decode cX1_weight 15 = .ok (.getfield 49, 3) := by decide +kernel
theorem dX1_weight_18 : decode cX1_weight 18 = .ok (.goto 4, 3) := by decide +kernel
theorem dX1_weight_21 : decode cX1_weight 21 = .ok (.iconst 0, 1) := by decide +kernel
theorem dX1_weight_22 : decode cX1_weight 22 = .ok (.iadd, 1) := by decide +kernel
theorem dX1_weight_23 : decode cX1_weight 23 = .ok (.ireturn, 1) := by decide +kernel
def mX1_weight (n : Nat) (a : Nat) (b1 : Int) (μ : Mem) : Option (Int × Mem) :=
  (inv μ 2 a (mX1_emptyWeight n a b1 μ)).bind fun p2 =>
  (gA p2.2 2 a 17).bind fun x6 =>
  (ldI p2.2 2 x6 b1).bind fun x10 =>
  if eq32 x10 0 then
    some ((p2.1 + 0), p2.2)
  else
  (gI p2.2 2 a 3).bind fun x15 =>
  some ((p2.1 + x15), p2.2)
set_option maxRecDepth 100000 in
set_option maxHeartbeats 4000000 in
theorem cX1_weight_ok (n : Nat) (a : Nat) (b1 : Int) (μ : Mem) : Mc yX1_weight cX1_weight 2 (some .int) 1 21 eI [aA a, aI b1] μ (mX1_weight n a b1 μ) := by
  refine mc_of (L0 := [some (aA a), some (aI b1)]) (k := 0) (by decide) rfl rfl (fun X Γ => ?_)
  unfold mX1_weight
  refine sn_aload_n dX1_weight_0 rfl ?_
  refine sn_iload_n dX1_weight_1 rfl ?_
  refine sn_callVI (vs := [aI b1]) (ci := 1) (cX1_emptyWeight_ok n a b1 μ) dX1_weight_2 cw_X1_102 rfl rfl rfl (by decide) (by decide) (Nat.le_of_ble_eq_true rfl) (fun p2 => ?_)
  refine sn_aload_n dX1_weight_5 rfl ?_
  refine sn_getA (ci := 1) (j := 17) dX1_weight_6 fl_X1_46 (by decide) (fun x6 => ?_)
  refine sn_iload_n dX1_weight_9 rfl ?_
  refine sn_zald dX1_weight_10 (fun x10 => ?_)
  refine sn_if_eq (tgt := 21) dX1_weight_11 (by decide) ?_ ?_
  · refine sn_iconst dX1_weight_21 ?_
    refine sn_iadd dX1_weight_22 ?_
    exact sn_iret dX1_weight_23
  · refine sn_aload_n dX1_weight_14 rfl ?_
    refine sn_getI (ci := 1) (j := 3) dX1_weight_15 fl_X1_49 rfl (fun x15 => ?_)
    refine sn_goto (tgt := 22) dX1_weight_18 (by decide) ?_
    refine sn_iadd dX1_weight_22 ?_
    exact sn_iret dX1_weight_23
theorem dX1_pullLean_0 : decode cX1_pullLean 0 = .ok (.iload_n 3, 1) := by decide +kernel
theorem dX1_pullLean_1 : decode cX1_pullLean 1 = .ok (.ifCond .eq 21, 3) := by decide +kernel
theorem dX1_pullLean_4 : decode cX1_pullLean 4 = .ok (.aload_n 0, 1) := by decide +kernel
theorem dX1_pullLean_5 : decode cX1_pullLean 5 = .ok (.getfield 9, 3) := by decide +kernel
theorem dX1_pullLean_8 : decode cX1_pullLean 8 = .ok (.aload_n 0, 1) := by decide +kernel
theorem dX1_pullLean_9 : decode cX1_pullLean 9 = .ok (.getfield 40, 3) := by decide +kernel
theorem dX1_pullLean_12 : decode cX1_pullLean 12 = .ok (.iconst 2, 1) := by decide +kernel
theorem dX1_pullLean_13 : decode cX1_pullLean 13 = .ok (.iload_n 1, 1) := by decide +kernel
theorem dX1_pullLean_14 : decode cX1_pullLean 14 = .ok (.imul, 1) := by decide +kernel
theorem dX1_pullLean_15 : decode cX1_pullLean 15 = .ok (.iconst 1, 1) := by decide +kernel
theorem dX1_pullLean_16 : decode cX1_pullLean 16 = .ok (.iadd, 1) := by decide +kernel
theorem dX1_pullLean_17 : decode cX1_pullLean 17 = .ok (.iaload, 1) := by decide +kernel
theorem dX1_pullLean_18 : decode cX1_pullLean 18 = .ok (.iaload, 1) := by decide +kernel
theorem dX1_pullLean_19 : decode cX1_pullLean 19 = .ok (.goto 4, 3) := by decide +kernel
theorem dX1_pullLean_22 : decode cX1_pullLean 22 = .ok (.iconst 0, 1) := by decide +kernel
theorem dX1_pullLean_23 : decode cX1_pullLean 23 = .ok (.istore 4, 2) := by decide +kernel
theorem dX1_pullLean_25 : decode cX1_pullLean 25 = .ok (.iload_n 2, 1) := by decide +kernel
theorem dX1_pullLean_26 : decode cX1_pullLean 26 = .ok (.ifCond .eq 22, 3) := by decide +kernel
theorem dX1_pullLean_29 : decode cX1_pullLean 29 = .ok (.iload 4, 2) := by decide +kernel
theorem dX1_pullLean_31 : decode cX1_pullLean 31 = .ok (.aload_n 0, 1) := by decide +kernel
theorem dX1_pullLean_32 : decode cX1_pullLean 32 = .ok (.getfield 9, 3) := by decide +kernel
theorem dX1_pullLean_35 : decode cX1_pullLean 35 = .ok (.aload_n 0, 1) := by decide +kernel
theorem dX1_pullLean_36 : decode cX1_pullLean 36 = .ok (.getfield 40, 3) := by decide +kernel
theorem dX1_pullLean_39 : decode cX1_pullLean 39 = .ok (.iconst 2, 1) := by decide +kernel
theorem dX1_pullLean_40 : decode cX1_pullLean 40 = .ok (.iload_n 1, 1) := by decide +kernel
theorem dX1_pullLean_41 : decode cX1_pullLean 41 = .ok (.imul, 1) := by decide +kernel
theorem dX1_pullLean_42 : decode cX1_pullLean 42 = .ok (.iaload, 1) := by decide +kernel
theorem dX1_pullLean_43 : decode cX1_pullLean 43 = .ok (.iaload, 1) := by decide +kernel
theorem dX1_pullLean_44 : decode cX1_pullLean 44 = .ok (.isub, 1) := by decide +kernel
theorem dX1_pullLean_45 : decode cX1_pullLean 45 = .ok (.goto 5, 3) := by decide +kernel
theorem dX1_pullLean_48 : decode cX1_pullLean 48 = .ok (.iload 4, 2) := by decide +kernel
theorem dX1_pullLean_50 : decode cX1_pullLean 50 = .ok (.ireturn, 1) := by decide +kernel
def mX1_pullLean (n : Nat) (a : Nat) (b1 : Int) (b2 : Int) (b3 : Int) (μ : Mem) : Option (Int × Mem) :=
  jn (fun (v23 : Int) (μ23 : Mem) =>
  if eq32 b2 0 then
    some (v23, μ23)
  else
  (gA μ23 2 a 6).bind fun x32 =>
  (gA μ23 2 a 15).bind fun x36 =>
  (ldI μ23 0 x36 (2 * b1)).bind fun x42 =>
  (ldI μ23 0 x32 x42).bind fun x43 =>
  some ((v23 - x43), μ23)) (fun j23 =>
  if eq32 b3 0 then
    j23 0 μ
  else
  (gA μ 2 a 6).bind fun x5 =>
  (gA μ 2 a 15).bind fun x9 =>
  (ldI μ 0 x9 ((2 * b1) + 1)).bind fun x17 =>
  (ldI μ 0 x5 x17).bind fun x18 =>
  j23 x18 μ)
set_option maxRecDepth 100000 in
set_option maxHeartbeats 4000000 in
theorem cX1_pullLean_ok (n : Nat) (a : Nat) (b1 : Int) (b2 : Int) (b3 : Int) (μ : Mem) : Mc yX1_pullLean cX1_pullLean 5 (some .int) 0 0 eI [aA a, aI b1, aI b2, aI b3] μ (mX1_pullLean n a b1 b2 b3 μ) := by
  refine mc_of (L0 := [some (aA a), some (aI b1), some (aI b2), some (aI b3), none]) (k := 1) (by decide) rfl rfl (fun X Γ => ?_)
  unfold mX1_pullLean
  refine sn_iload_n dX1_pullLean_0 rfl ?_
  refine sn_jn (pcj := 23) (La := fun v23 : Int => [some (aA a), some (aI b1), some (aI b2), none, none]) (Sa := fun v23 : Int => [aI v23]) ?_ ?_
  · intro v23 μ23
    refine sn_istore (L' := [some (aA a), some (aI b1), some (aI b2), none, some (aI v23)]) dX1_pullLean_23 (by decide) rfl ?_
    refine sn_iload_n dX1_pullLean_25 rfl ?_
    refine sn_if_eq (tgt := 48) dX1_pullLean_26 (by decide) ?_ ?_
    · refine sn_iload dX1_pullLean_48 rfl ?_
      exact sn_iret dX1_pullLean_50
    · refine sn_iload dX1_pullLean_29 rfl ?_
      refine sn_aload_n dX1_pullLean_31 rfl ?_
      refine sn_getA (ci := 1) (j := 6) dX1_pullLean_32 fl_X1_9 (by decide) (fun x32 => ?_)
      refine sn_aload_n dX1_pullLean_35 rfl ?_
      refine sn_getA (ci := 1) (j := 15) dX1_pullLean_36 fl_X1_40 (by decide) (fun x36 => ?_)
      refine sn_iconst dX1_pullLean_39 ?_
      refine sn_iload_n dX1_pullLean_40 rfl ?_
      refine sn_imul dX1_pullLean_41 ?_
      refine sn_iald dX1_pullLean_42 (fun x42 => ?_)
      refine sn_iald dX1_pullLean_43 (fun x43 => ?_)
      refine sn_isub dX1_pullLean_44 ?_
      refine sn_goto (tgt := 50) dX1_pullLean_45 (by decide) ?_
      exact sn_iret dX1_pullLean_50
  intro j23 hj23
  refine sn_if_eq (tgt := 22) dX1_pullLean_1 (by decide) ?_ ?_
  · refine sn_iconst dX1_pullLean_22 ?_
    exact sn_mask (L' := [some (aA a), some (aI b1), some (aI b2), none, none]) [true, true, true, false, false] rfl (hj23 0 μ)
  · refine sn_aload_n dX1_pullLean_4 rfl ?_
    refine sn_getA (ci := 1) (j := 6) dX1_pullLean_5 fl_X1_9 (by decide) (fun x5 => ?_)
    refine sn_aload_n dX1_pullLean_8 rfl ?_
    refine sn_getA (ci := 1) (j := 15) dX1_pullLean_9 fl_X1_40 (by decide) (fun x9 => ?_)
    refine sn_iconst dX1_pullLean_12 ?_
    refine sn_iload_n dX1_pullLean_13 rfl ?_
    refine sn_imul dX1_pullLean_14 ?_
    refine sn_iconst dX1_pullLean_15 ?_
    refine sn_iadd dX1_pullLean_16 ?_
    refine sn_iald dX1_pullLean_17 (fun x17 => ?_)
    refine sn_iald dX1_pullLean_18 (fun x18 => ?_)
    refine sn_goto (tgt := 23) dX1_pullLean_19 (by decide) ?_
    exact sn_mask (L' := [some (aA a), some (aI b1), some (aI b2), none, none]) [true, true, true, false, false] rfl (hj23 x18 μ)
theorem dX1_depthFrom_0 : decode cX1_depthFrom 0 = .ok (.iload_n 3, 1) := by decide +kernel
theorem dX1_depthFrom_1 : decode cX1_depthFrom 1 = .ok (.invokestatic 116, 3) := by decide +kernel
theorem dX1_depthFrom_4 : decode cX1_depthFrom 4 = .ok (.aload_n 0, 1) := by decide +kernel
theorem dX1_depthFrom_5 : decode cX1_depthFrom 5 = .ok (.getfield 53, 3) := by decide +kernel
theorem dX1_depthFrom_8 : decode cX1_depthFrom 8 = .ok (.if_icmp .lt 12, 3) := by decide +kernel
theorem dX1_depthFrom_11 : decode cX1_depthFrom 11 = .ok (.aload_n 0, 1) := by decide +kernel
theorem dX1_depthFrom_12 : decode cX1_depthFrom 12 = .ok (.getfield 30, 3) := by decide +kernel
theorem dX1_depthFrom_15 : decode cX1_depthFrom 15 = .ok (.iload_n 1, 1) := by decide +kernel
theorem dX1_depthFrom_16 : decode cX1_depthFrom 16 = .ok (.iaload, 1) := by decide +kernel
theorem dX1_depthFrom_17 : decode cX1_depthFrom 17 = .ok (.goto 4, 3) := by decide +kernel
theorem dX1_depthFrom_20 : decode cX1_depthFrom 20 = .ok (.iconst 1, 1) := by decide +kernel
theorem dX1_depthFrom_21 : decode cX1_depthFrom 21 = .ok (.istore 4, 2) := by decide +kernel
theorem dX1_depthFrom_23 : decode cX1_depthFrom 23 = .ok (.iload_n 3, 1) := by decide +kernel
theorem dX1_depthFrom_24 : decode cX1_depthFrom 24 = .ok (.ifCond .le 17, 3) := by decide +kernel
theorem dX1_depthFrom_27 : decode cX1_depthFrom 27 = .ok (.iload_n 2, 1) := by decide +kernel
theorem dX1_depthFrom_28 : decode cX1_depthFrom 28 = .ok (.iload 4, 2) := by decide +kernel
theorem dX1_depthFrom_30 : decode cX1_depthFrom 30 = .ok (.iadd, 1) := by decide +kernel
theorem dX1_depthFrom_31 : decode cX1_depthFrom 31 = .ok (.aload_n 0, 1) := by decide +kernel
theorem dX1_depthFrom_32 : decode cX1_depthFrom 32 = .ok (.getfield 30, 3) := by decide +kernel
theorem dX1_depthFrom_35 : decode cX1_depthFrom 35 = .ok (.iload_n 1, 1) := by decide +kernel
theorem dX1_depthFrom_36 : decode cX1_depthFrom 36 = .ok (.iaload, 1) := by decide +kernel
theorem dX1_depthFrom_37 : decode cX1_depthFrom 37 = .ok (.invokestatic 121, 3) := by decide +kernel
theorem dX1_depthFrom_40 : decode cX1_depthFrom 40 = .ok (.ireturn, 1) := by decide +kernel
theorem dX1_depthFrom_41 : decode cX1_depthFrom 41 = .ok (.iload_n 3, 1) := by decide +kernel
theorem dX1_depthFrom_42 : decode cX1_depthFrom 42 = .ok (.ifCond .ge 14, 3) := by decide +kernel
theorem dX1_depthFrom_45 : decode cX1_depthFrom 45 = .ok (.iload_n 2, 1) := by decide +kernel
theorem dX1_depthFrom_46 : decode cX1_depthFrom 46 = .ok (.iload 4, 2) := by decide +kernel
theorem dX1_depthFrom_48 : decode cX1_depthFrom 48 = .ok (.isub, 1) := by decide +kernel
theorem dX1_depthFrom_49 : decode cX1_depthFrom 49 = .ok (.iconst 0, 1) := by decide +kernel
theorem dX1_depthFrom_50 : decode cX1_depthFrom 50 = .ok (.invokestatic 125, 3) := by decide +kernel
theorem dX1_depthFrom_53 : decode cX1_depthFrom 53 = .ok (.goto 4, 3) := by decide +kernel
theorem dX1_depthFrom_56 : decode cX1_depthFrom 56 = .ok (.iload_n 2, 1) := by decide +kernel
theorem dX1_depthFrom_57 : decode cX1_depthFrom 57 = .ok (.ireturn, 1) := by decide +kernel
def mX1_depthFrom (n : Nat) (a : Nat) (b1 : Int) (b2 : Int) (b3 : Int) (μ : Mem) : Option (Int × Mem) :=
  (gI μ 2 a 4).bind fun x5 =>
  jn (fun (v21 : Int) (μ21 : Mem) =>
  if lt32 0 b3 then
    (gA μ21 2 a 12).bind fun x32 =>
    (ldI μ21 0 x32 b1).bind fun x36 =>
    some ((mMin (b2 + v21) x36), μ21)
  else
  if lt32 b3 0 then
    some ((mMax (b2 - v21) 0), μ21)
  else
  some (b2, μ21)) (fun j21 =>
  if lt32 (mAbs b3) x5 then
    j21 1 μ
  else
  (gA μ 2 a 12).bind fun x12 =>
  (ldI μ 0 x12 b1).bind fun x16 =>
  j21 x16 μ)
set_option maxRecDepth 100000 in
set_option maxHeartbeats 4000000 in
theorem cX1_depthFrom_ok (n : Nat) (a : Nat) (b1 : Int) (b2 : Int) (b3 : Int) (μ : Mem) : Mc yX1_depthFrom cX1_depthFrom 5 (some .int) 1 40 eI [aA a, aI b1, aI b2, aI b3] μ (mX1_depthFrom n a b1 b2 b3 μ) := by
  refine mc_of (L0 := [some (aA a), some (aI b1), some (aI b2), some (aI b3), none]) (k := 1) (by decide) rfl rfl (fun X Γ => ?_)
  unfold mX1_depthFrom
  refine sn_iload_n dX1_depthFrom_0 rfl ?_
  refine sn_mAbs dX1_depthFrom_1 ml_X1_116 (by decide) (by decide) (Nat.le_of_ble_eq_true rfl) ?_
  refine sn_aload_n dX1_depthFrom_4 rfl ?_
  refine sn_getI (ci := 1) (j := 4) dX1_depthFrom_5 fl_X1_53 rfl (fun x5 => ?_)
  refine sn_jn (pcj := 21) (La := fun v21 : Int => [some (aA a), some (aI b1), some (aI b2), some (aI b3), none]) (Sa := fun v21 : Int => [aI v21]) ?_ ?_
  · intro v21 μ21
    refine sn_istore (L' := [some (aA a), some (aI b1), some (aI b2), some (aI b3), some (aI v21)]) dX1_depthFrom_21 (by decide) rfl ?_
    refine sn_iload_n dX1_depthFrom_23 rfl ?_
    refine sn_if_le (tgt := 41) dX1_depthFrom_24 (by decide) ?_ ?_
    · refine sn_iload_n dX1_depthFrom_41 rfl ?_
      refine sn_if_ge (tgt := 56) dX1_depthFrom_42 (by decide) ?_ ?_
      · refine sn_iload_n dX1_depthFrom_56 rfl ?_
        exact sn_iret dX1_depthFrom_57
      · refine sn_iload_n dX1_depthFrom_45 rfl ?_
        refine sn_iload dX1_depthFrom_46 rfl ?_
        refine sn_isub dX1_depthFrom_48 ?_
        refine sn_iconst dX1_depthFrom_49 ?_
        refine sn_mMax dX1_depthFrom_50 ml_X1_125 (by decide) (by decide) (Nat.le_of_ble_eq_true rfl) ?_
        refine sn_goto (tgt := 57) dX1_depthFrom_53 (by decide) ?_
        exact sn_iret dX1_depthFrom_57
    · refine sn_iload_n dX1_depthFrom_27 rfl ?_
      refine sn_iload dX1_depthFrom_28 rfl ?_
      refine sn_iadd dX1_depthFrom_30 ?_
      refine sn_aload_n dX1_depthFrom_31 rfl ?_
      refine sn_getA (ci := 1) (j := 12) dX1_depthFrom_32 fl_X1_30 (by decide) (fun x32 => ?_)
      refine sn_iload_n dX1_depthFrom_35 rfl ?_
      refine sn_iald dX1_depthFrom_36 (fun x36 => ?_)
      refine sn_mMin dX1_depthFrom_37 ml_X1_121 (by decide) (by decide) (Nat.le_of_ble_eq_true rfl) ?_
      exact sn_iret dX1_depthFrom_40
  intro j21 hj21
  refine sn_icmp_lt (tgt := 20) dX1_depthFrom_8 (by decide) ?_ ?_
  · refine sn_iconst dX1_depthFrom_20 ?_
    exact hj21 1 μ
  · refine sn_aload_n dX1_depthFrom_11 rfl ?_
    refine sn_getA (ci := 1) (j := 12) dX1_depthFrom_12 fl_X1_30 (by decide) (fun x12 => ?_)
    refine sn_iload_n dX1_depthFrom_15 rfl ?_
    refine sn_iald dX1_depthFrom_16 (fun x16 => ?_)
    refine sn_goto (tgt := 21) dX1_depthFrom_17 (by decide) ?_
    exact hj21 x16 μ
theorem dX1_depthBehind_0 : decode cX1_depthBehind 0 = .ok (.aload_n 0, 1) := by decide +kernel
theorem dX1_depthBehind_1 : decode cX1_depthBehind 1 = .ok (.iconst 2, 1) := by decide +kernel
theorem dX1_depthBehind_2 : decode cX1_depthBehind 2 = .ok (.iload_n 1, 1) := by decide +kernel
theorem dX1_depthBehind_3 : decode cX1_depthBehind 3 = .ok (.imul, 1) := by decide +kernel
theorem dX1_depthBehind_4 : decode cX1_depthBehind 4 = .ok (.invokevirtual 105, 3) := by decide +kernel
theorem dX1_depthBehind_7 : decode cX1_depthBehind 7 = .ok (.aload_n 0, 1) := by decide +kernel
theorem dX1_depthBehind_8 : decode cX1_depthBehind 8 = .ok (.iconst 2, 1) := by decide +kernel
theorem dX1_depthBehind_9 : decode cX1_depthBehind 9 = .ok (.iload_n 1, 1) := by decide +kernel
theorem dX1_depthBehind_10 : decode cX1_depthBehind 10 = .ok (.imul, 1) := by decide +kernel
theorem dX1_depthBehind_11 : decode cX1_depthBehind 11 = .ok (.iconst 1, 1) := by decide +kernel
theorem dX1_depthBehind_12 : decode cX1_depthBehind 12 = .ok (.iadd, 1) := by decide +kernel
theorem dX1_depthBehind_13 : decode cX1_depthBehind 13 = .ok (.invokevirtual 105, 3) := by decide +kernel
theorem dX1_depthBehind_16 : decode cX1_depthBehind 16 = .ok (.isub, 1) := by decide +kernel
theorem dX1_depthBehind_17 : decode cX1_depthBehind 17 = .ok (.istore 4, 2) := by decide +kernel
theorem dX1_depthBehind_19 : decode cX1_depthBehind 19 = .ok (.aload_n 0, 1) := by decide +kernel
theorem dX1_depthBehind_20 : decode cX1_depthBehind 20 = .ok (.iload_n 1, 1) := by decide +kernel
theorem dX1_depthBehind_21 : decode cX1_depthBehind 21 = .ok (.aload_n 0, 1) := by decide +kernel
theorem dX1_depthBehind_22 : decode cX1_depthBehind 22 = .ok (.getfield 33, 3) := by decide +kernel
theorem dX1_depthBehind_25 : decode cX1_depthBehind 25 = .ok (.iload_n 1, 1) := by decide +kernel
theorem dX1_depthBehind_26 : decode cX1_depthBehind 26 = .ok (.iaload, 1) := by decide +kernel
theorem dX1_depthBehind_27 : decode cX1_depthBehind 27 = .ok (.iload 4, 2) := by decide +kernel
theorem dX1_depthBehind_29 : decode cX1_depthBehind 29 = .ok (.aload_n 0, 1) := by decide +kernel
theorem dX1_depthBehind_30 : decode cX1_depthBehind 30 = .ok (.iload_n 1, 1) := by decide +kernel
theorem dX1_depthBehind_31 : decode cX1_depthBehind 31 = .ok (.iload_n 2, 1) := by decide +kernel
theorem dX1_depthBehind_32 : decode cX1_depthBehind 32 = .ok (.iload_n 3, 1) := by decide +kernel
theorem dX1_depthBehind_33 : decode cX1_depthBehind 33 = .ok (.invokevirtual 108, 3) := by decide +kernel
theorem dX1_depthBehind_36 : decode cX1_depthBehind 36 = .ok (.iadd, 1) := by decide +kernel
theorem dX1_depthBehind_37 : decode cX1_depthBehind 37 = .ok (.invokevirtual 112, 3) := by decide +kernel
theorem dX1_depthBehind_40 : decode cX1_depthBehind 40 = .ok (.ireturn, 1) := by decide +kernel
def mX1_depthBehind (n : Nat) (a : Nat) (b1 : Int) (b2 : Int) (b3 : Int) (μ : Mem) : Option (Int × Mem) :=
  (inv μ 2 a (mX1_weight n a (2 * b1) μ)).bind fun p4 =>
  (inv p4.2 2 a (mX1_weight n a ((2 * b1) + 1) p4.2)).bind fun p13 =>
  (gA p13.2 2 a 13).bind fun x22 =>
  (ldI p13.2 0 x22 b1).bind fun x26 =>
  (inv p13.2 2 a (mX1_pullLean n a b1 b2 b3 p13.2)).bind fun p33 =>
  (inv p33.2 2 a (mX1_depthFrom n a b1 x26 ((p4.1 - p13.1) + p33.1) p33.2)).bind fun p37 =>
  some (p37.1, p37.2)
set_option maxRecDepth 100000 in
set_option maxHeartbeats 4000000 in
theorem cX1_depthBehind_ok (n : Nat) (a : Nat) (b1 : Int) (b2 : Int) (b3 : Int) (μ : Mem) : Mc yX1_depthBehind cX1_depthBehind 5 (some .int) 2 64 eI [aA a, aI b1, aI b2, aI b3] μ (mX1_depthBehind n a b1 b2 b3 μ) := by
  refine mc_of (L0 := [some (aA a), some (aI b1), some (aI b2), some (aI b3), none]) (k := 1) (by decide) rfl rfl (fun X Γ => ?_)
  unfold mX1_depthBehind
  refine sn_aload_n dX1_depthBehind_0 rfl ?_
  refine sn_iconst dX1_depthBehind_1 ?_
  refine sn_iload_n dX1_depthBehind_2 rfl ?_
  refine sn_imul dX1_depthBehind_3 ?_
  refine sn_callVI (vs := [aI (2 * b1)]) (ci := 1) (cX1_weight_ok n a (2 * b1) μ) dX1_depthBehind_4 cw_X1_105 rfl rfl rfl (by decide) (by decide) (Nat.le_of_ble_eq_true rfl) (fun p4 => ?_)
  refine sn_aload_n dX1_depthBehind_7 rfl ?_
  refine sn_iconst dX1_depthBehind_8 ?_
  refine sn_iload_n dX1_depthBehind_9 rfl ?_
  refine sn_imul dX1_depthBehind_10 ?_
  refine sn_iconst dX1_depthBehind_11 ?_
  refine sn_iadd dX1_depthBehind_12 ?_
  refine sn_callVI (vs := [aI ((2 * b1) + 1)]) (ci := 1) (cX1_weight_ok n a ((2 * b1) + 1) p4.2) dX1_depthBehind_13 cw_X1_105 rfl rfl rfl (by decide) (by decide) (Nat.le_of_ble_eq_true rfl) (fun p13 => ?_)
  refine sn_isub dX1_depthBehind_16 ?_
  refine sn_istore (L' := [some (aA a), some (aI b1), some (aI b2), some (aI b3), some (aI (p4.1 - p13.1))]) dX1_depthBehind_17 (by decide) rfl ?_
  refine sn_aload_n dX1_depthBehind_19 rfl ?_
  refine sn_iload_n dX1_depthBehind_20 rfl ?_
  refine sn_aload_n dX1_depthBehind_21 rfl ?_
  refine sn_getA (ci := 1) (j := 13) dX1_depthBehind_22 fl_X1_33 (by decide) (fun x22 => ?_)
  refine sn_iload_n dX1_depthBehind_25 rfl ?_
  refine sn_iald dX1_depthBehind_26 (fun x26 => ?_)
  refine sn_iload dX1_depthBehind_27 rfl ?_
  refine sn_aload_n dX1_depthBehind_29 rfl ?_
  refine sn_iload_n dX1_depthBehind_30 rfl ?_
  refine sn_iload_n dX1_depthBehind_31 rfl ?_
  refine sn_iload_n dX1_depthBehind_32 rfl ?_
  refine sn_callVI (vs := [aI b1, aI b2, aI b3]) (ci := 1) (cX1_pullLean_ok n a b1 b2 b3 p13.2) dX1_depthBehind_33 cw_X1_108 rfl rfl rfl (by decide) (by decide) (Nat.le_of_ble_eq_true rfl) (fun p33 => ?_)
  refine sn_iadd dX1_depthBehind_36 ?_
  refine sn_callVI (vs := [aI b1, aI x26, aI ((p4.1 - p13.1) + p33.1)]) (ci := 1) (cX1_depthFrom_ok n a b1 x26 ((p4.1 - p13.1) + p33.1) p33.2) dX1_depthBehind_37 cw_X1_112 rfl rfl rfl (by decide) (by decide) (Nat.le_of_ble_eq_true rfl) (fun p37 => ?_)
  exact sn_iret dX1_depthBehind_40
theorem dX1_depthOf_0 : decode cX1_depthOf 0 = .ok (.iload_n 1, 1) := by decide +kernel
theorem dX1_depthOf_1 : decode cX1_depthOf 1 = .ok (.iconst 2, 1) := by decide +kernel
theorem dX1_depthOf_2 : decode cX1_depthOf 2 = .ok (.idiv, 1) := by decide +kernel
theorem dX1_depthOf_3 : decode cX1_depthOf 3 = .ok (.istore_n 2, 1) := by decide +kernel
theorem dX1_depthOf_4 : decode cX1_depthOf 4 = .ok (.iload_n 1, 1) := by decide +kernel
theorem dX1_depthOf_5 : decode cX1_depthOf 5 = .ok (.iconst 2, 1) := by decide +kernel
theorem dX1_depthOf_6 : decode cX1_depthOf 6 = .ok (.irem, 1) := by decide +kernel
theorem dX1_depthOf_7 : decode cX1_depthOf 7 = .ok (.ifCond .ne 12, 3) := by decide +kernel
theorem dX1_depthOf_10 : decode cX1_depthOf 10 = .ok (.aload_n 0, 1) := by decide +kernel
theorem dX1_depthOf_11 : decode cX1_depthOf 11 = .ok (.getfield 33, 3) := by decide +kernel
theorem dX1_depthOf_14 : decode cX1_depthOf 14 = .ok (.iload_n 2, 1) := by decide +kernel
theorem dX1_depthOf_15 : decode cX1_depthOf 15 = .ok (.iaload, 1) := by decide +kernel
theorem dX1_depthOf_16 : decode cX1_depthOf 16 = .ok (.goto 16, 3) := by decide +kernel
theorem dX1_depthOf_19 : decode cX1_depthOf 19 = .ok (.aload_n 0, 1) := by decide +kernel
theorem dX1_depthOf_20 : decode cX1_depthOf 20 = .ok (.getfield 30, 3) := by decide +kernel
theorem dX1_depthOf_23 : decode cX1_depthOf 23 = .ok (.iload_n 2, 1) := by decide +kernel
theorem dX1_depthOf_24 : decode cX1_depthOf 24 = .ok (.iaload, 1) := by decide +kernel
theorem dX1_depthOf_25 : decode cX1_depthOf 25 = .ok (.aload_n 0, 1) := by decide +kernel
theorem dX1_depthOf_26 : decode cX1_depthOf 26 = .ok (.getfield 33, 3) := by decide +kernel
theorem dX1_depthOf_29 : decode cX1_depthOf 29 = .ok (.iload_n 2, 1) := by decide +kernel
theorem dX1_depthOf_30 : decode cX1_depthOf 30 = .ok (.iaload, 1) := by decide +kernel
theorem dX1_depthOf_31 : decode cX1_depthOf 31 = .ok (.isub, 1) := by decide +kernel
theorem dX1_depthOf_32 : decode cX1_depthOf 32 = .ok (.ireturn, 1) := by decide +kernel
def mX1_depthOf (n : Nat) (a : Nat) (b1 : Int) (μ : Mem) : Option (Int × Mem) :=
  if eq32 (oRem b1 2) 0 then
    (gA μ 2 a 13).bind fun x11 =>
    (ldI μ 0 x11 (oDiv b1 2)).bind fun x15 =>
    some (x15, μ)
  else
  (gA μ 2 a 12).bind fun x20 =>
  (ldI μ 0 x20 (oDiv b1 2)).bind fun x24 =>
  (gA μ 2 a 13).bind fun x26 =>
  (ldI μ 0 x26 (oDiv b1 2)).bind fun x30 =>
  some ((x24 - x30), μ)
set_option maxRecDepth 100000 in
set_option maxHeartbeats 4000000 in
theorem cX1_depthOf_ok (n : Nat) (a : Nat) (b1 : Int) (μ : Mem) : Mc yX1_depthOf cX1_depthOf 3 (some .int) 0 0 eI [aA a, aI b1] μ (mX1_depthOf n a b1 μ) := by
  refine mc_of (L0 := [some (aA a), some (aI b1), none]) (k := 1) (by decide) rfl rfl (fun X Γ => ?_)
  unfold mX1_depthOf
  refine sn_iload_n dX1_depthOf_0 rfl ?_
  refine sn_iconst dX1_depthOf_1 ?_
  refine sn_idivK dX1_depthOf_2 (by decide) ?_
  refine sn_istore_n (L' := [some (aA a), some (aI b1), some (aI (oDiv b1 2))]) dX1_depthOf_3 (by decide) rfl ?_
  refine sn_iload_n dX1_depthOf_4 rfl ?_
  refine sn_iconst dX1_depthOf_5 ?_
  refine sn_iremK dX1_depthOf_6 (by decide) ?_
  refine sn_if_ne (tgt := 19) dX1_depthOf_7 (by decide) ?_ ?_
  · refine sn_aload_n dX1_depthOf_19 rfl ?_
    refine sn_getA (ci := 1) (j := 12) dX1_depthOf_20 fl_X1_30 (by decide) (fun x20 => ?_)
    refine sn_iload_n dX1_depthOf_23 rfl ?_
    refine sn_iald dX1_depthOf_24 (fun x24 => ?_)
    refine sn_aload_n dX1_depthOf_25 rfl ?_
    refine sn_getA (ci := 1) (j := 13) dX1_depthOf_26 fl_X1_33 (by decide) (fun x26 => ?_)
    refine sn_iload_n dX1_depthOf_29 rfl ?_
    refine sn_iald dX1_depthOf_30 (fun x30 => ?_)
    refine sn_isub dX1_depthOf_31 ?_
    exact sn_iret dX1_depthOf_32
  · refine sn_aload_n dX1_depthOf_10 rfl ?_
    refine sn_getA (ci := 1) (j := 13) dX1_depthOf_11 fl_X1_33 (by decide) (fun x11 => ?_)
    refine sn_iload_n dX1_depthOf_14 rfl ?_
    refine sn_iald dX1_depthOf_15 (fun x15 => ?_)
    refine sn_goto (tgt := 32) dX1_depthOf_16 (by decide) ?_
    exact sn_iret dX1_depthOf_32
theorem dX1_fill_0 : decode cX1_fill 0 = .ok (.iconst 0, 1) := by decide +kernel
theorem dX1_fill_1 : decode cX1_fill 1 = .ok (.istore_n 1, 1) := by decide +kernel
theorem dX1_fill_2 : decode cX1_fill 2 = .ok (.iload_n 1, 1) := by decide +kernel
theorem dX1_fill_3 : decode cX1_fill 3 = .ok (.iconst 2, 1) := by decide +kernel
theorem dX1_fill_4 : decode cX1_fill 4 = .ok (.aload_n 0, 1) := by decide +kernel
theorem dX1_fill_5 : decode cX1_fill 5 = .ok (.getfield 59, 3) := by decide +kernel
theorem dX1_fill_8 : decode cX1_fill 8 = .ok (.imul, 1) := by decide +kernel
theorem dX1_fill_9 : decode cX1_fill 9 = .ok (.if_icmp .ge 76, 3) := by decide +kernel
theorem dX1_fill_12 : decode cX1_fill 12 = .ok (.aload_n 0, 1) := by decide +kernel
theorem dX1_fill_13 : decode cX1_fill 13 = .ok (.getfield 40, 3) := by decide +kernel
theorem dX1_fill_16 : decode cX1_fill 16 = .ok (.iload_n 1, 1) := by decide +kernel
theorem dX1_fill_17 : decode cX1_fill 17 = .ok (.iaload, 1) := by decide +kernel
theorem dX1_fill_18 : decode cX1_fill 18 = .ok (.istore_n 2, 1) := by decide +kernel
theorem dX1_fill_19 : decode cX1_fill 19 = .ok (.aload_n 0, 1) := by decide +kernel
theorem dX1_fill_20 : decode cX1_fill 20 = .ok (.getfield 36, 3) := by decide +kernel
theorem dX1_fill_23 : decode cX1_fill 23 = .ok (.iload_n 1, 1) := by decide +kernel
theorem dX1_fill_24 : decode cX1_fill 24 = .ok (.iconst 2, 1) := by decide +kernel
theorem dX1_fill_25 : decode cX1_fill 25 = .ok (.idiv, 1) := by decide +kernel
theorem dX1_fill_26 : decode cX1_fill 26 = .ok (.baload, 1) := by decide +kernel
theorem dX1_fill_27 : decode cX1_fill 27 = .ok (.ifCond .ne 52, 3) := by decide +kernel
theorem dX1_fill_30 : decode cX1_fill 30 = .ok (.aload_n 0, 1) := by decide +kernel
theorem dX1_fill_31 : decode cX1_fill 31 = .ok (.getfield 46, 3) := by decide +kernel
theorem dX1_fill_34 : decode cX1_fill 34 = .ok (.iload_n 1, 1) := by decide +kernel
theorem dX1_fill_35 : decode cX1_fill 35 = .ok (.baload, 1) := by decide +kernel
theorem dX1_fill_36 : decode cX1_fill 36 = .ok (.ifCond .ne 43, 3) := by decide +kernel
theorem dX1_fill_39 : decode cX1_fill 39 = .ok (.aload_n 0, 1) := by decide +kernel
theorem dX1_fill_40 : decode cX1_fill 40 = .ok (.getfield 18, 3) := by decide +kernel
theorem dX1_fill_43 : decode cX1_fill 43 = .ok (.iload_n 2, 1) := by decide +kernel
theorem dX1_fill_44 : decode cX1_fill 44 = .ok (.iaload, 1) := by decide +kernel
theorem dX1_fill_45 : decode cX1_fill 45 = .ok (.ifCond .le 34, 3) := by decide +kernel
theorem dX1_fill_48 : decode cX1_fill 48 = .ok (.aload_n 0, 1) := by decide +kernel
theorem dX1_fill_49 : decode cX1_fill 49 = .ok (.iload_n 1, 1) := by decide +kernel
theorem dX1_fill_50 : decode cX1_fill 50 = .ok (.invokevirtual 138, 3) := by decide +kernel
theorem dX1_fill_53 : decode cX1_fill 53 = .ok (.aload_n 0, 1) := by decide +kernel
theorem dX1_fill_54 : decode cX1_fill 54 = .ok (.getfield 15, 3) := by decide +kernel
theorem dX1_fill_57 : decode cX1_fill 57 = .ok (.iload_n 2, 1) := by decide +kernel
theorem dX1_fill_58 : decode cX1_fill 58 = .ok (.iaload, 1) := by decide +kernel
theorem dX1_fill_59 : decode cX1_fill 59 = .ok (.if_icmp .lt 20, 3) := by decide +kernel
theorem dX1_fill_62 : decode cX1_fill 62 = .ok (.aload_n 0, 1) := by decide +kernel
theorem dX1_fill_63 : decode cX1_fill 63 = .ok (.getfield 46, 3) := by decide +kernel
theorem dX1_fill_66 : decode cX1_fill 66 = .ok (.iload_n 1, 1) := by decide +kernel
theorem dX1_fill_67 : decode cX1_fill 67 = .ok (.iconst 1, 1) := by decide +kernel
theorem dX1_fill_68 : decode cX1_fill 68 = .ok (.bastore, 1) := by decide +kernel
theorem dX1_fill_69 : decode cX1_fill 69 = .ok (.aload_n 0, 1) := by decide +kernel
theorem dX1_fill_70 : decode cX1_fill 70 = .ok (.getfield 18, 3) := by decide +kernel
theorem dX1_fill_73 : decode cX1_fill 73 = .ok (.iload_n 2, 1) := by decide +kernel
theorem dX1_fill_74 : decode cX1_fill 74 = .ok (.dup2, 1) := by decide +kernel
theorem dX1_fill_75 : decode cX1_fill 75 = .ok (.iaload, 1) := by decide +kernel
theorem dX1_fill_76 : decode cX1_fill 76 = .ok (.iconst 1, 1) := by decide +kernel
theorem dX1_fill_77 : decode cX1_fill 77 = .ok (.isub, 1) := by decide +kernel
theorem dX1_fill_78 : decode cX1_fill 78 = .ok (.iastore, 1) := by decide +kernel
theorem dX1_fill_79 : decode cX1_fill 79 = .ok (.iinc 1 1, 3) := by decide +kernel
theorem dX1_fill_82 : decode cX1_fill 82 = .ok (.goto (-80), 3) := by decide +kernel
theorem dX1_fill_85 : decode cX1_fill 85 = .ok (.return_, 1) := by decide +kernel
def mX1_fill (n : Nat) (a : Nat) (μ : Mem) : Option (Unit × Mem) :=
  lp (fun nx2 (v2 : Int) (μ2 : Mem) =>
  (gI μ2 2 a 1).bind fun x5 =>
  if lt32 v2 (2 * x5) then
    (gA μ2 2 a 15).bind fun x13 =>
    (ldI μ2 0 x13 v2).bind fun x17 =>
    (gA μ2 2 a 14).bind fun x20 =>
    (ldI μ2 2 x20 (oDiv v2 2)).bind fun x26 =>
    if eq32 x26 0 then
      (gA μ2 2 a 17).bind fun x31 =>
      (ldI μ2 2 x31 v2).bind fun x35 =>
      if eq32 x35 0 then
        (gA μ2 2 a 8).bind fun x40 =>
        (ldI μ2 0 x40 x17).bind fun x44 =>
        if lt32 0 x44 then
          (inv μ2 2 a (mX1_depthOf n a v2 μ2)).bind fun p50 =>
          (gA p50.2 2 a 7).bind fun x54 =>
          (ldI p50.2 0 x54 x17).bind fun x58 =>
          if lt32 p50.1 x58 then
            nx2 (v2 + 1) p50.2
          else
          (gA p50.2 2 a 17).bind fun x63 =>
          (stZ p50.2 x63 v2 1).bind fun μ68 =>
          (gA μ68 2 a 8).bind fun x70 =>
          (ldI μ68 0 x70 x17).bind fun x75 =>
          (stI μ68 0 x70 x17 (x75 - 1)).bind fun μ78 =>
          nx2 (v2 + 1) μ78
        else
        nx2 (v2 + 1) μ2
      else
      nx2 (v2 + 1) μ2
    else
    nx2 (v2 + 1) μ2
  else
  some ((), μ2)) n 0 μ
set_option maxRecDepth 100000 in
set_option maxHeartbeats 4000000 in
theorem cX1_fill_ok (n : Nat) (a : Nat) (μ : Mem) : Mc yX1_fill cX1_fill 3 none 1 22 eV [aA a] μ (mX1_fill n a μ) := by
  refine mc_of (L0 := [some (aA a), none, none]) (k := 2) (by decide) rfl rfl (fun X Γ => ?_)
  unfold mX1_fill
  refine sn_iconst dX1_fill_0 ?_
  refine sn_istore_n (L' := [some (aA a), some (aI 0), none]) dX1_fill_1 (by decide) rfl ?_
  refine sn_lp (La := fun v2 : Int => [some (aA a), some (aI v2), none]) ?_ n 0 μ
  intro nx2 hnx2 v2 μ2
  refine sn_iload_n dX1_fill_2 rfl ?_
  refine sn_iconst dX1_fill_3 ?_
  refine sn_aload_n dX1_fill_4 rfl ?_
  refine sn_getI (ci := 1) (j := 1) dX1_fill_5 fl_X1_59 rfl (fun x5 => ?_)
  refine sn_imul dX1_fill_8 ?_
  refine sn_icmp_ge (tgt := 85) dX1_fill_9 (by decide) ?_ ?_
  · exact sn_vret dX1_fill_85
  · refine sn_aload_n dX1_fill_12 rfl ?_
    refine sn_getA (ci := 1) (j := 15) dX1_fill_13 fl_X1_40 (by decide) (fun x13 => ?_)
    refine sn_iload_n dX1_fill_16 rfl ?_
    refine sn_iald dX1_fill_17 (fun x17 => ?_)
    refine sn_istore_n (L' := [some (aA a), some (aI v2), some (aI x17)]) dX1_fill_18 (by decide) rfl ?_
    refine sn_aload_n dX1_fill_19 rfl ?_
    refine sn_getA (ci := 1) (j := 14) dX1_fill_20 fl_X1_36 (by decide) (fun x20 => ?_)
    refine sn_iload_n dX1_fill_23 rfl ?_
    refine sn_iconst dX1_fill_24 ?_
    refine sn_idivK dX1_fill_25 (by decide) ?_
    refine sn_zald dX1_fill_26 (fun x26 => ?_)
    refine sn_if_ne (tgt := 79) dX1_fill_27 (by decide) ?_ ?_
    · refine sn_iinc (L' := [some (aA a), some (aI (v2 + 1)), some (aI x17)]) dX1_fill_79 rfl (by decide) rfl ?_
      refine sn_goto (tgt := 2) dX1_fill_82 (by decide) ?_
      exact sn_mask (L' := [some (aA a), some (aI (v2 + 1)), none]) [true, true, false] rfl (hnx2 (v2 + 1) μ2)
    · refine sn_aload_n dX1_fill_30 rfl ?_
      refine sn_getA (ci := 1) (j := 17) dX1_fill_31 fl_X1_46 (by decide) (fun x31 => ?_)
      refine sn_iload_n dX1_fill_34 rfl ?_
      refine sn_zald dX1_fill_35 (fun x35 => ?_)
      refine sn_if_ne (tgt := 79) dX1_fill_36 (by decide) ?_ ?_
      · refine sn_iinc (L' := [some (aA a), some (aI (v2 + 1)), some (aI x17)]) dX1_fill_79 rfl (by decide) rfl ?_
        refine sn_goto (tgt := 2) dX1_fill_82 (by decide) ?_
        exact sn_mask (L' := [some (aA a), some (aI (v2 + 1)), none]) [true, true, false] rfl (hnx2 (v2 + 1) μ2)
      · refine sn_aload_n dX1_fill_39 rfl ?_
        refine sn_getA (ci := 1) (j := 8) dX1_fill_40 fl_X1_18 (by decide) (fun x40 => ?_)
        refine sn_iload_n dX1_fill_43 rfl ?_
        refine sn_iald dX1_fill_44 (fun x44 => ?_)
        refine sn_if_le (tgt := 79) dX1_fill_45 (by decide) ?_ ?_
        · refine sn_iinc (L' := [some (aA a), some (aI (v2 + 1)), some (aI x17)]) dX1_fill_79 rfl (by decide) rfl ?_
          refine sn_goto (tgt := 2) dX1_fill_82 (by decide) ?_
          exact sn_mask (L' := [some (aA a), some (aI (v2 + 1)), none]) [true, true, false] rfl (hnx2 (v2 + 1) μ2)
        · refine sn_aload_n dX1_fill_48 rfl ?_
          refine sn_iload_n dX1_fill_49 rfl ?_
          refine sn_callVI (vs := [aI v2]) (ci := 1) (cX1_depthOf_ok n a v2 μ2) dX1_fill_50 cw_X1_138 rfl rfl rfl (by decide) (by decide) (Nat.le_of_ble_eq_true rfl) (fun p50 => ?_)
          refine sn_aload_n dX1_fill_53 rfl ?_
          refine sn_getA (ci := 1) (j := 7) dX1_fill_54 fl_X1_15 (by decide) (fun x54 => ?_)
          refine sn_iload_n dX1_fill_57 rfl ?_
          refine sn_iald dX1_fill_58 (fun x58 => ?_)
          refine sn_icmp_lt (tgt := 79) dX1_fill_59 (by decide) ?_ ?_
          · refine sn_iinc (L' := [some (aA a), some (aI (v2 + 1)), some (aI x17)]) dX1_fill_79 rfl (by decide) rfl ?_
            refine sn_goto (tgt := 2) dX1_fill_82 (by decide) ?_
            exact sn_mask (L' := [some (aA a), some (aI (v2 + 1)), none]) [true, true, false] rfl (hnx2 (v2 + 1) p50.2)
          · refine sn_aload_n dX1_fill_62 rfl ?_
            refine sn_getA (ci := 1) (j := 17) dX1_fill_63 fl_X1_46 (by decide) (fun x63 => ?_)
            refine sn_iload_n dX1_fill_66 rfl ?_
            refine sn_iconst dX1_fill_67 ?_
            refine sn_zast dX1_fill_68 (fun μ68 => ?_)
            refine sn_aload_n dX1_fill_69 rfl ?_
            refine sn_getA (ci := 1) (j := 8) dX1_fill_70 fl_X1_18 (by decide) (fun x70 => ?_)
            refine sn_iload_n dX1_fill_73 rfl ?_
            refine sn_dup2 dX1_fill_74 rfl rfl ?_
            refine sn_iald dX1_fill_75 (fun x75 => ?_)
            refine sn_iconst dX1_fill_76 ?_
            refine sn_isub dX1_fill_77 ?_
            refine sn_iast dX1_fill_78 (fun μ78 => ?_)
            refine sn_iinc (L' := [some (aA a), some (aI (v2 + 1)), some (aI x17)]) dX1_fill_79 rfl (by decide) rfl ?_
            refine sn_goto (tgt := 2) dX1_fill_82 (by decide) ?_
            exact sn_mask (L' := [some (aA a), some (aI (v2 + 1)), none]) [true, true, false] rfl (hnx2 (v2 + 1) μ78)
theorem dX1_thirstsNow_0 : decode cX1_thirstsNow 0 = .ok (.aload_n 0, 1) := by decide +kernel
theorem dX1_thirstsNow_1 : decode cX1_thirstsNow 1 = .ok (.getfield 21, 3) := by decide +kernel
theorem dX1_thirstsNow_4 : decode cX1_thirstsNow 4 = .ok (.iload_n 1, 1) := by decide +kernel
theorem dX1_thirstsNow_5 : decode cX1_thirstsNow 5 = .ok (.iaload, 1) := by decide +kernel
theorem dX1_thirstsNow_6 : decode cX1_thirstsNow 6 = .ok (.aload_n 0, 1) := by decide +kernel
theorem dX1_thirstsNow_7 : decode cX1_thirstsNow 7 = .ok (.getfield 62, 3) := by decide +kernel
theorem dX1_thirstsNow_10 : decode cX1_thirstsNow 10 = .ok (.bipush 12, 2) := by decide +kernel
theorem dX1_thirstsNow_12 : decode cX1_thirstsNow 12 = .ok (.irem, 1) := by decide +kernel
theorem dX1_thirstsNow_13 : decode cX1_thirstsNow 13 = .ok (.ishr, 1) := by decide +kernel
theorem dX1_thirstsNow_14 : decode cX1_thirstsNow 14 = .ok (.iconst 1, 1) := by decide +kernel
theorem dX1_thirstsNow_15 : decode cX1_thirstsNow 15 = .ok (.iand, 1) := by decide +kernel
theorem dX1_thirstsNow_16 : decode cX1_thirstsNow 16 = .ok (.iconst 1, 1) := by decide +kernel
theorem dX1_thirstsNow_17 : decode cX1_thirstsNow 17 = .ok (.if_icmp .ne 7, 3) := by decide +kernel
theorem dX1_thirstsNow_20 : decode cX1_thirstsNow 20 = .ok (.iconst 1, 1) := by decide +kernel
theorem dX1_thirstsNow_21 : decode cX1_thirstsNow 21 = .ok (.goto 4, 3) := by decide +kernel
theorem dX1_thirstsNow_24 : decode cX1_thirstsNow 24 = .ok (.iconst 0, 1) := by decide +kernel
theorem dX1_thirstsNow_25 : decode cX1_thirstsNow 25 = .ok (.ireturn, 1) := by decide +kernel
def mX1_thirstsNow (n : Nat) (a : Nat) (b1 : Int) (μ : Mem) : Option (Int × Mem) :=
  (gA μ 2 a 9).bind fun x1 =>
  (ldI μ 0 x1 b1).bind fun x5 =>
  (gI μ 2 a 2).bind fun x7 =>
  if eq32 (oAnd (oShr x5 (oRem x7 12)) 1) 1 then
    retZ 1 μ
  else
  retZ 0 μ
set_option maxRecDepth 100000 in
set_option maxHeartbeats 4000000 in
theorem cX1_thirstsNow_ok (n : Nat) (a : Nat) (b1 : Int) (μ : Mem) : Mc yX1_thirstsNow cX1_thirstsNow 2 (some .boolean) 0 0 eI [aA a, aI b1] μ (mX1_thirstsNow n a b1 μ) := by
  refine mc_of (L0 := [some (aA a), some (aI b1)]) (k := 0) (by decide) rfl rfl (fun X Γ => ?_)
  unfold mX1_thirstsNow
  refine sn_aload_n dX1_thirstsNow_0 rfl ?_
  refine sn_getA (ci := 1) (j := 9) dX1_thirstsNow_1 fl_X1_21 (by decide) (fun x1 => ?_)
  refine sn_iload_n dX1_thirstsNow_4 rfl ?_
  refine sn_iald dX1_thirstsNow_5 (fun x5 => ?_)
  refine sn_aload_n dX1_thirstsNow_6 rfl ?_
  refine sn_getI (ci := 1) (j := 2) dX1_thirstsNow_7 fl_X1_62 rfl (fun x7 => ?_)
  refine sn_bipush dX1_thirstsNow_10 (by decide) ?_
  refine sn_iremK dX1_thirstsNow_12 (by decide) ?_
  refine sn_ishr dX1_thirstsNow_13 ?_
  refine sn_iconst dX1_thirstsNow_14 ?_
  refine sn_iand dX1_thirstsNow_15 ?_
  refine sn_iconst dX1_thirstsNow_16 ?_
  refine sn_icmp_ne (tgt := 24) dX1_thirstsNow_17 (by decide) ?_ ?_
  · refine sn_iconst dX1_thirstsNow_24 ?_
    exact sn_zret dX1_thirstsNow_25
  · refine sn_iconst dX1_thirstsNow_20 ?_
    refine sn_goto (tgt := 25) dX1_thirstsNow_21 (by decide) ?_
    exact sn_zret dX1_thirstsNow_25
theorem dX1_drink_0 : decode cX1_drink 0 = .ok (.iconst 0, 1) := by decide +kernel
theorem dX1_drink_1 : decode cX1_drink 1 = .ok (.istore_n 1, 1) := by decide +kernel
theorem dX1_drink_2 : decode cX1_drink 2 = .ok (.iconst 0, 1) := by decide +kernel
theorem dX1_drink_3 : decode cX1_drink 3 = .ok (.istore_n 2, 1) := by decide +kernel
theorem dX1_drink_4 : decode cX1_drink 4 = .ok (.iload_n 2, 1) := by decide +kernel
theorem dX1_drink_5 : decode cX1_drink 5 = .ok (.iconst 2, 1) := by decide +kernel
theorem dX1_drink_6 : decode cX1_drink 6 = .ok (.aload_n 0, 1) := by decide +kernel
theorem dX1_drink_7 : decode cX1_drink 7 = .ok (.getfield 59, 3) := by decide +kernel
theorem dX1_drink_10 : decode cX1_drink 10 = .ok (.imul, 1) := by decide +kernel
theorem dX1_drink_11 : decode cX1_drink 11 = .ok (.if_icmp .ge 85, 3) := by decide +kernel
theorem dX1_drink_14 : decode cX1_drink 14 = .ok (.aload_n 0, 1) := by decide +kernel
theorem dX1_drink_15 : decode cX1_drink 15 = .ok (.getfield 40, 3) := by decide +kernel
theorem dX1_drink_18 : decode cX1_drink 18 = .ok (.iload_n 2, 1) := by decide +kernel
theorem dX1_drink_19 : decode cX1_drink 19 = .ok (.iaload, 1) := by decide +kernel
theorem dX1_drink_20 : decode cX1_drink 20 = .ok (.istore_n 3, 1) := by decide +kernel
theorem dX1_drink_21 : decode cX1_drink 21 = .ok (.aload_n 0, 1) := by decide +kernel
theorem dX1_drink_22 : decode cX1_drink 22 = .ok (.getfield 36, 3) := by decide +kernel
theorem dX1_drink_25 : decode cX1_drink 25 = .ok (.iload_n 2, 1) := by decide +kernel
theorem dX1_drink_26 : decode cX1_drink 26 = .ok (.iconst 2, 1) := by decide +kernel
theorem dX1_drink_27 : decode cX1_drink 27 = .ok (.idiv, 1) := by decide +kernel
theorem dX1_drink_28 : decode cX1_drink 28 = .ok (.baload, 1) := by decide +kernel
theorem dX1_drink_29 : decode cX1_drink 29 = .ok (.ifCond .ne 61, 3) := by decide +kernel
theorem dX1_drink_32 : decode cX1_drink 32 = .ok (.aload_n 0, 1) := by decide +kernel
theorem dX1_drink_33 : decode cX1_drink 33 = .ok (.getfield 46, 3) := by decide +kernel
theorem dX1_drink_36 : decode cX1_drink 36 = .ok (.iload_n 2, 1) := by decide +kernel
theorem dX1_drink_37 : decode cX1_drink 37 = .ok (.baload, 1) := by decide +kernel
theorem dX1_drink_38 : decode cX1_drink 38 = .ok (.ifCond .eq 52, 3) := by decide +kernel
theorem dX1_drink_41 : decode cX1_drink 41 = .ok (.aload_n 0, 1) := by decide +kernel
theorem dX1_drink_42 : decode cX1_drink 42 = .ok (.iload_n 2, 1) := by decide +kernel
theorem dX1_drink_43 : decode cX1_drink 43 = .ok (.invokevirtual 138, 3) := by decide +kernel
theorem dX1_drink_46 : decode cX1_drink 46 = .ok (.ifCond .ne 44, 3) := by decide +kernel
theorem dX1_drink_49 : decode cX1_drink 49 = .ok (.aload_n 0, 1) := by decide +kernel
theorem dX1_drink_50 : decode cX1_drink 50 = .ok (.getfield 46, 3) := by decide +kernel
theorem dX1_drink_53 : decode cX1_drink 53 = .ok (.iload_n 2, 1) := by decide +kernel
theorem dX1_drink_54 : decode cX1_drink 54 = .ok (.iconst 0, 1) := by decide +kernel
theorem dX1_drink_55 : decode cX1_drink 55 = .ok (.bastore, 1) := by decide +kernel
theorem dX1_drink_56 : decode cX1_drink 56 = .ok (.iinc 1 1, 3) := by decide +kernel
theorem dX1_drink_59 : decode cX1_drink 59 = .ok (.aload_n 0, 1) := by decide +kernel
theorem dX1_drink_60 : decode cX1_drink 60 = .ok (.iload_n 3, 1) := by decide +kernel
theorem dX1_drink_61 : decode cX1_drink 61 = .ok (.invokevirtual 141, 3) := by decide +kernel
theorem dX1_drink_64 : decode cX1_drink 64 = .ok (.ifCond .eq 16, 3) := by decide +kernel
theorem dX1_drink_67 : decode cX1_drink 67 = .ok (.aload_n 0, 1) := by decide +kernel
theorem dX1_drink_68 : decode cX1_drink 68 = .ok (.getfield 24, 3) := by decide +kernel
theorem dX1_drink_71 : decode cX1_drink 71 = .ok (.iload_n 3, 1) := by decide +kernel
theorem dX1_drink_72 : decode cX1_drink 72 = .ok (.dup2, 1) := by decide +kernel
theorem dX1_drink_73 : decode cX1_drink 73 = .ok (.iaload, 1) := by decide +kernel
theorem dX1_drink_74 : decode cX1_drink 74 = .ok (.iconst 1, 1) := by decide +kernel
theorem dX1_drink_75 : decode cX1_drink 75 = .ok (.iadd, 1) := by decide +kernel
theorem dX1_drink_76 : decode cX1_drink 76 = .ok (.iastore, 1) := by decide +kernel
theorem dX1_drink_77 : decode cX1_drink 77 = .ok (.goto 13, 3) := by decide +kernel
theorem dX1_drink_80 : decode cX1_drink 80 = .ok (.aload_n 0, 1) := by decide +kernel
theorem dX1_drink_81 : decode cX1_drink 81 = .ok (.getfield 27, 3) := by decide +kernel
theorem dX1_drink_84 : decode cX1_drink 84 = .ok (.iload_n 3, 1) := by decide +kernel
theorem dX1_drink_85 : decode cX1_drink 85 = .ok (.dup2, 1) := by decide +kernel
theorem dX1_drink_86 : decode cX1_drink 86 = .ok (.iaload, 1) := by decide +kernel
theorem dX1_drink_87 : decode cX1_drink 87 = .ok (.iconst 1, 1) := by decide +kernel
theorem dX1_drink_88 : decode cX1_drink 88 = .ok (.iadd, 1) := by decide +kernel
theorem dX1_drink_89 : decode cX1_drink 89 = .ok (.iastore, 1) := by decide +kernel
theorem dX1_drink_90 : decode cX1_drink 90 = .ok (.iinc 2 1, 3) := by decide +kernel
theorem dX1_drink_93 : decode cX1_drink 93 = .ok (.goto (-89), 3) := by decide +kernel
theorem dX1_drink_96 : decode cX1_drink 96 = .ok (.iload_n 1, 1) := by decide +kernel
theorem dX1_drink_97 : decode cX1_drink 97 = .ok (.ireturn, 1) := by decide +kernel
def mX1_drink (n : Nat) (a : Nat) (μ : Mem) : Option (Int × Mem) :=
  lp (fun nx4 (v4 : Int × Int) (μ4 : Mem) =>
  (gI μ4 2 a 1).bind fun x7 =>
  if lt32 v4.2 (2 * x7) then
    (gA μ4 2 a 15).bind fun x15 =>
    (ldI μ4 0 x15 v4.2).bind fun x19 =>
    (gA μ4 2 a 14).bind fun x22 =>
    (ldI μ4 2 x22 (oDiv v4.2 2)).bind fun x28 =>
    if eq32 x28 0 then
      (gA μ4 2 a 17).bind fun x33 =>
      (ldI μ4 2 x33 v4.2).bind fun x37 =>
      if eq32 x37 0 then
        nx4 (v4.1, (v4.2 + 1)) μ4
      else
      (inv μ4 2 a (mX1_depthOf n a v4.2 μ4)).bind fun p43 =>
      if eq32 p43.1 0 then
        (gA p43.2 2 a 17).bind fun x50 =>
        (stZ p43.2 x50 v4.2 0).bind fun μ55 =>
        (inv μ55 2 a (mX1_thirstsNow n a x19 μ55)).bind fun p61 =>
        if eq32 p61.1 0 then
          (gA p61.2 2 a 11).bind fun x81 =>
          (ldI p61.2 0 x81 x19).bind fun x86 =>
          (stI p61.2 0 x81 x19 (x86 + 1)).bind fun μ89 =>
          nx4 ((v4.1 + 1), (v4.2 + 1)) μ89
        else
        (gA p61.2 2 a 10).bind fun x68 =>
        (ldI p61.2 0 x68 x19).bind fun x73 =>
        (stI p61.2 0 x68 x19 (x73 + 1)).bind fun μ76 =>
        nx4 ((v4.1 + 1), (v4.2 + 1)) μ76
      else
      nx4 (v4.1, (v4.2 + 1)) p43.2
    else
    nx4 (v4.1, (v4.2 + 1)) μ4
  else
  some (v4.1, μ4)) n (0, 0) μ
set_option maxRecDepth 100000 in
set_option maxHeartbeats 4000000 in
theorem cX1_drink_ok (n : Nat) (a : Nat) (μ : Mem) : Mc yX1_drink cX1_drink 4 (some .int) 1 22 eI [aA a] μ (mX1_drink n a μ) := by
  refine mc_of (L0 := [some (aA a), none, none, none]) (k := 3) (by decide) rfl rfl (fun X Γ => ?_)
  unfold mX1_drink
  refine sn_iconst dX1_drink_0 ?_
  refine sn_istore_n (L' := [some (aA a), some (aI 0), none, none]) dX1_drink_1 (by decide) rfl ?_
  refine sn_iconst dX1_drink_2 ?_
  refine sn_istore_n (L' := [some (aA a), some (aI 0), some (aI 0), none]) dX1_drink_3 (by decide) rfl ?_
  refine sn_lp (La := fun v4 : Int × Int => [some (aA a), some (aI v4.1), some (aI v4.2), none]) ?_ n (0, 0) μ
  intro nx4 hnx4 v4 μ4
  refine sn_iload_n dX1_drink_4 rfl ?_
  refine sn_iconst dX1_drink_5 ?_
  refine sn_aload_n dX1_drink_6 rfl ?_
  refine sn_getI (ci := 1) (j := 1) dX1_drink_7 fl_X1_59 rfl (fun x7 => ?_)
  refine sn_imul dX1_drink_10 ?_
  refine sn_icmp_ge (tgt := 96) dX1_drink_11 (by decide) ?_ ?_
  · refine sn_iload_n dX1_drink_96 rfl ?_
    exact sn_iret dX1_drink_97
  · refine sn_aload_n dX1_drink_14 rfl ?_
    refine sn_getA (ci := 1) (j := 15) dX1_drink_15 fl_X1_40 (by decide) (fun x15 => ?_)
    refine sn_iload_n dX1_drink_18 rfl ?_
    refine sn_iald dX1_drink_19 (fun x19 => ?_)
    refine sn_istore_n (L' := [some (aA a), some (aI v4.1), some (aI v4.2), some (aI x19)]) dX1_drink_20 (by decide) rfl ?_
    refine sn_aload_n dX1_drink_21 rfl ?_
    refine sn_getA (ci := 1) (j := 14) dX1_drink_22 fl_X1_36 (by decide) (fun x22 => ?_)
    refine sn_iload_n dX1_drink_25 rfl ?_
    refine sn_iconst dX1_drink_26 ?_
    refine sn_idivK dX1_drink_27 (by decide) ?_
    refine sn_zald dX1_drink_28 (fun x28 => ?_)
    refine sn_if_ne (tgt := 90) dX1_drink_29 (by decide) ?_ ?_
    · refine sn_iinc (L' := [some (aA a), some (aI v4.1), some (aI (v4.2 + 1)), some (aI x19)]) dX1_drink_90 rfl (by decide) rfl ?_
      refine sn_goto (tgt := 4) dX1_drink_93 (by decide) ?_
      exact sn_mask (L' := [some (aA a), some (aI v4.1), some (aI (v4.2 + 1)), none]) [true, true, true, false] rfl (hnx4 (v4.1, (v4.2 + 1)) μ4)
    · refine sn_aload_n dX1_drink_32 rfl ?_
      refine sn_getA (ci := 1) (j := 17) dX1_drink_33 fl_X1_46 (by decide) (fun x33 => ?_)
      refine sn_iload_n dX1_drink_36 rfl ?_
      refine sn_zald dX1_drink_37 (fun x37 => ?_)
      refine sn_if_eq (tgt := 90) dX1_drink_38 (by decide) ?_ ?_
      · refine sn_iinc (L' := [some (aA a), some (aI v4.1), some (aI (v4.2 + 1)), some (aI x19)]) dX1_drink_90 rfl (by decide) rfl ?_
        refine sn_goto (tgt := 4) dX1_drink_93 (by decide) ?_
        exact sn_mask (L' := [some (aA a), some (aI v4.1), some (aI (v4.2 + 1)), none]) [true, true, true, false] rfl (hnx4 (v4.1, (v4.2 + 1)) μ4)
      · refine sn_aload_n dX1_drink_41 rfl ?_
        refine sn_iload_n dX1_drink_42 rfl ?_
        refine sn_callVI (vs := [aI v4.2]) (ci := 1) (cX1_depthOf_ok n a v4.2 μ4) dX1_drink_43 cw_X1_138 rfl rfl rfl (by decide) (by decide) (Nat.le_of_ble_eq_true rfl) (fun p43 => ?_)
        refine sn_if_ne (tgt := 90) dX1_drink_46 (by decide) ?_ ?_
        · refine sn_iinc (L' := [some (aA a), some (aI v4.1), some (aI (v4.2 + 1)), some (aI x19)]) dX1_drink_90 rfl (by decide) rfl ?_
          refine sn_goto (tgt := 4) dX1_drink_93 (by decide) ?_
          exact sn_mask (L' := [some (aA a), some (aI v4.1), some (aI (v4.2 + 1)), none]) [true, true, true, false] rfl (hnx4 (v4.1, (v4.2 + 1)) p43.2)
        · refine sn_aload_n dX1_drink_49 rfl ?_
          refine sn_getA (ci := 1) (j := 17) dX1_drink_50 fl_X1_46 (by decide) (fun x50 => ?_)
          refine sn_iload_n dX1_drink_53 rfl ?_
          refine sn_iconst dX1_drink_54 ?_
          refine sn_zast dX1_drink_55 (fun μ55 => ?_)
          refine sn_iinc (L' := [some (aA a), some (aI (v4.1 + 1)), some (aI v4.2), some (aI x19)]) dX1_drink_56 rfl (by decide) rfl ?_
          refine sn_aload_n dX1_drink_59 rfl ?_
          refine sn_iload_n dX1_drink_60 rfl ?_
          refine sn_callVI (vs := [aI x19]) (ci := 1) (cX1_thirstsNow_ok n a x19 μ55) dX1_drink_61 cw_X1_141 rfl rfl rfl (by decide) (by decide) (Nat.le_of_ble_eq_true rfl) (fun p61 => ?_)
          refine sn_if_eq (tgt := 80) dX1_drink_64 (by decide) ?_ ?_
          · refine sn_aload_n dX1_drink_80 rfl ?_
            refine sn_getA (ci := 1) (j := 11) dX1_drink_81 fl_X1_27 (by decide) (fun x81 => ?_)
            refine sn_iload_n dX1_drink_84 rfl ?_
            refine sn_dup2 dX1_drink_85 rfl rfl ?_
            refine sn_iald dX1_drink_86 (fun x86 => ?_)
            refine sn_iconst dX1_drink_87 ?_
            refine sn_iadd dX1_drink_88 ?_
            refine sn_iast dX1_drink_89 (fun μ89 => ?_)
            refine sn_iinc (L' := [some (aA a), some (aI (v4.1 + 1)), some (aI (v4.2 + 1)), some (aI x19)]) dX1_drink_90 rfl (by decide) rfl ?_
            refine sn_goto (tgt := 4) dX1_drink_93 (by decide) ?_
            exact sn_mask (L' := [some (aA a), some (aI (v4.1 + 1)), some (aI (v4.2 + 1)), none]) [true, true, true, false] rfl (hnx4 ((v4.1 + 1), (v4.2 + 1)) μ89)
          · refine sn_aload_n dX1_drink_67 rfl ?_
            refine sn_getA (ci := 1) (j := 10) dX1_drink_68 fl_X1_24 (by decide) (fun x68 => ?_)
            refine sn_iload_n dX1_drink_71 rfl ?_
            refine sn_dup2 dX1_drink_72 rfl rfl ?_
            refine sn_iald dX1_drink_73 (fun x73 => ?_)
            refine sn_iconst dX1_drink_74 ?_
            refine sn_iadd dX1_drink_75 ?_
            refine sn_iast dX1_drink_76 (fun μ76 => ?_)
            refine sn_goto (tgt := 90) dX1_drink_77 (by decide) ?_
            refine sn_iinc (L' := [some (aA a), some (aI (v4.1 + 1)), some (aI (v4.2 + 1)), some (aI x19)]) dX1_drink_90 rfl (by decide) rfl ?_
            refine sn_goto (tgt := 4) dX1_drink_93 (by decide) ?_
            exact sn_mask (L' := [some (aA a), some (aI (v4.1 + 1)), some (aI (v4.2 + 1)), none]) [true, true, true, false] rfl (hnx4 ((v4.1 + 1), (v4.2 + 1)) μ76)
theorem dX1_goOn_0 : decode cX1_goOn 0 = .ok (.iconst 0, 1) := by decide +kernel
theorem dX1_goOn_1 : decode cX1_goOn 1 = .ok (.istore_n 2, 1) := by decide +kernel
theorem dX1_goOn_2 : decode cX1_goOn 2 = .ok (.iload_n 2, 1) := by decide +kernel
theorem dX1_goOn_3 : decode cX1_goOn 3 = .ok (.aload_n 0, 1) := by decide +kernel
theorem dX1_goOn_4 : decode cX1_goOn 4 = .ok (.getfield 59, 3) := by decide +kernel
theorem dX1_goOn_7 : decode cX1_goOn 7 = .ok (.if_icmp .ge 69, 3) := by decide +kernel
theorem dX1_goOn_10 : decode cX1_goOn 10 = .ok (.aload_n 0, 1) := by decide +kernel
theorem dX1_goOn_11 : decode cX1_goOn 11 = .ok (.getfield 36, 3) := by decide +kernel
theorem dX1_goOn_14 : decode cX1_goOn 14 = .ok (.iload_n 2, 1) := by decide +kernel
theorem dX1_goOn_15 : decode cX1_goOn 15 = .ok (.baload, 1) := by decide +kernel
theorem dX1_goOn_16 : decode cX1_goOn 16 = .ok (.ifCond .ne 54, 3) := by decide +kernel
theorem dX1_goOn_19 : decode cX1_goOn 19 = .ok (.aload_n 0, 1) := by decide +kernel
theorem dX1_goOn_20 : decode cX1_goOn 20 = .ok (.getfield 33, 3) := by decide +kernel
theorem dX1_goOn_23 : decode cX1_goOn 23 = .ok (.iload_n 2, 1) := by decide +kernel
theorem dX1_goOn_24 : decode cX1_goOn 24 = .ok (.aload_n 0, 1) := by decide +kernel
theorem dX1_goOn_25 : decode cX1_goOn 25 = .ok (.iload_n 2, 1) := by decide +kernel
theorem dX1_goOn_26 : decode cX1_goOn 26 = .ok (.aload_n 1, 1) := by decide +kernel
theorem dX1_goOn_27 : decode cX1_goOn 27 = .ok (.aload_n 0, 1) := by decide +kernel
theorem dX1_goOn_28 : decode cX1_goOn 28 = .ok (.getfield 40, 3) := by decide +kernel
theorem dX1_goOn_31 : decode cX1_goOn 31 = .ok (.iconst 2, 1) := by decide +kernel
theorem dX1_goOn_32 : decode cX1_goOn 32 = .ok (.iload_n 2, 1) := by decide +kernel
theorem dX1_goOn_33 : decode cX1_goOn 33 = .ok (.imul, 1) := by decide +kernel
theorem dX1_goOn_34 : decode cX1_goOn 34 = .ok (.iaload, 1) := by decide +kernel
theorem dX1_goOn_35 : decode cX1_goOn 35 = .ok (.iaload, 1) := by decide +kernel
theorem dX1_goOn_36 : decode cX1_goOn 36 = .ok (.iload_n 2, 1) := by decide +kernel
theorem dX1_goOn_37 : decode cX1_goOn 37 = .ok (.if_icmp .ne 7, 3) := by decide +kernel
theorem dX1_goOn_40 : decode cX1_goOn 40 = .ok (.iconst 1, 1) := by decide +kernel
theorem dX1_goOn_41 : decode cX1_goOn 41 = .ok (.goto 4, 3) := by decide +kernel
theorem dX1_goOn_44 : decode cX1_goOn 44 = .ok (.iconst 0, 1) := by decide +kernel
theorem dX1_goOn_45 : decode cX1_goOn 45 = .ok (.aload_n 1, 1) := by decide +kernel
theorem dX1_goOn_46 : decode cX1_goOn 46 = .ok (.aload_n 0, 1) := by decide +kernel
theorem dX1_goOn_47 : decode cX1_goOn 47 = .ok (.getfield 40, 3) := by decide +kernel
theorem dX1_goOn_50 : decode cX1_goOn 50 = .ok (.iconst 2, 1) := by decide +kernel
theorem dX1_goOn_51 : decode cX1_goOn 51 = .ok (.iload_n 2, 1) := by decide +kernel
theorem dX1_goOn_52 : decode cX1_goOn 52 = .ok (.imul, 1) := by decide +kernel
theorem dX1_goOn_53 : decode cX1_goOn 53 = .ok (.iconst 1, 1) := by decide +kernel
theorem dX1_goOn_54 : decode cX1_goOn 54 = .ok (.iadd, 1) := by decide +kernel
theorem dX1_goOn_55 : decode cX1_goOn 55 = .ok (.iaload, 1) := by decide +kernel
theorem dX1_goOn_56 : decode cX1_goOn 56 = .ok (.iaload, 1) := by decide +kernel
theorem dX1_goOn_57 : decode cX1_goOn 57 = .ok (.iload_n 2, 1) := by decide +kernel
theorem dX1_goOn_58 : decode cX1_goOn 58 = .ok (.if_icmp .ne 7, 3) := by decide +kernel
theorem dX1_goOn_61 : decode cX1_goOn 61 = .ok (.iconst 1, 1) := by decide +kernel
theorem dX1_goOn_62 : decode cX1_goOn 62 = .ok (.goto 4, 3) := by decide +kernel
theorem dX1_goOn_65 : decode cX1_goOn 65 = .ok (.iconst 0, 1) := by decide +kernel
theorem dX1_goOn_66 : decode cX1_goOn 66 = .ok (.invokevirtual 128, 3) := by decide +kernel
theorem dX1_goOn_69 : decode cX1_goOn 69 = .ok (.iastore, 1) := by decide +kernel
theorem dX1_goOn_70 : decode cX1_goOn 70 = .ok (.iinc 2 1, 3) := by decide +kernel
theorem dX1_goOn_73 : decode cX1_goOn 73 = .ok (.goto (-71), 3) := by decide +kernel
theorem dX1_goOn_76 : decode cX1_goOn 76 = .ok (.aload_n 0, 1) := by decide +kernel
theorem dX1_goOn_77 : decode cX1_goOn 77 = .ok (.invokevirtual 131, 3) := by decide +kernel
theorem dX1_goOn_80 : decode cX1_goOn 80 = .ok (.aload_n 0, 1) := by decide +kernel
theorem dX1_goOn_81 : decode cX1_goOn 81 = .ok (.invokevirtual 134, 3) := by decide +kernel
theorem dX1_goOn_84 : decode cX1_goOn 84 = .ok (.istore_n 2, 1) := by decide +kernel
theorem dX1_goOn_85 : decode cX1_goOn 85 = .ok (.aload_n 0, 1) := by decide +kernel
theorem dX1_goOn_86 : decode cX1_goOn 86 = .ok (.getfield 62, 3) := by decide +kernel
theorem dX1_goOn_89 : decode cX1_goOn 89 = .ok (.sipush 9999, 3) := by decide +kernel
theorem dX1_goOn_92 : decode cX1_goOn 92 = .ok (.if_icmp .ge 13, 3) := by decide +kernel
theorem dX1_goOn_95 : decode cX1_goOn 95 = .ok (.aload_n 0, 1) := by decide +kernel
theorem dX1_goOn_96 : decode cX1_goOn 96 = .ok (.dup, 1) := by decide +kernel
theorem dX1_goOn_97 : decode cX1_goOn 97 = .ok (.getfield 62, 3) := by decide +kernel
theorem dX1_goOn_100 : decode cX1_goOn 100 = .ok (.iconst 1, 1) := by decide +kernel
theorem dX1_goOn_101 : decode cX1_goOn 101 = .ok (.iadd, 1) := by decide +kernel
theorem dX1_goOn_102 : decode cX1_goOn 102 = .ok (.putfield 62, 3) := by decide +kernel
theorem dX1_goOn_105 : decode cX1_goOn 105 = .ok (.iload_n 2, 1) := by decide +kernel
theorem dX1_goOn_106 : decode cX1_goOn 106 = .ok (.ireturn, 1) := by decide +kernel
def mX1_goOn (n : Nat) (a : Nat) (b1 : Nat) (μ : Mem) : Option (Int × Mem) :=
  lp (fun nx2 (v2 : Int) (μ2 : Mem) =>
  (gI μ2 2 a 1).bind fun x4 =>
  if lt32 v2 x4 then
    (gA μ2 2 a 14).bind fun x11 =>
    (ldI μ2 2 x11 v2).bind fun x15 =>
    if eq32 x15 0 then
      (gA μ2 2 a 13).bind fun x20 =>
      (gA μ2 2 a 15).bind fun x28 =>
      (ldI μ2 0 x28 (2 * v2)).bind fun x34 =>
      (ldI μ2 0 b1 x34).bind fun x35 =>
      jn (fun (v45 : Int) (μ45 : Mem) =>
      (gA μ45 2 a 15).bind fun x47 =>
      (ldI μ45 0 x47 ((2 * v2) + 1)).bind fun x55 =>
      (ldI μ45 0 b1 x55).bind fun x56 =>
      jn (fun (v66 : Int) (μ66 : Mem) =>
      (inv μ66 2 a (mX1_depthBehind n a v2 v45 v66 μ66)).bind fun p66 =>
      (stI p66.2 0 x20 v2 p66.1).bind fun μ69 =>
      nx2 (v2 + 1) μ69) (fun j66 =>
      if eq32 x56 v2 then
        j66 1 μ45
      else
      j66 0 μ45)) (fun j45 =>
      if eq32 x35 v2 then
        j45 1 μ2
      else
      j45 0 μ2)
    else
    nx2 (v2 + 1) μ2
  else
  (inv μ2 2 a (mX1_fill n a μ2)).bind fun p77 =>
  (inv p77.2 2 a (mX1_drink n a p77.2)).bind fun p81 =>
  (gI p81.2 2 a 2).bind fun x86 =>
  if lt32 x86 9999 then
    (gI p81.2 2 a 2).bind fun x97 =>
    (pI p81.2 2 a 2 (x97 + 1)).bind fun μ102 =>
    some (p81.1, μ102)
  else
  some (p81.1, p81.2)) n 0 μ
set_option maxRecDepth 100000 in
set_option maxHeartbeats 4000000 in
theorem cX1_goOn_ok (n : Nat) (a : Nat) (b1 : Nat) (μ : Mem) : Mc yX1_goOn cX1_goOn 3 (some .int) 3 88 eI [aA a, aA b1] μ (mX1_goOn n a b1 μ) := by
  refine mc_of (L0 := [some (aA a), some (aA b1), none]) (k := 1) (by decide) rfl rfl (fun X Γ => ?_)
  unfold mX1_goOn
  refine sn_iconst dX1_goOn_0 ?_
  refine sn_istore_n (L' := [some (aA a), some (aA b1), some (aI 0)]) dX1_goOn_1 (by decide) rfl ?_
  refine sn_lp (La := fun v2 : Int => [some (aA a), some (aA b1), some (aI v2)]) ?_ n 0 μ
  intro nx2 hnx2 v2 μ2
  refine sn_iload_n dX1_goOn_2 rfl ?_
  refine sn_aload_n dX1_goOn_3 rfl ?_
  refine sn_getI (ci := 1) (j := 1) dX1_goOn_4 fl_X1_59 rfl (fun x4 => ?_)
  refine sn_icmp_ge (tgt := 76) dX1_goOn_7 (by decide) ?_ ?_
  · refine sn_aload_n dX1_goOn_76 rfl ?_
    refine sn_callVV (vs := []) (ci := 1) (cX1_fill_ok n a μ2) dX1_goOn_77 cw_X1_131 rfl rfl rfl (by decide) (by decide) (Nat.le_of_ble_eq_true rfl) (fun p77 => ?_)
    refine sn_aload_n dX1_goOn_80 rfl ?_
    refine sn_callVI (vs := []) (ci := 1) (cX1_drink_ok n a p77.2) dX1_goOn_81 cw_X1_134 rfl rfl rfl (by decide) (by decide) (Nat.le_of_ble_eq_true rfl) (fun p81 => ?_)
    refine sn_istore_n (L' := [some (aA a), some (aA b1), some (aI p81.1)]) dX1_goOn_84 (by decide) rfl ?_
    refine sn_aload_n dX1_goOn_85 rfl ?_
    refine sn_getI (ci := 1) (j := 2) dX1_goOn_86 fl_X1_62 rfl (fun x86 => ?_)
    refine sn_sipush dX1_goOn_89 (by decide) ?_
    refine sn_icmp_ge (tgt := 105) dX1_goOn_92 (by decide) ?_ ?_
    · refine sn_iload_n dX1_goOn_105 rfl ?_
      exact sn_iret dX1_goOn_106
    · refine sn_aload_n dX1_goOn_95 rfl ?_
      refine sn_dup dX1_goOn_96 rfl ?_
      refine sn_getI (ci := 1) (j := 2) dX1_goOn_97 fl_X1_62 rfl (fun x97 => ?_)
      refine sn_iconst dX1_goOn_100 ?_
      refine sn_iadd dX1_goOn_101 ?_
      refine sn_putI (ci := 1) (j := 2) dX1_goOn_102 fl_X1_62 rfl (fun q h => by cases h; rfl) (fun μ102 => ?_)
      refine sn_iload_n dX1_goOn_105 rfl ?_
      exact sn_iret dX1_goOn_106
  · refine sn_aload_n dX1_goOn_10 rfl ?_
    refine sn_getA (ci := 1) (j := 14) dX1_goOn_11 fl_X1_36 (by decide) (fun x11 => ?_)
    refine sn_iload_n dX1_goOn_14 rfl ?_
    refine sn_zald dX1_goOn_15 (fun x15 => ?_)
    refine sn_if_ne (tgt := 70) dX1_goOn_16 (by decide) ?_ ?_
    · refine sn_iinc (L' := [some (aA a), some (aA b1), some (aI (v2 + 1))]) dX1_goOn_70 rfl (by decide) rfl ?_
      refine sn_goto (tgt := 2) dX1_goOn_73 (by decide) ?_
      exact hnx2 (v2 + 1) μ2
    · refine sn_aload_n dX1_goOn_19 rfl ?_
      refine sn_getA (ci := 1) (j := 13) dX1_goOn_20 fl_X1_33 (by decide) (fun x20 => ?_)
      refine sn_iload_n dX1_goOn_23 rfl ?_
      refine sn_aload_n dX1_goOn_24 rfl ?_
      refine sn_iload_n dX1_goOn_25 rfl ?_
      refine sn_aload_n dX1_goOn_26 rfl ?_
      refine sn_aload_n dX1_goOn_27 rfl ?_
      refine sn_getA (ci := 1) (j := 15) dX1_goOn_28 fl_X1_40 (by decide) (fun x28 => ?_)
      refine sn_iconst dX1_goOn_31 ?_
      refine sn_iload_n dX1_goOn_32 rfl ?_
      refine sn_imul dX1_goOn_33 ?_
      refine sn_iald dX1_goOn_34 (fun x34 => ?_)
      refine sn_iald dX1_goOn_35 (fun x35 => ?_)
      refine sn_iload_n dX1_goOn_36 rfl ?_
      refine sn_jn (pcj := 45) (La := fun v45 : Int => [some (aA a), some (aA b1), some (aI v2)]) (Sa := fun v45 : Int => [aI v45, aI v2, aA a, aI v2, aA x20]) ?_ ?_
      · intro v45 μ45
        refine sn_aload_n dX1_goOn_45 rfl ?_
        refine sn_aload_n dX1_goOn_46 rfl ?_
        refine sn_getA (ci := 1) (j := 15) dX1_goOn_47 fl_X1_40 (by decide) (fun x47 => ?_)
        refine sn_iconst dX1_goOn_50 ?_
        refine sn_iload_n dX1_goOn_51 rfl ?_
        refine sn_imul dX1_goOn_52 ?_
        refine sn_iconst dX1_goOn_53 ?_
        refine sn_iadd dX1_goOn_54 ?_
        refine sn_iald dX1_goOn_55 (fun x55 => ?_)
        refine sn_iald dX1_goOn_56 (fun x56 => ?_)
        refine sn_iload_n dX1_goOn_57 rfl ?_
        refine sn_jn (pcj := 66) (La := fun v66 : Int => [some (aA a), some (aA b1), some (aI v2)]) (Sa := fun v66 : Int => [aI v66, aI v45, aI v2, aA a, aI v2, aA x20]) ?_ ?_
        · intro v66 μ66
          refine sn_callVI (vs := [aI v2, aI v45, aI v66]) (ci := 1) (cX1_depthBehind_ok n a v2 v45 v66 μ66) dX1_goOn_66 cw_X1_128 rfl rfl rfl (by decide) (by decide) (Nat.le_of_ble_eq_true rfl) (fun p66 => ?_)
          refine sn_iast dX1_goOn_69 (fun μ69 => ?_)
          refine sn_iinc (L' := [some (aA a), some (aA b1), some (aI (v2 + 1))]) dX1_goOn_70 rfl (by decide) rfl ?_
          refine sn_goto (tgt := 2) dX1_goOn_73 (by decide) ?_
          exact hnx2 (v2 + 1) μ69
        intro j66 hj66
        refine sn_icmp_ne (tgt := 65) dX1_goOn_58 (by decide) ?_ ?_
        · refine sn_iconst dX1_goOn_65 ?_
          exact hj66 0 μ45
        · refine sn_iconst dX1_goOn_61 ?_
          refine sn_goto (tgt := 66) dX1_goOn_62 (by decide) ?_
          exact hj66 1 μ45
      intro j45 hj45
      refine sn_icmp_ne (tgt := 44) dX1_goOn_37 (by decide) ?_ ?_
      · refine sn_iconst dX1_goOn_44 ?_
        exact hj45 0 μ2
      · refine sn_iconst dX1_goOn_40 ?_
        refine sn_goto (tgt := 45) dX1_goOn_41 (by decide) ?_
        exact hj45 1 μ2
theorem dX1_restBits_0 : decode cX1_restBits 0 = .ok (.iconst 0, 1) := by decide +kernel
theorem dX1_restBits_1 : decode cX1_restBits 1 = .ok (.istore_n 1, 1) := by decide +kernel
theorem dX1_restBits_2 : decode cX1_restBits 2 = .ok (.iconst 0, 1) := by decide +kernel
theorem dX1_restBits_3 : decode cX1_restBits 3 = .ok (.istore_n 2, 1) := by decide +kernel
theorem dX1_restBits_4 : decode cX1_restBits 4 = .ok (.iload_n 2, 1) := by decide +kernel
theorem dX1_restBits_5 : decode cX1_restBits 5 = .ok (.aload_n 0, 1) := by decide +kernel
theorem dX1_restBits_6 : decode cX1_restBits 6 = .ok (.getfield 59, 3) := by decide +kernel
theorem dX1_restBits_9 : decode cX1_restBits 9 = .ok (.if_icmp .ge 40, 3) := by decide +kernel
theorem dX1_restBits_12 : decode cX1_restBits 12 = .ok (.aload_n 0, 1) := by decide +kernel
theorem dX1_restBits_13 : decode cX1_restBits 13 = .ok (.getfield 36, 3) := by decide +kernel
theorem dX1_restBits_16 : decode cX1_restBits 16 = .ok (.iload_n 2, 1) := by decide +kernel
theorem dX1_restBits_17 : decode cX1_restBits 17 = .ok (.baload, 1) := by decide +kernel
theorem dX1_restBits_18 : decode cX1_restBits 18 = .ok (.ifCond .ne 19, 3) := by decide +kernel
theorem dX1_restBits_21 : decode cX1_restBits 21 = .ok (.aload_n 0, 1) := by decide +kernel
theorem dX1_restBits_22 : decode cX1_restBits 22 = .ok (.iload_n 2, 1) := by decide +kernel
theorem dX1_restBits_23 : decode cX1_restBits 23 = .ok (.iconst 0, 1) := by decide +kernel
theorem dX1_restBits_24 : decode cX1_restBits 24 = .ok (.iconst 0, 1) := by decide +kernel
theorem dX1_restBits_25 : decode cX1_restBits 25 = .ok (.invokevirtual 128, 3) := by decide +kernel
theorem dX1_restBits_28 : decode cX1_restBits 28 = .ok (.aload_n 0, 1) := by decide +kernel
theorem dX1_restBits_29 : decode cX1_restBits 29 = .ok (.getfield 33, 3) := by decide +kernel
theorem dX1_restBits_32 : decode cX1_restBits 32 = .ok (.iload_n 2, 1) := by decide +kernel
theorem dX1_restBits_33 : decode cX1_restBits 33 = .ok (.iaload, 1) := by decide +kernel
theorem dX1_restBits_34 : decode cX1_restBits 34 = .ok (.if_icmp .ne 9, 3) := by decide +kernel
theorem dX1_restBits_37 : decode cX1_restBits 37 = .ok (.iload_n 1, 1) := by decide +kernel
theorem dX1_restBits_38 : decode cX1_restBits 38 = .ok (.iconst 1, 1) := by decide +kernel
theorem dX1_restBits_39 : decode cX1_restBits 39 = .ok (.iload_n 2, 1) := by decide +kernel
theorem dX1_restBits_40 : decode cX1_restBits 40 = .ok (.ishl, 1) := by decide +kernel
theorem dX1_restBits_41 : decode cX1_restBits 41 = .ok (.ior, 1) := by decide +kernel
theorem dX1_restBits_42 : decode cX1_restBits 42 = .ok (.istore_n 1, 1) := by decide +kernel
theorem dX1_restBits_43 : decode cX1_restBits 43 = .ok (.iinc 2 1, 3) := by decide +kernel
theorem dX1_restBits_46 : decode cX1_restBits 46 = .ok (.goto (-42), 3) := by decide +kernel
theorem dX1_restBits_49 : decode cX1_restBits 49 = .ok (.iload_n 1, 1) := by decide +kernel
theorem dX1_restBits_50 : decode cX1_restBits 50 = .ok (.ireturn, 1) := by decide +kernel
def mX1_restBits (n : Nat) (a : Nat) (μ : Mem) : Option (Int × Mem) :=
  lp (fun nx4 (v4 : Int × Int) (μ4 : Mem) =>
  (gI μ4 2 a 1).bind fun x6 =>
  if lt32 v4.2 x6 then
    (gA μ4 2 a 14).bind fun x13 =>
    (ldI μ4 2 x13 v4.2).bind fun x17 =>
    jn (fun (v37 : Int) (μ37 : Mem) =>
    nx4 ((oOr v4.1 (oShl 1 v37)), (v37 + 1)) μ37) (fun j37 =>
    if eq32 x17 0 then
      (inv μ4 2 a (mX1_depthBehind n a v4.2 0 0 μ4)).bind fun p25 =>
      (gA p25.2 2 a 13).bind fun x29 =>
      (ldI p25.2 0 x29 v4.2).bind fun x33 =>
      if eq32 p25.1 x33 then
        j37 v4.2 p25.2
      else
      nx4 (v4.1, (v4.2 + 1)) p25.2
    else
    j37 v4.2 μ4)
  else
  some (v4.1, μ4)) n (0, 0) μ
set_option maxRecDepth 100000 in
set_option maxHeartbeats 4000000 in
theorem cX1_restBits_ok (n : Nat) (a : Nat) (μ : Mem) : Mc yX1_restBits cX1_restBits 3 (some .int) 3 88 eI [aA a] μ (mX1_restBits n a μ) := by
  refine mc_of (L0 := [some (aA a), none, none]) (k := 2) (by decide) rfl rfl (fun X Γ => ?_)
  unfold mX1_restBits
  refine sn_iconst dX1_restBits_0 ?_
  refine sn_istore_n (L' := [some (aA a), some (aI 0), none]) dX1_restBits_1 (by decide) rfl ?_
  refine sn_iconst dX1_restBits_2 ?_
  refine sn_istore_n (L' := [some (aA a), some (aI 0), some (aI 0)]) dX1_restBits_3 (by decide) rfl ?_
  refine sn_lp (La := fun v4 : Int × Int => [some (aA a), some (aI v4.1), some (aI v4.2)]) ?_ n (0, 0) μ
  intro nx4 hnx4 v4 μ4
  refine sn_iload_n dX1_restBits_4 rfl ?_
  refine sn_aload_n dX1_restBits_5 rfl ?_
  refine sn_getI (ci := 1) (j := 1) dX1_restBits_6 fl_X1_59 rfl (fun x6 => ?_)
  refine sn_icmp_ge (tgt := 49) dX1_restBits_9 (by decide) ?_ ?_
  · refine sn_iload_n dX1_restBits_49 rfl ?_
    exact sn_iret dX1_restBits_50
  · refine sn_aload_n dX1_restBits_12 rfl ?_
    refine sn_getA (ci := 1) (j := 14) dX1_restBits_13 fl_X1_36 (by decide) (fun x13 => ?_)
    refine sn_iload_n dX1_restBits_16 rfl ?_
    refine sn_zald dX1_restBits_17 (fun x17 => ?_)
    refine sn_jn (pcj := 37) (La := fun v37 : Int => [some (aA a), some (aI v4.1), some (aI v37)]) (Sa := fun v37 : Int => []) ?_ ?_
    · intro v37 μ37
      refine sn_iload_n dX1_restBits_37 rfl ?_
      refine sn_iconst dX1_restBits_38 ?_
      refine sn_iload_n dX1_restBits_39 rfl ?_
      refine sn_ishl dX1_restBits_40 ?_
      refine sn_ior dX1_restBits_41 ?_
      refine sn_istore_n (L' := [some (aA a), some (aI (oOr v4.1 (oShl 1 v37))), some (aI v37)]) dX1_restBits_42 (by decide) rfl ?_
      refine sn_iinc (L' := [some (aA a), some (aI (oOr v4.1 (oShl 1 v37))), some (aI (v37 + 1))]) dX1_restBits_43 rfl (by decide) rfl ?_
      refine sn_goto (tgt := 4) dX1_restBits_46 (by decide) ?_
      exact hnx4 ((oOr v4.1 (oShl 1 v37)), (v37 + 1)) μ37
    intro j37 hj37
    refine sn_if_ne (tgt := 37) dX1_restBits_18 (by decide) ?_ ?_
    · exact hj37 v4.2 μ4
    · refine sn_aload_n dX1_restBits_21 rfl ?_
      refine sn_iload_n dX1_restBits_22 rfl ?_
      refine sn_iconst dX1_restBits_23 ?_
      refine sn_iconst dX1_restBits_24 ?_
      refine sn_callVI (vs := [aI v4.2, aI 0, aI 0]) (ci := 1) (cX1_depthBehind_ok n a v4.2 0 0 μ4) dX1_restBits_25 cw_X1_128 rfl rfl rfl (by decide) (by decide) (Nat.le_of_ble_eq_true rfl) (fun p25 => ?_)
      refine sn_aload_n dX1_restBits_28 rfl ?_
      refine sn_getA (ci := 1) (j := 13) dX1_restBits_29 fl_X1_33 (by decide) (fun x29 => ?_)
      refine sn_iload_n dX1_restBits_32 rfl ?_
      refine sn_iald dX1_restBits_33 (fun x33 => ?_)
      refine sn_icmp_ne (tgt := 43) dX1_restBits_34 (by decide) ?_ ?_
      · refine sn_iinc (L' := [some (aA a), some (aI v4.1), some (aI (v4.2 + 1))]) dX1_restBits_43 rfl (by decide) rfl ?_
        refine sn_goto (tgt := 4) dX1_restBits_46 (by decide) ?_
        exact hnx4 (v4.1, (v4.2 + 1)) p25.2
      · exact hj37 v4.2 p25.2
theorem dX1_sharedThirst_0 : decode cX1_sharedThirst 0 = .ok (.aload_n 0, 1) := by decide +kernel
theorem dX1_sharedThirst_1 : decode cX1_sharedThirst 1 = .ok (.getfield 21, 3) := by decide +kernel
theorem dX1_sharedThirst_4 : decode cX1_sharedThirst 4 = .ok (.aload_n 0, 1) := by decide +kernel
theorem dX1_sharedThirst_5 : decode cX1_sharedThirst 5 = .ok (.getfield 40, 3) := by decide +kernel
theorem dX1_sharedThirst_8 : decode cX1_sharedThirst 8 = .ok (.iconst 2, 1) := by decide +kernel
theorem dX1_sharedThirst_9 : decode cX1_sharedThirst 9 = .ok (.iload_n 1, 1) := by decide +kernel
theorem dX1_sharedThirst_10 : decode cX1_sharedThirst 10 = .ok (.imul, 1) := by decide +kernel
theorem dX1_sharedThirst_11 : decode cX1_sharedThirst 11 = .ok (.iaload, 1) := by decide +kernel
theorem dX1_sharedThirst_12 : decode cX1_sharedThirst 12 = .ok (.iaload, 1) := by decide +kernel
theorem dX1_sharedThirst_13 : decode cX1_sharedThirst 13 = .ok (.aload_n 0, 1) := by decide +kernel
theorem dX1_sharedThirst_14 : decode cX1_sharedThirst 14 = .ok (.getfield 21, 3) := by decide +kernel
theorem dX1_sharedThirst_17 : decode cX1_sharedThirst 17 = .ok (.aload_n 0, 1) := by decide +kernel
theorem dX1_sharedThirst_18 : decode cX1_sharedThirst 18 = .ok (.getfield 40, 3) := by decide +kernel
theorem dX1_sharedThirst_21 : decode cX1_sharedThirst 21 = .ok (.iconst 2, 1) := by decide +kernel
theorem dX1_sharedThirst_22 : decode cX1_sharedThirst 22 = .ok (.iload_n 1, 1) := by decide +kernel
theorem dX1_sharedThirst_23 : decode cX1_sharedThirst 23 = .ok (.imul, 1) := by decide +kernel
theorem dX1_sharedThirst_24 : decode cX1_sharedThirst 24 = .ok (.iconst 1, 1) := by decide +kernel
theorem dX1_sharedThirst_25 : decode cX1_sharedThirst 25 = .ok (.iadd, 1) := by decide +kernel
theorem dX1_sharedThirst_26 : decode cX1_sharedThirst 26 = .ok (.iaload, 1) := by decide +kernel
theorem dX1_sharedThirst_27 : decode cX1_sharedThirst 27 = .ok (.iaload, 1) := by decide +kernel
theorem dX1_sharedThirst_28 : decode cX1_sharedThirst 28 = .ok (.iand, 1) := by decide +kernel
theorem dX1_sharedThirst_29 : decode cX1_sharedThirst 29 = .ok (.invokestatic 96, 3) := by decide +kernel
theorem dX1_sharedThirst_32 : decode cX1_sharedThirst 32 = .ok (.ireturn, 1) := by decide +kernel
def mX1_sharedThirst (n : Nat) (a : Nat) (b1 : Int) (μ : Mem) : Option (Int × Mem) :=
  (gA μ 2 a 9).bind fun x1 =>
  (gA μ 2 a 15).bind fun x5 =>
  (ldI μ 0 x5 (2 * b1)).bind fun x11 =>
  (ldI μ 0 x1 x11).bind fun x12 =>
  (gA μ 2 a 9).bind fun x14 =>
  (gA μ 2 a 15).bind fun x18 =>
  (ldI μ 0 x18 ((2 * b1) + 1)).bind fun x26 =>
  (ldI μ 0 x14 x26).bind fun x27 =>
  (mJ6_bitCount_0f7a4 n (oAnd x12 x27) μ).bind fun p29 =>
  some (p29.1, p29.2)
set_option maxRecDepth 100000 in
set_option maxHeartbeats 4000000 in
theorem cX1_sharedThirst_ok (n : Nat) (a : Nat) (b1 : Int) (μ : Mem) : Mc yX1_sharedThirst cX1_sharedThirst 2 (some .int) 1 20 eI [aA a, aI b1] μ (mX1_sharedThirst n a b1 μ) := by
  refine mc_of (L0 := [some (aA a), some (aI b1)]) (k := 0) (by decide) rfl rfl (fun X Γ => ?_)
  unfold mX1_sharedThirst
  refine sn_aload_n dX1_sharedThirst_0 rfl ?_
  refine sn_getA (ci := 1) (j := 9) dX1_sharedThirst_1 fl_X1_21 (by decide) (fun x1 => ?_)
  refine sn_aload_n dX1_sharedThirst_4 rfl ?_
  refine sn_getA (ci := 1) (j := 15) dX1_sharedThirst_5 fl_X1_40 (by decide) (fun x5 => ?_)
  refine sn_iconst dX1_sharedThirst_8 ?_
  refine sn_iload_n dX1_sharedThirst_9 rfl ?_
  refine sn_imul dX1_sharedThirst_10 ?_
  refine sn_iald dX1_sharedThirst_11 (fun x11 => ?_)
  refine sn_iald dX1_sharedThirst_12 (fun x12 => ?_)
  refine sn_aload_n dX1_sharedThirst_13 rfl ?_
  refine sn_getA (ci := 1) (j := 9) dX1_sharedThirst_14 fl_X1_21 (by decide) (fun x14 => ?_)
  refine sn_aload_n dX1_sharedThirst_17 rfl ?_
  refine sn_getA (ci := 1) (j := 15) dX1_sharedThirst_18 fl_X1_40 (by decide) (fun x18 => ?_)
  refine sn_iconst dX1_sharedThirst_21 ?_
  refine sn_iload_n dX1_sharedThirst_22 rfl ?_
  refine sn_imul dX1_sharedThirst_23 ?_
  refine sn_iconst dX1_sharedThirst_24 ?_
  refine sn_iadd dX1_sharedThirst_25 ?_
  refine sn_iald dX1_sharedThirst_26 (fun x26 => ?_)
  refine sn_iald dX1_sharedThirst_27 (fun x27 => ?_)
  refine sn_iand dX1_sharedThirst_28 ?_
  refine sn_callSI (vs := [aI (oAnd x12 x27)]) (cJ6_bitCount_0f7a4_ok n (oAnd x12 x27) μ) dX1_sharedThirst_29 cw_X1_96 rfl (by decide) (by decide) (Nat.le_of_ble_eq_true rfl) (fun p29 => ?_)
  exact sn_iret dX1_sharedThirst_32
theorem dX1_allStock_0 : decode cX1_allStock 0 = .ok (.iconst 0, 1) := by decide +kernel
theorem dX1_allStock_1 : decode cX1_allStock 1 = .ok (.istore_n 1, 1) := by decide +kernel
theorem dX1_allStock_2 : decode cX1_allStock 2 = .ok (.iconst 0, 1) := by decide +kernel
theorem dX1_allStock_3 : decode cX1_allStock 3 = .ok (.istore_n 2, 1) := by decide +kernel
theorem dX1_allStock_4 : decode cX1_allStock 4 = .ok (.iload_n 2, 1) := by decide +kernel
theorem dX1_allStock_5 : decode cX1_allStock 5 = .ok (.aload_n 0, 1) := by decide +kernel
theorem dX1_allStock_6 : decode cX1_allStock 6 = .ok (.getfield 56, 3) := by decide +kernel
theorem dX1_allStock_9 : decode cX1_allStock 9 = .ok (.if_icmp .ge 18, 3) := by decide +kernel
theorem dX1_allStock_12 : decode cX1_allStock 12 = .ok (.iload_n 1, 1) := by decide +kernel
theorem dX1_allStock_13 : decode cX1_allStock 13 = .ok (.aload_n 0, 1) := by decide +kernel
theorem dX1_allStock_14 : decode cX1_allStock 14 = .ok (.getfield 18, 3) := by decide +kernel
theorem dX1_allStock_17 : decode cX1_allStock 17 = .ok (.iload_n 2, 1) := by decide +kernel
theorem dX1_allStock_18 : decode cX1_allStock 18 = .ok (.iaload, 1) := by decide +kernel
theorem dX1_allStock_19 : decode cX1_allStock 19 = .ok (.iadd, 1) := by decide +kernel
theorem dX1_allStock_20 : decode cX1_allStock 20 = .ok (.istore_n 1, 1) := by decide +kernel
theorem dX1_allStock_21 : decode cX1_allStock 21 = .ok (.iinc 2 1, 3) := by decide +kernel
theorem dX1_allStock_24 : decode cX1_allStock 24 = .ok (.goto (-20), 3) := by decide +kernel
theorem dX1_allStock_27 : decode cX1_allStock 27 = .ok (.iload_n 1, 1) := by decide +kernel
theorem dX1_allStock_28 : decode cX1_allStock 28 = .ok (.ireturn, 1) := by decide +kernel
def mX1_allStock (n : Nat) (a : Nat) (μ : Mem) : Option (Int × Mem) :=
  lp (fun nx4 (v4 : Int × Int) (μ4 : Mem) =>
  (gI μ4 2 a 0).bind fun x6 =>
  if lt32 v4.2 x6 then
    (gA μ4 2 a 8).bind fun x14 =>
    (ldI μ4 0 x14 v4.2).bind fun x18 =>
    nx4 ((v4.1 + x18), (v4.2 + 1)) μ4
  else
  some (v4.1, μ4)) n (0, 0) μ
set_option maxRecDepth 100000 in
set_option maxHeartbeats 4000000 in
theorem cX1_allStock_ok (n : Nat) (a : Nat) (μ : Mem) : Mc yX1_allStock cX1_allStock 3 (some .int) 0 0 eI [aA a] μ (mX1_allStock n a μ) := by
  refine mc_of (L0 := [some (aA a), none, none]) (k := 2) (by decide) rfl rfl (fun X Γ => ?_)
  unfold mX1_allStock
  refine sn_iconst dX1_allStock_0 ?_
  refine sn_istore_n (L' := [some (aA a), some (aI 0), none]) dX1_allStock_1 (by decide) rfl ?_
  refine sn_iconst dX1_allStock_2 ?_
  refine sn_istore_n (L' := [some (aA a), some (aI 0), some (aI 0)]) dX1_allStock_3 (by decide) rfl ?_
  refine sn_lp (La := fun v4 : Int × Int => [some (aA a), some (aI v4.1), some (aI v4.2)]) ?_ n (0, 0) μ
  intro nx4 hnx4 v4 μ4
  refine sn_iload_n dX1_allStock_4 rfl ?_
  refine sn_aload_n dX1_allStock_5 rfl ?_
  refine sn_getI (ci := 1) (j := 0) dX1_allStock_6 fl_X1_56 rfl (fun x6 => ?_)
  refine sn_icmp_ge (tgt := 27) dX1_allStock_9 (by decide) ?_ ?_
  · refine sn_iload_n dX1_allStock_27 rfl ?_
    exact sn_iret dX1_allStock_28
  · refine sn_iload_n dX1_allStock_12 rfl ?_
    refine sn_aload_n dX1_allStock_13 rfl ?_
    refine sn_getA (ci := 1) (j := 8) dX1_allStock_14 fl_X1_18 (by decide) (fun x14 => ?_)
    refine sn_iload_n dX1_allStock_17 rfl ?_
    refine sn_iald dX1_allStock_18 (fun x18 => ?_)
    refine sn_iadd dX1_allStock_19 ?_
    refine sn_istore_n (L' := [some (aA a), some (aI (v4.1 + x18)), some (aI v4.2)]) dX1_allStock_20 (by decide) rfl ?_
    refine sn_iinc (L' := [some (aA a), some (aI (v4.1 + x18)), some (aI (v4.2 + 1))]) dX1_allStock_21 rfl (by decide) rfl ?_
    refine sn_goto (tgt := 4) dX1_allStock_24 (by decide) ?_
    exact hnx4 ((v4.1 + x18), (v4.2 + 1)) μ4
theorem dX1_fullBuckets_0 : decode cX1_fullBuckets 0 = .ok (.iconst 0, 1) := by decide +kernel
theorem dX1_fullBuckets_1 : decode cX1_fullBuckets 1 = .ok (.istore_n 1, 1) := by decide +kernel
theorem dX1_fullBuckets_2 : decode cX1_fullBuckets 2 = .ok (.iconst 0, 1) := by decide +kernel
theorem dX1_fullBuckets_3 : decode cX1_fullBuckets 3 = .ok (.istore_n 2, 1) := by decide +kernel
theorem dX1_fullBuckets_4 : decode cX1_fullBuckets 4 = .ok (.iload_n 2, 1) := by decide +kernel
theorem dX1_fullBuckets_5 : decode cX1_fullBuckets 5 = .ok (.iconst 2, 1) := by decide +kernel
theorem dX1_fullBuckets_6 : decode cX1_fullBuckets 6 = .ok (.aload_n 0, 1) := by decide +kernel
theorem dX1_fullBuckets_7 : decode cX1_fullBuckets 7 = .ok (.getfield 59, 3) := by decide +kernel
theorem dX1_fullBuckets_10 : decode cX1_fullBuckets 10 = .ok (.imul, 1) := by decide +kernel
theorem dX1_fullBuckets_11 : decode cX1_fullBuckets 11 = .ok (.if_icmp .ge 32, 3) := by decide +kernel
theorem dX1_fullBuckets_14 : decode cX1_fullBuckets 14 = .ok (.aload_n 0, 1) := by decide +kernel
theorem dX1_fullBuckets_15 : decode cX1_fullBuckets 15 = .ok (.getfield 46, 3) := by decide +kernel
theorem dX1_fullBuckets_18 : decode cX1_fullBuckets 18 = .ok (.iload_n 2, 1) := by decide +kernel
theorem dX1_fullBuckets_19 : decode cX1_fullBuckets 19 = .ok (.baload, 1) := by decide +kernel
theorem dX1_fullBuckets_20 : decode cX1_fullBuckets 20 = .ok (.ifCond .eq 17, 3) := by decide +kernel
theorem dX1_fullBuckets_23 : decode cX1_fullBuckets 23 = .ok (.aload_n 0, 1) := by decide +kernel
theorem dX1_fullBuckets_24 : decode cX1_fullBuckets 24 = .ok (.getfield 36, 3) := by decide +kernel
theorem dX1_fullBuckets_27 : decode cX1_fullBuckets 27 = .ok (.iload_n 2, 1) := by decide +kernel
theorem dX1_fullBuckets_28 : decode cX1_fullBuckets 28 = .ok (.iconst 2, 1) := by decide +kernel
theorem dX1_fullBuckets_29 : decode cX1_fullBuckets 29 = .ok (.idiv, 1) := by decide +kernel
theorem dX1_fullBuckets_30 : decode cX1_fullBuckets 30 = .ok (.baload, 1) := by decide +kernel
theorem dX1_fullBuckets_31 : decode cX1_fullBuckets 31 = .ok (.ifCond .ne 6, 3) := by decide +kernel
theorem dX1_fullBuckets_34 : decode cX1_fullBuckets 34 = .ok (.iinc 1 1, 3) := by decide +kernel
theorem dX1_fullBuckets_37 : decode cX1_fullBuckets 37 = .ok (.iinc 2 1, 3) := by decide +kernel
theorem dX1_fullBuckets_40 : decode cX1_fullBuckets 40 = .ok (.goto (-36), 3) := by decide +kernel
theorem dX1_fullBuckets_43 : decode cX1_fullBuckets 43 = .ok (.iload_n 1, 1) := by decide +kernel
theorem dX1_fullBuckets_44 : decode cX1_fullBuckets 44 = .ok (.ireturn, 1) := by decide +kernel
def mX1_fullBuckets (n : Nat) (a : Nat) (μ : Mem) : Option (Int × Mem) :=
  lp (fun nx4 (v4 : Int × Int) (μ4 : Mem) =>
  (gI μ4 2 a 1).bind fun x7 =>
  if lt32 v4.2 (2 * x7) then
    (gA μ4 2 a 17).bind fun x15 =>
    (ldI μ4 2 x15 v4.2).bind fun x19 =>
    if eq32 x19 0 then
      nx4 (v4.1, (v4.2 + 1)) μ4
    else
    (gA μ4 2 a 14).bind fun x24 =>
    (ldI μ4 2 x24 (oDiv v4.2 2)).bind fun x30 =>
    if eq32 x30 0 then
      nx4 ((v4.1 + 1), (v4.2 + 1)) μ4
    else
    nx4 (v4.1, (v4.2 + 1)) μ4
  else
  some (v4.1, μ4)) n (0, 0) μ
set_option maxRecDepth 100000 in
set_option maxHeartbeats 4000000 in
theorem cX1_fullBuckets_ok (n : Nat) (a : Nat) (μ : Mem) : Mc yX1_fullBuckets cX1_fullBuckets 3 (some .int) 0 0 eI [aA a] μ (mX1_fullBuckets n a μ) := by
  refine mc_of (L0 := [some (aA a), none, none]) (k := 2) (by decide) rfl rfl (fun X Γ => ?_)
  unfold mX1_fullBuckets
  refine sn_iconst dX1_fullBuckets_0 ?_
  refine sn_istore_n (L' := [some (aA a), some (aI 0), none]) dX1_fullBuckets_1 (by decide) rfl ?_
  refine sn_iconst dX1_fullBuckets_2 ?_
  refine sn_istore_n (L' := [some (aA a), some (aI 0), some (aI 0)]) dX1_fullBuckets_3 (by decide) rfl ?_
  refine sn_lp (La := fun v4 : Int × Int => [some (aA a), some (aI v4.1), some (aI v4.2)]) ?_ n (0, 0) μ
  intro nx4 hnx4 v4 μ4
  refine sn_iload_n dX1_fullBuckets_4 rfl ?_
  refine sn_iconst dX1_fullBuckets_5 ?_
  refine sn_aload_n dX1_fullBuckets_6 rfl ?_
  refine sn_getI (ci := 1) (j := 1) dX1_fullBuckets_7 fl_X1_59 rfl (fun x7 => ?_)
  refine sn_imul dX1_fullBuckets_10 ?_
  refine sn_icmp_ge (tgt := 43) dX1_fullBuckets_11 (by decide) ?_ ?_
  · refine sn_iload_n dX1_fullBuckets_43 rfl ?_
    exact sn_iret dX1_fullBuckets_44
  · refine sn_aload_n dX1_fullBuckets_14 rfl ?_
    refine sn_getA (ci := 1) (j := 17) dX1_fullBuckets_15 fl_X1_46 (by decide) (fun x15 => ?_)
    refine sn_iload_n dX1_fullBuckets_18 rfl ?_
    refine sn_zald dX1_fullBuckets_19 (fun x19 => ?_)
    refine sn_if_eq (tgt := 37) dX1_fullBuckets_20 (by decide) ?_ ?_
    · refine sn_iinc (L' := [some (aA a), some (aI v4.1), some (aI (v4.2 + 1))]) dX1_fullBuckets_37 rfl (by decide) rfl ?_
      refine sn_goto (tgt := 4) dX1_fullBuckets_40 (by decide) ?_
      exact hnx4 (v4.1, (v4.2 + 1)) μ4
    · refine sn_aload_n dX1_fullBuckets_23 rfl ?_
      refine sn_getA (ci := 1) (j := 14) dX1_fullBuckets_24 fl_X1_36 (by decide) (fun x24 => ?_)
      refine sn_iload_n dX1_fullBuckets_27 rfl ?_
      refine sn_iconst dX1_fullBuckets_28 ?_
      refine sn_idivK dX1_fullBuckets_29 (by decide) ?_
      refine sn_zald dX1_fullBuckets_30 (fun x30 => ?_)
      refine sn_if_ne (tgt := 37) dX1_fullBuckets_31 (by decide) ?_ ?_
      · refine sn_iinc (L' := [some (aA a), some (aI v4.1), some (aI (v4.2 + 1))]) dX1_fullBuckets_37 rfl (by decide) rfl ?_
        refine sn_goto (tgt := 4) dX1_fullBuckets_40 (by decide) ?_
        exact hnx4 (v4.1, (v4.2 + 1)) μ4
      · refine sn_iinc (L' := [some (aA a), some (aI (v4.1 + 1)), some (aI v4.2)]) dX1_fullBuckets_34 rfl (by decide) rfl ?_
        refine sn_iinc (L' := [some (aA a), some (aI (v4.1 + 1)), some (aI (v4.2 + 1))]) dX1_fullBuckets_37 rfl (by decide) rfl ?_
        refine sn_goto (tgt := 4) dX1_fullBuckets_40 (by decide) ?_
        exact hnx4 ((v4.1 + 1), (v4.2 + 1)) μ4
theorem dX1_allQuenched_0 : decode cX1_allQuenched 0 = .ok (.iconst 0, 1) := by decide +kernel
theorem dX1_allQuenched_1 : decode cX1_allQuenched 1 = .ok (.istore_n 1, 1) := by decide +kernel
theorem dX1_allQuenched_2 : decode cX1_allQuenched 2 = .ok (.iconst 0, 1) := by decide +kernel
theorem dX1_allQuenched_3 : decode cX1_allQuenched 3 = .ok (.istore_n 2, 1) := by decide +kernel
theorem dX1_allQuenched_4 : decode cX1_allQuenched 4 = .ok (.iload_n 2, 1) := by decide +kernel
theorem dX1_allQuenched_5 : decode cX1_allQuenched 5 = .ok (.aload_n 0, 1) := by decide +kernel
theorem dX1_allQuenched_6 : decode cX1_allQuenched 6 = .ok (.getfield 56, 3) := by decide +kernel
theorem dX1_allQuenched_9 : decode cX1_allQuenched 9 = .ok (.if_icmp .ge 18, 3) := by decide +kernel
theorem dX1_allQuenched_12 : decode cX1_allQuenched 12 = .ok (.iload_n 1, 1) := by decide +kernel
theorem dX1_allQuenched_13 : decode cX1_allQuenched 13 = .ok (.aload_n 0, 1) := by decide +kernel
theorem dX1_allQuenched_14 : decode cX1_allQuenched 14 = .ok (.getfield 24, 3) := by decide +kernel
theorem dX1_allQuenched_17 : decode cX1_allQuenched 17 = .ok (.iload_n 2, 1) := by decide +kernel
theorem dX1_allQuenched_18 : decode cX1_allQuenched 18 = .ok (.iaload, 1) := by decide +kernel
theorem dX1_allQuenched_19 : decode cX1_allQuenched 19 = .ok (.iadd, 1) := by decide +kernel
theorem dX1_allQuenched_20 : decode cX1_allQuenched 20 = .ok (.istore_n 1, 1) := by decide +kernel
theorem dX1_allQuenched_21 : decode cX1_allQuenched 21 = .ok (.iinc 2 1, 3) := by decide +kernel
theorem dX1_allQuenched_24 : decode cX1_allQuenched 24 = .ok (.goto (-20), 3) := by decide +kernel
theorem dX1_allQuenched_27 : decode cX1_allQuenched 27 = .ok (.iload_n 1, 1) := by decide +kernel
theorem dX1_allQuenched_28 : decode cX1_allQuenched 28 = .ok (.ireturn, 1) := by decide +kernel
def mX1_allQuenched (n : Nat) (a : Nat) (μ : Mem) : Option (Int × Mem) :=
  lp (fun nx4 (v4 : Int × Int) (μ4 : Mem) =>
  (gI μ4 2 a 0).bind fun x6 =>
  if lt32 v4.2 x6 then
    (gA μ4 2 a 10).bind fun x14 =>
    (ldI μ4 0 x14 v4.2).bind fun x18 =>
    nx4 ((v4.1 + x18), (v4.2 + 1)) μ4
  else
  some (v4.1, μ4)) n (0, 0) μ
set_option maxRecDepth 100000 in
set_option maxHeartbeats 4000000 in
theorem cX1_allQuenched_ok (n : Nat) (a : Nat) (μ : Mem) : Mc yX1_allQuenched cX1_allQuenched 3 (some .int) 0 0 eI [aA a] μ (mX1_allQuenched n a μ) := by
  refine mc_of (L0 := [some (aA a), none, none]) (k := 2) (by decide) rfl rfl (fun X Γ => ?_)
  unfold mX1_allQuenched
  refine sn_iconst dX1_allQuenched_0 ?_
  refine sn_istore_n (L' := [some (aA a), some (aI 0), none]) dX1_allQuenched_1 (by decide) rfl ?_
  refine sn_iconst dX1_allQuenched_2 ?_
  refine sn_istore_n (L' := [some (aA a), some (aI 0), some (aI 0)]) dX1_allQuenched_3 (by decide) rfl ?_
  refine sn_lp (La := fun v4 : Int × Int => [some (aA a), some (aI v4.1), some (aI v4.2)]) ?_ n (0, 0) μ
  intro nx4 hnx4 v4 μ4
  refine sn_iload_n dX1_allQuenched_4 rfl ?_
  refine sn_aload_n dX1_allQuenched_5 rfl ?_
  refine sn_getI (ci := 1) (j := 0) dX1_allQuenched_6 fl_X1_56 rfl (fun x6 => ?_)
  refine sn_icmp_ge (tgt := 27) dX1_allQuenched_9 (by decide) ?_ ?_
  · refine sn_iload_n dX1_allQuenched_27 rfl ?_
    exact sn_iret dX1_allQuenched_28
  · refine sn_iload_n dX1_allQuenched_12 rfl ?_
    refine sn_aload_n dX1_allQuenched_13 rfl ?_
    refine sn_getA (ci := 1) (j := 10) dX1_allQuenched_14 fl_X1_24 (by decide) (fun x14 => ?_)
    refine sn_iload_n dX1_allQuenched_17 rfl ?_
    refine sn_iald dX1_allQuenched_18 (fun x18 => ?_)
    refine sn_iadd dX1_allQuenched_19 ?_
    refine sn_istore_n (L' := [some (aA a), some (aI (v4.1 + x18)), some (aI v4.2)]) dX1_allQuenched_20 (by decide) rfl ?_
    refine sn_iinc (L' := [some (aA a), some (aI (v4.1 + x18)), some (aI (v4.2 + 1))]) dX1_allQuenched_21 rfl (by decide) rfl ?_
    refine sn_goto (tgt := 4) dX1_allQuenched_24 (by decide) ?_
    exact hnx4 ((v4.1 + x18), (v4.2 + 1)) μ4
theorem dX1_openRope_0 : decode cX1_openRope 0 = .ok (.iconst 0, 1) := by decide +kernel
theorem dX1_openRope_1 : decode cX1_openRope 1 = .ok (.istore_n 3, 1) := by decide +kernel
theorem dX1_openRope_2 : decode cX1_openRope 2 = .ok (.iconst 0, 1) := by decide +kernel
theorem dX1_openRope_3 : decode cX1_openRope 3 = .ok (.istore 4, 2) := by decide +kernel
theorem dX1_openRope_5 : decode cX1_openRope 5 = .ok (.iload 4, 2) := by decide +kernel
theorem dX1_openRope_7 : decode cX1_openRope 7 = .ok (.aload_n 0, 1) := by decide +kernel
theorem dX1_openRope_8 : decode cX1_openRope 8 = .ok (.getfield 59, 3) := by decide +kernel
theorem dX1_openRope_11 : decode cX1_openRope 11 = .ok (.if_icmp .ge 30, 3) := by decide +kernel
theorem dX1_openRope_14 : decode cX1_openRope 14 = .ok (.aload_n 0, 1) := by decide +kernel
theorem dX1_openRope_15 : decode cX1_openRope 15 = .ok (.iload 4, 2) := by decide +kernel
theorem dX1_openRope_17 : decode cX1_openRope 17 = .ok (.iload_n 1, 1) := by decide +kernel
theorem dX1_openRope_18 : decode cX1_openRope 18 = .ok (.invokevirtual 93, 3) := by decide +kernel
theorem dX1_openRope_21 : decode cX1_openRope 21 = .ok (.ifCond .eq 14, 3) := by decide +kernel
theorem dX1_openRope_24 : decode cX1_openRope 24 = .ok (.iinc 3 1, 3) := by decide +kernel
theorem dX1_openRope_27 : decode cX1_openRope 27 = .ok (.iload_n 3, 1) := by decide +kernel
theorem dX1_openRope_28 : decode cX1_openRope 28 = .ok (.iload_n 2, 1) := by decide +kernel
theorem dX1_openRope_29 : decode cX1_openRope 29 = .ok (.if_icmp .ne 6, 3) := by decide +kernel
theorem dX1_openRope_32 : decode cX1_openRope 32 = .ok (.iload 4, 2) := by decide +kernel
theorem dX1_openRope_34 : decode cX1_openRope 34 = .ok (.ireturn, 1) := by decide +kernel
theorem dX1_openRope_35 : decode cX1_openRope 35 = .ok (.iinc 4 1, 3) := by decide +kernel
theorem dX1_openRope_38 : decode cX1_openRope 38 = .ok (.goto (-33), 3) := by decide +kernel
theorem dX1_openRope_41 : decode cX1_openRope 41 = .ok (.iconst (-1), 1) := by decide +kernel
theorem dX1_openRope_42 : decode cX1_openRope 42 = .ok (.ireturn, 1) := by decide +kernel
def mX1_openRope (n : Nat) (a : Nat) (b1 : Int) (b2 : Int) (μ : Mem) : Option (Int × Mem) :=
  lp (fun nx5 (v5 : Int × Int) (μ5 : Mem) =>
  (gI μ5 2 a 1).bind fun x8 =>
  if lt32 v5.2 x8 then
    (inv μ5 2 a (mX1_hangsOpen n a v5.2 b1 μ5)).bind fun p18 =>
    if eq32 p18.1 0 then
      nx5 (v5.1, (v5.2 + 1)) p18.2
    else
    if eq32 (v5.1 + 1) b2 then
      some (v5.2, p18.2)
    else
    nx5 ((v5.1 + 1), (v5.2 + 1)) p18.2
  else
  some ((-1), μ5)) n (0, 0) μ
set_option maxRecDepth 100000 in
set_option maxHeartbeats 4000000 in
theorem cX1_openRope_ok (n : Nat) (a : Nat) (b1 : Int) (b2 : Int) (μ : Mem) : Mc yX1_openRope cX1_openRope 5 (some .int) 3 65 eI [aA a, aI b1, aI b2] μ (mX1_openRope n a b1 b2 μ) := by
  refine mc_of (L0 := [some (aA a), some (aI b1), some (aI b2), none, none]) (k := 2) (by decide) rfl rfl (fun X Γ => ?_)
  unfold mX1_openRope
  refine sn_iconst dX1_openRope_0 ?_
  refine sn_istore_n (L' := [some (aA a), some (aI b1), some (aI b2), some (aI 0), none]) dX1_openRope_1 (by decide) rfl ?_
  refine sn_iconst dX1_openRope_2 ?_
  refine sn_istore (L' := [some (aA a), some (aI b1), some (aI b2), some (aI 0), some (aI 0)]) dX1_openRope_3 (by decide) rfl ?_
  refine sn_lp (La := fun v5 : Int × Int => [some (aA a), some (aI b1), some (aI b2), some (aI v5.1), some (aI v5.2)]) ?_ n (0, 0) μ
  intro nx5 hnx5 v5 μ5
  refine sn_iload dX1_openRope_5 rfl ?_
  refine sn_aload_n dX1_openRope_7 rfl ?_
  refine sn_getI (ci := 1) (j := 1) dX1_openRope_8 fl_X1_59 rfl (fun x8 => ?_)
  refine sn_icmp_ge (tgt := 41) dX1_openRope_11 (by decide) ?_ ?_
  · refine sn_iconst dX1_openRope_41 ?_
    exact sn_iret dX1_openRope_42
  · refine sn_aload_n dX1_openRope_14 rfl ?_
    refine sn_iload dX1_openRope_15 rfl ?_
    refine sn_iload_n dX1_openRope_17 rfl ?_
    refine sn_callVI (vs := [aI v5.2, aI b1]) (ci := 1) (cX1_hangsOpen_ok n a v5.2 b1 μ5) dX1_openRope_18 cw_X1_93 rfl rfl rfl (by decide) (by decide) (Nat.le_of_ble_eq_true rfl) (fun p18 => ?_)
    refine sn_if_eq (tgt := 35) dX1_openRope_21 (by decide) ?_ ?_
    · refine sn_iinc (L' := [some (aA a), some (aI b1), some (aI b2), some (aI v5.1), some (aI (v5.2 + 1))]) dX1_openRope_35 rfl (by decide) rfl ?_
      refine sn_goto (tgt := 5) dX1_openRope_38 (by decide) ?_
      exact hnx5 (v5.1, (v5.2 + 1)) p18.2
    · refine sn_iinc (L' := [some (aA a), some (aI b1), some (aI b2), some (aI (v5.1 + 1)), some (aI v5.2)]) dX1_openRope_24 rfl (by decide) rfl ?_
      refine sn_iload_n dX1_openRope_27 rfl ?_
      refine sn_iload_n dX1_openRope_28 rfl ?_
      refine sn_icmp_ne (tgt := 35) dX1_openRope_29 (by decide) ?_ ?_
      · refine sn_iinc (L' := [some (aA a), some (aI b1), some (aI b2), some (aI (v5.1 + 1)), some (aI (v5.2 + 1))]) dX1_openRope_35 rfl (by decide) rfl ?_
        refine sn_goto (tgt := 5) dX1_openRope_38 (by decide) ?_
        exact hnx5 ((v5.1 + 1), (v5.2 + 1)) p18.2
      · refine sn_iload dX1_openRope_32 rfl ?_
        exact sn_iret dX1_openRope_34
