/-! layer 1: model1 -/
theorem dX11_within_0 : decode cX11_within 0 = .ok (.lload_n 0, 1) := by decide +kernel
theorem dX11_within_1 : decode cX11_within 1 = .ok (.lload_n 2, 1) := by decide +kernel
theorem dX11_within_2 : decode cX11_within 2 = .ok (.lcmp, 1) := by decide +kernel
theorem dX11_within_3 : decode cX11_within 3 = .ok (.ifCond .lt 14, 3) := by decide +kernel
theorem dX11_within_6 : decode cX11_within 6 = .ok (.lload_n 0, 1) := by decide +kernel
theorem dX11_within_7 : decode cX11_within 7 = .ok (.lload 4, 2) := by decide +kernel
theorem dX11_within_9 : decode cX11_within 9 = .ok (.lcmp, 1) := by decide +kernel
theorem dX11_within_10 : decode cX11_within 10 = .ok (.ifCond .gt 7, 3) := by decide +kernel
theorem dX11_within_13 : decode cX11_within 13 = .ok (.iconst 1, 1) := by decide +kernel
theorem dX11_within_14 : decode cX11_within 14 = .ok (.goto 4, 3) := by decide +kernel
theorem dX11_within_17 : decode cX11_within 17 = .ok (.iconst 0, 1) := by decide +kernel
theorem dX11_within_18 : decode cX11_within 18 = .ok (.ireturn, 1) := by decide +kernel
def mX11_within (n : Nat) (b1 : Int) (b2 : Int) (b3 : Int) (μ : Mem) : Option (Int × Mem) :=
  if lt32 (oLcmp b1 b2) 0 then
    retZ 0 μ
  else
  if lt32 0 (oLcmp b1 b3) then
    retZ 0 μ
  else
  retZ 1 μ
set_option maxRecDepth 100000 in
set_option maxHeartbeats 4000000 in
theorem cX11_within_ok (n : Nat) (b1 : Int) (b2 : Int) (b3 : Int) (μ : Mem) : Mc yX11_within cX11_within 6 (some .boolean) 0 0 eI [aJ b1, aJ b2, aJ b3] μ (mX11_within n b1 b2 b3 μ) := by
  refine mc_of (L0 := [some (aJ b1), none, some (aJ b2), none, some (aJ b3), none]) (k := 0) (by decide) rfl rfl (fun X Γ => ?_)
  unfold mX11_within
  refine sn_lload_n dX11_within_0 rfl ?_
  refine sn_lload_n dX11_within_1 rfl ?_
  refine sn_lcmp dX11_within_2 ?_
  refine sn_if_lt (tgt := 17) dX11_within_3 (by decide) ?_ ?_
  · refine sn_iconst dX11_within_17 ?_
    exact sn_zret dX11_within_18
  · refine sn_lload_n dX11_within_6 rfl ?_
    refine sn_lload dX11_within_7 rfl ?_
    refine sn_lcmp dX11_within_9 ?_
    refine sn_if_gt (tgt := 17) dX11_within_10 (by decide) ?_ ?_
    · refine sn_iconst dX11_within_17 ?_
      exact sn_zret dX11_within_18
    · refine sn_iconst dX11_within_13 ?_
      refine sn_goto (tgt := 18) dX11_within_14 (by decide) ?_
      exact sn_zret dX11_within_18
theorem dX11_isHouse_0 : decode cX11_isHouse 0 = .ok (.lload_n 1, 1) := by decide +kernel
theorem dX11_isHouse_1 : decode cX11_isHouse 1 = .ok (.lconst 0, 1) := by decide +kernel
theorem dX11_isHouse_2 : decode cX11_isHouse 2 = .ok (.aload_n 0, 1) := by decide +kernel
theorem dX11_isHouse_3 : decode cX11_isHouse 3 = .ok (.getfield 13, 3) := by decide +kernel
theorem dX11_isHouse_6 : decode cX11_isHouse 6 = .ok (.iconst 0, 1) := by decide +kernel
theorem dX11_isHouse_7 : decode cX11_isHouse 7 = .ok (.iaload, 1) := by decide +kernel
theorem dX11_isHouse_8 : decode cX11_isHouse 8 = .ok (.iconst 1, 1) := by decide +kernel
theorem dX11_isHouse_9 : decode cX11_isHouse 9 = .ok (.isub, 1) := by decide +kernel
theorem dX11_isHouse_10 : decode cX11_isHouse 10 = .ok (.i2l, 1) := by decide +kernel
theorem dX11_isHouse_11 : decode cX11_isHouse 11 = .ok (.invokestatic 146, 3) := by decide +kernel
theorem dX11_isHouse_14 : decode cX11_isHouse 14 = .ok (.ireturn, 1) := by decide +kernel
def mX11_isHouse (n : Nat) (a : Nat) (b1 : Int) (μ : Mem) : Option (Int × Mem) :=
  (gA μ 12 a 1).bind fun x3 =>
  (ldI μ 0 x3 0).bind fun x7 =>
  (mX11_within n b1 0 (oI2l (x7 - 1)) μ).bind fun p11 =>
  retZ p11.1 p11.2
set_option maxRecDepth 100000 in
set_option maxHeartbeats 4000000 in
theorem cX11_isHouse_ok (n : Nat) (a : Nat) (b1 : Int) (μ : Mem) : Mc yX11_isHouse cX11_isHouse 3 (some .boolean) 1 25 eI [aA a, aJ b1] μ (mX11_isHouse n a b1 μ) := by
  refine mc_of (L0 := [some (aA a), some (aJ b1), none]) (k := 0) (by decide) rfl rfl (fun X Γ => ?_)
  unfold mX11_isHouse
  refine sn_lload_n dX11_isHouse_0 rfl ?_
  refine sn_lconst (v := 0) dX11_isHouse_1 (by decide) ?_
  refine sn_aload_n dX11_isHouse_2 rfl ?_
  refine sn_getA (ci := 11) (j := 1) dX11_isHouse_3 fl_X11_13 (by decide) (fun x3 => ?_)
  refine sn_iconst dX11_isHouse_6 ?_
  refine sn_iald dX11_isHouse_7 (fun x7 => ?_)
  refine sn_iconst dX11_isHouse_8 ?_
  refine sn_isub dX11_isHouse_9 ?_
  refine sn_i2l dX11_isHouse_10 ?_
  refine sn_callSI (vs := [aJ b1, aJ 0, aJ (oI2l (x7 - 1))]) (cX11_within_ok n b1 0 (oI2l (x7 - 1)) μ) dX11_isHouse_11 cw_X11_146 rfl (by decide) (by decide) (Nat.le_of_ble_eq_true rfl) (fun p11 => ?_)
  exact sn_zret dX11_isHouse_14
theorem dX11_isEnd_0 : decode cX11_isEnd 0 = .ok (.aload_n 0, 1) := by decide +kernel
theorem dX11_isEnd_1 : decode cX11_isEnd 1 = .ok (.getfield 13, 3) := by decide +kernel
theorem dX11_isEnd_4 : decode cX11_isEnd 4 = .ok (.bipush 76, 2) := by decide +kernel
theorem dX11_isEnd_6 : decode cX11_isEnd 6 = .ok (.iload_n 2, 1) := by decide +kernel
theorem dX11_isEnd_7 : decode cX11_isEnd 7 = .ok (.iadd, 1) := by decide +kernel
theorem dX11_isEnd_8 : decode cX11_isEnd 8 = .ok (.iaload, 1) := by decide +kernel
theorem dX11_isEnd_9 : decode cX11_isEnd 9 = .ok (.iload_n 1, 1) := by decide +kernel
theorem dX11_isEnd_10 : decode cX11_isEnd 10 = .ok (.if_icmp .eq 16, 3) := by decide +kernel
theorem dX11_isEnd_13 : decode cX11_isEnd 13 = .ok (.aload_n 0, 1) := by decide +kernel
theorem dX11_isEnd_14 : decode cX11_isEnd 14 = .ok (.getfield 13, 3) := by decide +kernel
theorem dX11_isEnd_17 : decode cX11_isEnd 17 = .ok (.bipush 92, 2) := by decide +kernel
theorem dX11_isEnd_19 : decode cX11_isEnd 19 = .ok (.iload_n 2, 1) := by decide +kernel
theorem dX11_isEnd_20 : decode cX11_isEnd 20 = .ok (.iadd, 1) := by decide +kernel
theorem dX11_isEnd_21 : decode cX11_isEnd 21 = .ok (.iaload, 1) := by decide +kernel
theorem dX11_isEnd_22 : decode cX11_isEnd 22 = .ok (.iload_n 1, 1) := by decide +kernel
theorem dX11_isEnd_23 : decode cX11_isEnd 23 = .ok (.if_icmp .ne 7, 3) := by decide +kernel
theorem dX11_isEnd_26 : decode cX11_isEnd 26 = .ok (.iconst 1, 1) := by decide +kernel
theorem dX11_isEnd_27 : decode cX11_isEnd 27 = .ok (.goto 4, 3) := by decide +kernel
theorem dX11_isEnd_30 : decode cX11_isEnd 30 = .ok (.iconst 0, 1) := by decide +kernel
theorem dX11_isEnd_31 : decode cX11_isEnd 31 = .ok (.ireturn, 1) := by decide +kernel
def mX11_isEnd (n : Nat) (a : Nat) (b1 : Int) (b2 : Int) (μ : Mem) : Option (Int × Mem) :=
  (gA μ 12 a 1).bind fun x1 =>
  (ldI μ 0 x1 (76 + b2)).bind fun x8 =>
  if eq32 x8 b1 then
    retZ 1 μ
  else
  (gA μ 12 a 1).bind fun x14 =>
  (ldI μ 0 x14 (92 + b2)).bind fun x21 =>
  if eq32 x21 b1 then
    retZ 1 μ
  else
  retZ 0 μ
set_option maxRecDepth 100000 in
set_option maxHeartbeats 4000000 in
theorem cX11_isEnd_ok (n : Nat) (a : Nat) (b1 : Int) (b2 : Int) (μ : Mem) : Mc yX11_isEnd cX11_isEnd 3 (some .boolean) 0 0 eI [aA a, aI b1, aI b2] μ (mX11_isEnd n a b1 b2 μ) := by
  refine mc_of (L0 := [some (aA a), some (aI b1), some (aI b2)]) (k := 0) (by decide) rfl rfl (fun X Γ => ?_)
  unfold mX11_isEnd
  refine sn_aload_n dX11_isEnd_0 rfl ?_
  refine sn_getA (ci := 11) (j := 1) dX11_isEnd_1 fl_X11_13 (by decide) (fun x1 => ?_)
  refine sn_bipush dX11_isEnd_4 (by decide) ?_
  refine sn_iload_n dX11_isEnd_6 rfl ?_
  refine sn_iadd dX11_isEnd_7 ?_
  refine sn_iald dX11_isEnd_8 (fun x8 => ?_)
  refine sn_iload_n dX11_isEnd_9 rfl ?_
  refine sn_icmp_eq (tgt := 26) dX11_isEnd_10 (by decide) ?_ ?_
  · refine sn_iconst dX11_isEnd_26 ?_
    refine sn_goto (tgt := 31) dX11_isEnd_27 (by decide) ?_
    exact sn_zret dX11_isEnd_31
  · refine sn_aload_n dX11_isEnd_13 rfl ?_
    refine sn_getA (ci := 11) (j := 1) dX11_isEnd_14 fl_X11_13 (by decide) (fun x14 => ?_)
    refine sn_bipush dX11_isEnd_17 (by decide) ?_
    refine sn_iload_n dX11_isEnd_19 rfl ?_
    refine sn_iadd dX11_isEnd_20 ?_
    refine sn_iald dX11_isEnd_21 (fun x21 => ?_)
    refine sn_iload_n dX11_isEnd_22 rfl ?_
    refine sn_icmp_ne (tgt := 30) dX11_isEnd_23 (by decide) ?_ ?_
    · refine sn_iconst dX11_isEnd_30 ?_
      exact sn_zret dX11_isEnd_31
    · refine sn_iconst dX11_isEnd_26 ?_
      refine sn_goto (tgt := 31) dX11_isEnd_27 (by decide) ?_
      exact sn_zret dX11_isEnd_31
theorem dX11_hangs_0 : decode cX11_hangs 0 = .ok (.aload_n 0, 1) := by decide +kernel
theorem dX11_hangs_1 : decode cX11_hangs 1 = .ok (.getfield 13, 3) := by decide +kernel
theorem dX11_hangs_4 : decode cX11_hangs 4 = .ok (.sipush 204, 3) := by decide +kernel
theorem dX11_hangs_7 : decode cX11_hangs 7 = .ok (.iload_n 1, 1) := by decide +kernel
theorem dX11_hangs_8 : decode cX11_hangs 8 = .ok (.iadd, 1) := by decide +kernel
theorem dX11_hangs_9 : decode cX11_hangs 9 = .ok (.iaload, 1) := by decide +kernel
theorem dX11_hangs_10 : decode cX11_hangs 10 = .ok (.ifCond .ne 7, 3) := by decide +kernel
theorem dX11_hangs_13 : decode cX11_hangs 13 = .ok (.iconst 1, 1) := by decide +kernel
theorem dX11_hangs_14 : decode cX11_hangs 14 = .ok (.goto 4, 3) := by decide +kernel
theorem dX11_hangs_17 : decode cX11_hangs 17 = .ok (.iconst 0, 1) := by decide +kernel
theorem dX11_hangs_18 : decode cX11_hangs 18 = .ok (.ireturn, 1) := by decide +kernel
def mX11_hangs (n : Nat) (a : Nat) (b1 : Int) (μ : Mem) : Option (Int × Mem) :=
  (gA μ 12 a 1).bind fun x1 =>
  (ldI μ 0 x1 (204 + b1)).bind fun x9 =>
  if eq32 x9 0 then
    retZ 1 μ
  else
  retZ 0 μ
set_option maxRecDepth 100000 in
set_option maxHeartbeats 4000000 in
theorem cX11_hangs_ok (n : Nat) (a : Nat) (b1 : Int) (μ : Mem) : Mc yX11_hangs cX11_hangs 2 (some .boolean) 0 0 eI [aA a, aI b1] μ (mX11_hangs n a b1 μ) := by
  refine mc_of (L0 := [some (aA a), some (aI b1)]) (k := 0) (by decide) rfl rfl (fun X Γ => ?_)
  unfold mX11_hangs
  refine sn_aload_n dX11_hangs_0 rfl ?_
  refine sn_getA (ci := 11) (j := 1) dX11_hangs_1 fl_X11_13 (by decide) (fun x1 => ?_)
  refine sn_sipush dX11_hangs_4 (by decide) ?_
  refine sn_iload_n dX11_hangs_7 rfl ?_
  refine sn_iadd dX11_hangs_8 ?_
  refine sn_iald dX11_hangs_9 (fun x9 => ?_)
  refine sn_if_ne (tgt := 17) dX11_hangs_10 (by decide) ?_ ?_
  · refine sn_iconst dX11_hangs_17 ?_
    exact sn_zret dX11_hangs_18
  · refine sn_iconst dX11_hangs_13 ?_
    refine sn_goto (tgt := 18) dX11_hangs_14 (by decide) ?_
    exact sn_zret dX11_hangs_18
theorem dX11_hanging_0 : decode cX11_hanging 0 = .ok (.iconst 0, 1) := by decide +kernel
theorem dX11_hanging_1 : decode cX11_hanging 1 = .ok (.istore_n 2, 1) := by decide +kernel
theorem dX11_hanging_2 : decode cX11_hanging 2 = .ok (.iconst 0, 1) := by decide +kernel
theorem dX11_hanging_3 : decode cX11_hanging 3 = .ok (.istore_n 3, 1) := by decide +kernel
theorem dX11_hanging_4 : decode cX11_hanging 4 = .ok (.iload_n 3, 1) := by decide +kernel
theorem dX11_hanging_5 : decode cX11_hanging 5 = .ok (.aload_n 0, 1) := by decide +kernel
theorem dX11_hanging_6 : decode cX11_hanging 6 = .ok (.getfield 13, 3) := by decide +kernel
theorem dX11_hanging_9 : decode cX11_hanging 9 = .ok (.iconst 1, 1) := by decide +kernel
theorem dX11_hanging_10 : decode cX11_hanging 10 = .ok (.iaload, 1) := by decide +kernel
theorem dX11_hanging_11 : decode cX11_hanging 11 = .ok (.if_icmp .ge 34, 3) := by decide +kernel
theorem dX11_hanging_14 : decode cX11_hanging 14 = .ok (.iload_n 2, 1) := by decide +kernel
theorem dX11_hanging_15 : decode cX11_hanging 15 = .ok (.aload_n 0, 1) := by decide +kernel
theorem dX11_hanging_16 : decode cX11_hanging 16 = .ok (.iload_n 1, 1) := by decide +kernel
theorem dX11_hanging_17 : decode cX11_hanging 17 = .ok (.iload_n 3, 1) := by decide +kernel
theorem dX11_hanging_18 : decode cX11_hanging 18 = .ok (.invokevirtual 166, 3) := by decide +kernel
theorem dX11_hanging_21 : decode cX11_hanging 21 = .ok (.ifCond .eq 15, 3) := by decide +kernel
theorem dX11_hanging_24 : decode cX11_hanging 24 = .ok (.aload_n 0, 1) := by decide +kernel
theorem dX11_hanging_25 : decode cX11_hanging 25 = .ok (.iload_n 3, 1) := by decide +kernel
theorem dX11_hanging_26 : decode cX11_hanging 26 = .ok (.invokevirtual 191, 3) := by decide +kernel
theorem dX11_hanging_29 : decode cX11_hanging 29 = .ok (.ifCond .eq 7, 3) := by decide +kernel
theorem dX11_hanging_32 : decode cX11_hanging 32 = .ok (.iconst 1, 1) := by decide +kernel
theorem dX11_hanging_33 : decode cX11_hanging 33 = .ok (.goto 4, 3) := by decide +kernel
theorem dX11_hanging_36 : decode cX11_hanging 36 = .ok (.iconst 0, 1) := by decide +kernel
theorem dX11_hanging_37 : decode cX11_hanging 37 = .ok (.iadd, 1) := by decide +kernel
theorem dX11_hanging_38 : decode cX11_hanging 38 = .ok (.istore_n 2, 1) := by decide +kernel
theorem dX11_hanging_39 : decode cX11_hanging 39 = .ok (.iinc 3 1, 3) := by decide +kernel
theorem dX11_hanging_42 : decode cX11_hanging 42 = .ok (.goto (-38), 3) := by decide +kernel
theorem dX11_hanging_45 : decode cX11_hanging 45 = .ok (.iload_n 2, 1) := by decide +kernel
theorem dX11_hanging_46 : decode cX11_hanging 46 = .ok (.ireturn, 1) := by decide +kernel
def mX11_hanging (n : Nat) (a : Nat) (b1 : Int) (μ : Mem) : Option (Int × Mem) :=
  lp (fun nx4 (v4 : Int × Int) (μ4 : Mem) =>
  (gA μ4 12 a 1).bind fun x6 =>
  (ldI μ4 0 x6 1).bind fun x10 =>
  if lt32 v4.2 x10 then
    (inv μ4 12 a (mX11_isEnd n a b1 v4.2 μ4)).bind fun p18 =>
    if eq32 p18.1 0 then
      nx4 ((v4.1 + 0), (v4.2 + 1)) p18.2
    else
    (inv p18.2 12 a (mX11_hangs n a v4.2 p18.2)).bind fun p26 =>
    if eq32 p26.1 0 then
      nx4 ((v4.1 + 0), (v4.2 + 1)) p26.2
    else
    nx4 ((v4.1 + 1), (v4.2 + 1)) p26.2
  else
  some (v4.1, μ4)) n (0, 0) μ
set_option maxRecDepth 100000 in
set_option maxHeartbeats 4000000 in
theorem cX11_hanging_ok (n : Nat) (a : Nat) (b1 : Int) (μ : Mem) : Mc yX11_hanging cX11_hanging 4 (some .int) 1 22 eI [aA a, aI b1] μ (mX11_hanging n a b1 μ) := by
  refine mc_of (L0 := [some (aA a), some (aI b1), none, none]) (k := 2) (by decide) rfl rfl (fun X Γ => ?_)
  unfold mX11_hanging
  refine sn_iconst dX11_hanging_0 ?_
  refine sn_istore_n (L' := [some (aA a), some (aI b1), some (aI 0), none]) dX11_hanging_1 (by decide) rfl ?_
  refine sn_iconst dX11_hanging_2 ?_
  refine sn_istore_n (L' := [some (aA a), some (aI b1), some (aI 0), some (aI 0)]) dX11_hanging_3 (by decide) rfl ?_
  refine sn_lp (La := fun v4 : Int × Int => [some (aA a), some (aI b1), some (aI v4.1), some (aI v4.2)]) ?_ n (0, 0) μ
  intro nx4 hnx4 v4 μ4
  refine sn_iload_n dX11_hanging_4 rfl ?_
  refine sn_aload_n dX11_hanging_5 rfl ?_
  refine sn_getA (ci := 11) (j := 1) dX11_hanging_6 fl_X11_13 (by decide) (fun x6 => ?_)
  refine sn_iconst dX11_hanging_9 ?_
  refine sn_iald dX11_hanging_10 (fun x10 => ?_)
  refine sn_icmp_ge (tgt := 45) dX11_hanging_11 (by decide) ?_ ?_
  · refine sn_iload_n dX11_hanging_45 rfl ?_
    exact sn_iret dX11_hanging_46
  · refine sn_iload_n dX11_hanging_14 rfl ?_
    refine sn_aload_n dX11_hanging_15 rfl ?_
    refine sn_iload_n dX11_hanging_16 rfl ?_
    refine sn_iload_n dX11_hanging_17 rfl ?_
    refine sn_callVI (vs := [aI b1, aI v4.2]) (ci := 11) (cX11_isEnd_ok n a b1 v4.2 μ4) dX11_hanging_18 cw_X11_166 rfl rfl rfl (by decide) (by decide) (Nat.le_of_ble_eq_true rfl) (fun p18 => ?_)
    refine sn_if_eq (tgt := 36) dX11_hanging_21 (by decide) ?_ ?_
    · refine sn_iconst dX11_hanging_36 ?_
      refine sn_iadd dX11_hanging_37 ?_
      refine sn_istore_n (L' := [some (aA a), some (aI b1), some (aI (v4.1 + 0)), some (aI v4.2)]) dX11_hanging_38 (by decide) rfl ?_
      refine sn_iinc (L' := [some (aA a), some (aI b1), some (aI (v4.1 + 0)), some (aI (v4.2 + 1))]) dX11_hanging_39 rfl (by decide) rfl ?_
      refine sn_goto (tgt := 4) dX11_hanging_42 (by decide) ?_
      exact hnx4 ((v4.1 + 0), (v4.2 + 1)) p18.2
    · refine sn_aload_n dX11_hanging_24 rfl ?_
      refine sn_iload_n dX11_hanging_25 rfl ?_
      refine sn_callVI (vs := [aI v4.2]) (ci := 11) (cX11_hangs_ok n a v4.2 p18.2) dX11_hanging_26 cw_X11_191 rfl rfl rfl (by decide) (by decide) (Nat.le_of_ble_eq_true rfl) (fun p26 => ?_)
      refine sn_if_eq (tgt := 36) dX11_hanging_29 (by decide) ?_ ?_
      · refine sn_iconst dX11_hanging_36 ?_
        refine sn_iadd dX11_hanging_37 ?_
        refine sn_istore_n (L' := [some (aA a), some (aI b1), some (aI (v4.1 + 0)), some (aI v4.2)]) dX11_hanging_38 (by decide) rfl ?_
        refine sn_iinc (L' := [some (aA a), some (aI b1), some (aI (v4.1 + 0)), some (aI (v4.2 + 1))]) dX11_hanging_39 rfl (by decide) rfl ?_
        refine sn_goto (tgt := 4) dX11_hanging_42 (by decide) ?_
        exact hnx4 ((v4.1 + 0), (v4.2 + 1)) p26.2
      · refine sn_iconst dX11_hanging_32 ?_
        refine sn_goto (tgt := 37) dX11_hanging_33 (by decide) ?_
        refine sn_iadd dX11_hanging_37 ?_
        refine sn_istore_n (L' := [some (aA a), some (aI b1), some (aI (v4.1 + 1)), some (aI v4.2)]) dX11_hanging_38 (by decide) rfl ?_
        refine sn_iinc (L' := [some (aA a), some (aI b1), some (aI (v4.1 + 1)), some (aI (v4.2 + 1))]) dX11_hanging_39 rfl (by decide) rfl ?_
        refine sn_goto (tgt := 4) dX11_hanging_42 (by decide) ?_
        exact hnx4 ((v4.1 + 1), (v4.2 + 1)) p26.2
theorem dX11_nobody_0 : decode cX11_nobody 0 = .ok (.iconst 0, 1) := by decide +kernel
theorem dX11_nobody_1 : decode cX11_nobody 1 = .ok (.istore_n 1, 1) := by decide +kernel
theorem dX11_nobody_2 : decode cX11_nobody 2 = .ok (.iload_n 1, 1) := by decide +kernel
theorem dX11_nobody_3 : decode cX11_nobody 3 = .ok (.bipush 10, 2) := by decide +kernel
theorem dX11_nobody_5 : decode cX11_nobody 5 = .ok (.if_icmp .ge 16, 3) := by decide +kernel
theorem dX11_nobody_8 : decode cX11_nobody 8 = .ok (.aload_n 0, 1) := by decide +kernel
theorem dX11_nobody_9 : decode cX11_nobody 9 = .ok (.getfield 30, 3) := by decide +kernel
theorem dX11_nobody_12 : decode cX11_nobody 12 = .ok (.iload_n 1, 1) := by decide +kernel
theorem dX11_nobody_13 : decode cX11_nobody 13 = .ok (.iconst (-1), 1) := by decide +kernel
theorem dX11_nobody_14 : decode cX11_nobody 14 = .ok (.iastore, 1) := by decide +kernel
theorem dX11_nobody_15 : decode cX11_nobody 15 = .ok (.iinc 1 1, 3) := by decide +kernel
theorem dX11_nobody_18 : decode cX11_nobody 18 = .ok (.goto (-16), 3) := by decide +kernel
theorem dX11_nobody_21 : decode cX11_nobody 21 = .ok (.return_, 1) := by decide +kernel
def mX11_nobody (n : Nat) (a : Nat) (μ : Mem) : Option (Unit × Mem) :=
  lp (fun nx2 (v2 : Int) (μ2 : Mem) =>
  if lt32 v2 10 then
    (gA μ2 12 a 15).bind fun x9 =>
    (stI μ2 0 x9 v2 (-1)).bind fun μ14 =>
    nx2 (v2 + 1) μ14
  else
  some ((), μ2)) n 0 μ
set_option maxRecDepth 100000 in
set_option maxHeartbeats 4000000 in
theorem cX11_nobody_ok (n : Nat) (a : Nat) (μ : Mem) : Mc yX11_nobody cX11_nobody 2 none 0 0 eV [aA a] μ (mX11_nobody n a μ) := by
  refine mc_of (L0 := [some (aA a), none]) (k := 1) (by decide) rfl rfl (fun X Γ => ?_)
  unfold mX11_nobody
  refine sn_iconst dX11_nobody_0 ?_
  refine sn_istore_n (L' := [some (aA a), some (aI 0)]) dX11_nobody_1 (by decide) rfl ?_
  refine sn_lp (La := fun v2 : Int => [some (aA a), some (aI v2)]) ?_ n 0 μ
  intro nx2 hnx2 v2 μ2
  refine sn_iload_n dX11_nobody_2 rfl ?_
  refine sn_bipush dX11_nobody_3 (by decide) ?_
  refine sn_icmp_ge (tgt := 21) dX11_nobody_5 (by decide) ?_ ?_
  · exact sn_vret dX11_nobody_21
  · refine sn_aload_n dX11_nobody_8 rfl ?_
    refine sn_getA (ci := 11) (j := 15) dX11_nobody_9 fl_X11_30 (by decide) (fun x9 => ?_)
    refine sn_iload_n dX11_nobody_12 rfl ?_
    refine sn_iconst dX11_nobody_13 ?_
    refine sn_iast dX11_nobody_14 (fun μ14 => ?_)
    refine sn_iinc (L' := [some (aA a), some (aI (v2 + 1))]) dX11_nobody_15 rfl (by decide) rfl ?_
    refine sn_goto (tgt := 2) dX11_nobody_18 (by decide) ?_
    exact hnx2 (v2 + 1) μ14
theorem dX11_weight_0 : decode cX11_weight 0 = .ok (.iconst 2, 1) := by decide +kernel
theorem dX11_weight_1 : decode cX11_weight 1 = .ok (.aload_n 0, 1) := by decide +kernel
theorem dX11_weight_2 : decode cX11_weight 2 = .ok (.getfield 13, 3) := by decide +kernel
theorem dX11_weight_5 : decode cX11_weight 5 = .ok (.sipush 140, 3) := by decide +kernel
theorem dX11_weight_8 : decode cX11_weight 8 = .ok (.bipush 16, 2) := by decide +kernel
theorem dX11_weight_10 : decode cX11_weight 10 = .ok (.iload_n 2, 1) := by decide +kernel
theorem dX11_weight_11 : decode cX11_weight 11 = .ok (.imul, 1) := by decide +kernel
theorem dX11_weight_12 : decode cX11_weight 12 = .ok (.iadd, 1) := by decide +kernel
theorem dX11_weight_13 : decode cX11_weight 13 = .ok (.iload_n 1, 1) := by decide +kernel
theorem dX11_weight_14 : decode cX11_weight 14 = .ok (.iadd, 1) := by decide +kernel
theorem dX11_weight_15 : decode cX11_weight 15 = .ok (.iaload, 1) := by decide +kernel
theorem dX11_weight_16 : decode cX11_weight 16 = .ok (.iadd, 1) := by decide +kernel
theorem dX11_weight_17 : decode cX11_weight 17 = .ok (.aload_n 0, 1) := by decide +kernel
theorem dX11_weight_18 : decode cX11_weight 18 = .ok (.getfield 13, 3) := by decide +kernel
theorem dX11_weight_21 : decode cX11_weight 21 = .ok (.sipush 172, 3) := by decide +kernel
theorem dX11_weight_24 : decode cX11_weight 24 = .ok (.bipush 16, 2) := by decide +kernel
theorem dX11_weight_26 : decode cX11_weight 26 = .ok (.iload_n 2, 1) := by decide +kernel
theorem dX11_weight_27 : decode cX11_weight 27 = .ok (.imul, 1) := by decide +kernel
theorem dX11_weight_28 : decode cX11_weight 28 = .ok (.iadd, 1) := by decide +kernel
theorem dX11_weight_29 : decode cX11_weight 29 = .ok (.iload_n 1, 1) := by decide +kernel
theorem dX11_weight_30 : decode cX11_weight 30 = .ok (.iadd, 1) := by decide +kernel
theorem dX11_weight_31 : decode cX11_weight 31 = .ok (.iaload, 1) := by decide +kernel
theorem dX11_weight_32 : decode cX11_weight 32 = .ok (.iconst 1, 1) := by decide +kernel
theorem dX11_weight_33 : decode cX11_weight 33 = .ok (.if_icmp .ne 12, 3) := by decide +kernel
theorem dX11_weight_36 : decode cX11_weight 36 = .ok (.aload_n 0, 1) := by decide +kernel
theorem dX11_weight_37 : decode cX11_weight 37 = .ok (.getfield 13, 3) := by decide +kernel
theorem dX11_weight_40 : decode cX11_weight 40 = .ok (.iconst 3, 1) := by decide +kernel
theorem dX11_weight_41 : decode cX11_weight 41 = .ok (.iaload, 1) := by decide +kernel
theorem dX11_weight_42 : decode cX11_weight 42 = .ok (.goto 4, 3) := by decide +kernel
theorem dX11_weight_45 : decode cX11_weight 45 = .ok (.iconst 0, 1) := by decide +kernel
theorem dX11_weight_46 : decode cX11_weight 46 = .ok (.iadd, 1) := by decide +kernel
theorem dX11_weight_47 : decode cX11_weight 47 = .ok (.ireturn, 1) := by decide +kernel
def mX11_weight (n : Nat) (a : Nat) (b1 : Int) (b2 : Int) (μ : Mem) : Option (Int × Mem) :=
  (gA μ 12 a 1).bind fun x2 =>
  (ldI μ 0 x2 ((140 + (16 * b2)) + b1)).bind fun x15 =>
  (gA μ 12 a 1).bind fun x18 =>
  (ldI μ 0 x18 ((172 + (16 * b2)) + b1)).bind fun x31 =>
  if eq32 x31 1 then
    (gA μ 12 a 1).bind fun x37 =>
    (ldI μ 0 x37 3).bind fun x41 =>
    some (((2 + x15) + x41), μ)
  else
  some (((2 + x15) + 0), μ)
set_option maxRecDepth 100000 in
set_option maxHeartbeats 4000000 in
theorem cX11_weight_ok (n : Nat) (a : Nat) (b1 : Int) (b2 : Int) (μ : Mem) : Mc yX11_weight cX11_weight 3 (some .int) 0 0 eI [aA a, aI b1, aI b2] μ (mX11_weight n a b1 b2 μ) := by
  refine mc_of (L0 := [some (aA a), some (aI b1), some (aI b2)]) (k := 0) (by decide) rfl rfl (fun X Γ => ?_)
  unfold mX11_weight
  refine sn_iconst dX11_weight_0 ?_
  refine sn_aload_n dX11_weight_1 rfl ?_
  refine sn_getA (ci := 11) (j := 1) dX11_weight_2 fl_X11_13 (by decide) (fun x2 => ?_)
  refine sn_sipush dX11_weight_5 (by decide) ?_
  refine sn_bipush dX11_weight_8 (by decide) ?_
  refine sn_iload_n dX11_weight_10 rfl ?_
  refine sn_imul dX11_weight_11 ?_
  refine sn_iadd dX11_weight_12 ?_
  refine sn_iload_n dX11_weight_13 rfl ?_
  refine sn_iadd dX11_weight_14 ?_
  refine sn_iald dX11_weight_15 (fun x15 => ?_)
  refine sn_iadd dX11_weight_16 ?_
  refine sn_aload_n dX11_weight_17 rfl ?_
  refine sn_getA (ci := 11) (j := 1) dX11_weight_18 fl_X11_13 (by decide) (fun x18 => ?_)
  refine sn_sipush dX11_weight_21 (by decide) ?_
  refine sn_bipush dX11_weight_24 (by decide) ?_
  refine sn_iload_n dX11_weight_26 rfl ?_
  refine sn_imul dX11_weight_27 ?_
  refine sn_iadd dX11_weight_28 ?_
  refine sn_iload_n dX11_weight_29 rfl ?_
  refine sn_iadd dX11_weight_30 ?_
  refine sn_iald dX11_weight_31 (fun x31 => ?_)
  refine sn_iconst dX11_weight_32 ?_
  refine sn_icmp_ne (tgt := 45) dX11_weight_33 (by decide) ?_ ?_
  · refine sn_iconst dX11_weight_45 ?_
    refine sn_iadd dX11_weight_46 ?_
    exact sn_iret dX11_weight_47
  · refine sn_aload_n dX11_weight_36 rfl ?_
    refine sn_getA (ci := 11) (j := 1) dX11_weight_37 fl_X11_13 (by decide) (fun x37 => ?_)
    refine sn_iconst dX11_weight_40 ?_
    refine sn_iald dX11_weight_41 (fun x41 => ?_)
    refine sn_goto (tgt := 46) dX11_weight_42 (by decide) ?_
    refine sn_iadd dX11_weight_46 ?_
    exact sn_iret dX11_weight_47
theorem dX11_strengthOn_0 : decode cX11_strengthOn 0 = .ok (.aload_n 0, 1) := by decide +kernel
theorem dX11_strengthOn_1 : decode cX11_strengthOn 1 = .ok (.getfield 13, 3) := by decide +kernel
theorem dX11_strengthOn_4 : decode cX11_strengthOn 4 = .ok (.bipush 76, 2) := by decide +kernel
theorem dX11_strengthOn_6 : decode cX11_strengthOn 6 = .ok (.bipush 16, 2) := by decide +kernel
theorem dX11_strengthOn_8 : decode cX11_strengthOn 8 = .ok (.iload_n 2, 1) := by decide +kernel
theorem dX11_strengthOn_9 : decode cX11_strengthOn 9 = .ok (.imul, 1) := by decide +kernel
theorem dX11_strengthOn_10 : decode cX11_strengthOn 10 = .ok (.iadd, 1) := by decide +kernel
theorem dX11_strengthOn_11 : decode cX11_strengthOn 11 = .ok (.iload_n 1, 1) := by decide +kernel
theorem dX11_strengthOn_12 : decode cX11_strengthOn 12 = .ok (.iadd, 1) := by decide +kernel
theorem dX11_strengthOn_13 : decode cX11_strengthOn 13 = .ok (.iaload, 1) := by decide +kernel
theorem dX11_strengthOn_14 : decode cX11_strengthOn 14 = .ok (.istore_n 3, 1) := by decide +kernel
theorem dX11_strengthOn_15 : decode cX11_strengthOn 15 = .ok (.aload_n 0, 1) := by decide +kernel
theorem dX11_strengthOn_16 : decode cX11_strengthOn 16 = .ok (.getfield 30, 3) := by decide +kernel
theorem dX11_strengthOn_19 : decode cX11_strengthOn 19 = .ok (.iload_n 3, 1) := by decide +kernel
theorem dX11_strengthOn_20 : decode cX11_strengthOn 20 = .ok (.iaload, 1) := by decide +kernel
theorem dX11_strengthOn_21 : decode cX11_strengthOn 21 = .ok (.iload_n 1, 1) := by decide +kernel
theorem dX11_strengthOn_22 : decode cX11_strengthOn 22 = .ok (.if_icmp .ne 15, 3) := by decide +kernel
theorem dX11_strengthOn_25 : decode cX11_strengthOn 25 = .ok (.aload_n 0, 1) := by decide +kernel
theorem dX11_strengthOn_26 : decode cX11_strengthOn 26 = .ok (.getfield 13, 3) := by decide +kernel
theorem dX11_strengthOn_29 : decode cX11_strengthOn 29 = .ok (.bipush 6, 2) := by decide +kernel
theorem dX11_strengthOn_31 : decode cX11_strengthOn 31 = .ok (.iload_n 3, 1) := by decide +kernel
theorem dX11_strengthOn_32 : decode cX11_strengthOn 32 = .ok (.iadd, 1) := by decide +kernel
theorem dX11_strengthOn_33 : decode cX11_strengthOn 33 = .ok (.iaload, 1) := by decide +kernel
theorem dX11_strengthOn_34 : decode cX11_strengthOn 34 = .ok (.goto 4, 3) := by decide +kernel
theorem dX11_strengthOn_37 : decode cX11_strengthOn 37 = .ok (.iconst 0, 1) := by decide +kernel
theorem dX11_strengthOn_38 : decode cX11_strengthOn 38 = .ok (.ireturn, 1) := by decide +kernel
def mX11_strengthOn (n : Nat) (a : Nat) (b1 : Int) (b2 : Int) (μ : Mem) : Option (Int × Mem) :=
  (gA μ 12 a 1).bind fun x1 =>
  (ldI μ 0 x1 ((76 + (16 * b2)) + b1)).bind fun x13 =>
  (gA μ 12 a 15).bind fun x16 =>
  (ldI μ 0 x16 x13).bind fun x20 =>
  if eq32 x20 b1 then
    (gA μ 12 a 1).bind fun x26 =>
    (ldI μ 0 x26 (6 + x13)).bind fun x33 =>
    some (x33, μ)
  else
  some (0, μ)
set_option maxRecDepth 100000 in
set_option maxHeartbeats 4000000 in
theorem cX11_strengthOn_ok (n : Nat) (a : Nat) (b1 : Int) (b2 : Int) (μ : Mem) : Mc yX11_strengthOn cX11_strengthOn 4 (some .int) 0 0 eI [aA a, aI b1, aI b2] μ (mX11_strengthOn n a b1 b2 μ) := by
  refine mc_of (L0 := [some (aA a), some (aI b1), some (aI b2), none]) (k := 1) (by decide) rfl rfl (fun X Γ => ?_)
  unfold mX11_strengthOn
  refine sn_aload_n dX11_strengthOn_0 rfl ?_
  refine sn_getA (ci := 11) (j := 1) dX11_strengthOn_1 fl_X11_13 (by decide) (fun x1 => ?_)
  refine sn_bipush dX11_strengthOn_4 (by decide) ?_
  refine sn_bipush dX11_strengthOn_6 (by decide) ?_
  refine sn_iload_n dX11_strengthOn_8 rfl ?_
  refine sn_imul dX11_strengthOn_9 ?_
  refine sn_iadd dX11_strengthOn_10 ?_
  refine sn_iload_n dX11_strengthOn_11 rfl ?_
  refine sn_iadd dX11_strengthOn_12 ?_
  refine sn_iald dX11_strengthOn_13 (fun x13 => ?_)
  refine sn_istore_n (L' := [some (aA a), some (aI b1), some (aI b2), some (aI x13)]) dX11_strengthOn_14 (by decide) rfl ?_
  refine sn_aload_n dX11_strengthOn_15 rfl ?_
  refine sn_getA (ci := 11) (j := 15) dX11_strengthOn_16 fl_X11_30 (by decide) (fun x16 => ?_)
  refine sn_iload_n dX11_strengthOn_19 rfl ?_
  refine sn_iald dX11_strengthOn_20 (fun x20 => ?_)
  refine sn_iload_n dX11_strengthOn_21 rfl ?_
  refine sn_icmp_ne (tgt := 37) dX11_strengthOn_22 (by decide) ?_ ?_
  · refine sn_iconst dX11_strengthOn_37 ?_
    exact sn_iret dX11_strengthOn_38
  · refine sn_aload_n dX11_strengthOn_25 rfl ?_
    refine sn_getA (ci := 11) (j := 1) dX11_strengthOn_26 fl_X11_13 (by decide) (fun x26 => ?_)
    refine sn_bipush dX11_strengthOn_29 (by decide) ?_
    refine sn_iload_n dX11_strengthOn_31 rfl ?_
    refine sn_iadd dX11_strengthOn_32 ?_
    refine sn_iald dX11_strengthOn_33 (fun x33 => ?_)
    refine sn_goto (tgt := 38) dX11_strengthOn_34 (by decide) ?_
    exact sn_iret dX11_strengthOn_38
theorem dX11_depthThen_0 : decode cX11_depthThen 0 = .ok (.aload_n 0, 1) := by decide +kernel
theorem dX11_depthThen_1 : decode cX11_depthThen 1 = .ok (.iload_n 1, 1) := by decide +kernel
theorem dX11_depthThen_2 : decode cX11_depthThen 2 = .ok (.iconst 0, 1) := by decide +kernel
theorem dX11_depthThen_3 : decode cX11_depthThen 3 = .ok (.invokevirtual 185, 3) := by decide +kernel
theorem dX11_depthThen_6 : decode cX11_depthThen 6 = .ok (.aload_n 0, 1) := by decide +kernel
theorem dX11_depthThen_7 : decode cX11_depthThen 7 = .ok (.iload_n 1, 1) := by decide +kernel
theorem dX11_depthThen_8 : decode cX11_depthThen 8 = .ok (.iconst 1, 1) := by decide +kernel
theorem dX11_depthThen_9 : decode cX11_depthThen 9 = .ok (.invokevirtual 188, 3) := by decide +kernel
theorem dX11_depthThen_12 : decode cX11_depthThen 12 = .ok (.iadd, 1) := by decide +kernel
theorem dX11_depthThen_13 : decode cX11_depthThen 13 = .ok (.istore_n 2, 1) := by decide +kernel
theorem dX11_depthThen_14 : decode cX11_depthThen 14 = .ok (.aload_n 0, 1) := by decide +kernel
theorem dX11_depthThen_15 : decode cX11_depthThen 15 = .ok (.iload_n 1, 1) := by decide +kernel
theorem dX11_depthThen_16 : decode cX11_depthThen 16 = .ok (.iconst 1, 1) := by decide +kernel
theorem dX11_depthThen_17 : decode cX11_depthThen 17 = .ok (.invokevirtual 185, 3) := by decide +kernel
theorem dX11_depthThen_20 : decode cX11_depthThen 20 = .ok (.aload_n 0, 1) := by decide +kernel
theorem dX11_depthThen_21 : decode cX11_depthThen 21 = .ok (.iload_n 1, 1) := by decide +kernel
theorem dX11_depthThen_22 : decode cX11_depthThen 22 = .ok (.iconst 0, 1) := by decide +kernel
theorem dX11_depthThen_23 : decode cX11_depthThen 23 = .ok (.invokevirtual 188, 3) := by decide +kernel
theorem dX11_depthThen_26 : decode cX11_depthThen 26 = .ok (.iadd, 1) := by decide +kernel
theorem dX11_depthThen_27 : decode cX11_depthThen 27 = .ok (.istore_n 3, 1) := by decide +kernel
theorem dX11_depthThen_28 : decode cX11_depthThen 28 = .ok (.iload_n 2, 1) := by decide +kernel
theorem dX11_depthThen_29 : decode cX11_depthThen 29 = .ok (.iload_n 3, 1) := by decide +kernel
theorem dX11_depthThen_30 : decode cX11_depthThen 30 = .ok (.isub, 1) := by decide +kernel
theorem dX11_depthThen_31 : decode cX11_depthThen 31 = .ok (.istore 4, 2) := by decide +kernel
theorem dX11_depthThen_33 : decode cX11_depthThen 33 = .ok (.aload_n 0, 1) := by decide +kernel
theorem dX11_depthThen_34 : decode cX11_depthThen 34 = .ok (.iload_n 1, 1) := by decide +kernel
theorem dX11_depthThen_35 : decode cX11_depthThen 35 = .ok (.invokevirtual 191, 3) := by decide +kernel
theorem dX11_depthThen_38 : decode cX11_depthThen 38 = .ok (.ifCond .eq 8, 3) := by decide +kernel
theorem dX11_depthThen_41 : decode cX11_depthThen 41 = .ok (.iload 4, 2) := by decide +kernel
theorem dX11_depthThen_43 : decode cX11_depthThen 43 = .ok (.ifCond .ne 13, 3) := by decide +kernel
theorem dX11_depthThen_46 : decode cX11_depthThen 46 = .ok (.aload_n 0, 1) := by decide +kernel
theorem dX11_depthThen_47 : decode cX11_depthThen 47 = .ok (.getfield 13, 3) := by decide +kernel
theorem dX11_depthThen_50 : decode cX11_depthThen 50 = .ok (.bipush 124, 2) := by decide +kernel
theorem dX11_depthThen_52 : decode cX11_depthThen 52 = .ok (.iload_n 1, 1) := by decide +kernel
theorem dX11_depthThen_53 : decode cX11_depthThen 53 = .ok (.iadd, 1) := by decide +kernel
theorem dX11_depthThen_54 : decode cX11_depthThen 54 = .ok (.iaload, 1) := by decide +kernel
theorem dX11_depthThen_55 : decode cX11_depthThen 55 = .ok (.ireturn, 1) := by decide +kernel
theorem dX11_depthThen_56 : decode cX11_depthThen 56 = .ok (.iload 4, 2) := by decide +kernel
theorem dX11_depthThen_58 : decode cX11_depthThen 58 = .ok (.aload_n 0, 1) := by decide +kernel
theorem dX11_depthThen_59 : decode cX11_depthThen 59 = .ok (.getfield 13, 3) := by decide +kernel
theorem dX11_depthThen_62 : decode cX11_depthThen 62 = .ok (.iconst 4, 1) := by decide +kernel
theorem dX11_depthThen_63 : decode cX11_depthThen 63 = .ok (.iaload, 1) := by decide +kernel
theorem dX11_depthThen_64 : decode cX11_depthThen 64 = .ok (.if_icmp .lt 13, 3) := by decide +kernel
theorem dX11_depthThen_67 : decode cX11_depthThen 67 = .ok (.aload_n 0, 1) := by decide +kernel
theorem dX11_depthThen_68 : decode cX11_depthThen 68 = .ok (.getfield 13, 3) := by decide +kernel
theorem dX11_depthThen_71 : decode cX11_depthThen 71 = .ok (.bipush 108, 2) := by decide +kernel
theorem dX11_depthThen_73 : decode cX11_depthThen 73 = .ok (.iload_n 1, 1) := by decide +kernel
theorem dX11_depthThen_74 : decode cX11_depthThen 74 = .ok (.iadd, 1) := by decide +kernel
theorem dX11_depthThen_75 : decode cX11_depthThen 75 = .ok (.iaload, 1) := by decide +kernel
theorem dX11_depthThen_76 : decode cX11_depthThen 76 = .ok (.ireturn, 1) := by decide +kernel
theorem dX11_depthThen_77 : decode cX11_depthThen 77 = .ok (.iload 4, 2) := by decide +kernel
theorem dX11_depthThen_79 : decode cX11_depthThen 79 = .ok (.ineg, 1) := by decide +kernel
theorem dX11_depthThen_80 : decode cX11_depthThen 80 = .ok (.aload_n 0, 1) := by decide +kernel
theorem dX11_depthThen_81 : decode cX11_depthThen 81 = .ok (.getfield 13, 3) := by decide +kernel
theorem dX11_depthThen_84 : decode cX11_depthThen 84 = .ok (.iconst 4, 1) := by decide +kernel
theorem dX11_depthThen_85 : decode cX11_depthThen 85 = .ok (.iaload, 1) := by decide +kernel
theorem dX11_depthThen_86 : decode cX11_depthThen 86 = .ok (.if_icmp .lt 5, 3) := by decide +kernel
theorem dX11_depthThen_89 : decode cX11_depthThen 89 = .ok (.iconst 0, 1) := by decide +kernel
theorem dX11_depthThen_90 : decode cX11_depthThen 90 = .ok (.ireturn, 1) := by decide +kernel
theorem dX11_depthThen_91 : decode cX11_depthThen 91 = .ok (.aload_n 0, 1) := by decide +kernel
theorem dX11_depthThen_92 : decode cX11_depthThen 92 = .ok (.getfield 13, 3) := by decide +kernel
theorem dX11_depthThen_95 : decode cX11_depthThen 95 = .ok (.bipush 124, 2) := by decide +kernel
theorem dX11_depthThen_97 : decode cX11_depthThen 97 = .ok (.iload_n 1, 1) := by decide +kernel
theorem dX11_depthThen_98 : decode cX11_depthThen 98 = .ok (.iadd, 1) := by decide +kernel
theorem dX11_depthThen_99 : decode cX11_depthThen 99 = .ok (.iaload, 1) := by decide +kernel
theorem dX11_depthThen_100 : decode cX11_depthThen 100 = .ok (.iload 4, 2) := by decide +kernel
theorem dX11_depthThen_102 : decode cX11_depthThen 102 = .ok (.ifCond .le 7, 3) := by decide +kernel
theorem dX11_depthThen_105 : decode cX11_depthThen 105 = .ok (.iconst 1, 1) := by decide +kernel
theorem dX11_depthThen_106 : decode cX11_depthThen 106 = .ok (.goto 4, 3) := by decide +kernel
theorem dX11_depthThen_109 : decode cX11_depthThen 109 = .ok (.iconst (-1), 1) := by decide +kernel
theorem dX11_depthThen_110 : decode cX11_depthThen 110 = .ok (.iadd, 1) := by decide +kernel
theorem dX11_depthThen_111 : decode cX11_depthThen 111 = .ok (.istore 5, 2) := by decide +kernel
theorem dX11_depthThen_113 : decode cX11_depthThen 113 = .ok (.iload 5, 2) := by decide +kernel
theorem dX11_depthThen_115 : decode cX11_depthThen 115 = .ok (.ifCond .ge 7, 3) := by decide +kernel
theorem dX11_depthThen_118 : decode cX11_depthThen 118 = .ok (.iconst 0, 1) := by decide +kernel
theorem dX11_depthThen_119 : decode cX11_depthThen 119 = .ok (.goto 31, 3) := by decide +kernel
theorem dX11_depthThen_122 : decode cX11_depthThen 122 = .ok (.iload 5, 2) := by decide +kernel
theorem dX11_depthThen_124 : decode cX11_depthThen 124 = .ok (.aload_n 0, 1) := by decide +kernel
theorem dX11_depthThen_125 : decode cX11_depthThen 125 = .ok (.getfield 13, 3) := by decide +kernel
theorem dX11_depthThen_128 : decode cX11_depthThen 128 = .ok (.bipush 108, 2) := by decide +kernel
theorem dX11_depthThen_130 : decode cX11_depthThen 130 = .ok (.iload_n 1, 1) := by decide +kernel
theorem dX11_depthThen_131 : decode cX11_depthThen 131 = .ok (.iadd, 1) := by decide +kernel
theorem dX11_depthThen_132 : decode cX11_depthThen 132 = .ok (.iaload, 1) := by decide +kernel
theorem dX11_depthThen_133 : decode cX11_depthThen 133 = .ok (.if_icmp .le 15, 3) := by decide +kernel
theorem dX11_depthThen_136 : decode cX11_depthThen 136 = .ok (.aload_n 0, 1) := by decide +kernel
theorem dX11_depthThen_137 : decode cX11_depthThen 137 = .ok (.getfield 13, 3) := by decide +kernel
theorem dX11_depthThen_140 : decode cX11_depthThen 140 = .ok (.bipush 108, 2) := by decide +kernel
theorem dX11_depthThen_142 : decode cX11_depthThen 142 = .ok (.iload_n 1, 1) := by decide +kernel
theorem dX11_depthThen_143 : decode cX11_depthThen 143 = .ok (.iadd, 1) := by decide +kernel
theorem dX11_depthThen_144 : decode cX11_depthThen 144 = .ok (.iaload, 1) := by decide +kernel
theorem dX11_depthThen_145 : decode cX11_depthThen 145 = .ok (.goto 5, 3) := by decide +kernel
theorem dX11_depthThen_148 : decode cX11_depthThen 148 = .ok (.iload 5, 2) := by decide +kernel
theorem dX11_depthThen_150 : decode cX11_depthThen 150 = .ok (.ireturn, 1) := by decide +kernel
def mX11_depthThen (n : Nat) (a : Nat) (b1 : Int) (μ : Mem) : Option (Int × Mem) :=
  (inv μ 12 a (mX11_weight n a b1 0 μ)).bind fun p3 =>
  (inv p3.2 12 a (mX11_strengthOn n a b1 1 p3.2)).bind fun p9 =>
  (inv p9.2 12 a (mX11_weight n a b1 1 p9.2)).bind fun p17 =>
  (inv p17.2 12 a (mX11_strengthOn n a b1 0 p17.2)).bind fun p23 =>
  (inv p23.2 12 a (mX11_hangs n a b1 p23.2)).bind fun p35 =>
  jn (fun (v46 : Unit) (μ46 : Mem) =>
  (gA μ46 12 a 1).bind fun x47 =>
  (ldI μ46 0 x47 (124 + b1)).bind fun x54 =>
  some (x54, μ46)) (fun j46 =>
  if eq32 p35.1 0 then
    j46 () p35.2
  else
  if eq32 ((p3.1 + p9.1) - (p17.1 + p23.1)) 0 then
    j46 () p35.2
  else
  (gA p35.2 12 a 1).bind fun x59 =>
  (ldI p35.2 0 x59 4).bind fun x63 =>
  if lt32 ((p3.1 + p9.1) - (p17.1 + p23.1)) x63 then
    (gA p35.2 12 a 1).bind fun x81 =>
    (ldI p35.2 0 x81 4).bind fun x85 =>
    if lt32 (-((p3.1 + p9.1) - (p17.1 + p23.1))) x85 then
      (gA p35.2 12 a 1).bind fun x92 =>
      (ldI p35.2 0 x92 (124 + b1)).bind fun x99 =>
      jn (fun (v110 : Int) (μ110 : Mem) =>
      if lt32 (x99 + v110) 0 then
        some (0, μ110)
      else
      (gA μ110 12 a 1).bind fun x125 =>
      (ldI μ110 0 x125 (108 + b1)).bind fun x132 =>
      if lt32 x132 (x99 + v110) then
        (gA μ110 12 a 1).bind fun x137 =>
        (ldI μ110 0 x137 (108 + b1)).bind fun x144 =>
        some (x144, μ110)
      else
      some ((x99 + v110), μ110)) (fun j110 =>
      if lt32 0 ((p3.1 + p9.1) - (p17.1 + p23.1)) then
        j110 1 p35.2
      else
      j110 (-1) p35.2)
    else
    some (0, p35.2)
  else
  (gA p35.2 12 a 1).bind fun x68 =>
  (ldI p35.2 0 x68 (108 + b1)).bind fun x75 =>
  some (x75, p35.2))
set_option maxRecDepth 100000 in
set_option maxHeartbeats 4000000 in
theorem cX11_depthThen_ok (n : Nat) (a : Nat) (b1 : Int) (μ : Mem) : Mc yX11_depthThen cX11_depthThen 6 (some .int) 1 23 eI [aA a, aI b1] μ (mX11_depthThen n a b1 μ) := by
  refine mc_of (L0 := [some (aA a), some (aI b1), none, none, none, none]) (k := 4) (by decide) rfl rfl (fun X Γ => ?_)
  unfold mX11_depthThen
  refine sn_aload_n dX11_depthThen_0 rfl ?_
  refine sn_iload_n dX11_depthThen_1 rfl ?_
  refine sn_iconst dX11_depthThen_2 ?_
  refine sn_callVI (vs := [aI b1, aI 0]) (ci := 11) (cX11_weight_ok n a b1 0 μ) dX11_depthThen_3 cw_X11_185 rfl rfl rfl (by decide) (by decide) (Nat.le_of_ble_eq_true rfl) (fun p3 => ?_)
  refine sn_aload_n dX11_depthThen_6 rfl ?_
  refine sn_iload_n dX11_depthThen_7 rfl ?_
  refine sn_iconst dX11_depthThen_8 ?_
  refine sn_callVI (vs := [aI b1, aI 1]) (ci := 11) (cX11_strengthOn_ok n a b1 1 p3.2) dX11_depthThen_9 cw_X11_188 rfl rfl rfl (by decide) (by decide) (Nat.le_of_ble_eq_true rfl) (fun p9 => ?_)
  refine sn_iadd dX11_depthThen_12 ?_
  refine sn_istore_n (L' := [some (aA a), some (aI b1), some (aI (p3.1 + p9.1)), none, none, none]) dX11_depthThen_13 (by decide) rfl ?_
  refine sn_aload_n dX11_depthThen_14 rfl ?_
  refine sn_iload_n dX11_depthThen_15 rfl ?_
  refine sn_iconst dX11_depthThen_16 ?_
  refine sn_callVI (vs := [aI b1, aI 1]) (ci := 11) (cX11_weight_ok n a b1 1 p9.2) dX11_depthThen_17 cw_X11_185 rfl rfl rfl (by decide) (by decide) (Nat.le_of_ble_eq_true rfl) (fun p17 => ?_)
  refine sn_aload_n dX11_depthThen_20 rfl ?_
  refine sn_iload_n dX11_depthThen_21 rfl ?_
  refine sn_iconst dX11_depthThen_22 ?_
  refine sn_callVI (vs := [aI b1, aI 0]) (ci := 11) (cX11_strengthOn_ok n a b1 0 p17.2) dX11_depthThen_23 cw_X11_188 rfl rfl rfl (by decide) (by decide) (Nat.le_of_ble_eq_true rfl) (fun p23 => ?_)
  refine sn_iadd dX11_depthThen_26 ?_
  refine sn_istore_n (L' := [some (aA a), some (aI b1), some (aI (p3.1 + p9.1)), some (aI (p17.1 + p23.1)), none, none]) dX11_depthThen_27 (by decide) rfl ?_
  refine sn_iload_n dX11_depthThen_28 rfl ?_
  refine sn_iload_n dX11_depthThen_29 rfl ?_
  refine sn_isub dX11_depthThen_30 ?_
  refine sn_istore (L' := [some (aA a), some (aI b1), some (aI (p3.1 + p9.1)), some (aI (p17.1 + p23.1)), some (aI ((p3.1 + p9.1) - (p17.1 + p23.1))), none]) dX11_depthThen_31 (by decide) rfl ?_
  refine sn_aload_n dX11_depthThen_33 rfl ?_
  refine sn_iload_n dX11_depthThen_34 rfl ?_
  refine sn_callVI (vs := [aI b1]) (ci := 11) (cX11_hangs_ok n a b1 p23.2) dX11_depthThen_35 cw_X11_191 rfl rfl rfl (by decide) (by decide) (Nat.le_of_ble_eq_true rfl) (fun p35 => ?_)
  refine sn_jn (pcj := 46) (La := fun v46 : Unit => [some (aA a), some (aI b1), none, none, none, none]) (Sa := fun v46 : Unit => []) ?_ ?_
  · intro v46 μ46
    refine sn_aload_n dX11_depthThen_46 rfl ?_
    refine sn_getA (ci := 11) (j := 1) dX11_depthThen_47 fl_X11_13 (by decide) (fun x47 => ?_)
    refine sn_bipush dX11_depthThen_50 (by decide) ?_
    refine sn_iload_n dX11_depthThen_52 rfl ?_
    refine sn_iadd dX11_depthThen_53 ?_
    refine sn_iald dX11_depthThen_54 (fun x54 => ?_)
    exact sn_iret dX11_depthThen_55
  intro j46 hj46
  refine sn_if_eq (tgt := 46) dX11_depthThen_38 (by decide) ?_ ?_
  · exact sn_mask (L' := [some (aA a), some (aI b1), none, none, none, none]) [true, true, false, false, false, false] rfl (hj46 () p35.2)
  · refine sn_iload dX11_depthThen_41 rfl ?_
    refine sn_if_ne (tgt := 56) dX11_depthThen_43 (by decide) ?_ ?_
    · refine sn_iload dX11_depthThen_56 rfl ?_
      refine sn_aload_n dX11_depthThen_58 rfl ?_
      refine sn_getA (ci := 11) (j := 1) dX11_depthThen_59 fl_X11_13 (by decide) (fun x59 => ?_)
      refine sn_iconst dX11_depthThen_62 ?_
      refine sn_iald dX11_depthThen_63 (fun x63 => ?_)
      refine sn_icmp_lt (tgt := 77) dX11_depthThen_64 (by decide) ?_ ?_
      · refine sn_iload dX11_depthThen_77 rfl ?_
        refine sn_ineg dX11_depthThen_79 ?_
        refine sn_aload_n dX11_depthThen_80 rfl ?_
        refine sn_getA (ci := 11) (j := 1) dX11_depthThen_81 fl_X11_13 (by decide) (fun x81 => ?_)
        refine sn_iconst dX11_depthThen_84 ?_
        refine sn_iald dX11_depthThen_85 (fun x85 => ?_)
        refine sn_icmp_lt (tgt := 91) dX11_depthThen_86 (by decide) ?_ ?_
        · refine sn_aload_n dX11_depthThen_91 rfl ?_
          refine sn_getA (ci := 11) (j := 1) dX11_depthThen_92 fl_X11_13 (by decide) (fun x92 => ?_)
          refine sn_bipush dX11_depthThen_95 (by decide) ?_
          refine sn_iload_n dX11_depthThen_97 rfl ?_
          refine sn_iadd dX11_depthThen_98 ?_
          refine sn_iald dX11_depthThen_99 (fun x99 => ?_)
          refine sn_iload dX11_depthThen_100 rfl ?_
          refine sn_jn (pcj := 110) (La := fun v110 : Int => [some (aA a), some (aI b1), none, none, none, none]) (Sa := fun v110 : Int => [aI v110, aI x99]) ?_ ?_
          · intro v110 μ110
            refine sn_iadd dX11_depthThen_110 ?_
            refine sn_istore (L' := [some (aA a), some (aI b1), none, none, none, some (aI (x99 + v110))]) dX11_depthThen_111 (by decide) rfl ?_
            refine sn_iload dX11_depthThen_113 rfl ?_
            refine sn_if_ge (tgt := 122) dX11_depthThen_115 (by decide) ?_ ?_
            · refine sn_iload dX11_depthThen_122 rfl ?_
              refine sn_aload_n dX11_depthThen_124 rfl ?_
              refine sn_getA (ci := 11) (j := 1) dX11_depthThen_125 fl_X11_13 (by decide) (fun x125 => ?_)
              refine sn_bipush dX11_depthThen_128 (by decide) ?_
              refine sn_iload_n dX11_depthThen_130 rfl ?_
              refine sn_iadd dX11_depthThen_131 ?_
              refine sn_iald dX11_depthThen_132 (fun x132 => ?_)
              refine sn_icmp_le (tgt := 148) dX11_depthThen_133 (by decide) ?_ ?_
              · refine sn_iload dX11_depthThen_148 rfl ?_
                exact sn_iret dX11_depthThen_150
              · refine sn_aload_n dX11_depthThen_136 rfl ?_
                refine sn_getA (ci := 11) (j := 1) dX11_depthThen_137 fl_X11_13 (by decide) (fun x137 => ?_)
                refine sn_bipush dX11_depthThen_140 (by decide) ?_
                refine sn_iload_n dX11_depthThen_142 rfl ?_
                refine sn_iadd dX11_depthThen_143 ?_
                refine sn_iald dX11_depthThen_144 (fun x144 => ?_)
                refine sn_goto (tgt := 150) dX11_depthThen_145 (by decide) ?_
                exact sn_iret dX11_depthThen_150
            · refine sn_iconst dX11_depthThen_118 ?_
              refine sn_goto (tgt := 150) dX11_depthThen_119 (by decide) ?_
              exact sn_iret dX11_depthThen_150
          intro j110 hj110
          refine sn_if_le (tgt := 109) dX11_depthThen_102 (by decide) ?_ ?_
          · refine sn_iconst dX11_depthThen_109 ?_
            exact sn_mask (L' := [some (aA a), some (aI b1), none, none, none, none]) [true, true, false, false, false, false] rfl (hj110 (-1) p35.2)
          · refine sn_iconst dX11_depthThen_105 ?_
            refine sn_goto (tgt := 110) dX11_depthThen_106 (by decide) ?_
            exact sn_mask (L' := [some (aA a), some (aI b1), none, none, none, none]) [true, true, false, false, false, false] rfl (hj110 1 p35.2)
        · refine sn_iconst dX11_depthThen_89 ?_
          exact sn_iret dX11_depthThen_90
      · refine sn_aload_n dX11_depthThen_67 rfl ?_
        refine sn_getA (ci := 11) (j := 1) dX11_depthThen_68 fl_X11_13 (by decide) (fun x68 => ?_)
        refine sn_bipush dX11_depthThen_71 (by decide) ?_
        refine sn_iload_n dX11_depthThen_73 rfl ?_
        refine sn_iadd dX11_depthThen_74 ?_
        refine sn_iald dX11_depthThen_75 (fun x75 => ?_)
        exact sn_iret dX11_depthThen_76
    · exact sn_mask (L' := [some (aA a), some (aI b1), none, none, none, none]) [true, true, false, false, false, false] rfl (hj46 () p35.2)
theorem dX11_depth_0 : decode cX11_depth 0 = .ok (.iload_n 2, 1) := by decide +kernel
theorem dX11_depth_1 : decode cX11_depth 1 = .ok (.ifCond .ne 15, 3) := by decide +kernel
theorem dX11_depth_4 : decode cX11_depth 4 = .ok (.aload_n 0, 1) := by decide +kernel
theorem dX11_depth_5 : decode cX11_depth 5 = .ok (.getfield 13, 3) := by decide +kernel
theorem dX11_depth_8 : decode cX11_depth 8 = .ok (.bipush 124, 2) := by decide +kernel
theorem dX11_depth_10 : decode cX11_depth 10 = .ok (.iload_n 1, 1) := by decide +kernel
theorem dX11_depth_11 : decode cX11_depth 11 = .ok (.iadd, 1) := by decide +kernel
theorem dX11_depth_12 : decode cX11_depth 12 = .ok (.iaload, 1) := by decide +kernel
theorem dX11_depth_13 : decode cX11_depth 13 = .ok (.goto 22, 3) := by decide +kernel
theorem dX11_depth_16 : decode cX11_depth 16 = .ok (.aload_n 0, 1) := by decide +kernel
theorem dX11_depth_17 : decode cX11_depth 17 = .ok (.getfield 13, 3) := by decide +kernel
theorem dX11_depth_20 : decode cX11_depth 20 = .ok (.bipush 108, 2) := by decide +kernel
theorem dX11_depth_22 : decode cX11_depth 22 = .ok (.iload_n 1, 1) := by decide +kernel
theorem dX11_depth_23 : decode cX11_depth 23 = .ok (.iadd, 1) := by decide +kernel
theorem dX11_depth_24 : decode cX11_depth 24 = .ok (.iaload, 1) := by decide +kernel
theorem dX11_depth_25 : decode cX11_depth 25 = .ok (.aload_n 0, 1) := by decide +kernel
theorem dX11_depth_26 : decode cX11_depth 26 = .ok (.getfield 13, 3) := by decide +kernel
theorem dX11_depth_29 : decode cX11_depth 29 = .ok (.bipush 124, 2) := by decide +kernel
theorem dX11_depth_31 : decode cX11_depth 31 = .ok (.iload_n 1, 1) := by decide +kernel
theorem dX11_depth_32 : decode cX11_depth 32 = .ok (.iadd, 1) := by decide +kernel
theorem dX11_depth_33 : decode cX11_depth 33 = .ok (.iaload, 1) := by decide +kernel
theorem dX11_depth_34 : decode cX11_depth 34 = .ok (.isub, 1) := by decide +kernel
theorem dX11_depth_35 : decode cX11_depth 35 = .ok (.ireturn, 1) := by decide +kernel
def mX11_depth (n : Nat) (a : Nat) (b1 : Int) (b2 : Int) (μ : Mem) : Option (Int × Mem) :=
  if eq32 b2 0 then
    (gA μ 12 a 1).bind fun x5 =>
    (ldI μ 0 x5 (124 + b1)).bind fun x12 =>
    some (x12, μ)
  else
  (gA μ 12 a 1).bind fun x17 =>
  (ldI μ 0 x17 (108 + b1)).bind fun x24 =>
  (gA μ 12 a 1).bind fun x26 =>
  (ldI μ 0 x26 (124 + b1)).bind fun x33 =>
  some ((x24 - x33), μ)
set_option maxRecDepth 100000 in
set_option maxHeartbeats 4000000 in
theorem cX11_depth_ok (n : Nat) (a : Nat) (b1 : Int) (b2 : Int) (μ : Mem) : Mc yX11_depth cX11_depth 3 (some .int) 0 0 eI [aA a, aI b1, aI b2] μ (mX11_depth n a b1 b2 μ) := by
  refine mc_of (L0 := [some (aA a), some (aI b1), some (aI b2)]) (k := 0) (by decide) rfl rfl (fun X Γ => ?_)
  unfold mX11_depth
  refine sn_iload_n dX11_depth_0 rfl ?_
  refine sn_if_ne (tgt := 16) dX11_depth_1 (by decide) ?_ ?_
  · refine sn_aload_n dX11_depth_16 rfl ?_
    refine sn_getA (ci := 11) (j := 1) dX11_depth_17 fl_X11_13 (by decide) (fun x17 => ?_)
    refine sn_bipush dX11_depth_20 (by decide) ?_
    refine sn_iload_n dX11_depth_22 rfl ?_
    refine sn_iadd dX11_depth_23 ?_
    refine sn_iald dX11_depth_24 (fun x24 => ?_)
    refine sn_aload_n dX11_depth_25 rfl ?_
    refine sn_getA (ci := 11) (j := 1) dX11_depth_26 fl_X11_13 (by decide) (fun x26 => ?_)
    refine sn_bipush dX11_depth_29 (by decide) ?_
    refine sn_iload_n dX11_depth_31 rfl ?_
    refine sn_iadd dX11_depth_32 ?_
    refine sn_iald dX11_depth_33 (fun x33 => ?_)
    refine sn_isub dX11_depth_34 ?_
    exact sn_iret dX11_depth_35
  · refine sn_aload_n dX11_depth_4 rfl ?_
    refine sn_getA (ci := 11) (j := 1) dX11_depth_5 fl_X11_13 (by decide) (fun x5 => ?_)
    refine sn_bipush dX11_depth_8 (by decide) ?_
    refine sn_iload_n dX11_depth_10 rfl ?_
    refine sn_iadd dX11_depth_11 ?_
    refine sn_iald dX11_depth_12 (fun x12 => ?_)
    refine sn_goto (tgt := 35) dX11_depth_13 (by decide) ?_
    exact sn_iret dX11_depth_35
theorem dX11_thirsts_0 : decode cX11_thirsts 0 = .ok (.aload_n 0, 1) := by decide +kernel
theorem dX11_thirsts_1 : decode cX11_thirsts 1 = .ok (.getfield 13, 3) := by decide +kernel
theorem dX11_thirsts_4 : decode cX11_thirsts 4 = .ok (.bipush 36, 2) := by decide +kernel
theorem dX11_thirsts_6 : decode cX11_thirsts 6 = .ok (.iload_n 1, 1) := by decide +kernel
theorem dX11_thirsts_7 : decode cX11_thirsts 7 = .ok (.iadd, 1) := by decide +kernel
theorem dX11_thirsts_8 : decode cX11_thirsts 8 = .ok (.iaload, 1) := by decide +kernel
theorem dX11_thirsts_9 : decode cX11_thirsts 9 = .ok (.aload_n 0, 1) := by decide +kernel
theorem dX11_thirsts_10 : decode cX11_thirsts 10 = .ok (.getfield 13, 3) := by decide +kernel
theorem dX11_thirsts_13 : decode cX11_thirsts 13 = .ok (.iconst 2, 1) := by decide +kernel
theorem dX11_thirsts_14 : decode cX11_thirsts 14 = .ok (.iaload, 1) := by decide +kernel
theorem dX11_thirsts_15 : decode cX11_thirsts 15 = .ok (.bipush 12, 2) := by decide +kernel
theorem dX11_thirsts_17 : decode cX11_thirsts 17 = .ok (.irem, 1) := by decide +kernel
theorem dX11_thirsts_18 : decode cX11_thirsts 18 = .ok (.ishr, 1) := by decide +kernel
theorem dX11_thirsts_19 : decode cX11_thirsts 19 = .ok (.iconst 1, 1) := by decide +kernel
theorem dX11_thirsts_20 : decode cX11_thirsts 20 = .ok (.iand, 1) := by decide +kernel
theorem dX11_thirsts_21 : decode cX11_thirsts 21 = .ok (.iconst 1, 1) := by decide +kernel
theorem dX11_thirsts_22 : decode cX11_thirsts 22 = .ok (.if_icmp .ne 7, 3) := by decide +kernel
theorem dX11_thirsts_25 : decode cX11_thirsts 25 = .ok (.iconst 1, 1) := by decide +kernel
theorem dX11_thirsts_26 : decode cX11_thirsts 26 = .ok (.goto 4, 3) := by decide +kernel
theorem dX11_thirsts_29 : decode cX11_thirsts 29 = .ok (.iconst 0, 1) := by decide +kernel
theorem dX11_thirsts_30 : decode cX11_thirsts 30 = .ok (.ireturn, 1) := by decide +kernel
def mX11_thirsts (n : Nat) (a : Nat) (b1 : Int) (μ : Mem) : Option (Int × Mem) :=
  (gA μ 12 a 1).bind fun x1 =>
  (ldI μ 0 x1 (36 + b1)).bind fun x8 =>
  (gA μ 12 a 1).bind fun x10 =>
  (ldI μ 0 x10 2).bind fun x14 =>
  if eq32 (oAnd (oShr x8 (oRem x14 12)) 1) 1 then
    retZ 1 μ
  else
  retZ 0 μ
set_option maxRecDepth 100000 in
set_option maxHeartbeats 4000000 in
theorem cX11_thirsts_ok (n : Nat) (a : Nat) (b1 : Int) (μ : Mem) : Mc yX11_thirsts cX11_thirsts 2 (some .boolean) 0 0 eI [aA a, aI b1] μ (mX11_thirsts n a b1 μ) := by
  refine mc_of (L0 := [some (aA a), some (aI b1)]) (k := 0) (by decide) rfl rfl (fun X Γ => ?_)
  unfold mX11_thirsts
  refine sn_aload_n dX11_thirsts_0 rfl ?_
  refine sn_getA (ci := 11) (j := 1) dX11_thirsts_1 fl_X11_13 (by decide) (fun x1 => ?_)
  refine sn_bipush dX11_thirsts_4 (by decide) ?_
  refine sn_iload_n dX11_thirsts_6 rfl ?_
  refine sn_iadd dX11_thirsts_7 ?_
  refine sn_iald dX11_thirsts_8 (fun x8 => ?_)
  refine sn_aload_n dX11_thirsts_9 rfl ?_
  refine sn_getA (ci := 11) (j := 1) dX11_thirsts_10 fl_X11_13 (by decide) (fun x10 => ?_)
  refine sn_iconst dX11_thirsts_13 ?_
  refine sn_iald dX11_thirsts_14 (fun x14 => ?_)
  refine sn_bipush dX11_thirsts_15 (by decide) ?_
  refine sn_iremK dX11_thirsts_17 (by decide) ?_
  refine sn_ishr dX11_thirsts_18 ?_
  refine sn_iconst dX11_thirsts_19 ?_
  refine sn_iand dX11_thirsts_20 ?_
  refine sn_iconst dX11_thirsts_21 ?_
  refine sn_icmp_ne (tgt := 29) dX11_thirsts_22 (by decide) ?_ ?_
  · refine sn_iconst dX11_thirsts_29 ?_
    exact sn_zret dX11_thirsts_30
  · refine sn_iconst dX11_thirsts_25 ?_
    refine sn_goto (tgt := 30) dX11_thirsts_26 (by decide) ?_
    exact sn_zret dX11_thirsts_30
theorem dX11_goes_0 : decode cX11_goes 0 = .ok (.iconst 0, 1) := by decide +kernel
theorem dX11_goes_1 : decode cX11_goes 1 = .ok (.istore_n 1, 1) := by decide +kernel
theorem dX11_goes_2 : decode cX11_goes 2 = .ok (.iload_n 1, 1) := by decide +kernel
theorem dX11_goes_3 : decode cX11_goes 3 = .ok (.aload_n 0, 1) := by decide +kernel
theorem dX11_goes_4 : decode cX11_goes 4 = .ok (.getfield 13, 3) := by decide +kernel
theorem dX11_goes_7 : decode cX11_goes 7 = .ok (.iconst 1, 1) := by decide +kernel
theorem dX11_goes_8 : decode cX11_goes 8 = .ok (.iaload, 1) := by decide +kernel
theorem dX11_goes_9 : decode cX11_goes 9 = .ok (.if_icmp .ge 23, 3) := by decide +kernel
theorem dX11_goes_12 : decode cX11_goes 12 = .ok (.aload_n 0, 1) := by decide +kernel
theorem dX11_goes_13 : decode cX11_goes 13 = .ok (.getfield 13, 3) := by decide +kernel
theorem dX11_goes_16 : decode cX11_goes 16 = .ok (.bipush 124, 2) := by decide +kernel
theorem dX11_goes_18 : decode cX11_goes 18 = .ok (.iload_n 1, 1) := by decide +kernel
theorem dX11_goes_19 : decode cX11_goes 19 = .ok (.iadd, 1) := by decide +kernel
theorem dX11_goes_20 : decode cX11_goes 20 = .ok (.aload_n 0, 1) := by decide +kernel
theorem dX11_goes_21 : decode cX11_goes 21 = .ok (.iload_n 1, 1) := by decide +kernel
theorem dX11_goes_22 : decode cX11_goes 22 = .ok (.invokevirtual 194, 3) := by decide +kernel
theorem dX11_goes_25 : decode cX11_goes 25 = .ok (.iastore, 1) := by decide +kernel
theorem dX11_goes_26 : decode cX11_goes 26 = .ok (.iinc 1 1, 3) := by decide +kernel
theorem dX11_goes_29 : decode cX11_goes 29 = .ok (.goto (-27), 3) := by decide +kernel
theorem dX11_goes_32 : decode cX11_goes 32 = .ok (.iconst 0, 1) := by decide +kernel
theorem dX11_goes_33 : decode cX11_goes 33 = .ok (.istore_n 1, 1) := by decide +kernel
theorem dX11_goes_34 : decode cX11_goes 34 = .ok (.iload_n 1, 1) := by decide +kernel
theorem dX11_goes_35 : decode cX11_goes 35 = .ok (.iconst 2, 1) := by decide +kernel
theorem dX11_goes_36 : decode cX11_goes 36 = .ok (.aload_n 0, 1) := by decide +kernel
theorem dX11_goes_37 : decode cX11_goes 37 = .ok (.getfield 13, 3) := by decide +kernel
theorem dX11_goes_40 : decode cX11_goes 40 = .ok (.iconst 1, 1) := by decide +kernel
theorem dX11_goes_41 : decode cX11_goes 41 = .ok (.iaload, 1) := by decide +kernel
theorem dX11_goes_42 : decode cX11_goes 42 = .ok (.imul, 1) := by decide +kernel
theorem dX11_goes_43 : decode cX11_goes 43 = .ok (.if_icmp .ge 125, 3) := by decide +kernel
theorem dX11_goes_46 : decode cX11_goes 46 = .ok (.iload_n 1, 1) := by decide +kernel
theorem dX11_goes_47 : decode cX11_goes 47 = .ok (.iconst 2, 1) := by decide +kernel
theorem dX11_goes_48 : decode cX11_goes 48 = .ok (.idiv, 1) := by decide +kernel
theorem dX11_goes_49 : decode cX11_goes 49 = .ok (.istore_n 2, 1) := by decide +kernel
theorem dX11_goes_50 : decode cX11_goes 50 = .ok (.aload_n 0, 1) := by decide +kernel
theorem dX11_goes_51 : decode cX11_goes 51 = .ok (.getfield 13, 3) := by decide +kernel
theorem dX11_goes_54 : decode cX11_goes 54 = .ok (.bipush 76, 2) := by decide +kernel
theorem dX11_goes_56 : decode cX11_goes 56 = .ok (.bipush 16, 2) := by decide +kernel
theorem dX11_goes_58 : decode cX11_goes 58 = .ok (.iload_n 1, 1) := by decide +kernel
theorem dX11_goes_59 : decode cX11_goes 59 = .ok (.iconst 2, 1) := by decide +kernel
theorem dX11_goes_60 : decode cX11_goes 60 = .ok (.irem, 1) := by decide +kernel
theorem dX11_goes_61 : decode cX11_goes 61 = .ok (.imul, 1) := by decide +kernel
theorem dX11_goes_62 : decode cX11_goes 62 = .ok (.iadd, 1) := by decide +kernel
theorem dX11_goes_63 : decode cX11_goes 63 = .ok (.iload_n 2, 1) := by decide +kernel
theorem dX11_goes_64 : decode cX11_goes 64 = .ok (.iadd, 1) := by decide +kernel
theorem dX11_goes_65 : decode cX11_goes 65 = .ok (.iaload, 1) := by decide +kernel
theorem dX11_goes_66 : decode cX11_goes 66 = .ok (.istore_n 3, 1) := by decide +kernel
theorem dX11_goes_67 : decode cX11_goes 67 = .ok (.aload_n 0, 1) := by decide +kernel
theorem dX11_goes_68 : decode cX11_goes 68 = .ok (.iload_n 2, 1) := by decide +kernel
theorem dX11_goes_69 : decode cX11_goes 69 = .ok (.invokevirtual 191, 3) := by decide +kernel
theorem dX11_goes_72 : decode cX11_goes 72 = .ok (.ifCond .eq 90, 3) := by decide +kernel
theorem dX11_goes_75 : decode cX11_goes 75 = .ok (.aload_n 0, 1) := by decide +kernel
theorem dX11_goes_76 : decode cX11_goes 76 = .ok (.getfield 13, 3) := by decide +kernel
theorem dX11_goes_79 : decode cX11_goes 79 = .ok (.sipush 172, 3) := by decide +kernel
theorem dX11_goes_82 : decode cX11_goes 82 = .ok (.bipush 16, 2) := by decide +kernel
theorem dX11_goes_84 : decode cX11_goes 84 = .ok (.iload_n 1, 1) := by decide +kernel
theorem dX11_goes_85 : decode cX11_goes 85 = .ok (.iconst 2, 1) := by decide +kernel
theorem dX11_goes_86 : decode cX11_goes 86 = .ok (.irem, 1) := by decide +kernel
theorem dX11_goes_87 : decode cX11_goes 87 = .ok (.imul, 1) := by decide +kernel
theorem dX11_goes_88 : decode cX11_goes 88 = .ok (.iadd, 1) := by decide +kernel
theorem dX11_goes_89 : decode cX11_goes 89 = .ok (.iload_n 2, 1) := by decide +kernel
theorem dX11_goes_90 : decode cX11_goes 90 = .ok (.iadd, 1) := by decide +kernel
theorem dX11_goes_91 : decode cX11_goes 91 = .ok (.iaload, 1) := by decide +kernel
theorem dX11_goes_92 : decode cX11_goes 92 = .ok (.iconst 1, 1) := by decide +kernel
theorem dX11_goes_93 : decode cX11_goes 93 = .ok (.if_icmp .eq 69, 3) := by decide +kernel
theorem dX11_goes_96 : decode cX11_goes 96 = .ok (.aload_n 0, 1) := by decide +kernel
theorem dX11_goes_97 : decode cX11_goes 97 = .ok (.iload_n 2, 1) := by decide +kernel
theorem dX11_goes_98 : decode cX11_goes 98 = .ok (.iload_n 1, 1) := by decide +kernel
theorem dX11_goes_99 : decode cX11_goes 99 = .ok (.iconst 2, 1) := by decide +kernel
theorem dX11_goes_100 : decode cX11_goes 100 = .ok (.irem, 1) := by decide +kernel
theorem dX11_goes_101 : decode cX11_goes 101 = .ok (.invokevirtual 182, 3) := by decide +kernel
theorem dX11_goes_104 : decode cX11_goes 104 = .ok (.aload_n 0, 1) := by decide +kernel
theorem dX11_goes_105 : decode cX11_goes 105 = .ok (.getfield 13, 3) := by decide +kernel
theorem dX11_goes_108 : decode cX11_goes 108 = .ok (.bipush 16, 2) := by decide +kernel
theorem dX11_goes_110 : decode cX11_goes 110 = .ok (.iload_n 3, 1) := by decide +kernel
theorem dX11_goes_111 : decode cX11_goes 111 = .ok (.iadd, 1) := by decide +kernel
theorem dX11_goes_112 : decode cX11_goes 112 = .ok (.iaload, 1) := by decide +kernel
theorem dX11_goes_113 : decode cX11_goes 113 = .ok (.if_icmp .lt 49, 3) := by decide +kernel
theorem dX11_goes_116 : decode cX11_goes 116 = .ok (.aload_n 0, 1) := by decide +kernel
theorem dX11_goes_117 : decode cX11_goes 117 = .ok (.getfield 13, 3) := by decide +kernel
theorem dX11_goes_120 : decode cX11_goes 120 = .ok (.bipush 26, 2) := by decide +kernel
theorem dX11_goes_122 : decode cX11_goes 122 = .ok (.iload_n 3, 1) := by decide +kernel
theorem dX11_goes_123 : decode cX11_goes 123 = .ok (.iadd, 1) := by decide +kernel
theorem dX11_goes_124 : decode cX11_goes 124 = .ok (.iaload, 1) := by decide +kernel
theorem dX11_goes_125 : decode cX11_goes 125 = .ok (.ifCond .ne 6, 3) := by decide +kernel
theorem dX11_goes_128 : decode cX11_goes 128 = .ok (.goto 34, 3) := by decide +kernel
theorem dX11_goes_131 : decode cX11_goes 131 = .ok (.aload_n 0, 1) := by decide +kernel
theorem dX11_goes_132 : decode cX11_goes 132 = .ok (.getfield 13, 3) := by decide +kernel
theorem dX11_goes_135 : decode cX11_goes 135 = .ok (.sipush 172, 3) := by decide +kernel
theorem dX11_goes_138 : decode cX11_goes 138 = .ok (.bipush 16, 2) := by decide +kernel
theorem dX11_goes_140 : decode cX11_goes 140 = .ok (.iload_n 1, 1) := by decide +kernel
theorem dX11_goes_141 : decode cX11_goes 141 = .ok (.iconst 2, 1) := by decide +kernel
theorem dX11_goes_142 : decode cX11_goes 142 = .ok (.irem, 1) := by decide +kernel
theorem dX11_goes_143 : decode cX11_goes 143 = .ok (.imul, 1) := by decide +kernel
theorem dX11_goes_144 : decode cX11_goes 144 = .ok (.iadd, 1) := by decide +kernel
theorem dX11_goes_145 : decode cX11_goes 145 = .ok (.iload_n 2, 1) := by decide +kernel
theorem dX11_goes_146 : decode cX11_goes 146 = .ok (.iadd, 1) := by decide +kernel
theorem dX11_goes_147 : decode cX11_goes 147 = .ok (.iconst 1, 1) := by decide +kernel
theorem dX11_goes_148 : decode cX11_goes 148 = .ok (.iastore, 1) := by decide +kernel
theorem dX11_goes_149 : decode cX11_goes 149 = .ok (.aload_n 0, 1) := by decide +kernel
theorem dX11_goes_150 : decode cX11_goes 150 = .ok (.getfield 13, 3) := by decide +kernel
theorem dX11_goes_153 : decode cX11_goes 153 = .ok (.bipush 26, 2) := by decide +kernel
theorem dX11_goes_155 : decode cX11_goes 155 = .ok (.iload_n 3, 1) := by decide +kernel
theorem dX11_goes_156 : decode cX11_goes 156 = .ok (.iadd, 1) := by decide +kernel
theorem dX11_goes_157 : decode cX11_goes 157 = .ok (.dup2, 1) := by decide +kernel
theorem dX11_goes_158 : decode cX11_goes 158 = .ok (.iaload, 1) := by decide +kernel
theorem dX11_goes_159 : decode cX11_goes 159 = .ok (.iconst 1, 1) := by decide +kernel
theorem dX11_goes_160 : decode cX11_goes 160 = .ok (.isub, 1) := by decide +kernel
theorem dX11_goes_161 : decode cX11_goes 161 = .ok (.iastore, 1) := by decide +kernel
theorem dX11_goes_162 : decode cX11_goes 162 = .ok (.iinc 1 1, 3) := by decide +kernel
theorem dX11_goes_165 : decode cX11_goes 165 = .ok (.goto (-131), 3) := by decide +kernel
theorem dX11_goes_168 : decode cX11_goes 168 = .ok (.iconst 0, 1) := by decide +kernel
theorem dX11_goes_169 : decode cX11_goes 169 = .ok (.istore_n 1, 1) := by decide +kernel
theorem dX11_goes_170 : decode cX11_goes 170 = .ok (.iconst 0, 1) := by decide +kernel
theorem dX11_goes_171 : decode cX11_goes 171 = .ok (.istore_n 2, 1) := by decide +kernel
theorem dX11_goes_172 : decode cX11_goes 172 = .ok (.iload_n 2, 1) := by decide +kernel
theorem dX11_goes_173 : decode cX11_goes 173 = .ok (.iconst 2, 1) := by decide +kernel
theorem dX11_goes_174 : decode cX11_goes 174 = .ok (.aload_n 0, 1) := by decide +kernel
theorem dX11_goes_175 : decode cX11_goes 175 = .ok (.getfield 13, 3) := by decide +kernel
theorem dX11_goes_178 : decode cX11_goes 178 = .ok (.iconst 1, 1) := by decide +kernel
theorem dX11_goes_179 : decode cX11_goes 179 = .ok (.iaload, 1) := by decide +kernel
theorem dX11_goes_180 : decode cX11_goes 180 = .ok (.imul, 1) := by decide +kernel
theorem dX11_goes_181 : decode cX11_goes 181 = .ok (.if_icmp .ge 136, 3) := by decide +kernel
theorem dX11_goes_184 : decode cX11_goes 184 = .ok (.iload_n 2, 1) := by decide +kernel
theorem dX11_goes_185 : decode cX11_goes 185 = .ok (.iconst 2, 1) := by decide +kernel
theorem dX11_goes_186 : decode cX11_goes 186 = .ok (.idiv, 1) := by decide +kernel
theorem dX11_goes_187 : decode cX11_goes 187 = .ok (.istore_n 3, 1) := by decide +kernel
theorem dX11_goes_188 : decode cX11_goes 188 = .ok (.aload_n 0, 1) := by decide +kernel
theorem dX11_goes_189 : decode cX11_goes 189 = .ok (.getfield 13, 3) := by decide +kernel
theorem dX11_goes_192 : decode cX11_goes 192 = .ok (.bipush 76, 2) := by decide +kernel
theorem dX11_goes_194 : decode cX11_goes 194 = .ok (.bipush 16, 2) := by decide +kernel
theorem dX11_goes_196 : decode cX11_goes 196 = .ok (.iload_n 2, 1) := by decide +kernel
theorem dX11_goes_197 : decode cX11_goes 197 = .ok (.iconst 2, 1) := by decide +kernel
theorem dX11_goes_198 : decode cX11_goes 198 = .ok (.irem, 1) := by decide +kernel
theorem dX11_goes_199 : decode cX11_goes 199 = .ok (.imul, 1) := by decide +kernel
theorem dX11_goes_200 : decode cX11_goes 200 = .ok (.iadd, 1) := by decide +kernel
theorem dX11_goes_201 : decode cX11_goes 201 = .ok (.iload_n 3, 1) := by decide +kernel
theorem dX11_goes_202 : decode cX11_goes 202 = .ok (.iadd, 1) := by decide +kernel
theorem dX11_goes_203 : decode cX11_goes 203 = .ok (.iaload, 1) := by decide +kernel
theorem dX11_goes_204 : decode cX11_goes 204 = .ok (.istore 4, 2) := by decide +kernel
theorem dX11_goes_206 : decode cX11_goes 206 = .ok (.aload_n 0, 1) := by decide +kernel
theorem dX11_goes_207 : decode cX11_goes 207 = .ok (.iload_n 3, 1) := by decide +kernel
theorem dX11_goes_208 : decode cX11_goes 208 = .ok (.invokevirtual 191, 3) := by decide +kernel
theorem dX11_goes_211 : decode cX11_goes 211 = .ok (.ifCond .eq 100, 3) := by decide +kernel
theorem dX11_goes_214 : decode cX11_goes 214 = .ok (.aload_n 0, 1) := by decide +kernel
theorem dX11_goes_215 : decode cX11_goes 215 = .ok (.getfield 13, 3) := by decide +kernel
theorem dX11_goes_218 : decode cX11_goes 218 = .ok (.sipush 172, 3) := by decide +kernel
theorem dX11_goes_221 : decode cX11_goes 221 = .ok (.bipush 16, 2) := by decide +kernel
theorem dX11_goes_223 : decode cX11_goes 223 = .ok (.iload_n 2, 1) := by decide +kernel
theorem dX11_goes_224 : decode cX11_goes 224 = .ok (.iconst 2, 1) := by decide +kernel
theorem dX11_goes_225 : decode cX11_goes 225 = .ok (.irem, 1) := by decide +kernel
theorem dX11_goes_226 : decode cX11_goes 226 = .ok (.imul, 1) := by decide +kernel
theorem dX11_goes_227 : decode cX11_goes 227 = .ok (.iadd, 1) := by decide +kernel
theorem dX11_goes_228 : decode cX11_goes 228 = .ok (.iload_n 3, 1) := by decide +kernel
theorem dX11_goes_229 : decode cX11_goes 229 = .ok (.iadd, 1) := by decide +kernel
theorem dX11_goes_230 : decode cX11_goes 230 = .ok (.iaload, 1) := by decide +kernel
theorem dX11_goes_231 : decode cX11_goes 231 = .ok (.ifCond .eq 80, 3) := by decide +kernel
theorem dX11_goes_234 : decode cX11_goes 234 = .ok (.aload_n 0, 1) := by decide +kernel
theorem dX11_goes_235 : decode cX11_goes 235 = .ok (.iload_n 3, 1) := by decide +kernel
theorem dX11_goes_236 : decode cX11_goes 236 = .ok (.iload_n 2, 1) := by decide +kernel
theorem dX11_goes_237 : decode cX11_goes 237 = .ok (.iconst 2, 1) := by decide +kernel
theorem dX11_goes_238 : decode cX11_goes 238 = .ok (.irem, 1) := by decide +kernel
theorem dX11_goes_239 : decode cX11_goes 239 = .ok (.invokevirtual 182, 3) := by decide +kernel
theorem dX11_goes_242 : decode cX11_goes 242 = .ok (.ifCond .le 6, 3) := by decide +kernel
theorem dX11_goes_245 : decode cX11_goes 245 = .ok (.goto 66, 3) := by decide +kernel
theorem dX11_goes_248 : decode cX11_goes 248 = .ok (.aload_n 0, 1) := by decide +kernel
theorem dX11_goes_249 : decode cX11_goes 249 = .ok (.getfield 13, 3) := by decide +kernel
theorem dX11_goes_252 : decode cX11_goes 252 = .ok (.sipush 172, 3) := by decide +kernel
theorem dX11_goes_255 : decode cX11_goes 255 = .ok (.bipush 16, 2) := by decide +kernel
theorem dX11_goes_257 : decode cX11_goes 257 = .ok (.iload_n 2, 1) := by decide +kernel
theorem dX11_goes_258 : decode cX11_goes 258 = .ok (.iconst 2, 1) := by decide +kernel
theorem dX11_goes_259 : decode cX11_goes 259 = .ok (.irem, 1) := by decide +kernel
theorem dX11_goes_260 : decode cX11_goes 260 = .ok (.imul, 1) := by decide +kernel
theorem dX11_goes_261 : decode cX11_goes 261 = .ok (.iadd, 1) := by decide +kernel
theorem dX11_goes_262 : decode cX11_goes 262 = .ok (.iload_n 3, 1) := by decide +kernel
theorem dX11_goes_263 : decode cX11_goes 263 = .ok (.iadd, 1) := by decide +kernel
theorem dX11_goes_264 : decode cX11_goes 264 = .ok (.iconst 0, 1) := by decide +kernel
theorem dX11_goes_265 : decode cX11_goes 265 = .ok (.iastore, 1) := by decide +kernel
theorem dX11_goes_266 : decode cX11_goes 266 = .ok (.aload_n 0, 1) := by decide +kernel
theorem dX11_goes_267 : decode cX11_goes 267 = .ok (.getfield 13, 3) := by decide +kernel
theorem dX11_goes_270 : decode cX11_goes 270 = .ok (.bipush 46, 2) := by decide +kernel
theorem dX11_goes_272 : decode cX11_goes 272 = .ok (.iload 4, 2) := by decide +kernel
theorem dX11_goes_274 : decode cX11_goes 274 = .ok (.iadd, 1) := by decide +kernel
theorem dX11_goes_275 : decode cX11_goes 275 = .ok (.dup2, 1) := by decide +kernel
theorem dX11_goes_276 : decode cX11_goes 276 = .ok (.iaload, 1) := by decide +kernel
theorem dX11_goes_277 : decode cX11_goes 277 = .ok (.iconst 1, 1) := by decide +kernel
theorem dX11_goes_278 : decode cX11_goes 278 = .ok (.iadd, 1) := by decide +kernel
theorem dX11_goes_279 : decode cX11_goes 279 = .ok (.iastore, 1) := by decide +kernel
theorem dX11_goes_280 : decode cX11_goes 280 = .ok (.aload_n 0, 1) := by decide +kernel
theorem dX11_goes_281 : decode cX11_goes 281 = .ok (.getfield 13, 3) := by decide +kernel
theorem dX11_goes_284 : decode cX11_goes 284 = .ok (.aload_n 0, 1) := by decide +kernel
theorem dX11_goes_285 : decode cX11_goes 285 = .ok (.iload 4, 2) := by decide +kernel
theorem dX11_goes_287 : decode cX11_goes 287 = .ok (.invokevirtual 197, 3) := by decide +kernel
theorem dX11_goes_290 : decode cX11_goes 290 = .ok (.ifCond .eq 8, 3) := by decide +kernel
theorem dX11_goes_293 : decode cX11_goes 293 = .ok (.bipush 56, 2) := by decide +kernel
theorem dX11_goes_295 : decode cX11_goes 295 = .ok (.goto 5, 3) := by decide +kernel
theorem dX11_goes_298 : decode cX11_goes 298 = .ok (.bipush 66, 2) := by decide +kernel
theorem dX11_goes_300 : decode cX11_goes 300 = .ok (.iload 4, 2) := by decide +kernel
theorem dX11_goes_302 : decode cX11_goes 302 = .ok (.iadd, 1) := by decide +kernel
theorem dX11_goes_303 : decode cX11_goes 303 = .ok (.dup2, 1) := by decide +kernel
theorem dX11_goes_304 : decode cX11_goes 304 = .ok (.iaload, 1) := by decide +kernel
theorem dX11_goes_305 : decode cX11_goes 305 = .ok (.iconst 1, 1) := by decide +kernel
theorem dX11_goes_306 : decode cX11_goes 306 = .ok (.iadd, 1) := by decide +kernel
theorem dX11_goes_307 : decode cX11_goes 307 = .ok (.iastore, 1) := by decide +kernel
theorem dX11_goes_308 : decode cX11_goes 308 = .ok (.iinc 1 1, 3) := by decide +kernel
theorem dX11_goes_311 : decode cX11_goes 311 = .ok (.iinc 2 1, 3) := by decide +kernel
theorem dX11_goes_314 : decode cX11_goes 314 = .ok (.goto (-142), 3) := by decide +kernel
theorem dX11_goes_317 : decode cX11_goes 317 = .ok (.aload_n 0, 1) := by decide +kernel
theorem dX11_goes_318 : decode cX11_goes 318 = .ok (.getfield 13, 3) := by decide +kernel
theorem dX11_goes_321 : decode cX11_goes 321 = .ok (.iconst 2, 1) := by decide +kernel
theorem dX11_goes_322 : decode cX11_goes 322 = .ok (.dup2, 1) := by decide +kernel
theorem dX11_goes_323 : decode cX11_goes 323 = .ok (.iaload, 1) := by decide +kernel
theorem dX11_goes_324 : decode cX11_goes 324 = .ok (.iconst 1, 1) := by decide +kernel
theorem dX11_goes_325 : decode cX11_goes 325 = .ok (.iadd, 1) := by decide +kernel
theorem dX11_goes_326 : decode cX11_goes 326 = .ok (.iastore, 1) := by decide +kernel
theorem dX11_goes_327 : decode cX11_goes 327 = .ok (.iload_n 1, 1) := by decide +kernel
theorem dX11_goes_328 : decode cX11_goes 328 = .ok (.ireturn, 1) := by decide +kernel
def mX11_goes (n : Nat) (a : Nat) (μ : Mem) : Option (Int × Mem) :=
  lp (fun nx2 (v2 : Int) (μ2 : Mem) =>
  (gA μ2 12 a 1).bind fun x4 =>
  (ldI μ2 0 x4 1).bind fun x8 =>
  if lt32 v2 x8 then
    (gA μ2 12 a 1).bind fun x13 =>
    (inv μ2 12 a (mX11_depthThen n a v2 μ2)).bind fun p22 =>
    (stI p22.2 0 x13 (124 + v2) p22.1).bind fun μ25 =>
    nx2 (v2 + 1) μ25
  else
  lp (fun nx34 (v34 : Int) (μ34 : Mem) =>
  (gA μ34 12 a 1).bind fun x37 =>
  (ldI μ34 0 x37 1).bind fun x41 =>
  if lt32 v34 (2 * x41) then
    (gA μ34 12 a 1).bind fun x51 =>
    (ldI μ34 0 x51 ((76 + (16 * (oRem v34 2))) + (oDiv v34 2))).bind fun x65 =>
    (inv μ34 12 a (mX11_hangs n a (oDiv v34 2) μ34)).bind fun p69 =>
    if eq32 p69.1 0 then
      nx34 (v34 + 1) p69.2
    else
    (gA p69.2 12 a 1).bind fun x76 =>
    (ldI p69.2 0 x76 ((172 + (16 * (oRem v34 2))) + (oDiv v34 2))).bind fun x91 =>
    if eq32 x91 1 then
      nx34 (v34 + 1) p69.2
    else
    (inv p69.2 12 a (mX11_depth n a (oDiv v34 2) (oRem v34 2) p69.2)).bind fun p101 =>
    (gA p101.2 12 a 1).bind fun x105 =>
    (ldI p101.2 0 x105 (16 + x65)).bind fun x112 =>
    if lt32 p101.1 x112 then
      nx34 (v34 + 1) p101.2
    else
    (gA p101.2 12 a 1).bind fun x117 =>
    (ldI p101.2 0 x117 (26 + x65)).bind fun x124 =>
    if eq32 x124 0 then
      nx34 (v34 + 1) p101.2
    else
    (gA p101.2 12 a 1).bind fun x132 =>
    (stI p101.2 0 x132 ((172 + (16 * (oRem v34 2))) + (oDiv v34 2)) 1).bind fun μ148 =>
    (gA μ148 12 a 1).bind fun x150 =>
    (ldI μ148 0 x150 (26 + x65)).bind fun x158 =>
    (stI μ148 0 x150 (26 + x65) (x158 - 1)).bind fun μ161 =>
    nx34 (v34 + 1) μ161
  else
  lp (fun nx172 (v172 : Int × Int) (μ172 : Mem) =>
  (gA μ172 12 a 1).bind fun x175 =>
  (ldI μ172 0 x175 1).bind fun x179 =>
  if lt32 v172.2 (2 * x179) then
    (gA μ172 12 a 1).bind fun x189 =>
    (ldI μ172 0 x189 ((76 + (16 * (oRem v172.2 2))) + (oDiv v172.2 2))).bind fun x203 =>
    (inv μ172 12 a (mX11_hangs n a (oDiv v172.2 2) μ172)).bind fun p208 =>
    if eq32 p208.1 0 then
      nx172 (v172.1, (v172.2 + 1)) p208.2
    else
    (gA p208.2 12 a 1).bind fun x215 =>
    (ldI p208.2 0 x215 ((172 + (16 * (oRem v172.2 2))) + (oDiv v172.2 2))).bind fun x230 =>
    if eq32 x230 0 then
      nx172 (v172.1, (v172.2 + 1)) p208.2
    else
    (inv p208.2 12 a (mX11_depth n a (oDiv v172.2 2) (oRem v172.2 2) p208.2)).bind fun p239 =>
    if lt32 0 p239.1 then
      nx172 (v172.1, (v172.2 + 1)) p239.2
    else
    (gA p239.2 12 a 1).bind fun x249 =>
    (stI p239.2 0 x249 ((172 + (16 * (oRem v172.2 2))) + (oDiv v172.2 2)) 0).bind fun μ265 =>
    (gA μ265 12 a 1).bind fun x267 =>
    (ldI μ265 0 x267 (46 + x203)).bind fun x276 =>
    (stI μ265 0 x267 (46 + x203) (x276 + 1)).bind fun μ279 =>
    (gA μ279 12 a 1).bind fun x281 =>
    (inv μ279 12 a (mX11_thirsts n a x203 μ279)).bind fun p287 =>
    jn (fun (v300 : Int) (μ300 : Mem) =>
    (ldI μ300 0 x281 (v300 + x203)).bind fun x304 =>
    (stI μ300 0 x281 (v300 + x203) (x304 + 1)).bind fun μ307 =>
    nx172 ((v172.1 + 1), (v172.2 + 1)) μ307) (fun j300 =>
    if eq32 p287.1 0 then
      j300 66 p287.2
    else
    j300 56 p287.2)
  else
  (gA μ172 12 a 1).bind fun x318 =>
  (ldI μ172 0 x318 2).bind fun x323 =>
  (stI μ172 0 x318 2 (x323 + 1)).bind fun μ326 =>
  some (v172.1, μ326)) n (0, 0) μ34) n 0 μ2) n 0 μ
set_option maxRecDepth 100000 in
set_option maxHeartbeats 4000000 in
theorem cX11_goes_ok (n : Nat) (a : Nat) (μ : Mem) : Mc yX11_goes cX11_goes 5 (some .int) 2 48 eI [aA a] μ (mX11_goes n a μ) := by
  refine mc_of (L0 := [some (aA a), none, none, none, none]) (k := 4) (by decide) rfl rfl (fun X Γ => ?_)
  unfold mX11_goes
  refine sn_iconst dX11_goes_0 ?_
  refine sn_istore_n (L' := [some (aA a), some (aI 0), none, none, none]) dX11_goes_1 (by decide) rfl ?_
  refine sn_lp (La := fun v2 : Int => [some (aA a), some (aI v2), none, none, none]) ?_ n 0 μ
  intro nx2 hnx2 v2 μ2
  refine sn_iload_n dX11_goes_2 rfl ?_
  refine sn_aload_n dX11_goes_3 rfl ?_
  refine sn_getA (ci := 11) (j := 1) dX11_goes_4 fl_X11_13 (by decide) (fun x4 => ?_)
  refine sn_iconst dX11_goes_7 ?_
  refine sn_iald dX11_goes_8 (fun x8 => ?_)
  refine sn_icmp_ge (tgt := 32) dX11_goes_9 (by decide) ?_ ?_
  · refine sn_iconst dX11_goes_32 ?_
    refine sn_istore_n (L' := [some (aA a), some (aI 0), none, none, none]) dX11_goes_33 (by decide) rfl ?_
    refine sn_lp (La := fun v34 : Int => [some (aA a), some (aI v34), none, none, none]) ?_ n 0 μ2
    intro nx34 hnx34 v34 μ34
    refine sn_iload_n dX11_goes_34 rfl ?_
    refine sn_iconst dX11_goes_35 ?_
    refine sn_aload_n dX11_goes_36 rfl ?_
    refine sn_getA (ci := 11) (j := 1) dX11_goes_37 fl_X11_13 (by decide) (fun x37 => ?_)
    refine sn_iconst dX11_goes_40 ?_
    refine sn_iald dX11_goes_41 (fun x41 => ?_)
    refine sn_imul dX11_goes_42 ?_
    refine sn_icmp_ge (tgt := 168) dX11_goes_43 (by decide) ?_ ?_
    · refine sn_iconst dX11_goes_168 ?_
      refine sn_istore_n (L' := [some (aA a), some (aI 0), none, none, none]) dX11_goes_169 (by decide) rfl ?_
      refine sn_iconst dX11_goes_170 ?_
      refine sn_istore_n (L' := [some (aA a), some (aI 0), some (aI 0), none, none]) dX11_goes_171 (by decide) rfl ?_
      refine sn_lp (La := fun v172 : Int × Int => [some (aA a), some (aI v172.1), some (aI v172.2), none, none]) ?_ n (0, 0) μ34
      intro nx172 hnx172 v172 μ172
      refine sn_iload_n dX11_goes_172 rfl ?_
      refine sn_iconst dX11_goes_173 ?_
      refine sn_aload_n dX11_goes_174 rfl ?_
      refine sn_getA (ci := 11) (j := 1) dX11_goes_175 fl_X11_13 (by decide) (fun x175 => ?_)
      refine sn_iconst dX11_goes_178 ?_
      refine sn_iald dX11_goes_179 (fun x179 => ?_)
      refine sn_imul dX11_goes_180 ?_
      refine sn_icmp_ge (tgt := 317) dX11_goes_181 (by decide) ?_ ?_
      · refine sn_aload_n dX11_goes_317 rfl ?_
        refine sn_getA (ci := 11) (j := 1) dX11_goes_318 fl_X11_13 (by decide) (fun x318 => ?_)
        refine sn_iconst dX11_goes_321 ?_
        refine sn_dup2 dX11_goes_322 rfl rfl ?_
        refine sn_iald dX11_goes_323 (fun x323 => ?_)
        refine sn_iconst dX11_goes_324 ?_
        refine sn_iadd dX11_goes_325 ?_
        refine sn_iast dX11_goes_326 (fun μ326 => ?_)
        refine sn_iload_n dX11_goes_327 rfl ?_
        exact sn_iret dX11_goes_328
      · refine sn_iload_n dX11_goes_184 rfl ?_
        refine sn_iconst dX11_goes_185 ?_
        refine sn_idivK dX11_goes_186 (by decide) ?_
        refine sn_istore_n (L' := [some (aA a), some (aI v172.1), some (aI v172.2), some (aI (oDiv v172.2 2)), none]) dX11_goes_187 (by decide) rfl ?_
        refine sn_aload_n dX11_goes_188 rfl ?_
        refine sn_getA (ci := 11) (j := 1) dX11_goes_189 fl_X11_13 (by decide) (fun x189 => ?_)
        refine sn_bipush dX11_goes_192 (by decide) ?_
        refine sn_bipush dX11_goes_194 (by decide) ?_
        refine sn_iload_n dX11_goes_196 rfl ?_
        refine sn_iconst dX11_goes_197 ?_
        refine sn_iremK dX11_goes_198 (by decide) ?_
        refine sn_imul dX11_goes_199 ?_
        refine sn_iadd dX11_goes_200 ?_
        refine sn_iload_n dX11_goes_201 rfl ?_
        refine sn_iadd dX11_goes_202 ?_
        refine sn_iald dX11_goes_203 (fun x203 => ?_)
        refine sn_istore (L' := [some (aA a), some (aI v172.1), some (aI v172.2), some (aI (oDiv v172.2 2)), some (aI x203)]) dX11_goes_204 (by decide) rfl ?_
        refine sn_aload_n dX11_goes_206 rfl ?_
        refine sn_iload_n dX11_goes_207 rfl ?_
        refine sn_callVI (vs := [aI (oDiv v172.2 2)]) (ci := 11) (cX11_hangs_ok n a (oDiv v172.2 2) μ172) dX11_goes_208 cw_X11_191 rfl rfl rfl (by decide) (by decide) (Nat.le_of_ble_eq_true rfl) (fun p208 => ?_)
        refine sn_if_eq (tgt := 311) dX11_goes_211 (by decide) ?_ ?_
        · refine sn_iinc (L' := [some (aA a), some (aI v172.1), some (aI (v172.2 + 1)), some (aI (oDiv v172.2 2)), some (aI x203)]) dX11_goes_311 rfl (by decide) rfl ?_
          refine sn_goto (tgt := 172) dX11_goes_314 (by decide) ?_
          exact sn_mask (L' := [some (aA a), some (aI v172.1), some (aI (v172.2 + 1)), none, none]) [true, true, true, false, false] rfl (hnx172 (v172.1, (v172.2 + 1)) p208.2)
        · refine sn_aload_n dX11_goes_214 rfl ?_
          refine sn_getA (ci := 11) (j := 1) dX11_goes_215 fl_X11_13 (by decide) (fun x215 => ?_)
          refine sn_sipush dX11_goes_218 (by decide) ?_
          refine sn_bipush dX11_goes_221 (by decide) ?_
          refine sn_iload_n dX11_goes_223 rfl ?_
          refine sn_iconst dX11_goes_224 ?_
          refine sn_iremK dX11_goes_225 (by decide) ?_
          refine sn_imul dX11_goes_226 ?_
          refine sn_iadd dX11_goes_227 ?_
          refine sn_iload_n dX11_goes_228 rfl ?_
          refine sn_iadd dX11_goes_229 ?_
          refine sn_iald dX11_goes_230 (fun x230 => ?_)
          refine sn_if_eq (tgt := 311) dX11_goes_231 (by decide) ?_ ?_
          · refine sn_iinc (L' := [some (aA a), some (aI v172.1), some (aI (v172.2 + 1)), some (aI (oDiv v172.2 2)), some (aI x203)]) dX11_goes_311 rfl (by decide) rfl ?_
            refine sn_goto (tgt := 172) dX11_goes_314 (by decide) ?_
            exact sn_mask (L' := [some (aA a), some (aI v172.1), some (aI (v172.2 + 1)), none, none]) [true, true, true, false, false] rfl (hnx172 (v172.1, (v172.2 + 1)) p208.2)
          · refine sn_aload_n dX11_goes_234 rfl ?_
            refine sn_iload_n dX11_goes_235 rfl ?_
            refine sn_iload_n dX11_goes_236 rfl ?_
            refine sn_iconst dX11_goes_237 ?_
            refine sn_iremK dX11_goes_238 (by decide) ?_
            refine sn_callVI (vs := [aI (oDiv v172.2 2), aI (oRem v172.2 2)]) (ci := 11) (cX11_depth_ok n a (oDiv v172.2 2) (oRem v172.2 2) p208.2) dX11_goes_239 cw_X11_182 rfl rfl rfl (by decide) (by decide) (Nat.le_of_ble_eq_true rfl) (fun p239 => ?_)
            refine sn_if_le (tgt := 248) dX11_goes_242 (by decide) ?_ ?_
            · refine sn_aload_n dX11_goes_248 rfl ?_
              refine sn_getA (ci := 11) (j := 1) dX11_goes_249 fl_X11_13 (by decide) (fun x249 => ?_)
              refine sn_sipush dX11_goes_252 (by decide) ?_
              refine sn_bipush dX11_goes_255 (by decide) ?_
              refine sn_iload_n dX11_goes_257 rfl ?_
              refine sn_iconst dX11_goes_258 ?_
              refine sn_iremK dX11_goes_259 (by decide) ?_
              refine sn_imul dX11_goes_260 ?_
              refine sn_iadd dX11_goes_261 ?_
              refine sn_iload_n dX11_goes_262 rfl ?_
              refine sn_iadd dX11_goes_263 ?_
              refine sn_iconst dX11_goes_264 ?_
              refine sn_iast dX11_goes_265 (fun μ265 => ?_)
              refine sn_aload_n dX11_goes_266 rfl ?_
              refine sn_getA (ci := 11) (j := 1) dX11_goes_267 fl_X11_13 (by decide) (fun x267 => ?_)
              refine sn_bipush dX11_goes_270 (by decide) ?_
              refine sn_iload dX11_goes_272 rfl ?_
              refine sn_iadd dX11_goes_274 ?_
              refine sn_dup2 dX11_goes_275 rfl rfl ?_
              refine sn_iald dX11_goes_276 (fun x276 => ?_)
              refine sn_iconst dX11_goes_277 ?_
              refine sn_iadd dX11_goes_278 ?_
              refine sn_iast dX11_goes_279 (fun μ279 => ?_)
              refine sn_aload_n dX11_goes_280 rfl ?_
              refine sn_getA (ci := 11) (j := 1) dX11_goes_281 fl_X11_13 (by decide) (fun x281 => ?_)
              refine sn_aload_n dX11_goes_284 rfl ?_
              refine sn_iload dX11_goes_285 rfl ?_
              refine sn_callVI (vs := [aI x203]) (ci := 11) (cX11_thirsts_ok n a x203 μ279) dX11_goes_287 cw_X11_197 rfl rfl rfl (by decide) (by decide) (Nat.le_of_ble_eq_true rfl) (fun p287 => ?_)
              refine sn_jn (pcj := 300) (La := fun v300 : Int => [some (aA a), some (aI v172.1), some (aI v172.2), none, some (aI x203)]) (Sa := fun v300 : Int => [aI v300, aA x281]) ?_ ?_
              · intro v300 μ300
                refine sn_iload dX11_goes_300 rfl ?_
                refine sn_iadd dX11_goes_302 ?_
                refine sn_dup2 dX11_goes_303 rfl rfl ?_
                refine sn_iald dX11_goes_304 (fun x304 => ?_)
                refine sn_iconst dX11_goes_305 ?_
                refine sn_iadd dX11_goes_306 ?_
                refine sn_iast dX11_goes_307 (fun μ307 => ?_)
                refine sn_iinc (L' := [some (aA a), some (aI (v172.1 + 1)), some (aI v172.2), none, some (aI x203)]) dX11_goes_308 rfl (by decide) rfl ?_
                refine sn_iinc (L' := [some (aA a), some (aI (v172.1 + 1)), some (aI (v172.2 + 1)), none, some (aI x203)]) dX11_goes_311 rfl (by decide) rfl ?_
                refine sn_goto (tgt := 172) dX11_goes_314 (by decide) ?_
                exact sn_mask (L' := [some (aA a), some (aI (v172.1 + 1)), some (aI (v172.2 + 1)), none, none]) [true, true, true, false, false] rfl (hnx172 ((v172.1 + 1), (v172.2 + 1)) μ307)
              intro j300 hj300
              refine sn_if_eq (tgt := 298) dX11_goes_290 (by decide) ?_ ?_
              · refine sn_bipush dX11_goes_298 (by decide) ?_
                exact sn_mask (L' := [some (aA a), some (aI v172.1), some (aI v172.2), none, some (aI x203)]) [true, true, true, false, true] rfl (hj300 66 p287.2)
              · refine sn_bipush dX11_goes_293 (by decide) ?_
                refine sn_goto (tgt := 300) dX11_goes_295 (by decide) ?_
                exact sn_mask (L' := [some (aA a), some (aI v172.1), some (aI v172.2), none, some (aI x203)]) [true, true, true, false, true] rfl (hj300 56 p287.2)
            · refine sn_goto (tgt := 311) dX11_goes_245 (by decide) ?_
              refine sn_iinc (L' := [some (aA a), some (aI v172.1), some (aI (v172.2 + 1)), some (aI (oDiv v172.2 2)), some (aI x203)]) dX11_goes_311 rfl (by decide) rfl ?_
              refine sn_goto (tgt := 172) dX11_goes_314 (by decide) ?_
              exact sn_mask (L' := [some (aA a), some (aI v172.1), some (aI (v172.2 + 1)), none, none]) [true, true, true, false, false] rfl (hnx172 (v172.1, (v172.2 + 1)) p239.2)
    · refine sn_iload_n dX11_goes_46 rfl ?_
      refine sn_iconst dX11_goes_47 ?_
      refine sn_idivK dX11_goes_48 (by decide) ?_
      refine sn_istore_n (L' := [some (aA a), some (aI v34), some (aI (oDiv v34 2)), none, none]) dX11_goes_49 (by decide) rfl ?_
      refine sn_aload_n dX11_goes_50 rfl ?_
      refine sn_getA (ci := 11) (j := 1) dX11_goes_51 fl_X11_13 (by decide) (fun x51 => ?_)
      refine sn_bipush dX11_goes_54 (by decide) ?_
      refine sn_bipush dX11_goes_56 (by decide) ?_
      refine sn_iload_n dX11_goes_58 rfl ?_
      refine sn_iconst dX11_goes_59 ?_
      refine sn_iremK dX11_goes_60 (by decide) ?_
      refine sn_imul dX11_goes_61 ?_
      refine sn_iadd dX11_goes_62 ?_
      refine sn_iload_n dX11_goes_63 rfl ?_
      refine sn_iadd dX11_goes_64 ?_
      refine sn_iald dX11_goes_65 (fun x65 => ?_)
      refine sn_istore_n (L' := [some (aA a), some (aI v34), some (aI (oDiv v34 2)), some (aI x65), none]) dX11_goes_66 (by decide) rfl ?_
      refine sn_aload_n dX11_goes_67 rfl ?_
      refine sn_iload_n dX11_goes_68 rfl ?_
      refine sn_callVI (vs := [aI (oDiv v34 2)]) (ci := 11) (cX11_hangs_ok n a (oDiv v34 2) μ34) dX11_goes_69 cw_X11_191 rfl rfl rfl (by decide) (by decide) (Nat.le_of_ble_eq_true rfl) (fun p69 => ?_)
      refine sn_if_eq (tgt := 162) dX11_goes_72 (by decide) ?_ ?_
      · refine sn_iinc (L' := [some (aA a), some (aI (v34 + 1)), some (aI (oDiv v34 2)), some (aI x65), none]) dX11_goes_162 rfl (by decide) rfl ?_
        refine sn_goto (tgt := 34) dX11_goes_165 (by decide) ?_
        exact sn_mask (L' := [some (aA a), some (aI (v34 + 1)), none, none, none]) [true, true, false, false, false] rfl (hnx34 (v34 + 1) p69.2)
      · refine sn_aload_n dX11_goes_75 rfl ?_
        refine sn_getA (ci := 11) (j := 1) dX11_goes_76 fl_X11_13 (by decide) (fun x76 => ?_)
        refine sn_sipush dX11_goes_79 (by decide) ?_
        refine sn_bipush dX11_goes_82 (by decide) ?_
        refine sn_iload_n dX11_goes_84 rfl ?_
        refine sn_iconst dX11_goes_85 ?_
        refine sn_iremK dX11_goes_86 (by decide) ?_
        refine sn_imul dX11_goes_87 ?_
        refine sn_iadd dX11_goes_88 ?_
        refine sn_iload_n dX11_goes_89 rfl ?_
        refine sn_iadd dX11_goes_90 ?_
        refine sn_iald dX11_goes_91 (fun x91 => ?_)
        refine sn_iconst dX11_goes_92 ?_
        refine sn_icmp_eq (tgt := 162) dX11_goes_93 (by decide) ?_ ?_
        · refine sn_iinc (L' := [some (aA a), some (aI (v34 + 1)), some (aI (oDiv v34 2)), some (aI x65), none]) dX11_goes_162 rfl (by decide) rfl ?_
          refine sn_goto (tgt := 34) dX11_goes_165 (by decide) ?_
          exact sn_mask (L' := [some (aA a), some (aI (v34 + 1)), none, none, none]) [true, true, false, false, false] rfl (hnx34 (v34 + 1) p69.2)
        · refine sn_aload_n dX11_goes_96 rfl ?_
          refine sn_iload_n dX11_goes_97 rfl ?_
          refine sn_iload_n dX11_goes_98 rfl ?_
          refine sn_iconst dX11_goes_99 ?_
          refine sn_iremK dX11_goes_100 (by decide) ?_
          refine sn_callVI (vs := [aI (oDiv v34 2), aI (oRem v34 2)]) (ci := 11) (cX11_depth_ok n a (oDiv v34 2) (oRem v34 2) p69.2) dX11_goes_101 cw_X11_182 rfl rfl rfl (by decide) (by decide) (Nat.le_of_ble_eq_true rfl) (fun p101 => ?_)
          refine sn_aload_n dX11_goes_104 rfl ?_
          refine sn_getA (ci := 11) (j := 1) dX11_goes_105 fl_X11_13 (by decide) (fun x105 => ?_)
          refine sn_bipush dX11_goes_108 (by decide) ?_
          refine sn_iload_n dX11_goes_110 rfl ?_
          refine sn_iadd dX11_goes_111 ?_
          refine sn_iald dX11_goes_112 (fun x112 => ?_)
          refine sn_icmp_lt (tgt := 162) dX11_goes_113 (by decide) ?_ ?_
          · refine sn_iinc (L' := [some (aA a), some (aI (v34 + 1)), some (aI (oDiv v34 2)), some (aI x65), none]) dX11_goes_162 rfl (by decide) rfl ?_
            refine sn_goto (tgt := 34) dX11_goes_165 (by decide) ?_
            exact sn_mask (L' := [some (aA a), some (aI (v34 + 1)), none, none, none]) [true, true, false, false, false] rfl (hnx34 (v34 + 1) p101.2)
          · refine sn_aload_n dX11_goes_116 rfl ?_
            refine sn_getA (ci := 11) (j := 1) dX11_goes_117 fl_X11_13 (by decide) (fun x117 => ?_)
            refine sn_bipush dX11_goes_120 (by decide) ?_
            refine sn_iload_n dX11_goes_122 rfl ?_
            refine sn_iadd dX11_goes_123 ?_
            refine sn_iald dX11_goes_124 (fun x124 => ?_)
            refine sn_if_ne (tgt := 131) dX11_goes_125 (by decide) ?_ ?_
            · refine sn_aload_n dX11_goes_131 rfl ?_
              refine sn_getA (ci := 11) (j := 1) dX11_goes_132 fl_X11_13 (by decide) (fun x132 => ?_)
              refine sn_sipush dX11_goes_135 (by decide) ?_
              refine sn_bipush dX11_goes_138 (by decide) ?_
              refine sn_iload_n dX11_goes_140 rfl ?_
              refine sn_iconst dX11_goes_141 ?_
              refine sn_iremK dX11_goes_142 (by decide) ?_
              refine sn_imul dX11_goes_143 ?_
              refine sn_iadd dX11_goes_144 ?_
              refine sn_iload_n dX11_goes_145 rfl ?_
              refine sn_iadd dX11_goes_146 ?_
              refine sn_iconst dX11_goes_147 ?_
              refine sn_iast dX11_goes_148 (fun μ148 => ?_)
              refine sn_aload_n dX11_goes_149 rfl ?_
              refine sn_getA (ci := 11) (j := 1) dX11_goes_150 fl_X11_13 (by decide) (fun x150 => ?_)
              refine sn_bipush dX11_goes_153 (by decide) ?_
              refine sn_iload_n dX11_goes_155 rfl ?_
              refine sn_iadd dX11_goes_156 ?_
              refine sn_dup2 dX11_goes_157 rfl rfl ?_
              refine sn_iald dX11_goes_158 (fun x158 => ?_)
              refine sn_iconst dX11_goes_159 ?_
              refine sn_isub dX11_goes_160 ?_
              refine sn_iast dX11_goes_161 (fun μ161 => ?_)
              refine sn_iinc (L' := [some (aA a), some (aI (v34 + 1)), some (aI (oDiv v34 2)), some (aI x65), none]) dX11_goes_162 rfl (by decide) rfl ?_
              refine sn_goto (tgt := 34) dX11_goes_165 (by decide) ?_
              exact sn_mask (L' := [some (aA a), some (aI (v34 + 1)), none, none, none]) [true, true, false, false, false] rfl (hnx34 (v34 + 1) μ161)
            · refine sn_goto (tgt := 162) dX11_goes_128 (by decide) ?_
              refine sn_iinc (L' := [some (aA a), some (aI (v34 + 1)), some (aI (oDiv v34 2)), some (aI x65), none]) dX11_goes_162 rfl (by decide) rfl ?_
              refine sn_goto (tgt := 34) dX11_goes_165 (by decide) ?_
              exact sn_mask (L' := [some (aA a), some (aI (v34 + 1)), none, none, none]) [true, true, false, false, false] rfl (hnx34 (v34 + 1) p101.2)
  · refine sn_aload_n dX11_goes_12 rfl ?_
    refine sn_getA (ci := 11) (j := 1) dX11_goes_13 fl_X11_13 (by decide) (fun x13 => ?_)
    refine sn_bipush dX11_goes_16 (by decide) ?_
    refine sn_iload_n dX11_goes_18 rfl ?_
    refine sn_iadd dX11_goes_19 ?_
    refine sn_aload_n dX11_goes_20 rfl ?_
    refine sn_iload_n dX11_goes_21 rfl ?_
    refine sn_callVI (vs := [aI v2]) (ci := 11) (cX11_depthThen_ok n a v2 μ2) dX11_goes_22 cw_X11_194 rfl rfl rfl (by decide) (by decide) (Nat.le_of_ble_eq_true rfl) (fun p22 => ?_)
    refine sn_iast dX11_goes_25 (fun μ25 => ?_)
    refine sn_iinc (L' := [some (aA a), some (aI (v2 + 1)), none, none, none]) dX11_goes_26 rfl (by decide) rfl ?_
    refine sn_goto (tgt := 2) dX11_goes_29 (by decide) ?_
    exact hnx2 (v2 + 1) μ25
theorem dX11_pullsAlone_0 : decode cX11_pullsAlone 0 = .ok (.iload_n 1, 1) := by decide +kernel
theorem dX11_pullsAlone_1 : decode cX11_pullsAlone 1 = .ok (.iload_n 2, 1) := by decide +kernel
theorem dX11_pullsAlone_2 : decode cX11_pullsAlone 2 = .ok (.if_icmp .ne 69, 3) := by decide +kernel
theorem dX11_pullsAlone_5 : decode cX11_pullsAlone 5 = .ok (.aload_n 0, 1) := by decide +kernel
theorem dX11_pullsAlone_6 : decode cX11_pullsAlone 6 = .ok (.getfield 13, 3) := by decide +kernel
theorem dX11_pullsAlone_9 : decode cX11_pullsAlone 9 = .ok (.bipush 46, 2) := by decide +kernel
theorem dX11_pullsAlone_11 : decode cX11_pullsAlone 11 = .ok (.iload_n 3, 1) := by decide +kernel
theorem dX11_pullsAlone_12 : decode cX11_pullsAlone 12 = .ok (.iadd, 1) := by decide +kernel
theorem dX11_pullsAlone_13 : decode cX11_pullsAlone 13 = .ok (.iaload, 1) := by decide +kernel
theorem dX11_pullsAlone_14 : decode cX11_pullsAlone 14 = .ok (.iload 4, 2) := by decide +kernel
theorem dX11_pullsAlone_16 : decode cX11_pullsAlone 16 = .ok (.isub, 1) := by decide +kernel
theorem dX11_pullsAlone_17 : decode cX11_pullsAlone 17 = .ok (.aload_n 0, 1) := by decide +kernel
theorem dX11_pullsAlone_18 : decode cX11_pullsAlone 18 = .ok (.getfield 332, 3) := by decide +kernel
theorem dX11_pullsAlone_21 : decode cX11_pullsAlone 21 = .ok (.if_icmp .gt 4, 3) := by decide +kernel
theorem dX11_pullsAlone_24 : decode cX11_pullsAlone 24 = .ok (.return_, 1) := by decide +kernel
theorem dX11_pullsAlone_25 : decode cX11_pullsAlone 25 = .ok (.aload_n 0, 1) := by decide +kernel
theorem dX11_pullsAlone_26 : decode cX11_pullsAlone 26 = .ok (.aload_n 0, 1) := by decide +kernel
theorem dX11_pullsAlone_27 : decode cX11_pullsAlone 27 = .ok (.getfield 13, 3) := by decide +kernel
theorem dX11_pullsAlone_30 : decode cX11_pullsAlone 30 = .ok (.bipush 46, 2) := by decide +kernel
theorem dX11_pullsAlone_32 : decode cX11_pullsAlone 32 = .ok (.iload_n 3, 1) := by decide +kernel
theorem dX11_pullsAlone_33 : decode cX11_pullsAlone 33 = .ok (.iadd, 1) := by decide +kernel
theorem dX11_pullsAlone_34 : decode cX11_pullsAlone 34 = .ok (.iaload, 1) := by decide +kernel
theorem dX11_pullsAlone_35 : decode cX11_pullsAlone 35 = .ok (.iload 4, 2) := by decide +kernel
theorem dX11_pullsAlone_37 : decode cX11_pullsAlone 37 = .ok (.isub, 1) := by decide +kernel
theorem dX11_pullsAlone_38 : decode cX11_pullsAlone 38 = .ok (.putfield 332, 3) := by decide +kernel
theorem dX11_pullsAlone_41 : decode cX11_pullsAlone 41 = .ok (.iconst 0, 1) := by decide +kernel
theorem dX11_pullsAlone_42 : decode cX11_pullsAlone 42 = .ok (.istore 5, 2) := by decide +kernel
theorem dX11_pullsAlone_44 : decode cX11_pullsAlone 44 = .ok (.iload 5, 2) := by decide +kernel
theorem dX11_pullsAlone_46 : decode cX11_pullsAlone 46 = .ok (.iload_n 2, 1) := by decide +kernel
theorem dX11_pullsAlone_47 : decode cX11_pullsAlone 47 = .ok (.if_icmp .ge 23, 3) := by decide +kernel
theorem dX11_pullsAlone_50 : decode cX11_pullsAlone 50 = .ok (.aload_n 0, 1) := by decide +kernel
theorem dX11_pullsAlone_51 : decode cX11_pullsAlone 51 = .ok (.getfield 61, 3) := by decide +kernel
theorem dX11_pullsAlone_54 : decode cX11_pullsAlone 54 = .ok (.iload 5, 2) := by decide +kernel
theorem dX11_pullsAlone_56 : decode cX11_pullsAlone 56 = .ok (.aload_n 0, 1) := by decide +kernel
theorem dX11_pullsAlone_57 : decode cX11_pullsAlone 57 = .ok (.getfield 58, 3) := by decide +kernel
theorem dX11_pullsAlone_60 : decode cX11_pullsAlone 60 = .ok (.iload 5, 2) := by decide +kernel
theorem dX11_pullsAlone_62 : decode cX11_pullsAlone 62 = .ok (.iaload, 1) := by decide +kernel
theorem dX11_pullsAlone_63 : decode cX11_pullsAlone 63 = .ok (.iastore, 1) := by decide +kernel
theorem dX11_pullsAlone_64 : decode cX11_pullsAlone 64 = .ok (.iinc 5 1, 3) := by decide +kernel
theorem dX11_pullsAlone_67 : decode cX11_pullsAlone 67 = .ok (.goto (-23), 3) := by decide +kernel
theorem dX11_pullsAlone_70 : decode cX11_pullsAlone 70 = .ok (.return_, 1) := by decide +kernel
theorem dX11_pullsAlone_71 : decode cX11_pullsAlone 71 = .ok (.iconst 0, 1) := by decide +kernel
theorem dX11_pullsAlone_72 : decode cX11_pullsAlone 72 = .ok (.istore 5, 2) := by decide +kernel
theorem dX11_pullsAlone_74 : decode cX11_pullsAlone 74 = .ok (.iload 5, 2) := by decide +kernel
theorem dX11_pullsAlone_76 : decode cX11_pullsAlone 76 = .ok (.sipush 220, 3) := by decide +kernel
theorem dX11_pullsAlone_79 : decode cX11_pullsAlone 79 = .ok (.if_icmp .ge 29, 3) := by decide +kernel
theorem dX11_pullsAlone_82 : decode cX11_pullsAlone 82 = .ok (.aload_n 0, 1) := by decide +kernel
theorem dX11_pullsAlone_83 : decode cX11_pullsAlone 83 = .ok (.getfield 64, 3) := by decide +kernel
theorem dX11_pullsAlone_86 : decode cX11_pullsAlone 86 = .ok (.sipush 220, 3) := by decide +kernel
theorem dX11_pullsAlone_89 : decode cX11_pullsAlone 89 = .ok (.iload_n 1, 1) := by decide +kernel
theorem dX11_pullsAlone_90 : decode cX11_pullsAlone 90 = .ok (.imul, 1) := by decide +kernel
theorem dX11_pullsAlone_91 : decode cX11_pullsAlone 91 = .ok (.iload 5, 2) := by decide +kernel
theorem dX11_pullsAlone_93 : decode cX11_pullsAlone 93 = .ok (.iadd, 1) := by decide +kernel
theorem dX11_pullsAlone_94 : decode cX11_pullsAlone 94 = .ok (.aload_n 0, 1) := by decide +kernel
theorem dX11_pullsAlone_95 : decode cX11_pullsAlone 95 = .ok (.getfield 13, 3) := by decide +kernel
theorem dX11_pullsAlone_98 : decode cX11_pullsAlone 98 = .ok (.iload 5, 2) := by decide +kernel
theorem dX11_pullsAlone_100 : decode cX11_pullsAlone 100 = .ok (.iaload, 1) := by decide +kernel
theorem dX11_pullsAlone_101 : decode cX11_pullsAlone 101 = .ok (.iastore, 1) := by decide +kernel
theorem dX11_pullsAlone_102 : decode cX11_pullsAlone 102 = .ok (.iinc 5 1, 3) := by decide +kernel
theorem dX11_pullsAlone_105 : decode cX11_pullsAlone 105 = .ok (.goto (-31), 3) := by decide +kernel
theorem dX11_pullsAlone_108 : decode cX11_pullsAlone 108 = .ok (.iconst (-1), 1) := by decide +kernel
theorem dX11_pullsAlone_109 : decode cX11_pullsAlone 109 = .ok (.istore 5, 2) := by decide +kernel
theorem dX11_pullsAlone_111 : decode cX11_pullsAlone 111 = .ok (.iload 5, 2) := by decide +kernel
theorem dX11_pullsAlone_113 : decode cX11_pullsAlone 113 = .ok (.aload_n 0, 1) := by decide +kernel
theorem dX11_pullsAlone_114 : decode cX11_pullsAlone 114 = .ok (.getfield 13, 3) := by decide +kernel
theorem dX11_pullsAlone_117 : decode cX11_pullsAlone 117 = .ok (.iconst 1, 1) := by decide +kernel
theorem dX11_pullsAlone_118 : decode cX11_pullsAlone 118 = .ok (.iaload, 1) := by decide +kernel
theorem dX11_pullsAlone_119 : decode cX11_pullsAlone 119 = .ok (.if_icmp .ge 110, 3) := by decide +kernel
theorem dX11_pullsAlone_122 : decode cX11_pullsAlone 122 = .ok (.iload 5, 2) := by decide +kernel
theorem dX11_pullsAlone_124 : decode cX11_pullsAlone 124 = .ok (.iconst (-1), 1) := by decide +kernel
theorem dX11_pullsAlone_125 : decode cX11_pullsAlone 125 = .ok (.if_icmp .eq 25, 3) := by decide +kernel
theorem dX11_pullsAlone_128 : decode cX11_pullsAlone 128 = .ok (.aload_n 0, 1) := by decide +kernel
theorem dX11_pullsAlone_129 : decode cX11_pullsAlone 129 = .ok (.iload_n 3, 1) := by decide +kernel
theorem dX11_pullsAlone_130 : decode cX11_pullsAlone 130 = .ok (.iload 5, 2) := by decide +kernel
theorem dX11_pullsAlone_132 : decode cX11_pullsAlone 132 = .ok (.invokevirtual 166, 3) := by decide +kernel
theorem dX11_pullsAlone_135 : decode cX11_pullsAlone 135 = .ok (.ifCond .eq 88, 3) := by decide +kernel
theorem dX11_pullsAlone_138 : decode cX11_pullsAlone 138 = .ok (.aload_n 0, 1) := by decide +kernel
theorem dX11_pullsAlone_139 : decode cX11_pullsAlone 139 = .ok (.iload 5, 2) := by decide +kernel
theorem dX11_pullsAlone_141 : decode cX11_pullsAlone 141 = .ok (.invokevirtual 191, 3) := by decide +kernel
theorem dX11_pullsAlone_144 : decode cX11_pullsAlone 144 = .ok (.ifCond .ne 6, 3) := by decide +kernel
theorem dX11_pullsAlone_147 : decode cX11_pullsAlone 147 = .ok (.goto 76, 3) := by decide +kernel
theorem dX11_pullsAlone_150 : decode cX11_pullsAlone 150 = .ok (.iconst 0, 1) := by decide +kernel
theorem dX11_pullsAlone_151 : decode cX11_pullsAlone 151 = .ok (.istore 6, 2) := by decide +kernel
theorem dX11_pullsAlone_153 : decode cX11_pullsAlone 153 = .ok (.iload 6, 2) := by decide +kernel
theorem dX11_pullsAlone_155 : decode cX11_pullsAlone 155 = .ok (.sipush 220, 3) := by decide +kernel
theorem dX11_pullsAlone_158 : decode cX11_pullsAlone 158 = .ok (.if_icmp .ge 29, 3) := by decide +kernel
theorem dX11_pullsAlone_161 : decode cX11_pullsAlone 161 = .ok (.aload_n 0, 1) := by decide +kernel
theorem dX11_pullsAlone_162 : decode cX11_pullsAlone 162 = .ok (.getfield 13, 3) := by decide +kernel
theorem dX11_pullsAlone_165 : decode cX11_pullsAlone 165 = .ok (.iload 6, 2) := by decide +kernel
theorem dX11_pullsAlone_167 : decode cX11_pullsAlone 167 = .ok (.aload_n 0, 1) := by decide +kernel
theorem dX11_pullsAlone_168 : decode cX11_pullsAlone 168 = .ok (.getfield 64, 3) := by decide +kernel
theorem dX11_pullsAlone_171 : decode cX11_pullsAlone 171 = .ok (.sipush 220, 3) := by decide +kernel
theorem dX11_pullsAlone_174 : decode cX11_pullsAlone 174 = .ok (.iload_n 1, 1) := by decide +kernel
theorem dX11_pullsAlone_175 : decode cX11_pullsAlone 175 = .ok (.imul, 1) := by decide +kernel
theorem dX11_pullsAlone_176 : decode cX11_pullsAlone 176 = .ok (.iload 6, 2) := by decide +kernel
theorem dX11_pullsAlone_178 : decode cX11_pullsAlone 178 = .ok (.iadd, 1) := by decide +kernel
theorem dX11_pullsAlone_179 : decode cX11_pullsAlone 179 = .ok (.iaload, 1) := by decide +kernel
theorem dX11_pullsAlone_180 : decode cX11_pullsAlone 180 = .ok (.iastore, 1) := by decide +kernel
theorem dX11_pullsAlone_181 : decode cX11_pullsAlone 181 = .ok (.iinc 6 1, 3) := by decide +kernel
theorem dX11_pullsAlone_184 : decode cX11_pullsAlone 184 = .ok (.goto (-31), 3) := by decide +kernel
theorem dX11_pullsAlone_187 : decode cX11_pullsAlone 187 = .ok (.aload_n 0, 1) := by decide +kernel
theorem dX11_pullsAlone_188 : decode cX11_pullsAlone 188 = .ok (.invokevirtual 200, 3) := by decide +kernel
theorem dX11_pullsAlone_191 : decode cX11_pullsAlone 191 = .ok (.aload_n 0, 1) := by decide +kernel
theorem dX11_pullsAlone_192 : decode cX11_pullsAlone 192 = .ok (.getfield 30, 3) := by decide +kernel
theorem dX11_pullsAlone_195 : decode cX11_pullsAlone 195 = .ok (.iload_n 3, 1) := by decide +kernel
theorem dX11_pullsAlone_196 : decode cX11_pullsAlone 196 = .ok (.iload 5, 2) := by decide +kernel
theorem dX11_pullsAlone_198 : decode cX11_pullsAlone 198 = .ok (.iastore, 1) := by decide +kernel
theorem dX11_pullsAlone_199 : decode cX11_pullsAlone 199 = .ok (.aload_n 0, 1) := by decide +kernel
theorem dX11_pullsAlone_200 : decode cX11_pullsAlone 200 = .ok (.getfield 58, 3) := by decide +kernel
theorem dX11_pullsAlone_203 : decode cX11_pullsAlone 203 = .ok (.iload_n 1, 1) := by decide +kernel
theorem dX11_pullsAlone_204 : decode cX11_pullsAlone 204 = .ok (.iload 5, 2) := by decide +kernel
theorem dX11_pullsAlone_206 : decode cX11_pullsAlone 206 = .ok (.iastore, 1) := by decide +kernel
theorem dX11_pullsAlone_207 : decode cX11_pullsAlone 207 = .ok (.aload_n 0, 1) := by decide +kernel
theorem dX11_pullsAlone_208 : decode cX11_pullsAlone 208 = .ok (.invokevirtual 203, 3) := by decide +kernel
theorem dX11_pullsAlone_211 : decode cX11_pullsAlone 211 = .ok (.pop, 1) := by decide +kernel
theorem dX11_pullsAlone_212 : decode cX11_pullsAlone 212 = .ok (.aload_n 0, 1) := by decide +kernel
theorem dX11_pullsAlone_213 : decode cX11_pullsAlone 213 = .ok (.iload_n 1, 1) := by decide +kernel
theorem dX11_pullsAlone_214 : decode cX11_pullsAlone 214 = .ok (.iconst 1, 1) := by decide +kernel
theorem dX11_pullsAlone_215 : decode cX11_pullsAlone 215 = .ok (.iadd, 1) := by decide +kernel
theorem dX11_pullsAlone_216 : decode cX11_pullsAlone 216 = .ok (.iload_n 2, 1) := by decide +kernel
theorem dX11_pullsAlone_217 : decode cX11_pullsAlone 217 = .ok (.iload_n 3, 1) := by decide +kernel
theorem dX11_pullsAlone_218 : decode cX11_pullsAlone 218 = .ok (.iload 4, 2) := by decide +kernel
theorem dX11_pullsAlone_220 : decode cX11_pullsAlone 220 = .ok (.invokevirtual 335, 3) := by decide +kernel
theorem dX11_pullsAlone_223 : decode cX11_pullsAlone 223 = .ok (.iinc 5 1, 3) := by decide +kernel
theorem dX11_pullsAlone_226 : decode cX11_pullsAlone 226 = .ok (.goto (-115), 3) := by decide +kernel
theorem dX11_pullsAlone_229 : decode cX11_pullsAlone 229 = .ok (.iconst 0, 1) := by decide +kernel
theorem dX11_pullsAlone_230 : decode cX11_pullsAlone 230 = .ok (.istore 5, 2) := by decide +kernel
theorem dX11_pullsAlone_232 : decode cX11_pullsAlone 232 = .ok (.iload 5, 2) := by decide +kernel
theorem dX11_pullsAlone_234 : decode cX11_pullsAlone 234 = .ok (.sipush 220, 3) := by decide +kernel
theorem dX11_pullsAlone_237 : decode cX11_pullsAlone 237 = .ok (.if_icmp .ge 29, 3) := by decide +kernel
theorem dX11_pullsAlone_240 : decode cX11_pullsAlone 240 = .ok (.aload_n 0, 1) := by decide +kernel
theorem dX11_pullsAlone_241 : decode cX11_pullsAlone 241 = .ok (.getfield 13, 3) := by decide +kernel
theorem dX11_pullsAlone_244 : decode cX11_pullsAlone 244 = .ok (.iload 5, 2) := by decide +kernel
theorem dX11_pullsAlone_246 : decode cX11_pullsAlone 246 = .ok (.aload_n 0, 1) := by decide +kernel
theorem dX11_pullsAlone_247 : decode cX11_pullsAlone 247 = .ok (.getfield 64, 3) := by decide +kernel
theorem dX11_pullsAlone_250 : decode cX11_pullsAlone 250 = .ok (.sipush 220, 3) := by decide +kernel
theorem dX11_pullsAlone_253 : decode cX11_pullsAlone 253 = .ok (.iload_n 1, 1) := by decide +kernel
theorem dX11_pullsAlone_254 : decode cX11_pullsAlone 254 = .ok (.imul, 1) := by decide +kernel
theorem dX11_pullsAlone_255 : decode cX11_pullsAlone 255 = .ok (.iload 5, 2) := by decide +kernel
theorem dX11_pullsAlone_257 : decode cX11_pullsAlone 257 = .ok (.iadd, 1) := by decide +kernel
theorem dX11_pullsAlone_258 : decode cX11_pullsAlone 258 = .ok (.iaload, 1) := by decide +kernel
theorem dX11_pullsAlone_259 : decode cX11_pullsAlone 259 = .ok (.iastore, 1) := by decide +kernel
theorem dX11_pullsAlone_260 : decode cX11_pullsAlone 260 = .ok (.iinc 5 1, 3) := by decide +kernel
theorem dX11_pullsAlone_263 : decode cX11_pullsAlone 263 = .ok (.goto (-31), 3) := by decide +kernel
theorem dX11_pullsAlone_266 : decode cX11_pullsAlone 266 = .ok (.return_, 1) := by decide +kernel
def bX11_pullsAlone (n : Nat) (self : Nat × Int × Int × Int × Int → Mem → Option (Unit × Mem)) (v : Nat × Int × Int × Int × Int) (μ : Mem) : Option (Unit × Mem) :=
  if eq32 v.2.1 v.2.2.1 then
    (gA μ 12 v.1 1).bind fun x6 =>
    (ldI μ 0 x6 (46 + v.2.2.2.1)).bind fun x13 =>
    (gI μ 12 v.1 35).bind fun x18 =>
    if lt32 x18 (x13 - v.2.2.2.2) then
      (gA μ 12 v.1 1).bind fun x27 =>
      (ldI μ 0 x27 (46 + v.2.2.2.1)).bind fun x34 =>
      (pI μ 12 v.1 35 (x34 - v.2.2.2.2)).bind fun μ38 =>
      lp (fun nx44 (v44 : Int) (μ44 : Mem) =>
      if lt32 v44 v.2.2.1 then
        (gA μ44 12 v.1 33).bind fun x51 =>
        (gA μ44 12 v.1 32).bind fun x57 =>
        (ldI μ44 0 x57 v44).bind fun x62 =>
        (stI μ44 0 x51 v44 x62).bind fun μ63 =>
        nx44 (v44 + 1) μ63
      else
      some ((), μ44)) n 0 μ38
    else
    some ((), μ)
  else
  lp (fun nx74 (v74 : Int) (μ74 : Mem) =>
  if lt32 v74 220 then
    (gA μ74 12 v.1 34).bind fun x83 =>
    (gA μ74 12 v.1 1).bind fun x95 =>
    (ldI μ74 0 x95 v74).bind fun x100 =>
    (stI μ74 0 x83 ((220 * v.2.1) + v74) x100).bind fun μ101 =>
    nx74 (v74 + 1) μ101
  else
  lp (fun nx111 (v111 : Int) (μ111 : Mem) =>
  (gA μ111 12 v.1 1).bind fun x114 =>
  (ldI μ111 0 x114 1).bind fun x118 =>
  if lt32 v111 x118 then
    jn (fun (v150 : Int) (μ150 : Mem) =>
    lp (fun nx153 (v153 : Int) (μ153 : Mem) =>
    if lt32 v153 220 then
      (gA μ153 12 v.1 1).bind fun x162 =>
      (gA μ153 12 v.1 34).bind fun x168 =>
      (ldI μ153 0 x168 ((220 * v.2.1) + v153)).bind fun x179 =>
      (stI μ153 0 x162 v153 x179).bind fun μ180 =>
      nx153 (v153 + 1) μ180
    else
    (inv μ153 12 v.1 (mX11_nobody n v.1 μ153)).bind fun p188 =>
    (gA p188.2 12 v.1 15).bind fun x192 =>
    (stI p188.2 0 x192 v.2.2.2.1 v150).bind fun μ198 =>
    (gA μ198 12 v.1 32).bind fun x200 =>
    (stI μ198 0 x200 v.2.1 v150).bind fun μ206 =>
    (inv μ206 12 v.1 (mX11_goes n v.1 μ206)).bind fun p208 =>
    (inv p208.2 12 v.1 (self (v.1, (v.2.1 + 1), v.2.2.1, v.2.2.2.1, v.2.2.2.2) p208.2)).bind fun p220 =>
    nx111 (v150 + 1) p220.2) n 0 μ150) (fun j150 =>
    if eq32 v111 (-1) then
      j150 v111 μ111
    else
    (inv μ111 12 v.1 (mX11_isEnd n v.1 v.2.2.2.1 v111 μ111)).bind fun p132 =>
    if eq32 p132.1 0 then
      nx111 (v111 + 1) p132.2
    else
    (inv p132.2 12 v.1 (mX11_hangs n v.1 v111 p132.2)).bind fun p141 =>
    if eq32 p141.1 0 then
      nx111 (v111 + 1) p141.2
    else
    j150 v111 p141.2)
  else
  lp (fun nx232 (v232 : Int) (μ232 : Mem) =>
  if lt32 v232 220 then
    (gA μ232 12 v.1 1).bind fun x241 =>
    (gA μ232 12 v.1 34).bind fun x247 =>
    (ldI μ232 0 x247 ((220 * v.2.1) + v232)).bind fun x258 =>
    (stI μ232 0 x241 v232 x258).bind fun μ259 =>
    nx232 (v232 + 1) μ259
  else
  some ((), μ232)) n 0 μ111) n (-1) μ74) n 0 μ
set_option maxRecDepth 100000 in
set_option maxHeartbeats 4000000 in
theorem bX11_pullsAlone_ok (n : Nat) (self : Nat × Int × Int × Int × Int → Mem → Option (Unit × Mem)) (fs ls : Nat) (hs : ∀ (v : Nat × Int × Int × Int × Int) (μ : Mem), Mc yX11_pullsAlone cX11_pullsAlone 7 none fs ls eV [aA v.1, aI v.2.1, aI v.2.2.1, aI v.2.2.2.1, aI v.2.2.2.2] μ (self v μ)) (v : Nat × Int × Int × Int × Int) (μ : Mem) : Mc yX11_pullsAlone cX11_pullsAlone 7 none (fs + 3) (ls + 72) eV [aA v.1, aI v.2.1, aI v.2.2.1, aI v.2.2.2.1, aI v.2.2.2.2] μ (bX11_pullsAlone n self v μ) := by
  refine mc_of (L0 := [some (aA v.1), some (aI v.2.1), some (aI v.2.2.1), some (aI v.2.2.2.1), some (aI v.2.2.2.2), none, none]) (k := 2) (by decide) rfl rfl (fun X Γ => ?_)
  unfold bX11_pullsAlone
  refine sn_iload_n dX11_pullsAlone_0 rfl ?_
  refine sn_iload_n dX11_pullsAlone_1 rfl ?_
  refine sn_icmp_ne (tgt := 71) dX11_pullsAlone_2 (by decide) ?_ ?_
  · refine sn_iconst dX11_pullsAlone_71 ?_
    refine sn_istore (L' := [some (aA v.1), some (aI v.2.1), some (aI v.2.2.1), some (aI v.2.2.2.1), some (aI v.2.2.2.2), some (aI 0), none]) dX11_pullsAlone_72 (by decide) rfl ?_
    refine sn_lp (La := fun v74 : Int => [some (aA v.1), some (aI v.2.1), some (aI v.2.2.1), some (aI v.2.2.2.1), some (aI v.2.2.2.2), some (aI v74), none]) ?_ n 0 μ
    intro nx74 hnx74 v74 μ74
    refine sn_iload dX11_pullsAlone_74 rfl ?_
    refine sn_sipush dX11_pullsAlone_76 (by decide) ?_
    refine sn_icmp_ge (tgt := 108) dX11_pullsAlone_79 (by decide) ?_ ?_
    · refine sn_iconst dX11_pullsAlone_108 ?_
      refine sn_istore (L' := [some (aA v.1), some (aI v.2.1), some (aI v.2.2.1), some (aI v.2.2.2.1), some (aI v.2.2.2.2), some (aI (-1)), none]) dX11_pullsAlone_109 (by decide) rfl ?_
      refine sn_lp (La := fun v111 : Int => [some (aA v.1), some (aI v.2.1), some (aI v.2.2.1), some (aI v.2.2.2.1), some (aI v.2.2.2.2), some (aI v111), none]) ?_ n (-1) μ74
      intro nx111 hnx111 v111 μ111
      refine sn_iload dX11_pullsAlone_111 rfl ?_
      refine sn_aload_n dX11_pullsAlone_113 rfl ?_
      refine sn_getA (ci := 11) (j := 1) dX11_pullsAlone_114 fl_X11_13 (by decide) (fun x114 => ?_)
      refine sn_iconst dX11_pullsAlone_117 ?_
      refine sn_iald dX11_pullsAlone_118 (fun x118 => ?_)
      refine sn_icmp_ge (tgt := 229) dX11_pullsAlone_119 (by decide) ?_ ?_
      · refine sn_iconst dX11_pullsAlone_229 ?_
        refine sn_istore (L' := [some (aA v.1), some (aI v.2.1), some (aI v.2.2.1), some (aI v.2.2.2.1), some (aI v.2.2.2.2), some (aI 0), none]) dX11_pullsAlone_230 (by decide) rfl ?_
        refine sn_mask (L' := [some (aA v.1), some (aI v.2.1), none, none, none, some (aI 0), none]) [true, true, false, false, false, true, false] rfl ?_
        refine sn_lp (La := fun v232 : Int => [some (aA v.1), some (aI v.2.1), none, none, none, some (aI v232), none]) ?_ n 0 μ111
        intro nx232 hnx232 v232 μ232
        refine sn_iload dX11_pullsAlone_232 rfl ?_
        refine sn_sipush dX11_pullsAlone_234 (by decide) ?_
        refine sn_icmp_ge (tgt := 266) dX11_pullsAlone_237 (by decide) ?_ ?_
        · exact sn_vret dX11_pullsAlone_266
        · refine sn_aload_n dX11_pullsAlone_240 rfl ?_
          refine sn_getA (ci := 11) (j := 1) dX11_pullsAlone_241 fl_X11_13 (by decide) (fun x241 => ?_)
          refine sn_iload dX11_pullsAlone_244 rfl ?_
          refine sn_aload_n dX11_pullsAlone_246 rfl ?_
          refine sn_getA (ci := 11) (j := 34) dX11_pullsAlone_247 fl_X11_64 (by decide) (fun x247 => ?_)
          refine sn_sipush dX11_pullsAlone_250 (by decide) ?_
          refine sn_iload_n dX11_pullsAlone_253 rfl ?_
          refine sn_imul dX11_pullsAlone_254 ?_
          refine sn_iload dX11_pullsAlone_255 rfl ?_
          refine sn_iadd dX11_pullsAlone_257 ?_
          refine sn_iald dX11_pullsAlone_258 (fun x258 => ?_)
          refine sn_iast dX11_pullsAlone_259 (fun μ259 => ?_)
          refine sn_iinc (L' := [some (aA v.1), some (aI v.2.1), none, none, none, some (aI (v232 + 1)), none]) dX11_pullsAlone_260 rfl (by decide) rfl ?_
          refine sn_goto (tgt := 232) dX11_pullsAlone_263 (by decide) ?_
          exact hnx232 (v232 + 1) μ259
      · refine sn_iload dX11_pullsAlone_122 rfl ?_
        refine sn_iconst dX11_pullsAlone_124 ?_
        refine sn_jn (pcj := 150) (La := fun v150 : Int => [some (aA v.1), some (aI v.2.1), some (aI v.2.2.1), some (aI v.2.2.2.1), some (aI v.2.2.2.2), some (aI v150), none]) (Sa := fun v150 : Int => []) ?_ ?_
        · intro v150 μ150
          refine sn_iconst dX11_pullsAlone_150 ?_
          refine sn_istore (L' := [some (aA v.1), some (aI v.2.1), some (aI v.2.2.1), some (aI v.2.2.2.1), some (aI v.2.2.2.2), some (aI v150), some (aI 0)]) dX11_pullsAlone_151 (by decide) rfl ?_
          refine sn_lp (La := fun v153 : Int => [some (aA v.1), some (aI v.2.1), some (aI v.2.2.1), some (aI v.2.2.2.1), some (aI v.2.2.2.2), some (aI v150), some (aI v153)]) ?_ n 0 μ150
          intro nx153 hnx153 v153 μ153
          refine sn_iload dX11_pullsAlone_153 rfl ?_
          refine sn_sipush dX11_pullsAlone_155 (by decide) ?_
          refine sn_icmp_ge (tgt := 187) dX11_pullsAlone_158 (by decide) ?_ ?_
          · refine sn_aload_n dX11_pullsAlone_187 rfl ?_
            refine sn_callVV (vs := []) (ci := 11) (cX11_nobody_ok n v.1 μ153) dX11_pullsAlone_188 cw_X11_200 rfl rfl rfl (by omega) (by omega) (Nat.le_of_ble_eq_true rfl) (fun p188 => ?_)
            refine sn_aload_n dX11_pullsAlone_191 rfl ?_
            refine sn_getA (ci := 11) (j := 15) dX11_pullsAlone_192 fl_X11_30 (by decide) (fun x192 => ?_)
            refine sn_iload_n dX11_pullsAlone_195 rfl ?_
            refine sn_iload dX11_pullsAlone_196 rfl ?_
            refine sn_iast dX11_pullsAlone_198 (fun μ198 => ?_)
            refine sn_aload_n dX11_pullsAlone_199 rfl ?_
            refine sn_getA (ci := 11) (j := 32) dX11_pullsAlone_200 fl_X11_58 (by decide) (fun x200 => ?_)
            refine sn_iload_n dX11_pullsAlone_203 rfl ?_
            refine sn_iload dX11_pullsAlone_204 rfl ?_
            refine sn_iast dX11_pullsAlone_206 (fun μ206 => ?_)
            refine sn_aload_n dX11_pullsAlone_207 rfl ?_
            refine sn_callVI (vs := []) (ci := 11) (cX11_goes_ok n v.1 μ206) dX11_pullsAlone_208 cw_X11_203 rfl rfl rfl (by omega) (by omega) (Nat.le_of_ble_eq_true rfl) (fun p208 => ?_)
            refine sn_pop dX11_pullsAlone_211 rfl ?_
            refine sn_aload_n dX11_pullsAlone_212 rfl ?_
            refine sn_iload_n dX11_pullsAlone_213 rfl ?_
            refine sn_iconst dX11_pullsAlone_214 ?_
            refine sn_iadd dX11_pullsAlone_215 ?_
            refine sn_iload_n dX11_pullsAlone_216 rfl ?_
            refine sn_iload_n dX11_pullsAlone_217 rfl ?_
            refine sn_iload dX11_pullsAlone_218 rfl ?_
            refine sn_callVV (vs := [aI (v.2.1 + 1), aI v.2.2.1, aI v.2.2.2.1, aI v.2.2.2.2]) (ci := 11) (hs (v.1, (v.2.1 + 1), v.2.2.1, v.2.2.2.1, v.2.2.2.2) p208.2) dX11_pullsAlone_220 cw_X11_335 rfl rfl rfl (by omega) (by omega) (Nat.le_of_ble_eq_true rfl) (fun p220 => ?_)
            refine sn_iinc (L' := [some (aA v.1), some (aI v.2.1), some (aI v.2.2.1), some (aI v.2.2.2.1), some (aI v.2.2.2.2), some (aI (v150 + 1)), some (aI v153)]) dX11_pullsAlone_223 rfl (by decide) rfl ?_
            refine sn_goto (tgt := 111) dX11_pullsAlone_226 (by decide) ?_
            exact sn_mask (L' := [some (aA v.1), some (aI v.2.1), some (aI v.2.2.1), some (aI v.2.2.2.1), some (aI v.2.2.2.2), some (aI (v150 + 1)), none]) [true, true, true, true, true, true, false] rfl (hnx111 (v150 + 1) p220.2)
          · refine sn_aload_n dX11_pullsAlone_161 rfl ?_
            refine sn_getA (ci := 11) (j := 1) dX11_pullsAlone_162 fl_X11_13 (by decide) (fun x162 => ?_)
            refine sn_iload dX11_pullsAlone_165 rfl ?_
            refine sn_aload_n dX11_pullsAlone_167 rfl ?_
            refine sn_getA (ci := 11) (j := 34) dX11_pullsAlone_168 fl_X11_64 (by decide) (fun x168 => ?_)
            refine sn_sipush dX11_pullsAlone_171 (by decide) ?_
            refine sn_iload_n dX11_pullsAlone_174 rfl ?_
            refine sn_imul dX11_pullsAlone_175 ?_
            refine sn_iload dX11_pullsAlone_176 rfl ?_
            refine sn_iadd dX11_pullsAlone_178 ?_
            refine sn_iald dX11_pullsAlone_179 (fun x179 => ?_)
            refine sn_iast dX11_pullsAlone_180 (fun μ180 => ?_)
            refine sn_iinc (L' := [some (aA v.1), some (aI v.2.1), some (aI v.2.2.1), some (aI v.2.2.2.1), some (aI v.2.2.2.2), some (aI v150), some (aI (v153 + 1))]) dX11_pullsAlone_181 rfl (by decide) rfl ?_
            refine sn_goto (tgt := 153) dX11_pullsAlone_184 (by decide) ?_
            exact hnx153 (v153 + 1) μ180
        intro j150 hj150
        refine sn_icmp_eq (tgt := 150) dX11_pullsAlone_125 (by decide) ?_ ?_
        · exact hj150 v111 μ111
        · refine sn_aload_n dX11_pullsAlone_128 rfl ?_
          refine sn_iload_n dX11_pullsAlone_129 rfl ?_
          refine sn_iload dX11_pullsAlone_130 rfl ?_
          refine sn_callVI (vs := [aI v.2.2.2.1, aI v111]) (ci := 11) (cX11_isEnd_ok n v.1 v.2.2.2.1 v111 μ111) dX11_pullsAlone_132 cw_X11_166 rfl rfl rfl (by omega) (by omega) (Nat.le_of_ble_eq_true rfl) (fun p132 => ?_)
          refine sn_if_eq (tgt := 223) dX11_pullsAlone_135 (by decide) ?_ ?_
          · refine sn_iinc (L' := [some (aA v.1), some (aI v.2.1), some (aI v.2.2.1), some (aI v.2.2.2.1), some (aI v.2.2.2.2), some (aI (v111 + 1)), none]) dX11_pullsAlone_223 rfl (by decide) rfl ?_
            refine sn_goto (tgt := 111) dX11_pullsAlone_226 (by decide) ?_
            exact hnx111 (v111 + 1) p132.2
          · refine sn_aload_n dX11_pullsAlone_138 rfl ?_
            refine sn_iload dX11_pullsAlone_139 rfl ?_
            refine sn_callVI (vs := [aI v111]) (ci := 11) (cX11_hangs_ok n v.1 v111 p132.2) dX11_pullsAlone_141 cw_X11_191 rfl rfl rfl (by omega) (by omega) (Nat.le_of_ble_eq_true rfl) (fun p141 => ?_)
            refine sn_if_ne (tgt := 150) dX11_pullsAlone_144 (by decide) ?_ ?_
            · exact hj150 v111 p141.2
            · refine sn_goto (tgt := 223) dX11_pullsAlone_147 (by decide) ?_
              refine sn_iinc (L' := [some (aA v.1), some (aI v.2.1), some (aI v.2.2.1), some (aI v.2.2.2.1), some (aI v.2.2.2.2), some (aI (v111 + 1)), none]) dX11_pullsAlone_223 rfl (by decide) rfl ?_
              refine sn_goto (tgt := 111) dX11_pullsAlone_226 (by decide) ?_
              exact hnx111 (v111 + 1) p141.2
    · refine sn_aload_n dX11_pullsAlone_82 rfl ?_
      refine sn_getA (ci := 11) (j := 34) dX11_pullsAlone_83 fl_X11_64 (by decide) (fun x83 => ?_)
      refine sn_sipush dX11_pullsAlone_86 (by decide) ?_
      refine sn_iload_n dX11_pullsAlone_89 rfl ?_
      refine sn_imul dX11_pullsAlone_90 ?_
      refine sn_iload dX11_pullsAlone_91 rfl ?_
      refine sn_iadd dX11_pullsAlone_93 ?_
      refine sn_aload_n dX11_pullsAlone_94 rfl ?_
      refine sn_getA (ci := 11) (j := 1) dX11_pullsAlone_95 fl_X11_13 (by decide) (fun x95 => ?_)
      refine sn_iload dX11_pullsAlone_98 rfl ?_
      refine sn_iald dX11_pullsAlone_100 (fun x100 => ?_)
      refine sn_iast dX11_pullsAlone_101 (fun μ101 => ?_)
      refine sn_iinc (L' := [some (aA v.1), some (aI v.2.1), some (aI v.2.2.1), some (aI v.2.2.2.1), some (aI v.2.2.2.2), some (aI (v74 + 1)), none]) dX11_pullsAlone_102 rfl (by decide) rfl ?_
      refine sn_goto (tgt := 74) dX11_pullsAlone_105 (by decide) ?_
      exact hnx74 (v74 + 1) μ101
  · refine sn_aload_n dX11_pullsAlone_5 rfl ?_
    refine sn_getA (ci := 11) (j := 1) dX11_pullsAlone_6 fl_X11_13 (by decide) (fun x6 => ?_)
    refine sn_bipush dX11_pullsAlone_9 (by decide) ?_
    refine sn_iload_n dX11_pullsAlone_11 rfl ?_
    refine sn_iadd dX11_pullsAlone_12 ?_
    refine sn_iald dX11_pullsAlone_13 (fun x13 => ?_)
    refine sn_iload dX11_pullsAlone_14 rfl ?_
    refine sn_isub dX11_pullsAlone_16 ?_
    refine sn_aload_n dX11_pullsAlone_17 rfl ?_
    refine sn_getI (ci := 11) (j := 35) dX11_pullsAlone_18 fl_X11_332 rfl (fun x18 => ?_)
    refine sn_icmp_gt (tgt := 25) dX11_pullsAlone_21 (by decide) ?_ ?_
    · refine sn_aload_n dX11_pullsAlone_25 rfl ?_
      refine sn_aload_n dX11_pullsAlone_26 rfl ?_
      refine sn_getA (ci := 11) (j := 1) dX11_pullsAlone_27 fl_X11_13 (by decide) (fun x27 => ?_)
      refine sn_bipush dX11_pullsAlone_30 (by decide) ?_
      refine sn_iload_n dX11_pullsAlone_32 rfl ?_
      refine sn_iadd dX11_pullsAlone_33 ?_
      refine sn_iald dX11_pullsAlone_34 (fun x34 => ?_)
      refine sn_iload dX11_pullsAlone_35 rfl ?_
      refine sn_isub dX11_pullsAlone_37 ?_
      refine sn_putI (ci := 11) (j := 35) dX11_pullsAlone_38 fl_X11_332 rfl (fun q h => by cases h; rfl) (fun μ38 => ?_)
      refine sn_iconst dX11_pullsAlone_41 ?_
      refine sn_istore (L' := [some (aA v.1), some (aI v.2.1), some (aI v.2.2.1), some (aI v.2.2.2.1), some (aI v.2.2.2.2), some (aI 0), none]) dX11_pullsAlone_42 (by decide) rfl ?_
      refine sn_mask (L' := [some (aA v.1), none, some (aI v.2.2.1), none, none, some (aI 0), none]) [true, false, true, false, false, true, false] rfl ?_
      refine sn_lp (La := fun v44 : Int => [some (aA v.1), none, some (aI v.2.2.1), none, none, some (aI v44), none]) ?_ n 0 μ38
      intro nx44 hnx44 v44 μ44
      refine sn_iload dX11_pullsAlone_44 rfl ?_
      refine sn_iload_n dX11_pullsAlone_46 rfl ?_
      refine sn_icmp_ge (tgt := 70) dX11_pullsAlone_47 (by decide) ?_ ?_
      · exact sn_vret dX11_pullsAlone_70
      · refine sn_aload_n dX11_pullsAlone_50 rfl ?_
        refine sn_getA (ci := 11) (j := 33) dX11_pullsAlone_51 fl_X11_61 (by decide) (fun x51 => ?_)
        refine sn_iload dX11_pullsAlone_54 rfl ?_
        refine sn_aload_n dX11_pullsAlone_56 rfl ?_
        refine sn_getA (ci := 11) (j := 32) dX11_pullsAlone_57 fl_X11_58 (by decide) (fun x57 => ?_)
        refine sn_iload dX11_pullsAlone_60 rfl ?_
        refine sn_iald dX11_pullsAlone_62 (fun x62 => ?_)
        refine sn_iast dX11_pullsAlone_63 (fun μ63 => ?_)
        refine sn_iinc (L' := [some (aA v.1), none, some (aI v.2.2.1), none, none, some (aI (v44 + 1)), none]) dX11_pullsAlone_64 rfl (by decide) rfl ?_
        refine sn_goto (tgt := 44) dX11_pullsAlone_67 (by decide) ?_
        exact hnx44 (v44 + 1) μ63
    · exact sn_vret dX11_pullsAlone_24
def rX11_pullsAlone (n : Nat) : Nat → Nat × Int × Int × Int × Int → Mem → Option (Unit × Mem) := lp (bX11_pullsAlone n)
theorem rX11_pullsAlone_ok (n : Nat) : ∀ (d : Nat) (v : Nat × Int × Int × Int × Int) (μ : Mem), Mc yX11_pullsAlone cX11_pullsAlone 7 none (3 * d) (72 * d) eV [aA v.1, aI v.2.1, aI v.2.2.1, aI v.2.2.2.1, aI v.2.2.2.2] μ (rX11_pullsAlone n d v μ)
  | 0, v, μ => fun r μ' h => by cases h
  | d + 1, v, μ => bX11_pullsAlone_ok n (rX11_pullsAlone n d) (3 * d) (72 * d) (rX11_pullsAlone_ok n d) v μ
def mX11_pullsAlone (n : Nat) (a : Nat) (b1 : Int) (b2 : Int) (b3 : Int) (b4 : Int) (μ : Mem) : Option (Unit × Mem) := rX11_pullsAlone n 12 (a, b1, b2, b3, b4) μ
theorem cX11_pullsAlone_ok (n : Nat) (a : Nat) (b1 : Int) (b2 : Int) (b3 : Int) (b4 : Int) (μ : Mem) : Mc yX11_pullsAlone cX11_pullsAlone 7 none 36 864 eV [aA a, aI b1, aI b2, aI b3, aI b4] μ (mX11_pullsAlone n a b1 b2 b3 b4 μ) := rX11_pullsAlone_ok n 12 (a, b1, b2, b3, b4) μ
