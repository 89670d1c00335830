/-! layer 1: land2 -/
theorem dX1_ropeBits_0 : decode cX1_ropeBits 0 = .ok (.iconst 0, 1) := by decide +kernel
theorem dX1_ropeBits_1 : decode cX1_ropeBits 1 = .ok (.istore_n 2, 1) := by decide +kernel
theorem dX1_ropeBits_2 : decode cX1_ropeBits 2 = .ok (.iconst 0, 1) := by decide +kernel
theorem dX1_ropeBits_3 : decode cX1_ropeBits 3 = .ok (.istore_n 3, 1) := by decide +kernel
theorem dX1_ropeBits_4 : decode cX1_ropeBits 4 = .ok (.iload_n 3, 1) := by decide +kernel
theorem dX1_ropeBits_5 : decode cX1_ropeBits 5 = .ok (.aload_n 0, 1) := by decide +kernel
theorem dX1_ropeBits_6 : decode cX1_ropeBits 6 = .ok (.getfield 59, 3) := by decide +kernel
theorem dX1_ropeBits_9 : decode cX1_ropeBits 9 = .ok (.if_icmp .ge 24, 3) := by decide +kernel
theorem dX1_ropeBits_12 : decode cX1_ropeBits 12 = .ok (.aload_n 0, 1) := by decide +kernel
theorem dX1_ropeBits_13 : decode cX1_ropeBits 13 = .ok (.iload_n 3, 1) := by decide +kernel
theorem dX1_ropeBits_14 : decode cX1_ropeBits 14 = .ok (.iload_n 1, 1) := by decide +kernel
theorem dX1_ropeBits_15 : decode cX1_ropeBits 15 = .ok (.invokevirtual 89, 3) := by decide +kernel
theorem dX1_ropeBits_18 : decode cX1_ropeBits 18 = .ok (.ifCond .eq 9, 3) := by decide +kernel
theorem dX1_ropeBits_21 : decode cX1_ropeBits 21 = .ok (.iload_n 2, 1) := by decide +kernel
theorem dX1_ropeBits_22 : decode cX1_ropeBits 22 = .ok (.iconst 1, 1) := by decide +kernel
theorem dX1_ropeBits_23 : decode cX1_ropeBits 23 = .ok (.iload_n 3, 1) := by decide +kernel
theorem dX1_ropeBits_24 : decode cX1_ropeBits 24 = .ok (.ishl, 1) := by decide +kernel
theorem dX1_ropeBits_25 : decode cX1_ropeBits 25 = .ok (.ior, 1) := by decide +kernel
theorem dX1_ropeBits_26 : decode cX1_ropeBits 26 = .ok (.istore_n 2, 1) := by decide +kernel
theorem dX1_ropeBits_27 : decode cX1_ropeBits 27 = .ok (.iinc 3 1, 3) := by decide +kernel
theorem dX1_ropeBits_30 : decode cX1_ropeBits 30 = .ok (.goto (-26), 3) := by decide +kernel
theorem dX1_ropeBits_33 : decode cX1_ropeBits 33 = .ok (.iload_n 2, 1) := by decide +kernel
theorem dX1_ropeBits_34 : decode cX1_ropeBits 34 = .ok (.ireturn, 1) := by decide +kernel
def mX1_ropeBits (n : Nat) (a : Nat) (b1 : Int) (μ : Mem) : Option (Int × Mem) :=
  lp (fun nx4 (v4 : Int × Int) (μ4 : Mem) =>
  (gI μ4 2 a 1).bind fun x6 =>
  if lt32 v4.2 x6 then
    (inv μ4 2 a (mX1_hangs n a v4.2 b1 μ4)).bind fun p15 =>
    if eq32 p15.1 0 then
      nx4 (v4.1, (v4.2 + 1)) p15.2
    else
    nx4 ((oOr v4.1 (oShl 1 v4.2)), (v4.2 + 1)) p15.2
  else
  some (v4.1, μ4)) n (0, 0) μ
set_option maxRecDepth 100000 in
set_option maxHeartbeats 4000000 in
theorem cX1_ropeBits_ok (n : Nat) (a : Nat) (b1 : Int) (μ : Mem) : Mc yX1_ropeBits cX1_ropeBits 4 (some .int) 2 43 eI [aA a, aI b1] μ (mX1_ropeBits n a b1 μ) := by
  refine mc_of (L0 := [some (aA a), some (aI b1), none, none]) (k := 2) (by decide) rfl rfl (fun X Γ => ?_)
  unfold mX1_ropeBits
  refine sn_iconst dX1_ropeBits_0 ?_
  refine sn_istore_n (L' := [some (aA a), some (aI b1), some (aI 0), none]) dX1_ropeBits_1 (by decide) rfl ?_
  refine sn_iconst dX1_ropeBits_2 ?_
  refine sn_istore_n (L' := [some (aA a), some (aI b1), some (aI 0), some (aI 0)]) dX1_ropeBits_3 (by decide) rfl ?_
  refine sn_lp (La := fun v4 : Int × Int => [some (aA a), some (aI b1), some (aI v4.1), some (aI v4.2)]) ?_ n (0, 0) μ
  intro nx4 hnx4 v4 μ4
  refine sn_iload_n dX1_ropeBits_4 rfl ?_
  refine sn_aload_n dX1_ropeBits_5 rfl ?_
  refine sn_getI (ci := 1) (j := 1) dX1_ropeBits_6 fl_X1_59 rfl (fun x6 => ?_)
  refine sn_icmp_ge (tgt := 33) dX1_ropeBits_9 (by decide) ?_ ?_
  · refine sn_iload_n dX1_ropeBits_33 rfl ?_
    exact sn_iret dX1_ropeBits_34
  · refine sn_aload_n dX1_ropeBits_12 rfl ?_
    refine sn_iload_n dX1_ropeBits_13 rfl ?_
    refine sn_iload_n dX1_ropeBits_14 rfl ?_
    refine sn_callVI (vs := [aI v4.2, aI b1]) (ci := 1) (cX1_hangs_ok n a v4.2 b1 μ4) dX1_ropeBits_15 cw_X1_89 rfl rfl rfl (by decide) (by decide) (Nat.le_of_ble_eq_true rfl) (fun p15 => ?_)
    refine sn_if_eq (tgt := 27) dX1_ropeBits_18 (by decide) ?_ ?_
    · refine sn_iinc (L' := [some (aA a), some (aI b1), some (aI v4.1), some (aI (v4.2 + 1))]) dX1_ropeBits_27 rfl (by decide) rfl ?_
      refine sn_goto (tgt := 4) dX1_ropeBits_30 (by decide) ?_
      exact hnx4 (v4.1, (v4.2 + 1)) p15.2
    · refine sn_iload_n dX1_ropeBits_21 rfl ?_
      refine sn_iconst dX1_ropeBits_22 ?_
      refine sn_iload_n dX1_ropeBits_23 rfl ?_
      refine sn_ishl dX1_ropeBits_24 ?_
      refine sn_ior dX1_ropeBits_25 ?_
      refine sn_istore_n (L' := [some (aA a), some (aI b1), some (aI (oOr v4.1 (oShl 1 v4.2))), some (aI v4.2)]) dX1_ropeBits_26 (by decide) rfl ?_
      refine sn_iinc (L' := [some (aA a), some (aI b1), some (aI (oOr v4.1 (oShl 1 v4.2))), some (aI (v4.2 + 1))]) dX1_ropeBits_27 rfl (by decide) rfl ?_
      refine sn_goto (tgt := 4) dX1_ropeBits_30 (by decide) ?_
      exact hnx4 ((oOr v4.1 (oShl 1 v4.2)), (v4.2 + 1)) p15.2
theorem dX1_init_0 : decode cX1_init 0 = .ok (.aload_n 0, 1) := by decide +kernel
theorem dX1_init_1 : decode cX1_init 1 = .ok (.invokespecial 3, 3) := by decide +kernel
theorem dX1_init_4 : decode cX1_init 4 = .ok (.aload_n 0, 1) := by decide +kernel
theorem dX1_init_5 : decode cX1_init 5 = .ok (.bipush 10, 2) := by decide +kernel
theorem dX1_init_7 : decode cX1_init 7 = .ok (.newarray .int, 2) := by decide +kernel
theorem dX1_init_9 : decode cX1_init 9 = .ok (.putfield 9, 3) := by decide +kernel
theorem dX1_init_12 : decode cX1_init 12 = .ok (.aload_n 0, 1) := by decide +kernel
theorem dX1_init_13 : decode cX1_init 13 = .ok (.bipush 10, 2) := by decide +kernel
theorem dX1_init_15 : decode cX1_init 15 = .ok (.newarray .int, 2) := by decide +kernel
theorem dX1_init_17 : decode cX1_init 17 = .ok (.putfield 15, 3) := by decide +kernel
theorem dX1_init_20 : decode cX1_init 20 = .ok (.aload_n 0, 1) := by decide +kernel
theorem dX1_init_21 : decode cX1_init 21 = .ok (.bipush 10, 2) := by decide +kernel
theorem dX1_init_23 : decode cX1_init 23 = .ok (.newarray .int, 2) := by decide +kernel
theorem dX1_init_25 : decode cX1_init 25 = .ok (.putfield 18, 3) := by decide +kernel
theorem dX1_init_28 : decode cX1_init 28 = .ok (.aload_n 0, 1) := by decide +kernel
theorem dX1_init_29 : decode cX1_init 29 = .ok (.bipush 10, 2) := by decide +kernel
theorem dX1_init_31 : decode cX1_init 31 = .ok (.newarray .int, 2) := by decide +kernel
theorem dX1_init_33 : decode cX1_init 33 = .ok (.putfield 21, 3) := by decide +kernel
theorem dX1_init_36 : decode cX1_init 36 = .ok (.aload_n 0, 1) := by decide +kernel
theorem dX1_init_37 : decode cX1_init 37 = .ok (.bipush 10, 2) := by decide +kernel
theorem dX1_init_39 : decode cX1_init 39 = .ok (.newarray .int, 2) := by decide +kernel
theorem dX1_init_41 : decode cX1_init 41 = .ok (.putfield 24, 3) := by decide +kernel
theorem dX1_init_44 : decode cX1_init 44 = .ok (.aload_n 0, 1) := by decide +kernel
theorem dX1_init_45 : decode cX1_init 45 = .ok (.bipush 10, 2) := by decide +kernel
theorem dX1_init_47 : decode cX1_init 47 = .ok (.newarray .int, 2) := by decide +kernel
theorem dX1_init_49 : decode cX1_init 49 = .ok (.putfield 27, 3) := by decide +kernel
theorem dX1_init_52 : decode cX1_init 52 = .ok (.aload_n 0, 1) := by decide +kernel
theorem dX1_init_53 : decode cX1_init 53 = .ok (.bipush 16, 2) := by decide +kernel
theorem dX1_init_55 : decode cX1_init 55 = .ok (.newarray .int, 2) := by decide +kernel
theorem dX1_init_57 : decode cX1_init 57 = .ok (.putfield 30, 3) := by decide +kernel
theorem dX1_init_60 : decode cX1_init 60 = .ok (.aload_n 0, 1) := by decide +kernel
theorem dX1_init_61 : decode cX1_init 61 = .ok (.bipush 16, 2) := by decide +kernel
theorem dX1_init_63 : decode cX1_init 63 = .ok (.newarray .int, 2) := by decide +kernel
theorem dX1_init_65 : decode cX1_init 65 = .ok (.putfield 33, 3) := by decide +kernel
theorem dX1_init_68 : decode cX1_init 68 = .ok (.aload_n 0, 1) := by decide +kernel
theorem dX1_init_69 : decode cX1_init 69 = .ok (.bipush 16, 2) := by decide +kernel
theorem dX1_init_71 : decode cX1_init 71 = .ok (.newarray .boolean, 2) := by decide +kernel
theorem dX1_init_73 : decode cX1_init 73 = .ok (.putfield 36, 3) := by decide +kernel
theorem dX1_init_76 : decode cX1_init 76 = .ok (.aload_n 0, 1) := by decide +kernel
theorem dX1_init_77 : decode cX1_init 77 = .ok (.bipush 32, 2) := by decide +kernel
theorem dX1_init_79 : decode cX1_init 79 = .ok (.newarray .int, 2) := by decide +kernel
theorem dX1_init_81 : decode cX1_init 81 = .ok (.putfield 40, 3) := by decide +kernel
theorem dX1_init_84 : decode cX1_init 84 = .ok (.aload_n 0, 1) := by decide +kernel
theorem dX1_init_85 : decode cX1_init 85 = .ok (.bipush 32, 2) := by decide +kernel
theorem dX1_init_87 : decode cX1_init 87 = .ok (.newarray .int, 2) := by decide +kernel
theorem dX1_init_89 : decode cX1_init 89 = .ok (.putfield 43, 3) := by decide +kernel
theorem dX1_init_92 : decode cX1_init 92 = .ok (.aload_n 0, 1) := by decide +kernel
theorem dX1_init_93 : decode cX1_init 93 = .ok (.bipush 32, 2) := by decide +kernel
theorem dX1_init_95 : decode cX1_init 95 = .ok (.newarray .boolean, 2) := by decide +kernel
theorem dX1_init_97 : decode cX1_init 97 = .ok (.putfield 46, 3) := by decide +kernel
theorem dX1_init_100 : decode cX1_init 100 = .ok (.aload_n 0, 1) := by decide +kernel
theorem dX1_init_101 : decode cX1_init 101 = .ok (.iconst 5, 1) := by decide +kernel
theorem dX1_init_102 : decode cX1_init 102 = .ok (.putfield 49, 3) := by decide +kernel
theorem dX1_init_105 : decode cX1_init 105 = .ok (.aload_n 0, 1) := by decide +kernel
theorem dX1_init_106 : decode cX1_init 106 = .ok (.bipush 8, 2) := by decide +kernel
theorem dX1_init_108 : decode cX1_init 108 = .ok (.putfield 53, 3) := by decide +kernel
theorem dX1_init_111 : decode cX1_init 111 = .ok (.return_, 1) := by decide +kernel
def mX1_init (n : Nat) (a : Nat) (μ : Mem) : Option (Unit × Mem) :=
  inv μ 2 a
  ((nwA μ 0 10).bind fun p7 =>
  (pA p7.2 2 a 6 p7.1).bind fun μ9 =>
  (nwA μ9 0 10).bind fun p15 =>
  (pA p15.2 2 a 7 p15.1).bind fun μ17 =>
  (nwA μ17 0 10).bind fun p23 =>
  (pA p23.2 2 a 8 p23.1).bind fun μ25 =>
  (nwA μ25 0 10).bind fun p31 =>
  (pA p31.2 2 a 9 p31.1).bind fun μ33 =>
  (nwA μ33 0 10).bind fun p39 =>
  (pA p39.2 2 a 10 p39.1).bind fun μ41 =>
  (nwA μ41 0 10).bind fun p47 =>
  (pA p47.2 2 a 11 p47.1).bind fun μ49 =>
  (nwA μ49 0 16).bind fun p55 =>
  (pA p55.2 2 a 12 p55.1).bind fun μ57 =>
  (nwA μ57 0 16).bind fun p63 =>
  (pA p63.2 2 a 13 p63.1).bind fun μ65 =>
  (nwA μ65 2 16).bind fun p71 =>
  (pA p71.2 2 a 14 p71.1).bind fun μ73 =>
  (nwA μ73 0 32).bind fun p79 =>
  (pA p79.2 2 a 15 p79.1).bind fun μ81 =>
  (nwA μ81 0 32).bind fun p87 =>
  (pA p87.2 2 a 16 p87.1).bind fun μ89 =>
  (nwA μ89 2 32).bind fun p95 =>
  (pA p95.2 2 a 17 p95.1).bind fun μ97 =>
  (pI μ97 2 a 3 5).bind fun μ102 =>
  (pI μ102 2 a 4 8).bind fun μ108 =>
  some ((), μ108))
set_option maxRecDepth 100000 in
set_option maxHeartbeats 4000000 in
theorem cX1_init_ok (n : Nat) (a : Nat) (μ : Mem) : Mc yX1_init cX1_init 1 none 1 20 eV [aA a] μ (mX1_init n a μ) := by
  refine mc_of (L0 := [some (aA a)]) (k := 0) (by decide) rfl rfl (fun X Γ => ?_)
  unfold mX1_init
  refine sn_aload_n dX1_init_0 rfl ?_
  refine sn_objInit (ci := 1) dX1_init_1 (by decide) ml_X1_3 im_obj co_obj (by decide) (by decide) (Nat.le_of_ble_eq_true rfl) ?_
  refine sn_aload_n dX1_init_4 rfl ?_
  refine sn_bipush dX1_init_5 (by decide) ?_
  refine sn_newa (t := 0) dX1_init_7 (by decide) rfl ac_0 (fun p7 => ?_)
  refine sn_putA (ci := 1) (j := 6) dX1_init_9 fl_X1_9 (Or.inr ⟨_, rfl⟩) (Or.inr ⟨rfl, fun q h => by cases h; exact ⟨rfl, rfl⟩⟩) (fun μ9 => ?_)
  refine sn_aload_n dX1_init_12 rfl ?_
  refine sn_bipush dX1_init_13 (by decide) ?_
  refine sn_newa (t := 0) dX1_init_15 (by decide) rfl ac_0 (fun p15 => ?_)
  refine sn_putA (ci := 1) (j := 7) dX1_init_17 fl_X1_15 (Or.inr ⟨_, rfl⟩) (Or.inr ⟨rfl, fun q h => by cases h; exact ⟨rfl, rfl⟩⟩) (fun μ17 => ?_)
  refine sn_aload_n dX1_init_20 rfl ?_
  refine sn_bipush dX1_init_21 (by decide) ?_
  refine sn_newa (t := 0) dX1_init_23 (by decide) rfl ac_0 (fun p23 => ?_)
  refine sn_putA (ci := 1) (j := 8) dX1_init_25 fl_X1_18 (Or.inr ⟨_, rfl⟩) (Or.inr ⟨rfl, fun q h => by cases h; exact ⟨rfl, rfl⟩⟩) (fun μ25 => ?_)
  refine sn_aload_n dX1_init_28 rfl ?_
  refine sn_bipush dX1_init_29 (by decide) ?_
  refine sn_newa (t := 0) dX1_init_31 (by decide) rfl ac_0 (fun p31 => ?_)
  refine sn_putA (ci := 1) (j := 9) dX1_init_33 fl_X1_21 (Or.inr ⟨_, rfl⟩) (Or.inr ⟨rfl, fun q h => by cases h; exact ⟨rfl, rfl⟩⟩) (fun μ33 => ?_)
  refine sn_aload_n dX1_init_36 rfl ?_
  refine sn_bipush dX1_init_37 (by decide) ?_
  refine sn_newa (t := 0) dX1_init_39 (by decide) rfl ac_0 (fun p39 => ?_)
  refine sn_putA (ci := 1) (j := 10) dX1_init_41 fl_X1_24 (Or.inr ⟨_, rfl⟩) (Or.inr ⟨rfl, fun q h => by cases h; exact ⟨rfl, rfl⟩⟩) (fun μ41 => ?_)
  refine sn_aload_n dX1_init_44 rfl ?_
  refine sn_bipush dX1_init_45 (by decide) ?_
  refine sn_newa (t := 0) dX1_init_47 (by decide) rfl ac_0 (fun p47 => ?_)
  refine sn_putA (ci := 1) (j := 11) dX1_init_49 fl_X1_27 (Or.inr ⟨_, rfl⟩) (Or.inr ⟨rfl, fun q h => by cases h; exact ⟨rfl, rfl⟩⟩) (fun μ49 => ?_)
  refine sn_aload_n dX1_init_52 rfl ?_
  refine sn_bipush dX1_init_53 (by decide) ?_
  refine sn_newa (t := 0) dX1_init_55 (by decide) rfl ac_0 (fun p55 => ?_)
  refine sn_putA (ci := 1) (j := 12) dX1_init_57 fl_X1_30 (Or.inr ⟨_, rfl⟩) (Or.inr ⟨rfl, fun q h => by cases h; exact ⟨rfl, rfl⟩⟩) (fun μ57 => ?_)
  refine sn_aload_n dX1_init_60 rfl ?_
  refine sn_bipush dX1_init_61 (by decide) ?_
  refine sn_newa (t := 0) dX1_init_63 (by decide) rfl ac_0 (fun p63 => ?_)
  refine sn_putA (ci := 1) (j := 13) dX1_init_65 fl_X1_33 (Or.inr ⟨_, rfl⟩) (Or.inr ⟨rfl, fun q h => by cases h; exact ⟨rfl, rfl⟩⟩) (fun μ65 => ?_)
  refine sn_aload_n dX1_init_68 rfl ?_
  refine sn_bipush dX1_init_69 (by decide) ?_
  refine sn_newa (t := 2) dX1_init_71 (by decide) rfl ac_2 (fun p71 => ?_)
  refine sn_putA (ci := 1) (j := 14) dX1_init_73 fl_X1_36 (Or.inr ⟨_, rfl⟩) (Or.inr ⟨rfl, fun q h => by cases h; exact ⟨rfl, rfl⟩⟩) (fun μ73 => ?_)
  refine sn_aload_n dX1_init_76 rfl ?_
  refine sn_bipush dX1_init_77 (by decide) ?_
  refine sn_newa (t := 0) dX1_init_79 (by decide) rfl ac_0 (fun p79 => ?_)
  refine sn_putA (ci := 1) (j := 15) dX1_init_81 fl_X1_40 (Or.inr ⟨_, rfl⟩) (Or.inr ⟨rfl, fun q h => by cases h; exact ⟨rfl, rfl⟩⟩) (fun μ81 => ?_)
  refine sn_aload_n dX1_init_84 rfl ?_
  refine sn_bipush dX1_init_85 (by decide) ?_
  refine sn_newa (t := 0) dX1_init_87 (by decide) rfl ac_0 (fun p87 => ?_)
  refine sn_putA (ci := 1) (j := 16) dX1_init_89 fl_X1_43 (Or.inr ⟨_, rfl⟩) (Or.inr ⟨rfl, fun q h => by cases h; exact ⟨rfl, rfl⟩⟩) (fun μ89 => ?_)
  refine sn_aload_n dX1_init_92 rfl ?_
  refine sn_bipush dX1_init_93 (by decide) ?_
  refine sn_newa (t := 2) dX1_init_95 (by decide) rfl ac_2 (fun p95 => ?_)
  refine sn_putA (ci := 1) (j := 17) dX1_init_97 fl_X1_46 (Or.inr ⟨_, rfl⟩) (Or.inr ⟨rfl, fun q h => by cases h; exact ⟨rfl, rfl⟩⟩) (fun μ97 => ?_)
  refine sn_aload_n dX1_init_100 rfl ?_
  refine sn_iconst dX1_init_101 ?_
  refine sn_putI (ci := 1) (j := 3) dX1_init_102 fl_X1_49 rfl (fun q h => by cases h; rfl) (fun μ102 => ?_)
  refine sn_aload_n dX1_init_105 rfl ?_
  refine sn_bipush dX1_init_106 (by decide) ?_
  refine sn_putI (ci := 1) (j := 4) dX1_init_108 fl_X1_53 rfl (fun q h => by cases h; rfl) (fun μ108 => ?_)
  exact sn_vret dX1_init_111
theorem dX1_begin_0 : decode cX1_begin 0 = .ok (.aload_n 0, 1) := by decide +kernel
theorem dX1_begin_1 : decode cX1_begin 1 = .ok (.iconst 0, 1) := by decide +kernel
theorem dX1_begin_2 : decode cX1_begin 2 = .ok (.putfield 56, 3) := by decide +kernel
theorem dX1_begin_5 : decode cX1_begin 5 = .ok (.aload_n 0, 1) := by decide +kernel
theorem dX1_begin_6 : decode cX1_begin 6 = .ok (.iconst 0, 1) := by decide +kernel
theorem dX1_begin_7 : decode cX1_begin 7 = .ok (.putfield 59, 3) := by decide +kernel
theorem dX1_begin_10 : decode cX1_begin 10 = .ok (.aload_n 0, 1) := by decide +kernel
theorem dX1_begin_11 : decode cX1_begin 11 = .ok (.iconst 0, 1) := by decide +kernel
theorem dX1_begin_12 : decode cX1_begin 12 = .ok (.putfield 62, 3) := by decide +kernel
theorem dX1_begin_15 : decode cX1_begin 15 = .ok (.aload_n 0, 1) := by decide +kernel
theorem dX1_begin_16 : decode cX1_begin 16 = .ok (.iconst 5, 1) := by decide +kernel
theorem dX1_begin_17 : decode cX1_begin 17 = .ok (.putfield 49, 3) := by decide +kernel
theorem dX1_begin_20 : decode cX1_begin 20 = .ok (.aload_n 0, 1) := by decide +kernel
theorem dX1_begin_21 : decode cX1_begin 21 = .ok (.bipush 8, 2) := by decide +kernel
theorem dX1_begin_23 : decode cX1_begin 23 = .ok (.putfield 53, 3) := by decide +kernel
theorem dX1_begin_26 : decode cX1_begin 26 = .ok (.aload_n 0, 1) := by decide +kernel
theorem dX1_begin_27 : decode cX1_begin 27 = .ok (.iconst 0, 1) := by decide +kernel
theorem dX1_begin_28 : decode cX1_begin 28 = .ok (.putfield 65, 3) := by decide +kernel
theorem dX1_begin_31 : decode cX1_begin 31 = .ok (.return_, 1) := by decide +kernel
def mX1_begin (n : Nat) (a : Nat) (μ : Mem) : Option (Unit × Mem) :=
  (pI μ 2 a 0 0).bind fun μ2 =>
  (pI μ2 2 a 1 0).bind fun μ7 =>
  (pI μ7 2 a 2 0).bind fun μ12 =>
  (pI μ12 2 a 3 5).bind fun μ17 =>
  (pI μ17 2 a 4 8).bind fun μ23 =>
  (pI μ23 2 a 5 0).bind fun μ28 =>
  some ((), μ28)
set_option maxRecDepth 100000 in
set_option maxHeartbeats 4000000 in
theorem cX1_begin_ok (n : Nat) (a : Nat) (μ : Mem) : Mc yX1_begin cX1_begin 1 none 0 0 eV [aA a] μ (mX1_begin n a μ) := by
  refine mc_of (L0 := [some (aA a)]) (k := 0) (by decide) rfl rfl (fun X Γ => ?_)
  unfold mX1_begin
  refine sn_aload_n dX1_begin_0 rfl ?_
  refine sn_iconst dX1_begin_1 ?_
  refine sn_putI (ci := 1) (j := 0) dX1_begin_2 fl_X1_56 rfl (fun q h => by cases h; rfl) (fun μ2 => ?_)
  refine sn_aload_n dX1_begin_5 rfl ?_
  refine sn_iconst dX1_begin_6 ?_
  refine sn_putI (ci := 1) (j := 1) dX1_begin_7 fl_X1_59 rfl (fun q h => by cases h; rfl) (fun μ7 => ?_)
  refine sn_aload_n dX1_begin_10 rfl ?_
  refine sn_iconst dX1_begin_11 ?_
  refine sn_putI (ci := 1) (j := 2) dX1_begin_12 fl_X1_62 rfl (fun q h => by cases h; rfl) (fun μ12 => ?_)
  refine sn_aload_n dX1_begin_15 rfl ?_
  refine sn_iconst dX1_begin_16 ?_
  refine sn_putI (ci := 1) (j := 3) dX1_begin_17 fl_X1_49 rfl (fun q h => by cases h; rfl) (fun μ17 => ?_)
  refine sn_aload_n dX1_begin_20 rfl ?_
  refine sn_bipush dX1_begin_21 (by decide) ?_
  refine sn_putI (ci := 1) (j := 4) dX1_begin_23 fl_X1_53 rfl (fun q h => by cases h; rfl) (fun μ23 => ?_)
  refine sn_aload_n dX1_begin_26 rfl ?_
  refine sn_iconst dX1_begin_27 ?_
  refine sn_putI (ci := 1) (j := 5) dX1_begin_28 fl_X1_65 rfl (fun q h => by cases h; rfl) (fun μ28 => ?_)
  exact sn_vret dX1_begin_31
theorem dX1_addHouse_0 : decode cX1_addHouse 0 = .ok (.aload_n 0, 1) := by decide +kernel
theorem dX1_addHouse_1 : decode cX1_addHouse 1 = .ok (.getfield 56, 3) := by decide +kernel
theorem dX1_addHouse_4 : decode cX1_addHouse 4 = .ok (.bipush 10, 2) := by decide +kernel
theorem dX1_addHouse_6 : decode cX1_addHouse 6 = .ok (.if_icmp .ge 74, 3) := by decide +kernel
theorem dX1_addHouse_9 : decode cX1_addHouse 9 = .ok (.aload_n 0, 1) := by decide +kernel
theorem dX1_addHouse_10 : decode cX1_addHouse 10 = .ok (.getfield 9, 3) := by decide +kernel
theorem dX1_addHouse_13 : decode cX1_addHouse 13 = .ok (.aload_n 0, 1) := by decide +kernel
theorem dX1_addHouse_14 : decode cX1_addHouse 14 = .ok (.getfield 56, 3) := by decide +kernel
theorem dX1_addHouse_17 : decode cX1_addHouse 17 = .ok (.iload_n 1, 1) := by decide +kernel
theorem dX1_addHouse_18 : decode cX1_addHouse 18 = .ok (.iastore, 1) := by decide +kernel
theorem dX1_addHouse_19 : decode cX1_addHouse 19 = .ok (.aload_n 0, 1) := by decide +kernel
theorem dX1_addHouse_20 : decode cX1_addHouse 20 = .ok (.getfield 15, 3) := by decide +kernel
theorem dX1_addHouse_23 : decode cX1_addHouse 23 = .ok (.aload_n 0, 1) := by decide +kernel
theorem dX1_addHouse_24 : decode cX1_addHouse 24 = .ok (.getfield 56, 3) := by decide +kernel
theorem dX1_addHouse_27 : decode cX1_addHouse 27 = .ok (.iconst 3, 1) := by decide +kernel
theorem dX1_addHouse_28 : decode cX1_addHouse 28 = .ok (.iastore, 1) := by decide +kernel
theorem dX1_addHouse_29 : decode cX1_addHouse 29 = .ok (.aload_n 0, 1) := by decide +kernel
theorem dX1_addHouse_30 : decode cX1_addHouse 30 = .ok (.getfield 18, 3) := by decide +kernel
theorem dX1_addHouse_33 : decode cX1_addHouse 33 = .ok (.aload_n 0, 1) := by decide +kernel
theorem dX1_addHouse_34 : decode cX1_addHouse 34 = .ok (.getfield 56, 3) := by decide +kernel
theorem dX1_addHouse_37 : decode cX1_addHouse 37 = .ok (.bipush 9, 2) := by decide +kernel
theorem dX1_addHouse_39 : decode cX1_addHouse 39 = .ok (.iastore, 1) := by decide +kernel
theorem dX1_addHouse_40 : decode cX1_addHouse 40 = .ok (.aload_n 0, 1) := by decide +kernel
theorem dX1_addHouse_41 : decode cX1_addHouse 41 = .ok (.getfield 21, 3) := by decide +kernel
theorem dX1_addHouse_44 : decode cX1_addHouse 44 = .ok (.aload_n 0, 1) := by decide +kernel
theorem dX1_addHouse_45 : decode cX1_addHouse 45 = .ok (.getfield 56, 3) := by decide +kernel
theorem dX1_addHouse_48 : decode cX1_addHouse 48 = .ok (.iconst 0, 1) := by decide +kernel
theorem dX1_addHouse_49 : decode cX1_addHouse 49 = .ok (.iastore, 1) := by decide +kernel
theorem dX1_addHouse_50 : decode cX1_addHouse 50 = .ok (.aload_n 0, 1) := by decide +kernel
theorem dX1_addHouse_51 : decode cX1_addHouse 51 = .ok (.getfield 24, 3) := by decide +kernel
theorem dX1_addHouse_54 : decode cX1_addHouse 54 = .ok (.aload_n 0, 1) := by decide +kernel
theorem dX1_addHouse_55 : decode cX1_addHouse 55 = .ok (.getfield 56, 3) := by decide +kernel
theorem dX1_addHouse_58 : decode cX1_addHouse 58 = .ok (.iconst 0, 1) := by decide +kernel
theorem dX1_addHouse_59 : decode cX1_addHouse 59 = .ok (.iastore, 1) := by decide +kernel
theorem dX1_addHouse_60 : decode cX1_addHouse 60 = .ok (.aload_n 0, 1) := by decide +kernel
theorem dX1_addHouse_61 : decode cX1_addHouse 61 = .ok (.getfield 27, 3) := by decide +kernel
theorem dX1_addHouse_64 : decode cX1_addHouse 64 = .ok (.aload_n 0, 1) := by decide +kernel
theorem dX1_addHouse_65 : decode cX1_addHouse 65 = .ok (.getfield 56, 3) := by decide +kernel
theorem dX1_addHouse_68 : decode cX1_addHouse 68 = .ok (.iconst 0, 1) := by decide +kernel
theorem dX1_addHouse_69 : decode cX1_addHouse 69 = .ok (.iastore, 1) := by decide +kernel
theorem dX1_addHouse_70 : decode cX1_addHouse 70 = .ok (.aload_n 0, 1) := by decide +kernel
theorem dX1_addHouse_71 : decode cX1_addHouse 71 = .ok (.dup, 1) := by decide +kernel
theorem dX1_addHouse_72 : decode cX1_addHouse 72 = .ok (.getfield 56, 3) := by decide +kernel
theorem dX1_addHouse_75 : decode cX1_addHouse 75 = .ok (.iconst 1, 1) := by decide +kernel
theorem dX1_addHouse_76 : decode cX1_addHouse 76 = .ok (.iadd, 1) := by decide +kernel
theorem dX1_addHouse_77 : decode cX1_addHouse 77 = .ok (.putfield 56, 3) := by decide +kernel
theorem dX1_addHouse_80 : decode cX1_addHouse 80 = .ok (.return_, 1) := by decide +kernel
def mX1_addHouse (n : Nat) (a : Nat) (b1 : Int) (μ : Mem) : Option (Unit × Mem) :=
  (gI μ 2 a 0).bind fun x1 =>
  if lt32 x1 10 then
    (gA μ 2 a 6).bind fun x10 =>
    (gI μ 2 a 0).bind fun x14 =>
    (stI μ 0 x10 x14 b1).bind fun μ18 =>
    (gA μ18 2 a 7).bind fun x20 =>
    (gI μ18 2 a 0).bind fun x24 =>
    (stI μ18 0 x20 x24 3).bind fun μ28 =>
    (gA μ28 2 a 8).bind fun x30 =>
    (gI μ28 2 a 0).bind fun x34 =>
    (stI μ28 0 x30 x34 9).bind fun μ39 =>
    (gA μ39 2 a 9).bind fun x41 =>
    (gI μ39 2 a 0).bind fun x45 =>
    (stI μ39 0 x41 x45 0).bind fun μ49 =>
    (gA μ49 2 a 10).bind fun x51 =>
    (gI μ49 2 a 0).bind fun x55 =>
    (stI μ49 0 x51 x55 0).bind fun μ59 =>
    (gA μ59 2 a 11).bind fun x61 =>
    (gI μ59 2 a 0).bind fun x65 =>
    (stI μ59 0 x61 x65 0).bind fun μ69 =>
    (gI μ69 2 a 0).bind fun x72 =>
    (pI μ69 2 a 0 (x72 + 1)).bind fun μ77 =>
    some ((), μ77)
  else
  some ((), μ)
set_option maxRecDepth 100000 in
set_option maxHeartbeats 4000000 in
theorem cX1_addHouse_ok (n : Nat) (a : Nat) (b1 : Int) (μ : Mem) : Mc yX1_addHouse cX1_addHouse 2 none 0 0 eV [aA a, aI b1] μ (mX1_addHouse n a b1 μ) := by
  refine mc_of (L0 := [some (aA a), some (aI b1)]) (k := 0) (by decide) rfl rfl (fun X Γ => ?_)
  unfold mX1_addHouse
  refine sn_aload_n dX1_addHouse_0 rfl ?_
  refine sn_getI (ci := 1) (j := 0) dX1_addHouse_1 fl_X1_56 rfl (fun x1 => ?_)
  refine sn_bipush dX1_addHouse_4 (by decide) ?_
  refine sn_icmp_ge (tgt := 80) dX1_addHouse_6 (by decide) ?_ ?_
  · exact sn_vret dX1_addHouse_80
  · refine sn_aload_n dX1_addHouse_9 rfl ?_
    refine sn_getA (ci := 1) (j := 6) dX1_addHouse_10 fl_X1_9 (by decide) (fun x10 => ?_)
    refine sn_aload_n dX1_addHouse_13 rfl ?_
    refine sn_getI (ci := 1) (j := 0) dX1_addHouse_14 fl_X1_56 rfl (fun x14 => ?_)
    refine sn_iload_n dX1_addHouse_17 rfl ?_
    refine sn_iast dX1_addHouse_18 (fun μ18 => ?_)
    refine sn_aload_n dX1_addHouse_19 rfl ?_
    refine sn_getA (ci := 1) (j := 7) dX1_addHouse_20 fl_X1_15 (by decide) (fun x20 => ?_)
    refine sn_aload_n dX1_addHouse_23 rfl ?_
    refine sn_getI (ci := 1) (j := 0) dX1_addHouse_24 fl_X1_56 rfl (fun x24 => ?_)
    refine sn_iconst dX1_addHouse_27 ?_
    refine sn_iast dX1_addHouse_28 (fun μ28 => ?_)
    refine sn_aload_n dX1_addHouse_29 rfl ?_
    refine sn_getA (ci := 1) (j := 8) dX1_addHouse_30 fl_X1_18 (by decide) (fun x30 => ?_)
    refine sn_aload_n dX1_addHouse_33 rfl ?_
    refine sn_getI (ci := 1) (j := 0) dX1_addHouse_34 fl_X1_56 rfl (fun x34 => ?_)
    refine sn_bipush dX1_addHouse_37 (by decide) ?_
    refine sn_iast dX1_addHouse_39 (fun μ39 => ?_)
    refine sn_aload_n dX1_addHouse_40 rfl ?_
    refine sn_getA (ci := 1) (j := 9) dX1_addHouse_41 fl_X1_21 (by decide) (fun x41 => ?_)
    refine sn_aload_n dX1_addHouse_44 rfl ?_
    refine sn_getI (ci := 1) (j := 0) dX1_addHouse_45 fl_X1_56 rfl (fun x45 => ?_)
    refine sn_iconst dX1_addHouse_48 ?_
    refine sn_iast dX1_addHouse_49 (fun μ49 => ?_)
    refine sn_aload_n dX1_addHouse_50 rfl ?_
    refine sn_getA (ci := 1) (j := 10) dX1_addHouse_51 fl_X1_24 (by decide) (fun x51 => ?_)
    refine sn_aload_n dX1_addHouse_54 rfl ?_
    refine sn_getI (ci := 1) (j := 0) dX1_addHouse_55 fl_X1_56 rfl (fun x55 => ?_)
    refine sn_iconst dX1_addHouse_58 ?_
    refine sn_iast dX1_addHouse_59 (fun μ59 => ?_)
    refine sn_aload_n dX1_addHouse_60 rfl ?_
    refine sn_getA (ci := 1) (j := 11) dX1_addHouse_61 fl_X1_27 (by decide) (fun x61 => ?_)
    refine sn_aload_n dX1_addHouse_64 rfl ?_
    refine sn_getI (ci := 1) (j := 0) dX1_addHouse_65 fl_X1_56 rfl (fun x65 => ?_)
    refine sn_iconst dX1_addHouse_68 ?_
    refine sn_iast dX1_addHouse_69 (fun μ69 => ?_)
    refine sn_aload_n dX1_addHouse_70 rfl ?_
    refine sn_dup dX1_addHouse_71 rfl ?_
    refine sn_getI (ci := 1) (j := 0) dX1_addHouse_72 fl_X1_56 rfl (fun x72 => ?_)
    refine sn_iconst dX1_addHouse_75 ?_
    refine sn_iadd dX1_addHouse_76 ?_
    refine sn_putI (ci := 1) (j := 0) dX1_addHouse_77 fl_X1_56 rfl (fun q h => by cases h; rfl) (fun μ77 => ?_)
    exact sn_vret dX1_addHouse_80
theorem dX1_setBucket_0 : decode cX1_setBucket 0 = .ok (.aload_n 0, 1) := by decide +kernel
theorem dX1_setBucket_1 : decode cX1_setBucket 1 = .ok (.getfield 40, 3) := by decide +kernel
theorem dX1_setBucket_4 : decode cX1_setBucket 4 = .ok (.iload_n 1, 1) := by decide +kernel
theorem dX1_setBucket_5 : decode cX1_setBucket 5 = .ok (.iload_n 2, 1) := by decide +kernel
theorem dX1_setBucket_6 : decode cX1_setBucket 6 = .ok (.iastore, 1) := by decide +kernel
theorem dX1_setBucket_7 : decode cX1_setBucket 7 = .ok (.aload_n 0, 1) := by decide +kernel
theorem dX1_setBucket_8 : decode cX1_setBucket 8 = .ok (.getfield 43, 3) := by decide +kernel
theorem dX1_setBucket_11 : decode cX1_setBucket 11 = .ok (.iload_n 1, 1) := by decide +kernel
theorem dX1_setBucket_12 : decode cX1_setBucket 12 = .ok (.iconst 0, 1) := by decide +kernel
theorem dX1_setBucket_13 : decode cX1_setBucket 13 = .ok (.iastore, 1) := by decide +kernel
theorem dX1_setBucket_14 : decode cX1_setBucket 14 = .ok (.aload_n 0, 1) := by decide +kernel
theorem dX1_setBucket_15 : decode cX1_setBucket 15 = .ok (.getfield 46, 3) := by decide +kernel
theorem dX1_setBucket_18 : decode cX1_setBucket 18 = .ok (.iload_n 1, 1) := by decide +kernel
theorem dX1_setBucket_19 : decode cX1_setBucket 19 = .ok (.iconst 0, 1) := by decide +kernel
theorem dX1_setBucket_20 : decode cX1_setBucket 20 = .ok (.bastore, 1) := by decide +kernel
theorem dX1_setBucket_21 : decode cX1_setBucket 21 = .ok (.return_, 1) := by decide +kernel
def mX1_setBucket (n : Nat) (a : Nat) (b1 : Int) (b2 : Int) (μ : Mem) : Option (Unit × Mem) :=
  (gA μ 2 a 15).bind fun x1 =>
  (stI μ 0 x1 b1 b2).bind fun μ6 =>
  (gA μ6 2 a 16).bind fun x8 =>
  (stI μ6 0 x8 b1 0).bind fun μ13 =>
  (gA μ13 2 a 17).bind fun x15 =>
  (stZ μ13 x15 b1 0).bind fun μ20 =>
  some ((), μ20)
set_option maxRecDepth 100000 in
set_option maxHeartbeats 4000000 in
theorem cX1_setBucket_ok (n : Nat) (a : Nat) (b1 : Int) (b2 : Int) (μ : Mem) : Mc yX1_setBucket cX1_setBucket 3 none 0 0 eV [aA a, aI b1, aI b2] μ (mX1_setBucket n a b1 b2 μ) := by
  refine mc_of (L0 := [some (aA a), some (aI b1), some (aI b2)]) (k := 0) (by decide) rfl rfl (fun X Γ => ?_)
  unfold mX1_setBucket
  refine sn_aload_n dX1_setBucket_0 rfl ?_
  refine sn_getA (ci := 1) (j := 15) dX1_setBucket_1 fl_X1_40 (by decide) (fun x1 => ?_)
  refine sn_iload_n dX1_setBucket_4 rfl ?_
  refine sn_iload_n dX1_setBucket_5 rfl ?_
  refine sn_iast dX1_setBucket_6 (fun μ6 => ?_)
  refine sn_aload_n dX1_setBucket_7 rfl ?_
  refine sn_getA (ci := 1) (j := 16) dX1_setBucket_8 fl_X1_43 (by decide) (fun x8 => ?_)
  refine sn_iload_n dX1_setBucket_11 rfl ?_
  refine sn_iconst dX1_setBucket_12 ?_
  refine sn_iast dX1_setBucket_13 (fun μ13 => ?_)
  refine sn_aload_n dX1_setBucket_14 rfl ?_
  refine sn_getA (ci := 1) (j := 17) dX1_setBucket_15 fl_X1_46 (by decide) (fun x15 => ?_)
  refine sn_iload_n dX1_setBucket_18 rfl ?_
  refine sn_iconst dX1_setBucket_19 ?_
  refine sn_zast dX1_setBucket_20 (fun μ20 => ?_)
  exact sn_vret dX1_setBucket_21
theorem dX1_addRope_0 : decode cX1_addRope 0 = .ok (.aload_n 0, 1) := by decide +kernel
theorem dX1_addRope_1 : decode cX1_addRope 1 = .ok (.getfield 59, 3) := by decide +kernel
theorem dX1_addRope_4 : decode cX1_addRope 4 = .ok (.bipush 16, 2) := by decide +kernel
theorem dX1_addRope_6 : decode cX1_addRope 6 = .ok (.if_icmp .ge 67, 3) := by decide +kernel
theorem dX1_addRope_9 : decode cX1_addRope 9 = .ok (.aload_n 0, 1) := by decide +kernel
theorem dX1_addRope_10 : decode cX1_addRope 10 = .ok (.getfield 30, 3) := by decide +kernel
theorem dX1_addRope_13 : decode cX1_addRope 13 = .ok (.aload_n 0, 1) := by decide +kernel
theorem dX1_addRope_14 : decode cX1_addRope 14 = .ok (.getfield 59, 3) := by decide +kernel
theorem dX1_addRope_17 : decode cX1_addRope 17 = .ok (.iload_n 3, 1) := by decide +kernel
theorem dX1_addRope_18 : decode cX1_addRope 18 = .ok (.iastore, 1) := by decide +kernel
theorem dX1_addRope_19 : decode cX1_addRope 19 = .ok (.aload_n 0, 1) := by decide +kernel
theorem dX1_addRope_20 : decode cX1_addRope 20 = .ok (.getfield 33, 3) := by decide +kernel
theorem dX1_addRope_23 : decode cX1_addRope 23 = .ok (.aload_n 0, 1) := by decide +kernel
theorem dX1_addRope_24 : decode cX1_addRope 24 = .ok (.getfield 59, 3) := by decide +kernel
theorem dX1_addRope_27 : decode cX1_addRope 27 = .ok (.iconst 0, 1) := by decide +kernel
theorem dX1_addRope_28 : decode cX1_addRope 28 = .ok (.iastore, 1) := by decide +kernel
theorem dX1_addRope_29 : decode cX1_addRope 29 = .ok (.aload_n 0, 1) := by decide +kernel
theorem dX1_addRope_30 : decode cX1_addRope 30 = .ok (.getfield 36, 3) := by decide +kernel
theorem dX1_addRope_33 : decode cX1_addRope 33 = .ok (.aload_n 0, 1) := by decide +kernel
theorem dX1_addRope_34 : decode cX1_addRope 34 = .ok (.getfield 59, 3) := by decide +kernel
theorem dX1_addRope_37 : decode cX1_addRope 37 = .ok (.iconst 0, 1) := by decide +kernel
theorem dX1_addRope_38 : decode cX1_addRope 38 = .ok (.bastore, 1) := by decide +kernel
theorem dX1_addRope_39 : decode cX1_addRope 39 = .ok (.aload_n 0, 1) := by decide +kernel
theorem dX1_addRope_40 : decode cX1_addRope 40 = .ok (.iconst 2, 1) := by decide +kernel
theorem dX1_addRope_41 : decode cX1_addRope 41 = .ok (.aload_n 0, 1) := by decide +kernel
theorem dX1_addRope_42 : decode cX1_addRope 42 = .ok (.getfield 59, 3) := by decide +kernel
theorem dX1_addRope_45 : decode cX1_addRope 45 = .ok (.imul, 1) := by decide +kernel
theorem dX1_addRope_46 : decode cX1_addRope 46 = .ok (.iload_n 1, 1) := by decide +kernel
theorem dX1_addRope_47 : decode cX1_addRope 47 = .ok (.invokevirtual 68, 3) := by decide +kernel
theorem dX1_addRope_50 : decode cX1_addRope 50 = .ok (.aload_n 0, 1) := by decide +kernel
theorem dX1_addRope_51 : decode cX1_addRope 51 = .ok (.iconst 2, 1) := by decide +kernel
theorem dX1_addRope_52 : decode cX1_addRope 52 = .ok (.aload_n 0, 1) := by decide +kernel
theorem dX1_addRope_53 : decode cX1_addRope 53 = .ok (.getfield 59, 3) := by decide +kernel
theorem dX1_addRope_56 : decode cX1_addRope 56 = .ok (.imul, 1) := by decide +kernel
theorem dX1_addRope_57 : decode cX1_addRope 57 = .ok (.iconst 1, 1) := by decide +kernel
theorem dX1_addRope_58 : decode cX1_addRope 58 = .ok (.iadd, 1) := by decide +kernel
theorem dX1_addRope_59 : decode cX1_addRope 59 = .ok (.iload_n 2, 1) := by decide +kernel
theorem dX1_addRope_60 : decode cX1_addRope 60 = .ok (.invokevirtual 68, 3) := by decide +kernel
theorem dX1_addRope_63 : decode cX1_addRope 63 = .ok (.aload_n 0, 1) := by decide +kernel
theorem dX1_addRope_64 : decode cX1_addRope 64 = .ok (.dup, 1) := by decide +kernel
theorem dX1_addRope_65 : decode cX1_addRope 65 = .ok (.getfield 59, 3) := by decide +kernel
theorem dX1_addRope_68 : decode cX1_addRope 68 = .ok (.iconst 1, 1) := by decide +kernel
theorem dX1_addRope_69 : decode cX1_addRope 69 = .ok (.iadd, 1) := by decide +kernel
theorem dX1_addRope_70 : decode cX1_addRope 70 = .ok (.putfield 59, 3) := by decide +kernel
theorem dX1_addRope_73 : decode cX1_addRope 73 = .ok (.return_, 1) := by decide +kernel
def mX1_addRope (n : Nat) (a : Nat) (b1 : Int) (b2 : Int) (b3 : Int) (μ : Mem) : Option (Unit × Mem) :=
  (gI μ 2 a 1).bind fun x1 =>
  if lt32 x1 16 then
    (gA μ 2 a 12).bind fun x10 =>
    (gI μ 2 a 1).bind fun x14 =>
    (stI μ 0 x10 x14 b3).bind fun μ18 =>
    (gA μ18 2 a 13).bind fun x20 =>
    (gI μ18 2 a 1).bind fun x24 =>
    (stI μ18 0 x20 x24 0).bind fun μ28 =>
    (gA μ28 2 a 14).bind fun x30 =>
    (gI μ28 2 a 1).bind fun x34 =>
    (stZ μ28 x30 x34 0).bind fun μ38 =>
    (gI μ38 2 a 1).bind fun x42 =>
    (inv μ38 2 a (mX1_setBucket n a (2 * x42) b1 μ38)).bind fun p47 =>
    (gI p47.2 2 a 1).bind fun x53 =>
    (inv p47.2 2 a (mX1_setBucket n a ((2 * x53) + 1) b2 p47.2)).bind fun p60 =>
    (gI p60.2 2 a 1).bind fun x65 =>
    (pI p60.2 2 a 1 (x65 + 1)).bind fun μ70 =>
    some ((), μ70)
  else
  some ((), μ)
set_option maxRecDepth 100000 in
set_option maxHeartbeats 4000000 in
theorem cX1_addRope_ok (n : Nat) (a : Nat) (b1 : Int) (b2 : Int) (b3 : Int) (μ : Mem) : Mc yX1_addRope cX1_addRope 4 none 1 22 eV [aA a, aI b1, aI b2, aI b3] μ (mX1_addRope n a b1 b2 b3 μ) := by
  refine mc_of (L0 := [some (aA a), some (aI b1), some (aI b2), some (aI b3)]) (k := 0) (by decide) rfl rfl (fun X Γ => ?_)
  unfold mX1_addRope
  refine sn_aload_n dX1_addRope_0 rfl ?_
  refine sn_getI (ci := 1) (j := 1) dX1_addRope_1 fl_X1_59 rfl (fun x1 => ?_)
  refine sn_bipush dX1_addRope_4 (by decide) ?_
  refine sn_icmp_ge (tgt := 73) dX1_addRope_6 (by decide) ?_ ?_
  · exact sn_vret dX1_addRope_73
  · refine sn_aload_n dX1_addRope_9 rfl ?_
    refine sn_getA (ci := 1) (j := 12) dX1_addRope_10 fl_X1_30 (by decide) (fun x10 => ?_)
    refine sn_aload_n dX1_addRope_13 rfl ?_
    refine sn_getI (ci := 1) (j := 1) dX1_addRope_14 fl_X1_59 rfl (fun x14 => ?_)
    refine sn_iload_n dX1_addRope_17 rfl ?_
    refine sn_iast dX1_addRope_18 (fun μ18 => ?_)
    refine sn_aload_n dX1_addRope_19 rfl ?_
    refine sn_getA (ci := 1) (j := 13) dX1_addRope_20 fl_X1_33 (by decide) (fun x20 => ?_)
    refine sn_aload_n dX1_addRope_23 rfl ?_
    refine sn_getI (ci := 1) (j := 1) dX1_addRope_24 fl_X1_59 rfl (fun x24 => ?_)
    refine sn_iconst dX1_addRope_27 ?_
    refine sn_iast dX1_addRope_28 (fun μ28 => ?_)
    refine sn_aload_n dX1_addRope_29 rfl ?_
    refine sn_getA (ci := 1) (j := 14) dX1_addRope_30 fl_X1_36 (by decide) (fun x30 => ?_)
    refine sn_aload_n dX1_addRope_33 rfl ?_
    refine sn_getI (ci := 1) (j := 1) dX1_addRope_34 fl_X1_59 rfl (fun x34 => ?_)
    refine sn_iconst dX1_addRope_37 ?_
    refine sn_zast dX1_addRope_38 (fun μ38 => ?_)
    refine sn_aload_n dX1_addRope_39 rfl ?_
    refine sn_iconst dX1_addRope_40 ?_
    refine sn_aload_n dX1_addRope_41 rfl ?_
    refine sn_getI (ci := 1) (j := 1) dX1_addRope_42 fl_X1_59 rfl (fun x42 => ?_)
    refine sn_imul dX1_addRope_45 ?_
    refine sn_iload_n dX1_addRope_46 rfl ?_
    refine sn_callVV (vs := [aI (2 * x42), aI b1]) (ci := 1) (cX1_setBucket_ok n a (2 * x42) b1 μ38) dX1_addRope_47 cw_X1_68 rfl rfl rfl (by decide) (by decide) (Nat.le_of_ble_eq_true rfl) (fun p47 => ?_)
    refine sn_aload_n dX1_addRope_50 rfl ?_
    refine sn_iconst dX1_addRope_51 ?_
    refine sn_aload_n dX1_addRope_52 rfl ?_
    refine sn_getI (ci := 1) (j := 1) dX1_addRope_53 fl_X1_59 rfl (fun x53 => ?_)
    refine sn_imul dX1_addRope_56 ?_
    refine sn_iconst dX1_addRope_57 ?_
    refine sn_iadd dX1_addRope_58 ?_
    refine sn_iload_n dX1_addRope_59 rfl ?_
    refine sn_callVV (vs := [aI ((2 * x53) + 1), aI b2]) (ci := 1) (cX1_setBucket_ok n a ((2 * x53) + 1) b2 p47.2) dX1_addRope_60 cw_X1_68 rfl rfl rfl (by decide) (by decide) (Nat.le_of_ble_eq_true rfl) (fun p60 => ?_)
    refine sn_aload_n dX1_addRope_63 rfl ?_
    refine sn_dup dX1_addRope_64 rfl ?_
    refine sn_getI (ci := 1) (j := 1) dX1_addRope_65 fl_X1_59 rfl (fun x65 => ?_)
    refine sn_iconst dX1_addRope_68 ?_
    refine sn_iadd dX1_addRope_69 ?_
    refine sn_putI (ci := 1) (j := 1) dX1_addRope_70 fl_X1_59 rfl (fun q h => by cases h; rfl) (fun μ70 => ?_)
    exact sn_vret dX1_addRope_73
