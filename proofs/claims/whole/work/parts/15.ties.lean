/-! layer 1: ties -/
theorem dX9_init_0 : decode cX9_init 0 = .ok (.aload_n 0, 1) := by decide +kernel
theorem dX9_init_1 : decode cX9_init 1 = .ok (.invokespecial 3, 3) := by decide +kernel
theorem dX9_init_4 : decode cX9_init 4 = .ok (.aload_n 0, 1) := by decide +kernel
theorem dX9_init_5 : decode cX9_init 5 = .ok (.bipush 10, 2) := by decide +kernel
theorem dX9_init_7 : decode cX9_init 7 = .ok (.newarray .int, 2) := by decide +kernel
theorem dX9_init_9 : decode cX9_init 9 = .ok (.putfield 9, 3) := by decide +kernel
theorem dX9_init_12 : decode cX9_init 12 = .ok (.return_, 1) := by decide +kernel
def mX9_init (n : Nat) (a : Nat) (μ : Mem) : Option (Unit × Mem) :=
  inv μ 10 a
  ((nwA μ 0 10).bind fun p7 =>
  (pA p7.2 10 a 0 p7.1).bind fun μ9 =>
  some ((), μ9))
set_option maxRecDepth 100000 in
set_option maxHeartbeats 4000000 in
theorem cX9_init_ok (n : Nat) (a : Nat) (μ : Mem) : Mc yX9_init cX9_init 1 none 1 20 eV [aA a] μ (mX9_init n a μ) := by
  refine mc_of (L0 := [some (aA a)]) (k := 0) (by decide) rfl rfl (fun X Γ => ?_)
  unfold mX9_init
  refine sn_aload_n dX9_init_0 rfl ?_
  refine sn_objInit (ci := 9) dX9_init_1 (by decide) ml_X9_3 im_obj co_obj (by decide) (by decide) (Nat.le_of_ble_eq_true rfl) ?_
  refine sn_aload_n dX9_init_4 rfl ?_
  refine sn_bipush dX9_init_5 (by decide) ?_
  refine sn_newa (t := 0) dX9_init_7 (by decide) rfl ac_0 (fun p7 => ?_)
  refine sn_putA (ci := 9) (j := 0) dX9_init_9 fl_X9_9 (Or.inr ⟨_, rfl⟩) (Or.inr ⟨rfl, fun q h => by cases h; exact ⟨rfl, rfl⟩⟩) (fun μ9 => ?_)
  exact sn_vret dX9_init_12
theorem dX9_look_0 : decode cX9_look 0 = .ok (.aload_n 0, 1) := by decide +kernel
theorem dX9_look_1 : decode cX9_look 1 = .ok (.aload_n 1, 1) := by decide +kernel
theorem dX9_look_2 : decode cX9_look 2 = .ok (.getfield 15, 3) := by decide +kernel
theorem dX9_look_5 : decode cX9_look 5 = .ok (.putfield 21, 3) := by decide +kernel
theorem dX9_look_8 : decode cX9_look 8 = .ok (.aload_n 0, 1) := by decide +kernel
theorem dX9_look_9 : decode cX9_look 9 = .ok (.getfield 9, 3) := by decide +kernel
theorem dX9_look_12 : decode cX9_look 12 = .ok (.iconst 0, 1) := by decide +kernel
theorem dX9_look_13 : decode cX9_look 13 = .ok (.invokestatic 22, 3) := by decide +kernel
theorem dX9_look_16 : decode cX9_look 16 = .ok (.iconst 0, 1) := by decide +kernel
theorem dX9_look_17 : decode cX9_look 17 = .ok (.istore_n 3, 1) := by decide +kernel
theorem dX9_look_18 : decode cX9_look 18 = .ok (.iload_n 3, 1) := by decide +kernel
theorem dX9_look_19 : decode cX9_look 19 = .ok (.aload_n 1, 1) := by decide +kernel
theorem dX9_look_20 : decode cX9_look 20 = .ok (.getfield 28, 3) := by decide +kernel
theorem dX9_look_23 : decode cX9_look 23 = .ok (.if_icmp .ge 73, 3) := by decide +kernel
theorem dX9_look_26 : decode cX9_look 26 = .ok (.aload_n 1, 1) := by decide +kernel
theorem dX9_look_27 : decode cX9_look 27 = .ok (.getfield 31, 3) := by decide +kernel
theorem dX9_look_30 : decode cX9_look 30 = .ok (.iload_n 3, 1) := by decide +kernel
theorem dX9_look_31 : decode cX9_look 31 = .ok (.baload, 1) := by decide +kernel
theorem dX9_look_32 : decode cX9_look 32 = .ok (.ifCond .ne 58, 3) := by decide +kernel
theorem dX9_look_35 : decode cX9_look 35 = .ok (.iload_n 3, 1) := by decide +kernel
theorem dX9_look_36 : decode cX9_look 36 = .ok (.iload_n 2, 1) := by decide +kernel
theorem dX9_look_37 : decode cX9_look 37 = .ok (.if_icmp .eq 53, 3) := by decide +kernel
theorem dX9_look_40 : decode cX9_look 40 = .ok (.aload_n 1, 1) := by decide +kernel
theorem dX9_look_41 : decode cX9_look 41 = .ok (.getfield 35, 3) := by decide +kernel
theorem dX9_look_44 : decode cX9_look 44 = .ok (.iconst 2, 1) := by decide +kernel
theorem dX9_look_45 : decode cX9_look 45 = .ok (.iload_n 3, 1) := by decide +kernel
theorem dX9_look_46 : decode cX9_look 46 = .ok (.imul, 1) := by decide +kernel
theorem dX9_look_47 : decode cX9_look 47 = .ok (.iaload, 1) := by decide +kernel
theorem dX9_look_48 : decode cX9_look 48 = .ok (.istore 4, 2) := by decide +kernel
theorem dX9_look_50 : decode cX9_look 50 = .ok (.aload_n 1, 1) := by decide +kernel
theorem dX9_look_51 : decode cX9_look 51 = .ok (.getfield 35, 3) := by decide +kernel
theorem dX9_look_54 : decode cX9_look 54 = .ok (.iconst 2, 1) := by decide +kernel
theorem dX9_look_55 : decode cX9_look 55 = .ok (.iload_n 3, 1) := by decide +kernel
theorem dX9_look_56 : decode cX9_look 56 = .ok (.imul, 1) := by decide +kernel
theorem dX9_look_57 : decode cX9_look 57 = .ok (.iconst 1, 1) := by decide +kernel
theorem dX9_look_58 : decode cX9_look 58 = .ok (.iadd, 1) := by decide +kernel
theorem dX9_look_59 : decode cX9_look 59 = .ok (.iaload, 1) := by decide +kernel
theorem dX9_look_60 : decode cX9_look 60 = .ok (.istore 5, 2) := by decide +kernel
theorem dX9_look_62 : decode cX9_look 62 = .ok (.aload_n 0, 1) := by decide +kernel
theorem dX9_look_63 : decode cX9_look 63 = .ok (.getfield 9, 3) := by decide +kernel
theorem dX9_look_66 : decode cX9_look 66 = .ok (.iload 4, 2) := by decide +kernel
theorem dX9_look_68 : decode cX9_look 68 = .ok (.dup2, 1) := by decide +kernel
theorem dX9_look_69 : decode cX9_look 69 = .ok (.iaload, 1) := by decide +kernel
theorem dX9_look_70 : decode cX9_look 70 = .ok (.iconst 1, 1) := by decide +kernel
theorem dX9_look_71 : decode cX9_look 71 = .ok (.iload 5, 2) := by decide +kernel
theorem dX9_look_73 : decode cX9_look 73 = .ok (.ishl, 1) := by decide +kernel
theorem dX9_look_74 : decode cX9_look 74 = .ok (.ior, 1) := by decide +kernel
theorem dX9_look_75 : decode cX9_look 75 = .ok (.iastore, 1) := by decide +kernel
theorem dX9_look_76 : decode cX9_look 76 = .ok (.aload_n 0, 1) := by decide +kernel
theorem dX9_look_77 : decode cX9_look 77 = .ok (.getfield 9, 3) := by decide +kernel
theorem dX9_look_80 : decode cX9_look 80 = .ok (.iload 5, 2) := by decide +kernel
theorem dX9_look_82 : decode cX9_look 82 = .ok (.dup2, 1) := by decide +kernel
theorem dX9_look_83 : decode cX9_look 83 = .ok (.iaload, 1) := by decide +kernel
theorem dX9_look_84 : decode cX9_look 84 = .ok (.iconst 1, 1) := by decide +kernel
theorem dX9_look_85 : decode cX9_look 85 = .ok (.iload 4, 2) := by decide +kernel
theorem dX9_look_87 : decode cX9_look 87 = .ok (.ishl, 1) := by decide +kernel
theorem dX9_look_88 : decode cX9_look 88 = .ok (.ior, 1) := by decide +kernel
theorem dX9_look_89 : decode cX9_look 89 = .ok (.iastore, 1) := by decide +kernel
theorem dX9_look_90 : decode cX9_look 90 = .ok (.iinc 3 1, 3) := by decide +kernel
theorem dX9_look_93 : decode cX9_look 93 = .ok (.goto (-75), 3) := by decide +kernel
theorem dX9_look_96 : decode cX9_look 96 = .ok (.return_, 1) := by decide +kernel
def mX9_look (n : Nat) (a : Nat) (b1 : Nat) (b2 : Int) (μ : Mem) : Option (Unit × Mem) :=
  (gI μ 2 b1 0).bind fun x2 =>
  (pI μ 10 a 1 x2).bind fun μ5 =>
  (gA μ5 10 a 0).bind fun x9 =>
  (mJ7_fill_53178 n x9 0 μ5).bind fun p13 =>
  lp (fun nx18 (v18 : Int) (μ18 : Mem) =>
  (gI μ18 2 b1 1).bind fun x20 =>
  if lt32 v18 x20 then
    (gA μ18 2 b1 14).bind fun x27 =>
    (ldI μ18 2 x27 v18).bind fun x31 =>
    if eq32 x31 0 then
      if eq32 v18 b2 then
        nx18 (v18 + 1) μ18
      else
      (gA μ18 2 b1 15).bind fun x41 =>
      (ldI μ18 0 x41 (2 * v18)).bind fun x47 =>
      (gA μ18 2 b1 15).bind fun x51 =>
      (ldI μ18 0 x51 ((2 * v18) + 1)).bind fun x59 =>
      (gA μ18 10 a 0).bind fun x63 =>
      (ldI μ18 0 x63 x47).bind fun x69 =>
      (stI μ18 0 x63 x47 (oOr x69 (oShl 1 x59))).bind fun μ75 =>
      (gA μ75 10 a 0).bind fun x77 =>
      (ldI μ75 0 x77 x59).bind fun x83 =>
      (stI μ75 0 x77 x59 (oOr x83 (oShl 1 x47))).bind fun μ89 =>
      nx18 (v18 + 1) μ89
    else
    nx18 (v18 + 1) μ18
  else
  some ((), μ18)) n 0 p13.2
set_option maxRecDepth 100000 in
set_option maxHeartbeats 4000000 in
theorem cX9_look_ok (n : Nat) (a : Nat) (b1 : Nat) (b2 : Int) (μ : Mem) : Mc yX9_look cX9_look 6 none 1 23 eV [aA a, aA b1, aI b2] μ (mX9_look n a b1 b2 μ) := by
  refine mc_of (L0 := [some (aA a), some (aA b1), some (aI b2), none, none, none]) (k := 3) (by decide) rfl rfl (fun X Γ => ?_)
  unfold mX9_look
  refine sn_aload_n dX9_look_0 rfl ?_
  refine sn_aload_n dX9_look_1 rfl ?_
  refine sn_getI (ci := 1) (j := 0) dX9_look_2 fl_X9_15 rfl (fun x2 => ?_)
  refine sn_putI (ci := 9) (j := 1) dX9_look_5 fl_X9_21 rfl (fun q h => by cases h; rfl) (fun μ5 => ?_)
  refine sn_aload_n dX9_look_8 rfl ?_
  refine sn_getA (ci := 9) (j := 0) dX9_look_9 fl_X9_9 (by decide) (fun x9 => ?_)
  refine sn_iconst dX9_look_12 ?_
  refine sn_callSV (vs := [aA x9, aI 0]) (cJ7_fill_53178_ok n x9 0 μ5) dX9_look_13 cw_X9_22 rfl (by decide) (by decide) (Nat.le_of_ble_eq_true rfl) (fun p13 => ?_)
  refine sn_iconst dX9_look_16 ?_
  refine sn_istore_n (L' := [some (aA a), some (aA b1), some (aI b2), some (aI 0), none, none]) dX9_look_17 (by decide) rfl ?_
  refine sn_lp (La := fun v18 : Int => [some (aA a), some (aA b1), some (aI b2), some (aI v18), none, none]) ?_ n 0 p13.2
  intro nx18 hnx18 v18 μ18
  refine sn_iload_n dX9_look_18 rfl ?_
  refine sn_aload_n dX9_look_19 rfl ?_
  refine sn_getI (ci := 1) (j := 1) dX9_look_20 fl_X9_28 rfl (fun x20 => ?_)
  refine sn_icmp_ge (tgt := 96) dX9_look_23 (by decide) ?_ ?_
  · exact sn_vret dX9_look_96
  · refine sn_aload_n dX9_look_26 rfl ?_
    refine sn_getA (ci := 1) (j := 14) dX9_look_27 fl_X9_31 (by decide) (fun x27 => ?_)
    refine sn_iload_n dX9_look_30 rfl ?_
    refine sn_zald dX9_look_31 (fun x31 => ?_)
    refine sn_if_ne (tgt := 90) dX9_look_32 (by decide) ?_ ?_
    · refine sn_iinc (L' := [some (aA a), some (aA b1), some (aI b2), some (aI (v18 + 1)), none, none]) dX9_look_90 rfl (by decide) rfl ?_
      refine sn_goto (tgt := 18) dX9_look_93 (by decide) ?_
      exact hnx18 (v18 + 1) μ18
    · refine sn_iload_n dX9_look_35 rfl ?_
      refine sn_iload_n dX9_look_36 rfl ?_
      refine sn_icmp_eq (tgt := 90) dX9_look_37 (by decide) ?_ ?_
      · refine sn_iinc (L' := [some (aA a), some (aA b1), some (aI b2), some (aI (v18 + 1)), none, none]) dX9_look_90 rfl (by decide) rfl ?_
        refine sn_goto (tgt := 18) dX9_look_93 (by decide) ?_
        exact hnx18 (v18 + 1) μ18
      · refine sn_aload_n dX9_look_40 rfl ?_
        refine sn_getA (ci := 1) (j := 15) dX9_look_41 fl_X9_35 (by decide) (fun x41 => ?_)
        refine sn_iconst dX9_look_44 ?_
        refine sn_iload_n dX9_look_45 rfl ?_
        refine sn_imul dX9_look_46 ?_
        refine sn_iald dX9_look_47 (fun x47 => ?_)
        refine sn_istore (L' := [some (aA a), some (aA b1), some (aI b2), some (aI v18), some (aI x47), none]) dX9_look_48 (by decide) rfl ?_
        refine sn_aload_n dX9_look_50 rfl ?_
        refine sn_getA (ci := 1) (j := 15) dX9_look_51 fl_X9_35 (by decide) (fun x51 => ?_)
        refine sn_iconst dX9_look_54 ?_
        refine sn_iload_n dX9_look_55 rfl ?_
        refine sn_imul dX9_look_56 ?_
        refine sn_iconst dX9_look_57 ?_
        refine sn_iadd dX9_look_58 ?_
        refine sn_iald dX9_look_59 (fun x59 => ?_)
        refine sn_istore (L' := [some (aA a), some (aA b1), some (aI b2), some (aI v18), some (aI x47), some (aI x59)]) dX9_look_60 (by decide) rfl ?_
        refine sn_aload_n dX9_look_62 rfl ?_
        refine sn_getA (ci := 9) (j := 0) dX9_look_63 fl_X9_9 (by decide) (fun x63 => ?_)
        refine sn_iload dX9_look_66 rfl ?_
        refine sn_dup2 dX9_look_68 rfl rfl ?_
        refine sn_iald dX9_look_69 (fun x69 => ?_)
        refine sn_iconst dX9_look_70 ?_
        refine sn_iload dX9_look_71 rfl ?_
        refine sn_ishl dX9_look_73 ?_
        refine sn_ior dX9_look_74 ?_
        refine sn_iast dX9_look_75 (fun μ75 => ?_)
        refine sn_aload_n dX9_look_76 rfl ?_
        refine sn_getA (ci := 9) (j := 0) dX9_look_77 fl_X9_9 (by decide) (fun x77 => ?_)
        refine sn_iload dX9_look_80 rfl ?_
        refine sn_dup2 dX9_look_82 rfl rfl ?_
        refine sn_iald dX9_look_83 (fun x83 => ?_)
        refine sn_iconst dX9_look_84 ?_
        refine sn_iload dX9_look_85 rfl ?_
        refine sn_ishl dX9_look_87 ?_
        refine sn_ior dX9_look_88 ?_
        refine sn_iast dX9_look_89 (fun μ89 => ?_)
        refine sn_iinc (L' := [some (aA a), some (aA b1), some (aI b2), some (aI (v18 + 1)), some (aI x47), some (aI x59)]) dX9_look_90 rfl (by decide) rfl ?_
        refine sn_goto (tgt := 18) dX9_look_93 (by decide) ?_
        exact sn_mask (L' := [some (aA a), some (aA b1), some (aI b2), some (aI (v18 + 1)), none, none]) [true, true, true, true, false, false] rfl (hnx18 (v18 + 1) μ89)
theorem dX9_tied_0 : decode cX9_tied 0 = .ok (.aload_n 0, 1) := by decide +kernel
theorem dX9_tied_1 : decode cX9_tied 1 = .ok (.getfield 9, 3) := by decide +kernel
theorem dX9_tied_4 : decode cX9_tied 4 = .ok (.iload_n 1, 1) := by decide +kernel
theorem dX9_tied_5 : decode cX9_tied 5 = .ok (.iaload, 1) := by decide +kernel
theorem dX9_tied_6 : decode cX9_tied 6 = .ok (.iload_n 2, 1) := by decide +kernel
theorem dX9_tied_7 : decode cX9_tied 7 = .ok (.ishr, 1) := by decide +kernel
theorem dX9_tied_8 : decode cX9_tied 8 = .ok (.iconst 1, 1) := by decide +kernel
theorem dX9_tied_9 : decode cX9_tied 9 = .ok (.iand, 1) := by decide +kernel
theorem dX9_tied_10 : decode cX9_tied 10 = .ok (.iconst 1, 1) := by decide +kernel
theorem dX9_tied_11 : decode cX9_tied 11 = .ok (.if_icmp .ne 7, 3) := by decide +kernel
theorem dX9_tied_14 : decode cX9_tied 14 = .ok (.iconst 1, 1) := by decide +kernel
theorem dX9_tied_15 : decode cX9_tied 15 = .ok (.goto 4, 3) := by decide +kernel
theorem dX9_tied_18 : decode cX9_tied 18 = .ok (.iconst 0, 1) := by decide +kernel
theorem dX9_tied_19 : decode cX9_tied 19 = .ok (.ireturn, 1) := by decide +kernel
def mX9_tied (n : Nat) (a : Nat) (b1 : Int) (b2 : Int) (μ : Mem) : Option (Int × Mem) :=
  (gA μ 10 a 0).bind fun x1 =>
  (ldI μ 0 x1 b1).bind fun x5 =>
  if eq32 (oAnd (oShr x5 b2) 1) 1 then
    retZ 1 μ
  else
  retZ 0 μ
set_option maxRecDepth 100000 in
set_option maxHeartbeats 4000000 in
theorem cX9_tied_ok (n : Nat) (a : Nat) (b1 : Int) (b2 : Int) (μ : Mem) : Mc yX9_tied cX9_tied 3 (some .boolean) 0 0 eI [aA a, aI b1, aI b2] μ (mX9_tied n a b1 b2 μ) := by
  refine mc_of (L0 := [some (aA a), some (aI b1), some (aI b2)]) (k := 0) (by decide) rfl rfl (fun X Γ => ?_)
  unfold mX9_tied
  refine sn_aload_n dX9_tied_0 rfl ?_
  refine sn_getA (ci := 9) (j := 0) dX9_tied_1 fl_X9_9 (by decide) (fun x1 => ?_)
  refine sn_iload_n dX9_tied_4 rfl ?_
  refine sn_iald dX9_tied_5 (fun x5 => ?_)
  refine sn_iload_n dX9_tied_6 rfl ?_
  refine sn_ishr dX9_tied_7 ?_
  refine sn_iconst dX9_tied_8 ?_
  refine sn_iand dX9_tied_9 ?_
  refine sn_iconst dX9_tied_10 ?_
  refine sn_icmp_ne (tgt := 18) dX9_tied_11 (by decide) ?_ ?_
  · refine sn_iconst dX9_tied_18 ?_
    exact sn_zret dX9_tied_19
  · refine sn_iconst dX9_tied_14 ?_
    refine sn_goto (tgt := 19) dX9_tied_15 (by decide) ?_
    exact sn_zret dX9_tied_19
theorem dX9_nearAny_0 : decode cX9_nearAny 0 = .ok (.iconst 0, 1) := by decide +kernel
theorem dX9_nearAny_1 : decode cX9_nearAny 1 = .ok (.istore_n 2, 1) := by decide +kernel
theorem dX9_nearAny_2 : decode cX9_nearAny 2 = .ok (.iconst 0, 1) := by decide +kernel
theorem dX9_nearAny_3 : decode cX9_nearAny 3 = .ok (.istore_n 3, 1) := by decide +kernel
theorem dX9_nearAny_4 : decode cX9_nearAny 4 = .ok (.iload_n 3, 1) := by decide +kernel
theorem dX9_nearAny_5 : decode cX9_nearAny 5 = .ok (.aload_n 0, 1) := by decide +kernel
theorem dX9_nearAny_6 : decode cX9_nearAny 6 = .ok (.getfield 21, 3) := by decide +kernel
theorem dX9_nearAny_9 : decode cX9_nearAny 9 = .ok (.if_icmp .ge 27, 3) := by decide +kernel
theorem dX9_nearAny_12 : decode cX9_nearAny 12 = .ok (.iload_n 1, 1) := by decide +kernel
theorem dX9_nearAny_13 : decode cX9_nearAny 13 = .ok (.iload_n 3, 1) := by decide +kernel
theorem dX9_nearAny_14 : decode cX9_nearAny 14 = .ok (.ishr, 1) := by decide +kernel
theorem dX9_nearAny_15 : decode cX9_nearAny 15 = .ok (.iconst 1, 1) := by decide +kernel
theorem dX9_nearAny_16 : decode cX9_nearAny 16 = .ok (.iand, 1) := by decide +kernel
theorem dX9_nearAny_17 : decode cX9_nearAny 17 = .ok (.iconst 1, 1) := by decide +kernel
theorem dX9_nearAny_18 : decode cX9_nearAny 18 = .ok (.if_icmp .ne 12, 3) := by decide +kernel
theorem dX9_nearAny_21 : decode cX9_nearAny 21 = .ok (.iload_n 2, 1) := by decide +kernel
theorem dX9_nearAny_22 : decode cX9_nearAny 22 = .ok (.aload_n 0, 1) := by decide +kernel
theorem dX9_nearAny_23 : decode cX9_nearAny 23 = .ok (.getfield 9, 3) := by decide +kernel
theorem dX9_nearAny_26 : decode cX9_nearAny 26 = .ok (.iload_n 3, 1) := by decide +kernel
theorem dX9_nearAny_27 : decode cX9_nearAny 27 = .ok (.iaload, 1) := by decide +kernel
theorem dX9_nearAny_28 : decode cX9_nearAny 28 = .ok (.ior, 1) := by decide +kernel
theorem dX9_nearAny_29 : decode cX9_nearAny 29 = .ok (.istore_n 2, 1) := by decide +kernel
theorem dX9_nearAny_30 : decode cX9_nearAny 30 = .ok (.iinc 3 1, 3) := by decide +kernel
theorem dX9_nearAny_33 : decode cX9_nearAny 33 = .ok (.goto (-29), 3) := by decide +kernel
theorem dX9_nearAny_36 : decode cX9_nearAny 36 = .ok (.iload_n 2, 1) := by decide +kernel
theorem dX9_nearAny_37 : decode cX9_nearAny 37 = .ok (.ireturn, 1) := by decide +kernel
def mX9_nearAny (n : Nat) (a : Nat) (b1 : Int) (μ : Mem) : Option (Int × Mem) :=
  lp (fun nx4 (v4 : Int × Int) (μ4 : Mem) =>
  (gI μ4 10 a 1).bind fun x6 =>
  if lt32 v4.2 x6 then
    if eq32 (oAnd (oShr b1 v4.2) 1) 1 then
      (gA μ4 10 a 0).bind fun x23 =>
      (ldI μ4 0 x23 v4.2).bind fun x27 =>
      nx4 ((oOr v4.1 x27), (v4.2 + 1)) μ4
    else
    nx4 (v4.1, (v4.2 + 1)) μ4
  else
  some (v4.1, μ4)) n (0, 0) μ
set_option maxRecDepth 100000 in
set_option maxHeartbeats 4000000 in
theorem cX9_nearAny_ok (n : Nat) (a : Nat) (b1 : Int) (μ : Mem) : Mc yX9_nearAny cX9_nearAny 4 (some .int) 0 0 eI [aA a, aI b1] μ (mX9_nearAny n a b1 μ) := by
  refine mc_of (L0 := [some (aA a), some (aI b1), none, none]) (k := 2) (by decide) rfl rfl (fun X Γ => ?_)
  unfold mX9_nearAny
  refine sn_iconst dX9_nearAny_0 ?_
  refine sn_istore_n (L' := [some (aA a), some (aI b1), some (aI 0), none]) dX9_nearAny_1 (by decide) rfl ?_
  refine sn_iconst dX9_nearAny_2 ?_
  refine sn_istore_n (L' := [some (aA a), some (aI b1), some (aI 0), some (aI 0)]) dX9_nearAny_3 (by decide) rfl ?_
  refine sn_lp (La := fun v4 : Int × Int => [some (aA a), some (aI b1), some (aI v4.1), some (aI v4.2)]) ?_ n (0, 0) μ
  intro nx4 hnx4 v4 μ4
  refine sn_iload_n dX9_nearAny_4 rfl ?_
  refine sn_aload_n dX9_nearAny_5 rfl ?_
  refine sn_getI (ci := 9) (j := 1) dX9_nearAny_6 fl_X9_21 rfl (fun x6 => ?_)
  refine sn_icmp_ge (tgt := 36) dX9_nearAny_9 (by decide) ?_ ?_
  · refine sn_iload_n dX9_nearAny_36 rfl ?_
    exact sn_iret dX9_nearAny_37
  · refine sn_iload_n dX9_nearAny_12 rfl ?_
    refine sn_iload_n dX9_nearAny_13 rfl ?_
    refine sn_ishr dX9_nearAny_14 ?_
    refine sn_iconst dX9_nearAny_15 ?_
    refine sn_iand dX9_nearAny_16 ?_
    refine sn_iconst dX9_nearAny_17 ?_
    refine sn_icmp_ne (tgt := 30) dX9_nearAny_18 (by decide) ?_ ?_
    · refine sn_iinc (L' := [some (aA a), some (aI b1), some (aI v4.1), some (aI (v4.2 + 1))]) dX9_nearAny_30 rfl (by decide) rfl ?_
      refine sn_goto (tgt := 4) dX9_nearAny_33 (by decide) ?_
      exact hnx4 (v4.1, (v4.2 + 1)) μ4
    · refine sn_iload_n dX9_nearAny_21 rfl ?_
      refine sn_aload_n dX9_nearAny_22 rfl ?_
      refine sn_getA (ci := 9) (j := 0) dX9_nearAny_23 fl_X9_9 (by decide) (fun x23 => ?_)
      refine sn_iload_n dX9_nearAny_26 rfl ?_
      refine sn_iald dX9_nearAny_27 (fun x27 => ?_)
      refine sn_ior dX9_nearAny_28 ?_
      refine sn_istore_n (L' := [some (aA a), some (aI b1), some (aI (oOr v4.1 x27)), some (aI v4.2)]) dX9_nearAny_29 (by decide) rfl ?_
      refine sn_iinc (L' := [some (aA a), some (aI b1), some (aI (oOr v4.1 x27)), some (aI (v4.2 + 1))]) dX9_nearAny_30 rfl (by decide) rfl ?_
      refine sn_goto (tgt := 4) dX9_nearAny_33 (by decide) ?_
      exact hnx4 ((oOr v4.1 x27), (v4.2 + 1)) μ4
theorem dX9_part_0 : decode cX9_part 0 = .ok (.iconst 1, 1) := by decide +kernel
theorem dX9_part_1 : decode cX9_part 1 = .ok (.iload_n 1, 1) := by decide +kernel
theorem dX9_part_2 : decode cX9_part 2 = .ok (.ishl, 1) := by decide +kernel
theorem dX9_part_3 : decode cX9_part 3 = .ok (.istore_n 2, 1) := by decide +kernel
theorem dX9_part_4 : decode cX9_part 4 = .ok (.iconst 0, 1) := by decide +kernel
theorem dX9_part_5 : decode cX9_part 5 = .ok (.istore_n 3, 1) := by decide +kernel
theorem dX9_part_6 : decode cX9_part 6 = .ok (.iload_n 3, 1) := by decide +kernel
theorem dX9_part_7 : decode cX9_part 7 = .ok (.aload_n 0, 1) := by decide +kernel
theorem dX9_part_8 : decode cX9_part 8 = .ok (.getfield 21, 3) := by decide +kernel
theorem dX9_part_11 : decode cX9_part 11 = .ok (.if_icmp .ge 17, 3) := by decide +kernel
theorem dX9_part_14 : decode cX9_part 14 = .ok (.iload_n 2, 1) := by decide +kernel
theorem dX9_part_15 : decode cX9_part 15 = .ok (.aload_n 0, 1) := by decide +kernel
theorem dX9_part_16 : decode cX9_part 16 = .ok (.iload_n 2, 1) := by decide +kernel
theorem dX9_part_17 : decode cX9_part 17 = .ok (.invokevirtual 38, 3) := by decide +kernel
theorem dX9_part_20 : decode cX9_part 20 = .ok (.ior, 1) := by decide +kernel
theorem dX9_part_21 : decode cX9_part 21 = .ok (.istore_n 2, 1) := by decide +kernel
theorem dX9_part_22 : decode cX9_part 22 = .ok (.iinc 3 1, 3) := by decide +kernel
theorem dX9_part_25 : decode cX9_part 25 = .ok (.goto (-19), 3) := by decide +kernel
theorem dX9_part_28 : decode cX9_part 28 = .ok (.iload_n 2, 1) := by decide +kernel
theorem dX9_part_29 : decode cX9_part 29 = .ok (.ireturn, 1) := by decide +kernel
def mX9_part (n : Nat) (a : Nat) (b1 : Int) (μ : Mem) : Option (Int × Mem) :=
  lp (fun nx6 (v6 : Int × Int) (μ6 : Mem) =>
  (gI μ6 10 a 1).bind fun x8 =>
  if lt32 v6.2 x8 then
    (inv μ6 10 a (mX9_nearAny n a v6.1 μ6)).bind fun p17 =>
    nx6 ((oOr v6.1 p17.1), (v6.2 + 1)) p17.2
  else
  some (v6.1, μ6)) n ((oShl 1 b1), 0) μ
set_option maxRecDepth 100000 in
set_option maxHeartbeats 4000000 in
theorem cX9_part_ok (n : Nat) (a : Nat) (b1 : Int) (μ : Mem) : Mc yX9_part cX9_part 4 (some .int) 1 23 eI [aA a, aI b1] μ (mX9_part n a b1 μ) := by
  refine mc_of (L0 := [some (aA a), some (aI b1), none, none]) (k := 2) (by decide) rfl rfl (fun X Γ => ?_)
  unfold mX9_part
  refine sn_iconst dX9_part_0 ?_
  refine sn_iload_n dX9_part_1 rfl ?_
  refine sn_ishl dX9_part_2 ?_
  refine sn_istore_n (L' := [some (aA a), some (aI b1), some (aI (oShl 1 b1)), none]) dX9_part_3 (by decide) rfl ?_
  refine sn_iconst dX9_part_4 ?_
  refine sn_istore_n (L' := [some (aA a), some (aI b1), some (aI (oShl 1 b1)), some (aI 0)]) dX9_part_5 (by decide) rfl ?_
  refine sn_mask (L' := [some (aA a), none, some (aI (oShl 1 b1)), some (aI 0)]) [true, false, true, true] rfl ?_
  refine sn_lp (La := fun v6 : Int × Int => [some (aA a), none, some (aI v6.1), some (aI v6.2)]) ?_ n ((oShl 1 b1), 0) μ
  intro nx6 hnx6 v6 μ6
  refine sn_iload_n dX9_part_6 rfl ?_
  refine sn_aload_n dX9_part_7 rfl ?_
  refine sn_getI (ci := 9) (j := 1) dX9_part_8 fl_X9_21 rfl (fun x8 => ?_)
  refine sn_icmp_ge (tgt := 28) dX9_part_11 (by decide) ?_ ?_
  · refine sn_iload_n dX9_part_28 rfl ?_
    exact sn_iret dX9_part_29
  · refine sn_iload_n dX9_part_14 rfl ?_
    refine sn_aload_n dX9_part_15 rfl ?_
    refine sn_iload_n dX9_part_16 rfl ?_
    refine sn_callVI (vs := [aI v6.1]) (ci := 9) (cX9_nearAny_ok n a v6.1 μ6) dX9_part_17 cw_X9_38 rfl rfl rfl (by decide) (by decide) (Nat.le_of_ble_eq_true rfl) (fun p17 => ?_)
    refine sn_ior dX9_part_20 ?_
    refine sn_istore_n (L' := [some (aA a), none, some (aI (oOr v6.1 p17.1)), some (aI v6.2)]) dX9_part_21 (by decide) rfl ?_
    refine sn_iinc (L' := [some (aA a), none, some (aI (oOr v6.1 p17.1)), some (aI (v6.2 + 1))]) dX9_part_22 rfl (by decide) rfl ?_
    refine sn_goto (tgt := 6) dX9_part_25 (by decide) ?_
    exact hnx6 ((oOr v6.1 p17.1), (v6.2 + 1)) p17.2
theorem dX9_oneSide_0 : decode cX9_oneSide 0 = .ok (.iconst 0, 1) := by decide +kernel
theorem dX9_oneSide_1 : decode cX9_oneSide 1 = .ok (.istore_n 1, 1) := by decide +kernel
theorem dX9_oneSide_2 : decode cX9_oneSide 2 = .ok (.iconst 0, 1) := by decide +kernel
theorem dX9_oneSide_3 : decode cX9_oneSide 3 = .ok (.istore_n 2, 1) := by decide +kernel
theorem dX9_oneSide_4 : decode cX9_oneSide 4 = .ok (.iconst 0, 1) := by decide +kernel
theorem dX9_oneSide_5 : decode cX9_oneSide 5 = .ok (.istore_n 3, 1) := by decide +kernel
theorem dX9_oneSide_6 : decode cX9_oneSide 6 = .ok (.iload_n 3, 1) := by decide +kernel
theorem dX9_oneSide_7 : decode cX9_oneSide 7 = .ok (.aload_n 0, 1) := by decide +kernel
theorem dX9_oneSide_8 : decode cX9_oneSide 8 = .ok (.getfield 21, 3) := by decide +kernel
theorem dX9_oneSide_11 : decode cX9_oneSide 11 = .ok (.if_icmp .ge 88, 3) := by decide +kernel
theorem dX9_oneSide_14 : decode cX9_oneSide 14 = .ok (.iload_n 2, 1) := by decide +kernel
theorem dX9_oneSide_15 : decode cX9_oneSide 15 = .ok (.iload_n 3, 1) := by decide +kernel
theorem dX9_oneSide_16 : decode cX9_oneSide 16 = .ok (.ishr, 1) := by decide +kernel
theorem dX9_oneSide_17 : decode cX9_oneSide 17 = .ok (.iconst 1, 1) := by decide +kernel
theorem dX9_oneSide_18 : decode cX9_oneSide 18 = .ok (.iand, 1) := by decide +kernel
theorem dX9_oneSide_19 : decode cX9_oneSide 19 = .ok (.ifCond .ne 74, 3) := by decide +kernel
theorem dX9_oneSide_22 : decode cX9_oneSide 22 = .ok (.iconst 1, 1) := by decide +kernel
theorem dX9_oneSide_23 : decode cX9_oneSide 23 = .ok (.iload_n 3, 1) := by decide +kernel
theorem dX9_oneSide_24 : decode cX9_oneSide 24 = .ok (.ishl, 1) := by decide +kernel
theorem dX9_oneSide_25 : decode cX9_oneSide 25 = .ok (.istore 4, 2) := by decide +kernel
theorem dX9_oneSide_27 : decode cX9_oneSide 27 = .ok (.iconst 0, 1) := by decide +kernel
theorem dX9_oneSide_28 : decode cX9_oneSide 28 = .ok (.istore 5, 2) := by decide +kernel
theorem dX9_oneSide_30 : decode cX9_oneSide 30 = .ok (.iconst 0, 1) := by decide +kernel
theorem dX9_oneSide_31 : decode cX9_oneSide 31 = .ok (.istore 6, 2) := by decide +kernel
theorem dX9_oneSide_33 : decode cX9_oneSide 33 = .ok (.iload 6, 2) := by decide +kernel
theorem dX9_oneSide_35 : decode cX9_oneSide 35 = .ok (.aload_n 0, 1) := by decide +kernel
theorem dX9_oneSide_36 : decode cX9_oneSide 36 = .ok (.getfield 21, 3) := by decide +kernel
theorem dX9_oneSide_39 : decode cX9_oneSide 39 = .ok (.if_icmp .ge 31, 3) := by decide +kernel
theorem dX9_oneSide_42 : decode cX9_oneSide 42 = .ok (.iload 5, 2) := by decide +kernel
theorem dX9_oneSide_44 : decode cX9_oneSide 44 = .ok (.aload_n 0, 1) := by decide +kernel
theorem dX9_oneSide_45 : decode cX9_oneSide 45 = .ok (.iload 4, 2) := by decide +kernel
theorem dX9_oneSide_47 : decode cX9_oneSide 47 = .ok (.invokevirtual 38, 3) := by decide +kernel
theorem dX9_oneSide_50 : decode cX9_oneSide 50 = .ok (.ior, 1) := by decide +kernel
theorem dX9_oneSide_51 : decode cX9_oneSide 51 = .ok (.istore 5, 2) := by decide +kernel
theorem dX9_oneSide_53 : decode cX9_oneSide 53 = .ok (.iload 4, 2) := by decide +kernel
theorem dX9_oneSide_55 : decode cX9_oneSide 55 = .ok (.aload_n 0, 1) := by decide +kernel
theorem dX9_oneSide_56 : decode cX9_oneSide 56 = .ok (.iload 5, 2) := by decide +kernel
theorem dX9_oneSide_58 : decode cX9_oneSide 58 = .ok (.invokevirtual 38, 3) := by decide +kernel
theorem dX9_oneSide_61 : decode cX9_oneSide 61 = .ok (.ior, 1) := by decide +kernel
theorem dX9_oneSide_62 : decode cX9_oneSide 62 = .ok (.istore 4, 2) := by decide +kernel
theorem dX9_oneSide_64 : decode cX9_oneSide 64 = .ok (.iinc 6 1, 3) := by decide +kernel
theorem dX9_oneSide_67 : decode cX9_oneSide 67 = .ok (.goto (-34), 3) := by decide +kernel
theorem dX9_oneSide_70 : decode cX9_oneSide 70 = .ok (.iload 4, 2) := by decide +kernel
theorem dX9_oneSide_72 : decode cX9_oneSide 72 = .ok (.iload 5, 2) := by decide +kernel
theorem dX9_oneSide_74 : decode cX9_oneSide 74 = .ok (.iand, 1) := by decide +kernel
theorem dX9_oneSide_75 : decode cX9_oneSide 75 = .ok (.ifCond .eq 5, 3) := by decide +kernel
theorem dX9_oneSide_78 : decode cX9_oneSide 78 = .ok (.iconst (-1), 1) := by decide +kernel
theorem dX9_oneSide_79 : decode cX9_oneSide 79 = .ok (.ireturn, 1) := by decide +kernel
theorem dX9_oneSide_80 : decode cX9_oneSide 80 = .ok (.iload_n 1, 1) := by decide +kernel
theorem dX9_oneSide_81 : decode cX9_oneSide 81 = .ok (.iload 4, 2) := by decide +kernel
theorem dX9_oneSide_83 : decode cX9_oneSide 83 = .ok (.ior, 1) := by decide +kernel
theorem dX9_oneSide_84 : decode cX9_oneSide 84 = .ok (.istore_n 1, 1) := by decide +kernel
theorem dX9_oneSide_85 : decode cX9_oneSide 85 = .ok (.iload_n 2, 1) := by decide +kernel
theorem dX9_oneSide_86 : decode cX9_oneSide 86 = .ok (.iload 4, 2) := by decide +kernel
theorem dX9_oneSide_88 : decode cX9_oneSide 88 = .ok (.iload 5, 2) := by decide +kernel
theorem dX9_oneSide_90 : decode cX9_oneSide 90 = .ok (.ior, 1) := by decide +kernel
theorem dX9_oneSide_91 : decode cX9_oneSide 91 = .ok (.ior, 1) := by decide +kernel
theorem dX9_oneSide_92 : decode cX9_oneSide 92 = .ok (.istore_n 2, 1) := by decide +kernel
theorem dX9_oneSide_93 : decode cX9_oneSide 93 = .ok (.iinc 3 1, 3) := by decide +kernel
theorem dX9_oneSide_96 : decode cX9_oneSide 96 = .ok (.goto (-90), 3) := by decide +kernel
theorem dX9_oneSide_99 : decode cX9_oneSide 99 = .ok (.iload_n 1, 1) := by decide +kernel
theorem dX9_oneSide_100 : decode cX9_oneSide 100 = .ok (.ireturn, 1) := by decide +kernel
def mX9_oneSide (n : Nat) (a : Nat) (μ : Mem) : Option (Int × Mem) :=
  lp (fun nx6 (v6 : Int × Int × Int) (μ6 : Mem) =>
  (gI μ6 10 a 1).bind fun x8 =>
  if lt32 v6.2.2 x8 then
    if eq32 (oAnd (oShr v6.2.1 v6.2.2) 1) 0 then
      lp (fun nx33 (v33 : Int × Int × Int) (μ33 : Mem) =>
      (gI μ33 10 a 1).bind fun x36 =>
      if lt32 v33.2.2 x36 then
        (inv μ33 10 a (mX9_nearAny n a v33.1 μ33)).bind fun p47 =>
        (inv p47.2 10 a (mX9_nearAny n a (oOr v33.2.1 p47.1) p47.2)).bind fun p58 =>
        nx33 ((oOr v33.1 p58.1), (oOr v33.2.1 p47.1), (v33.2.2 + 1)) p58.2
      else
      if eq32 (oAnd v33.1 v33.2.1) 0 then
        nx6 ((oOr v6.1 v33.1), (oOr v6.2.1 (oOr v33.1 v33.2.1)), (v6.2.2 + 1)) μ33
      else
      some ((-1), μ33)) n ((oShl 1 v6.2.2), 0, 0) μ6
    else
    nx6 (v6.1, v6.2.1, (v6.2.2 + 1)) μ6
  else
  some (v6.1, μ6)) n (0, 0, 0) μ
set_option maxRecDepth 100000 in
set_option maxHeartbeats 4000000 in
theorem cX9_oneSide_ok (n : Nat) (a : Nat) (μ : Mem) : Mc yX9_oneSide cX9_oneSide 7 (some .int) 1 23 eI [aA a] μ (mX9_oneSide n a μ) := by
  refine mc_of (L0 := [some (aA a), none, none, none, none, none, none]) (k := 6) (by decide) rfl rfl (fun X Γ => ?_)
  unfold mX9_oneSide
  refine sn_iconst dX9_oneSide_0 ?_
  refine sn_istore_n (L' := [some (aA a), some (aI 0), none, none, none, none, none]) dX9_oneSide_1 (by decide) rfl ?_
  refine sn_iconst dX9_oneSide_2 ?_
  refine sn_istore_n (L' := [some (aA a), some (aI 0), some (aI 0), none, none, none, none]) dX9_oneSide_3 (by decide) rfl ?_
  refine sn_iconst dX9_oneSide_4 ?_
  refine sn_istore_n (L' := [some (aA a), some (aI 0), some (aI 0), some (aI 0), none, none, none]) dX9_oneSide_5 (by decide) rfl ?_
  refine sn_lp (La := fun v6 : Int × Int × Int => [some (aA a), some (aI v6.1), some (aI v6.2.1), some (aI v6.2.2), none, none, none]) ?_ n (0, 0, 0) μ
  intro nx6 hnx6 v6 μ6
  refine sn_iload_n dX9_oneSide_6 rfl ?_
  refine sn_aload_n dX9_oneSide_7 rfl ?_
  refine sn_getI (ci := 9) (j := 1) dX9_oneSide_8 fl_X9_21 rfl (fun x8 => ?_)
  refine sn_icmp_ge (tgt := 99) dX9_oneSide_11 (by decide) ?_ ?_
  · refine sn_iload_n dX9_oneSide_99 rfl ?_
    exact sn_iret dX9_oneSide_100
  · refine sn_iload_n dX9_oneSide_14 rfl ?_
    refine sn_iload_n dX9_oneSide_15 rfl ?_
    refine sn_ishr dX9_oneSide_16 ?_
    refine sn_iconst dX9_oneSide_17 ?_
    refine sn_iand dX9_oneSide_18 ?_
    refine sn_if_ne (tgt := 93) dX9_oneSide_19 (by decide) ?_ ?_
    · refine sn_iinc (L' := [some (aA a), some (aI v6.1), some (aI v6.2.1), some (aI (v6.2.2 + 1)), none, none, none]) dX9_oneSide_93 rfl (by decide) rfl ?_
      refine sn_goto (tgt := 6) dX9_oneSide_96 (by decide) ?_
      exact hnx6 (v6.1, v6.2.1, (v6.2.2 + 1)) μ6
    · refine sn_iconst dX9_oneSide_22 ?_
      refine sn_iload_n dX9_oneSide_23 rfl ?_
      refine sn_ishl dX9_oneSide_24 ?_
      refine sn_istore (L' := [some (aA a), some (aI v6.1), some (aI v6.2.1), some (aI v6.2.2), some (aI (oShl 1 v6.2.2)), none, none]) dX9_oneSide_25 (by decide) rfl ?_
      refine sn_iconst dX9_oneSide_27 ?_
      refine sn_istore (L' := [some (aA a), some (aI v6.1), some (aI v6.2.1), some (aI v6.2.2), some (aI (oShl 1 v6.2.2)), some (aI 0), none]) dX9_oneSide_28 (by decide) rfl ?_
      refine sn_iconst dX9_oneSide_30 ?_
      refine sn_istore (L' := [some (aA a), some (aI v6.1), some (aI v6.2.1), some (aI v6.2.2), some (aI (oShl 1 v6.2.2)), some (aI 0), some (aI 0)]) dX9_oneSide_31 (by decide) rfl ?_
      refine sn_lp (La := fun v33 : Int × Int × Int => [some (aA a), some (aI v6.1), some (aI v6.2.1), some (aI v6.2.2), some (aI v33.1), some (aI v33.2.1), some (aI v33.2.2)]) ?_ n ((oShl 1 v6.2.2), 0, 0) μ6
      intro nx33 hnx33 v33 μ33
      refine sn_iload dX9_oneSide_33 rfl ?_
      refine sn_aload_n dX9_oneSide_35 rfl ?_
      refine sn_getI (ci := 9) (j := 1) dX9_oneSide_36 fl_X9_21 rfl (fun x36 => ?_)
      refine sn_icmp_ge (tgt := 70) dX9_oneSide_39 (by decide) ?_ ?_
      · refine sn_iload dX9_oneSide_70 rfl ?_
        refine sn_iload dX9_oneSide_72 rfl ?_
        refine sn_iand dX9_oneSide_74 ?_
        refine sn_if_eq (tgt := 80) dX9_oneSide_75 (by decide) ?_ ?_
        · refine sn_iload_n dX9_oneSide_80 rfl ?_
          refine sn_iload dX9_oneSide_81 rfl ?_
          refine sn_ior dX9_oneSide_83 ?_
          refine sn_istore_n (L' := [some (aA a), some (aI (oOr v6.1 v33.1)), some (aI v6.2.1), some (aI v6.2.2), some (aI v33.1), some (aI v33.2.1), some (aI v33.2.2)]) dX9_oneSide_84 (by decide) rfl ?_
          refine sn_iload_n dX9_oneSide_85 rfl ?_
          refine sn_iload dX9_oneSide_86 rfl ?_
          refine sn_iload dX9_oneSide_88 rfl ?_
          refine sn_ior dX9_oneSide_90 ?_
          refine sn_ior dX9_oneSide_91 ?_
          refine sn_istore_n (L' := [some (aA a), some (aI (oOr v6.1 v33.1)), some (aI (oOr v6.2.1 (oOr v33.1 v33.2.1))), some (aI v6.2.2), some (aI v33.1), some (aI v33.2.1), some (aI v33.2.2)]) dX9_oneSide_92 (by decide) rfl ?_
          refine sn_iinc (L' := [some (aA a), some (aI (oOr v6.1 v33.1)), some (aI (oOr v6.2.1 (oOr v33.1 v33.2.1))), some (aI (v6.2.2 + 1)), some (aI v33.1), some (aI v33.2.1), some (aI v33.2.2)]) dX9_oneSide_93 rfl (by decide) rfl ?_
          refine sn_goto (tgt := 6) dX9_oneSide_96 (by decide) ?_
          exact sn_mask (L' := [some (aA a), some (aI (oOr v6.1 v33.1)), some (aI (oOr v6.2.1 (oOr v33.1 v33.2.1))), some (aI (v6.2.2 + 1)), none, none, none]) [true, true, true, true, false, false, false] rfl (hnx6 ((oOr v6.1 v33.1), (oOr v6.2.1 (oOr v33.1 v33.2.1)), (v6.2.2 + 1)) μ33)
        · refine sn_iconst dX9_oneSide_78 ?_
          exact sn_iret dX9_oneSide_79
      · refine sn_iload dX9_oneSide_42 rfl ?_
        refine sn_aload_n dX9_oneSide_44 rfl ?_
        refine sn_iload dX9_oneSide_45 rfl ?_
        refine sn_callVI (vs := [aI v33.1]) (ci := 9) (cX9_nearAny_ok n a v33.1 μ33) dX9_oneSide_47 cw_X9_38 rfl rfl rfl (by decide) (by decide) (Nat.le_of_ble_eq_true rfl) (fun p47 => ?_)
        refine sn_ior dX9_oneSide_50 ?_
        refine sn_istore (L' := [some (aA a), some (aI v6.1), some (aI v6.2.1), some (aI v6.2.2), some (aI v33.1), some (aI (oOr v33.2.1 p47.1)), some (aI v33.2.2)]) dX9_oneSide_51 (by decide) rfl ?_
        refine sn_iload dX9_oneSide_53 rfl ?_
        refine sn_aload_n dX9_oneSide_55 rfl ?_
        refine sn_iload dX9_oneSide_56 rfl ?_
        refine sn_callVI (vs := [aI (oOr v33.2.1 p47.1)]) (ci := 9) (cX9_nearAny_ok n a (oOr v33.2.1 p47.1) p47.2) dX9_oneSide_58 cw_X9_38 rfl rfl rfl (by decide) (by decide) (Nat.le_of_ble_eq_true rfl) (fun p58 => ?_)
        refine sn_ior dX9_oneSide_61 ?_
        refine sn_istore (L' := [some (aA a), some (aI v6.1), some (aI v6.2.1), some (aI v6.2.2), some (aI (oOr v33.1 p58.1)), some (aI (oOr v33.2.1 p47.1)), some (aI v33.2.2)]) dX9_oneSide_62 (by decide) rfl ?_
        refine sn_iinc (L' := [some (aA a), some (aI v6.1), some (aI v6.2.1), some (aI v6.2.2), some (aI (oOr v33.1 p58.1)), some (aI (oOr v33.2.1 p47.1)), some (aI (v33.2.2 + 1))]) dX9_oneSide_64 rfl (by decide) rfl ?_
        refine sn_goto (tgt := 33) dX9_oneSide_67 (by decide) ?_
        exact hnx33 ((oOr v33.1 p58.1), (oOr v33.2.1 p47.1), (v33.2.2 + 1)) p58.2
theorem dX9_steps_0 : decode cX9_steps 0 = .ok (.iconst 1, 1) := by decide +kernel
theorem dX9_steps_1 : decode cX9_steps 1 = .ok (.iload_n 1, 1) := by decide +kernel
theorem dX9_steps_2 : decode cX9_steps 2 = .ok (.ishl, 1) := by decide +kernel
theorem dX9_steps_3 : decode cX9_steps 3 = .ok (.istore_n 3, 1) := by decide +kernel
theorem dX9_steps_4 : decode cX9_steps 4 = .ok (.iconst 0, 1) := by decide +kernel
theorem dX9_steps_5 : decode cX9_steps 5 = .ok (.istore 4, 2) := by decide +kernel
theorem dX9_steps_7 : decode cX9_steps 7 = .ok (.iload 4, 2) := by decide +kernel
theorem dX9_steps_9 : decode cX9_steps 9 = .ok (.aload_n 0, 1) := by decide +kernel
theorem dX9_steps_10 : decode cX9_steps 10 = .ok (.getfield 21, 3) := by decide +kernel
theorem dX9_steps_13 : decode cX9_steps 13 = .ok (.if_icmp .gt 29, 3) := by decide +kernel
theorem dX9_steps_16 : decode cX9_steps 16 = .ok (.iload_n 3, 1) := by decide +kernel
theorem dX9_steps_17 : decode cX9_steps 17 = .ok (.iload_n 2, 1) := by decide +kernel
theorem dX9_steps_18 : decode cX9_steps 18 = .ok (.ishr, 1) := by decide +kernel
theorem dX9_steps_19 : decode cX9_steps 19 = .ok (.iconst 1, 1) := by decide +kernel
theorem dX9_steps_20 : decode cX9_steps 20 = .ok (.iand, 1) := by decide +kernel
theorem dX9_steps_21 : decode cX9_steps 21 = .ok (.iconst 1, 1) := by decide +kernel
theorem dX9_steps_22 : decode cX9_steps 22 = .ok (.if_icmp .ne 6, 3) := by decide +kernel
theorem dX9_steps_25 : decode cX9_steps 25 = .ok (.iload 4, 2) := by decide +kernel
theorem dX9_steps_27 : decode cX9_steps 27 = .ok (.ireturn, 1) := by decide +kernel
theorem dX9_steps_28 : decode cX9_steps 28 = .ok (.iload_n 3, 1) := by decide +kernel
theorem dX9_steps_29 : decode cX9_steps 29 = .ok (.aload_n 0, 1) := by decide +kernel
theorem dX9_steps_30 : decode cX9_steps 30 = .ok (.iload_n 3, 1) := by decide +kernel
theorem dX9_steps_31 : decode cX9_steps 31 = .ok (.invokevirtual 38, 3) := by decide +kernel
theorem dX9_steps_34 : decode cX9_steps 34 = .ok (.ior, 1) := by decide +kernel
theorem dX9_steps_35 : decode cX9_steps 35 = .ok (.istore_n 3, 1) := by decide +kernel
theorem dX9_steps_36 : decode cX9_steps 36 = .ok (.iinc 4 1, 3) := by decide +kernel
theorem dX9_steps_39 : decode cX9_steps 39 = .ok (.goto (-32), 3) := by decide +kernel
theorem dX9_steps_42 : decode cX9_steps 42 = .ok (.iconst (-1), 1) := by decide +kernel
theorem dX9_steps_43 : decode cX9_steps 43 = .ok (.ireturn, 1) := by decide +kernel
def mX9_steps (n : Nat) (a : Nat) (b1 : Int) (b2 : Int) (μ : Mem) : Option (Int × Mem) :=
  lp (fun nx7 (v7 : Int × Int) (μ7 : Mem) =>
  (gI μ7 10 a 1).bind fun x10 =>
  if lt32 x10 v7.2 then
    some ((-1), μ7)
  else
  if eq32 (oAnd (oShr v7.1 b2) 1) 1 then
    some (v7.2, μ7)
  else
  (inv μ7 10 a (mX9_nearAny n a v7.1 μ7)).bind fun p31 =>
  nx7 ((oOr v7.1 p31.1), (v7.2 + 1)) p31.2) n ((oShl 1 b1), 0) μ
set_option maxRecDepth 100000 in
set_option maxHeartbeats 4000000 in
theorem cX9_steps_ok (n : Nat) (a : Nat) (b1 : Int) (b2 : Int) (μ : Mem) : Mc yX9_steps cX9_steps 5 (some .int) 1 23 eI [aA a, aI b1, aI b2] μ (mX9_steps n a b1 b2 μ) := by
  refine mc_of (L0 := [some (aA a), some (aI b1), some (aI b2), none, none]) (k := 2) (by decide) rfl rfl (fun X Γ => ?_)
  unfold mX9_steps
  refine sn_iconst dX9_steps_0 ?_
  refine sn_iload_n dX9_steps_1 rfl ?_
  refine sn_ishl dX9_steps_2 ?_
  refine sn_istore_n (L' := [some (aA a), some (aI b1), some (aI b2), some (aI (oShl 1 b1)), none]) dX9_steps_3 (by decide) rfl ?_
  refine sn_iconst dX9_steps_4 ?_
  refine sn_istore (L' := [some (aA a), some (aI b1), some (aI b2), some (aI (oShl 1 b1)), some (aI 0)]) dX9_steps_5 (by decide) rfl ?_
  refine sn_mask (L' := [some (aA a), none, some (aI b2), some (aI (oShl 1 b1)), some (aI 0)]) [true, false, true, true, true] rfl ?_
  refine sn_lp (La := fun v7 : Int × Int => [some (aA a), none, some (aI b2), some (aI v7.1), some (aI v7.2)]) ?_ n ((oShl 1 b1), 0) μ
  intro nx7 hnx7 v7 μ7
  refine sn_iload dX9_steps_7 rfl ?_
  refine sn_aload_n dX9_steps_9 rfl ?_
  refine sn_getI (ci := 9) (j := 1) dX9_steps_10 fl_X9_21 rfl (fun x10 => ?_)
  refine sn_icmp_gt (tgt := 42) dX9_steps_13 (by decide) ?_ ?_
  · refine sn_iconst dX9_steps_42 ?_
    exact sn_iret dX9_steps_43
  · refine sn_iload_n dX9_steps_16 rfl ?_
    refine sn_iload_n dX9_steps_17 rfl ?_
    refine sn_ishr dX9_steps_18 ?_
    refine sn_iconst dX9_steps_19 ?_
    refine sn_iand dX9_steps_20 ?_
    refine sn_iconst dX9_steps_21 ?_
    refine sn_icmp_ne (tgt := 28) dX9_steps_22 (by decide) ?_ ?_
    · refine sn_iload_n dX9_steps_28 rfl ?_
      refine sn_aload_n dX9_steps_29 rfl ?_
      refine sn_iload_n dX9_steps_30 rfl ?_
      refine sn_callVI (vs := [aI v7.1]) (ci := 9) (cX9_nearAny_ok n a v7.1 μ7) dX9_steps_31 cw_X9_38 rfl rfl rfl (by decide) (by decide) (Nat.le_of_ble_eq_true rfl) (fun p31 => ?_)
      refine sn_ior dX9_steps_34 ?_
      refine sn_istore_n (L' := [some (aA a), none, some (aI b2), some (aI (oOr v7.1 p31.1)), some (aI v7.2)]) dX9_steps_35 (by decide) rfl ?_
      refine sn_iinc (L' := [some (aA a), none, some (aI b2), some (aI (oOr v7.1 p31.1)), some (aI (v7.2 + 1))]) dX9_steps_36 rfl (by decide) rfl ?_
      refine sn_goto (tgt := 7) dX9_steps_39 (by decide) ?_
      exact hnx7 ((oOr v7.1 p31.1), (v7.2 + 1)) p31.2
    · refine sn_iload dX9_steps_25 rfl ?_
      exact sn_iret dX9_steps_27
theorem dX9_greatestLoose_0 : decode cX9_greatestLoose 0 = .ok (.iconst 0, 1) := by decide +kernel
theorem dX9_greatestLoose_1 : decode cX9_greatestLoose 1 = .ok (.istore_n 1, 1) := by decide +kernel
theorem dX9_greatestLoose_2 : decode cX9_greatestLoose 2 = .ok (.iconst 0, 1) := by decide +kernel
theorem dX9_greatestLoose_3 : decode cX9_greatestLoose 3 = .ok (.istore_n 2, 1) := by decide +kernel
theorem dX9_greatestLoose_4 : decode cX9_greatestLoose 4 = .ok (.iload_n 2, 1) := by decide +kernel
theorem dX9_greatestLoose_5 : decode cX9_greatestLoose 5 = .ok (.iconst 1, 1) := by decide +kernel
theorem dX9_greatestLoose_6 : decode cX9_greatestLoose 6 = .ok (.aload_n 0, 1) := by decide +kernel
theorem dX9_greatestLoose_7 : decode cX9_greatestLoose 7 = .ok (.getfield 21, 3) := by decide +kernel
theorem dX9_greatestLoose_10 : decode cX9_greatestLoose 10 = .ok (.ishl, 1) := by decide +kernel
theorem dX9_greatestLoose_11 : decode cX9_greatestLoose 11 = .ok (.if_icmp .ge 32, 3) := by decide +kernel
theorem dX9_greatestLoose_14 : decode cX9_greatestLoose 14 = .ok (.iload_n 2, 1) := by decide +kernel
theorem dX9_greatestLoose_15 : decode cX9_greatestLoose 15 = .ok (.invokestatic 42, 3) := by decide +kernel
theorem dX9_greatestLoose_18 : decode cX9_greatestLoose 18 = .ok (.iload_n 1, 1) := by decide +kernel
theorem dX9_greatestLoose_19 : decode cX9_greatestLoose 19 = .ok (.invokestatic 42, 3) := by decide +kernel
theorem dX9_greatestLoose_22 : decode cX9_greatestLoose 22 = .ok (.if_icmp .le 15, 3) := by decide +kernel
theorem dX9_greatestLoose_25 : decode cX9_greatestLoose 25 = .ok (.aload_n 0, 1) := by decide +kernel
theorem dX9_greatestLoose_26 : decode cX9_greatestLoose 26 = .ok (.iload_n 2, 1) := by decide +kernel
theorem dX9_greatestLoose_27 : decode cX9_greatestLoose 27 = .ok (.invokevirtual 38, 3) := by decide +kernel
theorem dX9_greatestLoose_30 : decode cX9_greatestLoose 30 = .ok (.iload_n 2, 1) := by decide +kernel
theorem dX9_greatestLoose_31 : decode cX9_greatestLoose 31 = .ok (.iand, 1) := by decide +kernel
theorem dX9_greatestLoose_32 : decode cX9_greatestLoose 32 = .ok (.ifCond .ne 5, 3) := by decide +kernel
theorem dX9_greatestLoose_35 : decode cX9_greatestLoose 35 = .ok (.iload_n 2, 1) := by decide +kernel
theorem dX9_greatestLoose_36 : decode cX9_greatestLoose 36 = .ok (.istore_n 1, 1) := by decide +kernel
theorem dX9_greatestLoose_37 : decode cX9_greatestLoose 37 = .ok (.iinc 2 1, 3) := by decide +kernel
theorem dX9_greatestLoose_40 : decode cX9_greatestLoose 40 = .ok (.goto (-36), 3) := by decide +kernel
theorem dX9_greatestLoose_43 : decode cX9_greatestLoose 43 = .ok (.iload_n 1, 1) := by decide +kernel
theorem dX9_greatestLoose_44 : decode cX9_greatestLoose 44 = .ok (.ireturn, 1) := by decide +kernel
def mX9_greatestLoose (n : Nat) (a : Nat) (μ : Mem) : Option (Int × Mem) :=
  lp (fun nx4 (v4 : Int × Int) (μ4 : Mem) =>
  (gI μ4 10 a 1).bind fun x7 =>
  if lt32 v4.2 (oShl 1 x7) then
    (mJ6_bitCount_0f7a4 n v4.2 μ4).bind fun p15 =>
    (mJ6_bitCount_0f7a4 n v4.1 p15.2).bind fun p19 =>
    if lt32 p19.1 p15.1 then
      (inv p19.2 10 a (mX9_nearAny n a v4.2 p19.2)).bind fun p27 =>
      if eq32 (oAnd p27.1 v4.2) 0 then
        nx4 (v4.2, (v4.2 + 1)) p27.2
      else
      nx4 (v4.1, (v4.2 + 1)) p27.2
    else
    nx4 (v4.1, (v4.2 + 1)) p19.2
  else
  some (v4.1, μ4)) n (0, 0) μ
set_option maxRecDepth 100000 in
set_option maxHeartbeats 4000000 in
theorem cX9_greatestLoose_ok (n : Nat) (a : Nat) (μ : Mem) : Mc yX9_greatestLoose cX9_greatestLoose 3 (some .int) 1 23 eI [aA a] μ (mX9_greatestLoose n a μ) := by
  refine mc_of (L0 := [some (aA a), none, none]) (k := 2) (by decide) rfl rfl (fun X Γ => ?_)
  unfold mX9_greatestLoose
  refine sn_iconst dX9_greatestLoose_0 ?_
  refine sn_istore_n (L' := [some (aA a), some (aI 0), none]) dX9_greatestLoose_1 (by decide) rfl ?_
  refine sn_iconst dX9_greatestLoose_2 ?_
  refine sn_istore_n (L' := [some (aA a), some (aI 0), some (aI 0)]) dX9_greatestLoose_3 (by decide) rfl ?_
  refine sn_lp (La := fun v4 : Int × Int => [some (aA a), some (aI v4.1), some (aI v4.2)]) ?_ n (0, 0) μ
  intro nx4 hnx4 v4 μ4
  refine sn_iload_n dX9_greatestLoose_4 rfl ?_
  refine sn_iconst dX9_greatestLoose_5 ?_
  refine sn_aload_n dX9_greatestLoose_6 rfl ?_
  refine sn_getI (ci := 9) (j := 1) dX9_greatestLoose_7 fl_X9_21 rfl (fun x7 => ?_)
  refine sn_ishl dX9_greatestLoose_10 ?_
  refine sn_icmp_ge (tgt := 43) dX9_greatestLoose_11 (by decide) ?_ ?_
  · refine sn_iload_n dX9_greatestLoose_43 rfl ?_
    exact sn_iret dX9_greatestLoose_44
  · refine sn_iload_n dX9_greatestLoose_14 rfl ?_
    refine sn_callSI (vs := [aI v4.2]) (cJ6_bitCount_0f7a4_ok n v4.2 μ4) dX9_greatestLoose_15 cw_X9_42 rfl (by decide) (by decide) (Nat.le_of_ble_eq_true rfl) (fun p15 => ?_)
    refine sn_iload_n dX9_greatestLoose_18 rfl ?_
    refine sn_callSI (vs := [aI v4.1]) (cJ6_bitCount_0f7a4_ok n v4.1 p15.2) dX9_greatestLoose_19 cw_X9_42 rfl (by decide) (by decide) (Nat.le_of_ble_eq_true rfl) (fun p19 => ?_)
    refine sn_icmp_le (tgt := 37) dX9_greatestLoose_22 (by decide) ?_ ?_
    · refine sn_iinc (L' := [some (aA a), some (aI v4.1), some (aI (v4.2 + 1))]) dX9_greatestLoose_37 rfl (by decide) rfl ?_
      refine sn_goto (tgt := 4) dX9_greatestLoose_40 (by decide) ?_
      exact hnx4 (v4.1, (v4.2 + 1)) p19.2
    · refine sn_aload_n dX9_greatestLoose_25 rfl ?_
      refine sn_iload_n dX9_greatestLoose_26 rfl ?_
      refine sn_callVI (vs := [aI v4.2]) (ci := 9) (cX9_nearAny_ok n a v4.2 p19.2) dX9_greatestLoose_27 cw_X9_38 rfl rfl rfl (by decide) (by decide) (Nat.le_of_ble_eq_true rfl) (fun p27 => ?_)
      refine sn_iload_n dX9_greatestLoose_30 rfl ?_
      refine sn_iand dX9_greatestLoose_31 ?_
      refine sn_if_ne (tgt := 37) dX9_greatestLoose_32 (by decide) ?_ ?_
      · refine sn_iinc (L' := [some (aA a), some (aI v4.1), some (aI (v4.2 + 1))]) dX9_greatestLoose_37 rfl (by decide) rfl ?_
        refine sn_goto (tgt := 4) dX9_greatestLoose_40 (by decide) ?_
        exact hnx4 (v4.1, (v4.2 + 1)) p27.2
      · refine sn_iload_n dX9_greatestLoose_35 rfl ?_
        refine sn_istore_n (L' := [some (aA a), some (aI v4.2), some (aI v4.2)]) dX9_greatestLoose_36 (by decide) rfl ?_
        refine sn_iinc (L' := [some (aA a), some (aI v4.2), some (aI (v4.2 + 1))]) dX9_greatestLoose_37 rfl (by decide) rfl ?_
        refine sn_goto (tgt := 4) dX9_greatestLoose_40 (by decide) ?_
        exact hnx4 (v4.2, (v4.2 + 1)) p27.2
