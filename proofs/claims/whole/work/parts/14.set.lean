/-! layer 1: set -/
theorem dX6_init_0 : decode cX6_init 0 = .ok (.aload_n 0, 1) := by decide +kernel
theorem dX6_init_1 : decode cX6_init 1 = .ok (.invokespecial 5, 3) := by decide +kernel
theorem dX6_init_4 : decode cX6_init 4 = .ok (.aload_n 0, 1) := by decide +kernel
theorem dX6_init_5 : decode cX6_init 5 = .ok (.sipush 3001, 3) := by decide +kernel
theorem dX6_init_8 : decode cX6_init 8 = .ok (.newarray .long, 2) := by decide +kernel
theorem dX6_init_10 : decode cX6_init 10 = .ok (.putfield 11, 3) := by decide +kernel
theorem dX6_init_13 : decode cX6_init 13 = .ok (.aload_n 0, 1) := by decide +kernel
theorem dX6_init_14 : decode cX6_init 14 = .ok (.sipush 3001, 3) := by decide +kernel
theorem dX6_init_17 : decode cX6_init 17 = .ok (.newarray .int, 2) := by decide +kernel
theorem dX6_init_19 : decode cX6_init 19 = .ok (.putfield 15, 3) := by decide +kernel
theorem dX6_init_22 : decode cX6_init 22 = .ok (.aload_n 0, 1) := by decide +kernel
theorem dX6_init_23 : decode cX6_init 23 = .ok (.sipush 4096, 3) := by decide +kernel
theorem dX6_init_26 : decode cX6_init 26 = .ok (.newarray .int, 2) := by decide +kernel
theorem dX6_init_28 : decode cX6_init 28 = .ok (.putfield 19, 3) := by decide +kernel
theorem dX6_init_31 : decode cX6_init 31 = .ok (.return_, 1) := by decide +kernel
def mX6_init (n : Nat) (a : Nat) (μ : Mem) : Option (Unit × Mem) :=
  inv μ 7 a
  ((nwA μ 3 3001).bind fun p8 =>
  (pA p8.2 7 a 1 p8.1).bind fun μ10 =>
  (nwA μ10 0 3001).bind fun p17 =>
  (pA p17.2 7 a 2 p17.1).bind fun μ19 =>
  (nwA μ19 0 4096).bind fun p26 =>
  (pA p26.2 7 a 3 p26.1).bind fun μ28 =>
  some ((), μ28))
set_option maxRecDepth 100000 in
set_option maxHeartbeats 4000000 in
theorem cX6_init_ok (n : Nat) (a : Nat) (μ : Mem) : Mc yX6_init cX6_init 1 none 1 20 eV [aA a] μ (mX6_init n a μ) := by
  refine mc_of (L0 := [some (aA a)]) (k := 0) (by decide) rfl rfl (fun X Γ => ?_)
  unfold mX6_init
  refine sn_aload_n dX6_init_0 rfl ?_
  refine sn_objInit (ci := 6) dX6_init_1 (by decide) ml_X6_5 im_obj co_obj (by decide) (by decide) (Nat.le_of_ble_eq_true rfl) ?_
  refine sn_aload_n dX6_init_4 rfl ?_
  refine sn_sipush dX6_init_5 (by decide) ?_
  refine sn_newa (t := 3) dX6_init_8 (by decide) rfl ac_3 (fun p8 => ?_)
  refine sn_putA (ci := 6) (j := 1) dX6_init_10 fl_X6_11 (Or.inr ⟨_, rfl⟩) (Or.inr ⟨rfl, fun q h => by cases h; exact ⟨rfl, rfl⟩⟩) (fun μ10 => ?_)
  refine sn_aload_n dX6_init_13 rfl ?_
  refine sn_sipush dX6_init_14 (by decide) ?_
  refine sn_newa (t := 0) dX6_init_17 (by decide) rfl ac_0 (fun p17 => ?_)
  refine sn_putA (ci := 6) (j := 2) dX6_init_19 fl_X6_15 (Or.inr ⟨_, rfl⟩) (Or.inr ⟨rfl, fun q h => by cases h; exact ⟨rfl, rfl⟩⟩) (fun μ19 => ?_)
  refine sn_aload_n dX6_init_22 rfl ?_
  refine sn_sipush dX6_init_23 (by decide) ?_
  refine sn_newa (t := 0) dX6_init_26 (by decide) rfl ac_0 (fun p26 => ?_)
  refine sn_putA (ci := 6) (j := 3) dX6_init_28 fl_X6_19 (Or.inr ⟨_, rfl⟩) (Or.inr ⟨rfl, fun q h => by cases h; exact ⟨rfl, rfl⟩⟩) (fun μ28 => ?_)
  exact sn_vret dX6_init_31
theorem dX6_clear_0 : decode cX6_clear 0 = .ok (.aload_n 0, 1) := by decide +kernel
theorem dX6_clear_1 : decode cX6_clear 1 = .ok (.iconst 0, 1) := by decide +kernel
theorem dX6_clear_2 : decode cX6_clear 2 = .ok (.putfield 22, 3) := by decide +kernel
theorem dX6_clear_5 : decode cX6_clear 5 = .ok (.aload_n 0, 1) := by decide +kernel
theorem dX6_clear_6 : decode cX6_clear 6 = .ok (.getfield 19, 3) := by decide +kernel
theorem dX6_clear_9 : decode cX6_clear 9 = .ok (.iconst 0, 1) := by decide +kernel
theorem dX6_clear_10 : decode cX6_clear 10 = .ok (.invokestatic 26, 3) := by decide +kernel
theorem dX6_clear_13 : decode cX6_clear 13 = .ok (.return_, 1) := by decide +kernel
def mX6_clear (n : Nat) (a : Nat) (μ : Mem) : Option (Unit × Mem) :=
  (pI μ 7 a 0 0).bind fun μ2 =>
  (gA μ2 7 a 3).bind fun x6 =>
  (mJ7_fill_53178 n x6 0 μ2).bind fun p10 =>
  some ((), p10.2)
set_option maxRecDepth 100000 in
set_option maxHeartbeats 4000000 in
theorem cX6_clear_ok (n : Nat) (a : Nat) (μ : Mem) : Mc yX6_clear cX6_clear 1 none 1 23 eV [aA a] μ (mX6_clear n a μ) := by
  refine mc_of (L0 := [some (aA a)]) (k := 0) (by decide) rfl rfl (fun X Γ => ?_)
  unfold mX6_clear
  refine sn_aload_n dX6_clear_0 rfl ?_
  refine sn_iconst dX6_clear_1 ?_
  refine sn_putI (ci := 6) (j := 0) dX6_clear_2 fl_X6_22 rfl (fun q h => by cases h; rfl) (fun μ2 => ?_)
  refine sn_aload_n dX6_clear_5 rfl ?_
  refine sn_getA (ci := 6) (j := 3) dX6_clear_6 fl_X6_19 (by decide) (fun x6 => ?_)
  refine sn_iconst dX6_clear_9 ?_
  refine sn_callSV (vs := [aA x6, aI 0]) (cJ7_fill_53178_ok n x6 0 μ2) dX6_clear_10 cw_X6_26 rfl (by decide) (by decide) (Nat.le_of_ble_eq_true rfl) (fun p10 => ?_)
  exact sn_vret dX6_clear_13
theorem dX6_overflows_0 : decode cX6_overflows 0 = .ok (.aload_n 0, 1) := by decide +kernel
theorem dX6_overflows_1 : decode cX6_overflows 1 = .ok (.getfield 22, 3) := by decide +kernel
theorem dX6_overflows_4 : decode cX6_overflows 4 = .ok (.sipush 3000, 3) := by decide +kernel
theorem dX6_overflows_7 : decode cX6_overflows 7 = .ok (.if_icmp .le 7, 3) := by decide +kernel
theorem dX6_overflows_10 : decode cX6_overflows 10 = .ok (.iconst 1, 1) := by decide +kernel
theorem dX6_overflows_11 : decode cX6_overflows 11 = .ok (.goto 4, 3) := by decide +kernel
theorem dX6_overflows_14 : decode cX6_overflows 14 = .ok (.iconst 0, 1) := by decide +kernel
theorem dX6_overflows_15 : decode cX6_overflows 15 = .ok (.ireturn, 1) := by decide +kernel
def mX6_overflows (n : Nat) (a : Nat) (μ : Mem) : Option (Int × Mem) :=
  (gI μ 7 a 0).bind fun x1 =>
  if lt32 3000 x1 then
    retZ 1 μ
  else
  retZ 0 μ
set_option maxRecDepth 100000 in
set_option maxHeartbeats 4000000 in
theorem cX6_overflows_ok (n : Nat) (a : Nat) (μ : Mem) : Mc yX6_overflows cX6_overflows 1 (some .boolean) 0 0 eI [aA a] μ (mX6_overflows n a μ) := by
  refine mc_of (L0 := [some (aA a)]) (k := 0) (by decide) rfl rfl (fun X Γ => ?_)
  unfold mX6_overflows
  refine sn_aload_n dX6_overflows_0 rfl ?_
  refine sn_getI (ci := 6) (j := 0) dX6_overflows_1 fl_X6_22 rfl (fun x1 => ?_)
  refine sn_sipush dX6_overflows_4 (by decide) ?_
  refine sn_icmp_le (tgt := 14) dX6_overflows_7 (by decide) ?_ ?_
  · refine sn_iconst dX6_overflows_14 ?_
    exact sn_zret dX6_overflows_15
  · refine sn_iconst dX6_overflows_10 ?_
    refine sn_goto (tgt := 15) dX6_overflows_11 (by decide) ?_
    exact sn_zret dX6_overflows_15
theorem dX6_add_0 : decode cX6_add 0 = .ok (.lload_n 1, 1) := by decide +kernel
theorem dX6_add_1 : decode cX6_add 1 = .ok (.ldc2_w 32, 3) := by decide +kernel
theorem dX6_add_4 : decode cX6_add 4 = .ok (.lmul, 1) := by decide +kernel
theorem dX6_add_5 : decode cX6_add 5 = .ok (.bipush 52, 2) := by decide +kernel
theorem dX6_add_7 : decode cX6_add 7 = .ok (.lushr, 1) := by decide +kernel
theorem dX6_add_8 : decode cX6_add 8 = .ok (.l2i, 1) := by decide +kernel
theorem dX6_add_9 : decode cX6_add 9 = .ok (.istore 4, 2) := by decide +kernel
theorem dX6_add_11 : decode cX6_add 11 = .ok (.iconst 0, 1) := by decide +kernel
theorem dX6_add_12 : decode cX6_add 12 = .ok (.istore 5, 2) := by decide +kernel
theorem dX6_add_14 : decode cX6_add 14 = .ok (.iload 5, 2) := by decide +kernel
theorem dX6_add_16 : decode cX6_add 16 = .ok (.sipush 4096, 3) := by decide +kernel
theorem dX6_add_19 : decode cX6_add 19 = .ok (.if_icmp .ge 71, 3) := by decide +kernel
theorem dX6_add_22 : decode cX6_add 22 = .ok (.aload_n 0, 1) := by decide +kernel
theorem dX6_add_23 : decode cX6_add 23 = .ok (.getfield 19, 3) := by decide +kernel
theorem dX6_add_26 : decode cX6_add 26 = .ok (.iload 4, 2) := by decide +kernel
theorem dX6_add_28 : decode cX6_add 28 = .ok (.iaload, 1) := by decide +kernel
theorem dX6_add_29 : decode cX6_add 29 = .ok (.ifCond .eq 61, 3) := by decide +kernel
theorem dX6_add_32 : decode cX6_add 32 = .ok (.aload_n 0, 1) := by decide +kernel
theorem dX6_add_33 : decode cX6_add 33 = .ok (.getfield 19, 3) := by decide +kernel
theorem dX6_add_36 : decode cX6_add 36 = .ok (.iload 4, 2) := by decide +kernel
theorem dX6_add_38 : decode cX6_add 38 = .ok (.iaload, 1) := by decide +kernel
theorem dX6_add_39 : decode cX6_add 39 = .ok (.iconst 1, 1) := by decide +kernel
theorem dX6_add_40 : decode cX6_add 40 = .ok (.isub, 1) := by decide +kernel
theorem dX6_add_41 : decode cX6_add 41 = .ok (.istore 6, 2) := by decide +kernel
theorem dX6_add_43 : decode cX6_add 43 = .ok (.aload_n 0, 1) := by decide +kernel
theorem dX6_add_44 : decode cX6_add 44 = .ok (.getfield 11, 3) := by decide +kernel
theorem dX6_add_47 : decode cX6_add 47 = .ok (.iload 6, 2) := by decide +kernel
theorem dX6_add_49 : decode cX6_add 49 = .ok (.laload, 1) := by decide +kernel
theorem dX6_add_50 : decode cX6_add 50 = .ok (.lload_n 1, 1) := by decide +kernel
theorem dX6_add_51 : decode cX6_add 51 = .ok (.lcmp, 1) := by decide +kernel
theorem dX6_add_52 : decode cX6_add 52 = .ok (.ifCond .ne 22, 3) := by decide +kernel
theorem dX6_add_55 : decode cX6_add 55 = .ok (.aload_n 0, 1) := by decide +kernel
theorem dX6_add_56 : decode cX6_add 56 = .ok (.getfield 15, 3) := by decide +kernel
theorem dX6_add_59 : decode cX6_add 59 = .ok (.iload 6, 2) := by decide +kernel
theorem dX6_add_61 : decode cX6_add 61 = .ok (.aload_n 0, 1) := by decide +kernel
theorem dX6_add_62 : decode cX6_add 62 = .ok (.getfield 15, 3) := by decide +kernel
theorem dX6_add_65 : decode cX6_add 65 = .ok (.iload 6, 2) := by decide +kernel
theorem dX6_add_67 : decode cX6_add 67 = .ok (.iaload, 1) := by decide +kernel
theorem dX6_add_68 : decode cX6_add 68 = .ok (.iload_n 3, 1) := by decide +kernel
theorem dX6_add_69 : decode cX6_add 69 = .ok (.invokestatic 34, 3) := by decide +kernel
theorem dX6_add_72 : decode cX6_add 72 = .ok (.iastore, 1) := by decide +kernel
theorem dX6_add_73 : decode cX6_add 73 = .ok (.return_, 1) := by decide +kernel
theorem dX6_add_74 : decode cX6_add 74 = .ok (.iload 4, 2) := by decide +kernel
theorem dX6_add_76 : decode cX6_add 76 = .ok (.iconst 1, 1) := by decide +kernel
theorem dX6_add_77 : decode cX6_add 77 = .ok (.iadd, 1) := by decide +kernel
theorem dX6_add_78 : decode cX6_add 78 = .ok (.sipush 4095, 3) := by decide +kernel
theorem dX6_add_81 : decode cX6_add 81 = .ok (.iand, 1) := by decide +kernel
theorem dX6_add_82 : decode cX6_add 82 = .ok (.istore 4, 2) := by decide +kernel
theorem dX6_add_84 : decode cX6_add 84 = .ok (.iinc 5 1, 3) := by decide +kernel
theorem dX6_add_87 : decode cX6_add 87 = .ok (.goto (-73), 3) := by decide +kernel
theorem dX6_add_90 : decode cX6_add 90 = .ok (.aload_n 0, 1) := by decide +kernel
theorem dX6_add_91 : decode cX6_add 91 = .ok (.invokevirtual 40, 3) := by decide +kernel
theorem dX6_add_94 : decode cX6_add 94 = .ok (.ifCond .ne 44, 3) := by decide +kernel
theorem dX6_add_97 : decode cX6_add 97 = .ok (.aload_n 0, 1) := by decide +kernel
theorem dX6_add_98 : decode cX6_add 98 = .ok (.getfield 11, 3) := by decide +kernel
theorem dX6_add_101 : decode cX6_add 101 = .ok (.aload_n 0, 1) := by decide +kernel
theorem dX6_add_102 : decode cX6_add 102 = .ok (.getfield 22, 3) := by decide +kernel
theorem dX6_add_105 : decode cX6_add 105 = .ok (.lload_n 1, 1) := by decide +kernel
theorem dX6_add_106 : decode cX6_add 106 = .ok (.lastore, 1) := by decide +kernel
theorem dX6_add_107 : decode cX6_add 107 = .ok (.aload_n 0, 1) := by decide +kernel
theorem dX6_add_108 : decode cX6_add 108 = .ok (.getfield 15, 3) := by decide +kernel
theorem dX6_add_111 : decode cX6_add 111 = .ok (.aload_n 0, 1) := by decide +kernel
theorem dX6_add_112 : decode cX6_add 112 = .ok (.getfield 22, 3) := by decide +kernel
theorem dX6_add_115 : decode cX6_add 115 = .ok (.iload_n 3, 1) := by decide +kernel
theorem dX6_add_116 : decode cX6_add 116 = .ok (.iastore, 1) := by decide +kernel
theorem dX6_add_117 : decode cX6_add 117 = .ok (.aload_n 0, 1) := by decide +kernel
theorem dX6_add_118 : decode cX6_add 118 = .ok (.dup, 1) := by decide +kernel
theorem dX6_add_119 : decode cX6_add 119 = .ok (.getfield 22, 3) := by decide +kernel
theorem dX6_add_122 : decode cX6_add 122 = .ok (.iconst 1, 1) := by decide +kernel
theorem dX6_add_123 : decode cX6_add 123 = .ok (.iadd, 1) := by decide +kernel
theorem dX6_add_124 : decode cX6_add 124 = .ok (.putfield 22, 3) := by decide +kernel
theorem dX6_add_127 : decode cX6_add 127 = .ok (.aload_n 0, 1) := by decide +kernel
theorem dX6_add_128 : decode cX6_add 128 = .ok (.getfield 19, 3) := by decide +kernel
theorem dX6_add_131 : decode cX6_add 131 = .ok (.iload 4, 2) := by decide +kernel
theorem dX6_add_133 : decode cX6_add 133 = .ok (.aload_n 0, 1) := by decide +kernel
theorem dX6_add_134 : decode cX6_add 134 = .ok (.getfield 22, 3) := by decide +kernel
theorem dX6_add_137 : decode cX6_add 137 = .ok (.iastore, 1) := by decide +kernel
theorem dX6_add_138 : decode cX6_add 138 = .ok (.return_, 1) := by decide +kernel
def mX6_add (n : Nat) (a : Nat) (b1 : Int) (b2 : Int) (μ : Mem) : Option (Unit × Mem) :=
  lp (fun nx14 (v14 : Int × Int) (μ14 : Mem) =>
  jn (fun (v90 : Int) (μ90 : Mem) =>
  (inv μ90 7 a (mX6_overflows n a μ90)).bind fun p91 =>
  if eq32 p91.1 0 then
    (gA p91.2 7 a 1).bind fun x98 =>
    (gI p91.2 7 a 0).bind fun x102 =>
    (stI p91.2 3 x98 x102 b1).bind fun μ106 =>
    (gA μ106 7 a 2).bind fun x108 =>
    (gI μ106 7 a 0).bind fun x112 =>
    (stI μ106 0 x108 x112 b2).bind fun μ116 =>
    (gI μ116 7 a 0).bind fun x119 =>
    (pI μ116 7 a 0 (x119 + 1)).bind fun μ124 =>
    (gA μ124 7 a 3).bind fun x128 =>
    (gI μ124 7 a 0).bind fun x134 =>
    (stI μ124 0 x128 v90 x134).bind fun μ137 =>
    some ((), μ137)
  else
  some ((), p91.2)) (fun j90 =>
  if lt32 v14.2 4096 then
    (gA μ14 7 a 3).bind fun x23 =>
    (ldI μ14 0 x23 v14.1).bind fun x28 =>
    if eq32 x28 0 then
      j90 v14.1 μ14
    else
    (gA μ14 7 a 3).bind fun x33 =>
    (ldI μ14 0 x33 v14.1).bind fun x38 =>
    (gA μ14 7 a 1).bind fun x44 =>
    (ldI μ14 3 x44 (x38 - 1)).bind fun x49 =>
    if eq32 (oLcmp x49 b1) 0 then
      (gA μ14 7 a 2).bind fun x56 =>
      (gA μ14 7 a 2).bind fun x62 =>
      (ldI μ14 0 x62 (x38 - 1)).bind fun x67 =>
      (stI μ14 0 x56 (x38 - 1) (mMin x67 b2)).bind fun μ72 =>
      some ((), μ72)
    else
    nx14 ((oAnd (v14.1 + 1) 4095), (v14.2 + 1)) μ14
  else
  j90 v14.1 μ14)) n ((lUshr (b1 * (-7046029254386353131)) 52), 0) μ
set_option maxRecDepth 100000 in
set_option maxHeartbeats 4000000 in
theorem cX6_add_ok (n : Nat) (a : Nat) (b1 : Int) (b2 : Int) (μ : Mem) : Mc yX6_add cX6_add 7 none 1 40 eV [aA a, aJ b1, aI b2] μ (mX6_add n a b1 b2 μ) := by
  refine mc_of (L0 := [some (aA a), some (aJ b1), none, some (aI b2), none, none, none]) (k := 3) (by decide) rfl rfl (fun X Γ => ?_)
  unfold mX6_add
  refine sn_lload_n dX6_add_0 rfl ?_
  refine sn_ldc2 (v := (-7046029254386353131)) dX6_add_1 k_X6_32 (by decide) ?_
  refine sn_lmul dX6_add_4 ?_
  refine sn_bipush dX6_add_5 (by decide) ?_
  refine sn_lushr dX6_add_7 ?_
  refine sn_l2i dX6_add_8 ?_
  refine sn_istore (L' := [some (aA a), some (aJ b1), none, some (aI b2), some (aI (lUshr (b1 * (-7046029254386353131)) 52)), none, none]) dX6_add_9 (by decide) rfl ?_
  refine sn_iconst dX6_add_11 ?_
  refine sn_istore (L' := [some (aA a), some (aJ b1), none, some (aI b2), some (aI (lUshr (b1 * (-7046029254386353131)) 52)), some (aI 0), none]) dX6_add_12 (by decide) rfl ?_
  refine sn_lp (La := fun v14 : Int × Int => [some (aA a), some (aJ b1), none, some (aI b2), some (aI v14.1), some (aI v14.2), none]) ?_ n ((lUshr (b1 * (-7046029254386353131)) 52), 0) μ
  intro nx14 hnx14 v14 μ14
  refine sn_iload dX6_add_14 rfl ?_
  refine sn_sipush dX6_add_16 (by decide) ?_
  refine sn_jn (pcj := 90) (La := fun v90 : Int => [some (aA a), some (aJ b1), none, some (aI b2), some (aI v90), none, none]) (Sa := fun v90 : Int => []) ?_ ?_
  · intro v90 μ90
    refine sn_aload_n dX6_add_90 rfl ?_
    refine sn_callVI (vs := []) (ci := 6) (cX6_overflows_ok n a μ90) dX6_add_91 cw_X6_40 rfl rfl rfl (by decide) (by decide) (Nat.le_of_ble_eq_true rfl) (fun p91 => ?_)
    refine sn_if_ne (tgt := 138) dX6_add_94 (by decide) ?_ ?_
    · exact sn_vret dX6_add_138
    · refine sn_aload_n dX6_add_97 rfl ?_
      refine sn_getA (ci := 6) (j := 1) dX6_add_98 fl_X6_11 (by decide) (fun x98 => ?_)
      refine sn_aload_n dX6_add_101 rfl ?_
      refine sn_getI (ci := 6) (j := 0) dX6_add_102 fl_X6_22 rfl (fun x102 => ?_)
      refine sn_lload_n dX6_add_105 rfl ?_
      refine sn_last dX6_add_106 (fun μ106 => ?_)
      refine sn_aload_n dX6_add_107 rfl ?_
      refine sn_getA (ci := 6) (j := 2) dX6_add_108 fl_X6_15 (by decide) (fun x108 => ?_)
      refine sn_aload_n dX6_add_111 rfl ?_
      refine sn_getI (ci := 6) (j := 0) dX6_add_112 fl_X6_22 rfl (fun x112 => ?_)
      refine sn_iload_n dX6_add_115 rfl ?_
      refine sn_iast dX6_add_116 (fun μ116 => ?_)
      refine sn_aload_n dX6_add_117 rfl ?_
      refine sn_dup dX6_add_118 rfl ?_
      refine sn_getI (ci := 6) (j := 0) dX6_add_119 fl_X6_22 rfl (fun x119 => ?_)
      refine sn_iconst dX6_add_122 ?_
      refine sn_iadd dX6_add_123 ?_
      refine sn_putI (ci := 6) (j := 0) dX6_add_124 fl_X6_22 rfl (fun q h => by cases h; rfl) (fun μ124 => ?_)
      refine sn_aload_n dX6_add_127 rfl ?_
      refine sn_getA (ci := 6) (j := 3) dX6_add_128 fl_X6_19 (by decide) (fun x128 => ?_)
      refine sn_iload dX6_add_131 rfl ?_
      refine sn_aload_n dX6_add_133 rfl ?_
      refine sn_getI (ci := 6) (j := 0) dX6_add_134 fl_X6_22 rfl (fun x134 => ?_)
      refine sn_iast dX6_add_137 (fun μ137 => ?_)
      exact sn_vret dX6_add_138
  intro j90 hj90
  refine sn_icmp_ge (tgt := 90) dX6_add_19 (by decide) ?_ ?_
  · exact sn_mask (L' := [some (aA a), some (aJ b1), none, some (aI b2), some (aI v14.1), none, none]) [true, true, false, true, true, false, false] rfl (hj90 v14.1 μ14)
  · refine sn_aload_n dX6_add_22 rfl ?_
    refine sn_getA (ci := 6) (j := 3) dX6_add_23 fl_X6_19 (by decide) (fun x23 => ?_)
    refine sn_iload dX6_add_26 rfl ?_
    refine sn_iald dX6_add_28 (fun x28 => ?_)
    refine sn_if_eq (tgt := 90) dX6_add_29 (by decide) ?_ ?_
    · exact sn_mask (L' := [some (aA a), some (aJ b1), none, some (aI b2), some (aI v14.1), none, none]) [true, true, false, true, true, false, false] rfl (hj90 v14.1 μ14)
    · refine sn_aload_n dX6_add_32 rfl ?_
      refine sn_getA (ci := 6) (j := 3) dX6_add_33 fl_X6_19 (by decide) (fun x33 => ?_)
      refine sn_iload dX6_add_36 rfl ?_
      refine sn_iald dX6_add_38 (fun x38 => ?_)
      refine sn_iconst dX6_add_39 ?_
      refine sn_isub dX6_add_40 ?_
      refine sn_istore (L' := [some (aA a), some (aJ b1), none, some (aI b2), some (aI v14.1), some (aI v14.2), some (aI (x38 - 1))]) dX6_add_41 (by decide) rfl ?_
      refine sn_aload_n dX6_add_43 rfl ?_
      refine sn_getA (ci := 6) (j := 1) dX6_add_44 fl_X6_11 (by decide) (fun x44 => ?_)
      refine sn_iload dX6_add_47 rfl ?_
      refine sn_lald dX6_add_49 (fun x49 => ?_)
      refine sn_lload_n dX6_add_50 rfl ?_
      refine sn_lcmp dX6_add_51 ?_
      refine sn_if_ne (tgt := 74) dX6_add_52 (by decide) ?_ ?_
      · refine sn_iload dX6_add_74 rfl ?_
        refine sn_iconst dX6_add_76 ?_
        refine sn_iadd dX6_add_77 ?_
        refine sn_sipush dX6_add_78 (by decide) ?_
        refine sn_iand dX6_add_81 ?_
        refine sn_istore (L' := [some (aA a), some (aJ b1), none, some (aI b2), some (aI (oAnd (v14.1 + 1) 4095)), some (aI v14.2), some (aI (x38 - 1))]) dX6_add_82 (by decide) rfl ?_
        refine sn_iinc (L' := [some (aA a), some (aJ b1), none, some (aI b2), some (aI (oAnd (v14.1 + 1) 4095)), some (aI (v14.2 + 1)), some (aI (x38 - 1))]) dX6_add_84 rfl (by decide) rfl ?_
        refine sn_goto (tgt := 14) dX6_add_87 (by decide) ?_
        exact sn_mask (L' := [some (aA a), some (aJ b1), none, some (aI b2), some (aI (oAnd (v14.1 + 1) 4095)), some (aI (v14.2 + 1)), none]) [true, true, false, true, true, true, false] rfl (hnx14 ((oAnd (v14.1 + 1) 4095), (v14.2 + 1)) μ14)
      · refine sn_aload_n dX6_add_55 rfl ?_
        refine sn_getA (ci := 6) (j := 2) dX6_add_56 fl_X6_15 (by decide) (fun x56 => ?_)
        refine sn_iload dX6_add_59 rfl ?_
        refine sn_aload_n dX6_add_61 rfl ?_
        refine sn_getA (ci := 6) (j := 2) dX6_add_62 fl_X6_15 (by decide) (fun x62 => ?_)
        refine sn_iload dX6_add_65 rfl ?_
        refine sn_iald dX6_add_67 (fun x67 => ?_)
        refine sn_iload_n dX6_add_68 rfl ?_
        refine sn_mMin dX6_add_69 ml_X6_34 (by decide) (by decide) (Nat.le_of_ble_eq_true rfl) ?_
        refine sn_iast dX6_add_72 (fun μ72 => ?_)
        exact sn_vret dX6_add_73
