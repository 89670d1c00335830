/-! layer 1: search1 -/
theorem dX4_init_0 : decode cX4_init 0 = .ok (.aload_n 0, 1) := by decide +kernel
theorem dX4_init_1 : decode cX4_init 1 = .ok (.invokespecial 5, 3) := by decide +kernel
theorem dX4_init_4 : decode cX4_init 4 = .ok (.aload_n 0, 1) := by decide +kernel
theorem dX4_init_5 : decode cX4_init 5 = .ok (.new 11, 3) := by decide +kernel
theorem dX4_init_8 : decode cX4_init 8 = .ok (.dup, 1) := by decide +kernel
theorem dX4_init_9 : decode cX4_init 9 = .ok (.invokespecial 13, 3) := by decide +kernel
theorem dX4_init_12 : decode cX4_init 12 = .ok (.putfield 14, 3) := by decide +kernel
theorem dX4_init_15 : decode cX4_init 15 = .ok (.aload_n 0, 1) := by decide +kernel
theorem dX4_init_16 : decode cX4_init 16 = .ok (.new 11, 3) := by decide +kernel
theorem dX4_init_19 : decode cX4_init 19 = .ok (.dup, 1) := by decide +kernel
theorem dX4_init_20 : decode cX4_init 20 = .ok (.invokespecial 13, 3) := by decide +kernel
theorem dX4_init_23 : decode cX4_init 23 = .ok (.putfield 18, 3) := by decide +kernel
theorem dX4_init_26 : decode cX4_init 26 = .ok (.aload_n 0, 1) := by decide +kernel
theorem dX4_init_27 : decode cX4_init 27 = .ok (.iconst 3, 1) := by decide +kernel
theorem dX4_init_28 : decode cX4_init 28 = .ok (.newarray .int, 2) := by decide +kernel
theorem dX4_init_30 : decode cX4_init 30 = .ok (.putfield 21, 3) := by decide +kernel
theorem dX4_init_33 : decode cX4_init 33 = .ok (.aload_n 0, 1) := by decide +kernel
theorem dX4_init_34 : decode cX4_init 34 = .ok (.bipush 40, 2) := by decide +kernel
theorem dX4_init_36 : decode cX4_init 36 = .ok (.newarray .int, 2) := by decide +kernel
theorem dX4_init_38 : decode cX4_init 38 = .ok (.putfield 25, 3) := by decide +kernel
theorem dX4_init_41 : decode cX4_init 41 = .ok (.aload_n 0, 1) := by decide +kernel
theorem dX4_init_42 : decode cX4_init 42 = .ok (.bipush 40, 2) := by decide +kernel
theorem dX4_init_44 : decode cX4_init 44 = .ok (.newarray .int, 2) := by decide +kernel
theorem dX4_init_46 : decode cX4_init 46 = .ok (.putfield 28, 3) := by decide +kernel
theorem dX4_init_49 : decode cX4_init 49 = .ok (.aload_n 0, 1) := by decide +kernel
theorem dX4_init_50 : decode cX4_init 50 = .ok (.bipush 12, 2) := by decide +kernel
theorem dX4_init_52 : decode cX4_init 52 = .ok (.newarray .int, 2) := by decide +kernel
theorem dX4_init_54 : decode cX4_init 54 = .ok (.putfield 31, 3) := by decide +kernel
theorem dX4_init_57 : decode cX4_init 57 = .ok (.aload_n 0, 1) := by decide +kernel
theorem dX4_init_58 : decode cX4_init 58 = .ok (.bipush 12, 2) := by decide +kernel
theorem dX4_init_60 : decode cX4_init 60 = .ok (.newarray .int, 2) := by decide +kernel
theorem dX4_init_62 : decode cX4_init 62 = .ok (.putfield 34, 3) := by decide +kernel
theorem dX4_init_65 : decode cX4_init 65 = .ok (.aload_n 0, 1) := by decide +kernel
theorem dX4_init_66 : decode cX4_init 66 = .ok (.iconst 4, 1) := by decide +kernel
theorem dX4_init_67 : decode cX4_init 67 = .ok (.newarray .int, 2) := by decide +kernel
theorem dX4_init_69 : decode cX4_init 69 = .ok (.putfield 37, 3) := by decide +kernel
theorem dX4_init_72 : decode cX4_init 72 = .ok (.aload_n 0, 1) := by decide +kernel
theorem dX4_init_73 : decode cX4_init 73 = .ok (.aload_n 1, 1) := by decide +kernel
theorem dX4_init_74 : decode cX4_init 74 = .ok (.putfield 40, 3) := by decide +kernel
theorem dX4_init_77 : decode cX4_init 77 = .ok (.return_, 1) := by decide +kernel
def mX4_init (n : Nat) (a : Nat) (b1 : Nat) (μ : Mem) : Option (Unit × Mem) :=
  inv μ 5 a
  ((nwO μ 7 4).bind fun p5 =>
  if p5.1 = 0 then none else (mX6_init n p5.1 p5.2).bind fun p9 =>
  (pA p9.2 5 a 0 p5.1).bind fun μ12 =>
  (nwO μ12 7 4).bind fun p16 =>
  if p16.1 = 0 then none else (mX6_init n p16.1 p16.2).bind fun p20 =>
  (pA p20.2 5 a 1 p16.1).bind fun μ23 =>
  (nwA μ23 0 3).bind fun p28 =>
  (pA p28.2 5 a 2 p28.1).bind fun μ30 =>
  (nwA μ30 0 40).bind fun p36 =>
  (pA p36.2 5 a 4 p36.1).bind fun μ38 =>
  (nwA μ38 0 40).bind fun p44 =>
  (pA p44.2 5 a 5 p44.1).bind fun μ46 =>
  (nwA μ46 0 12).bind fun p52 =>
  (pA p52.2 5 a 7 p52.1).bind fun μ54 =>
  (nwA μ54 0 12).bind fun p60 =>
  (pA p60.2 5 a 8 p60.1).bind fun μ62 =>
  (nwA μ62 0 4).bind fun p67 =>
  (pA p67.2 5 a 9 p67.1).bind fun μ69 =>
  (pA μ69 5 a 10 b1).bind fun μ74 =>
  some ((), μ74))
set_option maxRecDepth 100000 in
set_option maxHeartbeats 4000000 in
theorem cX4_init_ok (n : Nat) (a : Nat) (b1 : Nat) (μ : Mem) : Mc yX4_init cX4_init 2 none 2 40 eV [aA a, aA b1] μ (mX4_init n a b1 μ) := by
  refine mc_of (L0 := [some (aA a), some (aA b1)]) (k := 0) (by decide) rfl rfl (fun X Γ => ?_)
  unfold mX4_init
  refine sn_aload_n dX4_init_0 rfl ?_
  refine sn_objInit (ci := 4) dX4_init_1 (by decide) ml_X4_5 im_obj co_obj (by decide) (by decide) (Nat.le_of_ble_eq_true rfl) ?_
  refine sn_aload_n dX4_init_4 rfl ?_
  refine sn_new (ci := 6) dX4_init_5 rfl cl_X4_11 is_6 in_X6 (fun p5 => ?_)
  refine sn_dup dX4_init_8 rfl ?_
  refine sn_callN (vs := []) (cX6_init_ok n p5.1 p5.2) dX4_init_9 cw_X4_13 rfl rfl (by decide) (by decide) (Nat.le_of_ble_eq_true rfl) (fun p9 => ?_)
  refine sn_putA (ci := 4) (j := 0) dX4_init_12 fl_X4_14 (Or.inl ⟨_, rfl⟩) (Or.inl (fun q h => by cases h; rfl)) (fun μ12 => ?_)
  refine sn_aload_n dX4_init_15 rfl ?_
  refine sn_new (ci := 6) dX4_init_16 rfl cl_X4_11 is_6 in_X6 (fun p16 => ?_)
  refine sn_dup dX4_init_19 rfl ?_
  refine sn_callN (vs := []) (cX6_init_ok n p16.1 p16.2) dX4_init_20 cw_X4_13 rfl rfl (by decide) (by decide) (Nat.le_of_ble_eq_true rfl) (fun p20 => ?_)
  refine sn_putA (ci := 4) (j := 1) dX4_init_23 fl_X4_18 (Or.inl ⟨_, rfl⟩) (Or.inl (fun q h => by cases h; rfl)) (fun μ23 => ?_)
  refine sn_aload_n dX4_init_26 rfl ?_
  refine sn_iconst dX4_init_27 ?_
  refine sn_newa (t := 0) dX4_init_28 (by decide) rfl ac_0 (fun p28 => ?_)
  refine sn_putA (ci := 4) (j := 2) dX4_init_30 fl_X4_21 (Or.inr ⟨_, rfl⟩) (Or.inr ⟨rfl, fun q h => by cases h; exact ⟨rfl, rfl⟩⟩) (fun μ30 => ?_)
  refine sn_aload_n dX4_init_33 rfl ?_
  refine sn_bipush dX4_init_34 (by decide) ?_
  refine sn_newa (t := 0) dX4_init_36 (by decide) rfl ac_0 (fun p36 => ?_)
  refine sn_putA (ci := 4) (j := 4) dX4_init_38 fl_X4_25 (Or.inr ⟨_, rfl⟩) (Or.inr ⟨rfl, fun q h => by cases h; exact ⟨rfl, rfl⟩⟩) (fun μ38 => ?_)
  refine sn_aload_n dX4_init_41 rfl ?_
  refine sn_bipush dX4_init_42 (by decide) ?_
  refine sn_newa (t := 0) dX4_init_44 (by decide) rfl ac_0 (fun p44 => ?_)
  refine sn_putA (ci := 4) (j := 5) dX4_init_46 fl_X4_28 (Or.inr ⟨_, rfl⟩) (Or.inr ⟨rfl, fun q h => by cases h; exact ⟨rfl, rfl⟩⟩) (fun μ46 => ?_)
  refine sn_aload_n dX4_init_49 rfl ?_
  refine sn_bipush dX4_init_50 (by decide) ?_
  refine sn_newa (t := 0) dX4_init_52 (by decide) rfl ac_0 (fun p52 => ?_)
  refine sn_putA (ci := 4) (j := 7) dX4_init_54 fl_X4_31 (Or.inr ⟨_, rfl⟩) (Or.inr ⟨rfl, fun q h => by cases h; exact ⟨rfl, rfl⟩⟩) (fun μ54 => ?_)
  refine sn_aload_n dX4_init_57 rfl ?_
  refine sn_bipush dX4_init_58 (by decide) ?_
  refine sn_newa (t := 0) dX4_init_60 (by decide) rfl ac_0 (fun p60 => ?_)
  refine sn_putA (ci := 4) (j := 8) dX4_init_62 fl_X4_34 (Or.inr ⟨_, rfl⟩) (Or.inr ⟨rfl, fun q h => by cases h; exact ⟨rfl, rfl⟩⟩) (fun μ62 => ?_)
  refine sn_aload_n dX4_init_65 rfl ?_
  refine sn_iconst dX4_init_66 ?_
  refine sn_newa (t := 0) dX4_init_67 (by decide) rfl ac_0 (fun p67 => ?_)
  refine sn_putA (ci := 4) (j := 9) dX4_init_69 fl_X4_37 (Or.inr ⟨_, rfl⟩) (Or.inr ⟨rfl, fun q h => by cases h; exact ⟨rfl, rfl⟩⟩) (fun μ69 => ?_)
  refine sn_aload_n dX4_init_72 rfl ?_
  refine sn_aload_n dX4_init_73 rfl ?_
  refine sn_putA (ci := 4) (j := 10) dX4_init_74 fl_X4_40 (Or.inl ⟨_, rfl⟩) (Or.inr ⟨rfl, fun q h => by cases h; exact ⟨rfl, rfl⟩⟩) (fun μ74 => ?_)
  exact sn_vret dX4_init_77
theorem dX4_listFrom_0 : decode cX4_listFrom 0 = .ok (.iload_n 1, 1) := by decide +kernel
theorem dX4_listFrom_1 : decode cX4_listFrom 1 = .ok (.aload_n 0, 1) := by decide +kernel
theorem dX4_listFrom_2 : decode cX4_listFrom 2 = .ok (.getfield 40, 3) := by decide +kernel
theorem dX4_listFrom_5 : decode cX4_listFrom 5 = .ok (.getfield 99, 3) := by decide +kernel
theorem dX4_listFrom_8 : decode cX4_listFrom 8 = .ok (.if_icmp .lt 50, 3) := by decide +kernel
theorem dX4_listFrom_11 : decode cX4_listFrom 11 = .ok (.iload_n 3, 1) := by decide +kernel
theorem dX4_listFrom_12 : decode cX4_listFrom 12 = .ok (.ifCond .ne 45, 3) := by decide +kernel
theorem dX4_listFrom_15 : decode cX4_listFrom 15 = .ok (.aload_n 0, 1) := by decide +kernel
theorem dX4_listFrom_16 : decode cX4_listFrom 16 = .ok (.getfield 105, 3) := by decide +kernel
theorem dX4_listFrom_19 : decode cX4_listFrom 19 = .ok (.bipush 40, 2) := by decide +kernel
theorem dX4_listFrom_21 : decode cX4_listFrom 21 = .ok (.if_icmp .ge 36, 3) := by decide +kernel
theorem dX4_listFrom_24 : decode cX4_listFrom 24 = .ok (.aload_n 0, 1) := by decide +kernel
theorem dX4_listFrom_25 : decode cX4_listFrom 25 = .ok (.getfield 25, 3) := by decide +kernel
theorem dX4_listFrom_28 : decode cX4_listFrom 28 = .ok (.aload_n 0, 1) := by decide +kernel
theorem dX4_listFrom_29 : decode cX4_listFrom 29 = .ok (.getfield 105, 3) := by decide +kernel
theorem dX4_listFrom_32 : decode cX4_listFrom 32 = .ok (.iload_n 2, 1) := by decide +kernel
theorem dX4_listFrom_33 : decode cX4_listFrom 33 = .ok (.iastore, 1) := by decide +kernel
theorem dX4_listFrom_34 : decode cX4_listFrom 34 = .ok (.aload_n 0, 1) := by decide +kernel
theorem dX4_listFrom_35 : decode cX4_listFrom 35 = .ok (.getfield 28, 3) := by decide +kernel
theorem dX4_listFrom_38 : decode cX4_listFrom 38 = .ok (.aload_n 0, 1) := by decide +kernel
theorem dX4_listFrom_39 : decode cX4_listFrom 39 = .ok (.getfield 105, 3) := by decide +kernel
theorem dX4_listFrom_42 : decode cX4_listFrom 42 = .ok (.iload_n 2, 1) := by decide +kernel
theorem dX4_listFrom_43 : decode cX4_listFrom 43 = .ok (.invokestatic 112, 3) := by decide +kernel
theorem dX4_listFrom_46 : decode cX4_listFrom 46 = .ok (.iastore, 1) := by decide +kernel
theorem dX4_listFrom_47 : decode cX4_listFrom 47 = .ok (.aload_n 0, 1) := by decide +kernel
theorem dX4_listFrom_48 : decode cX4_listFrom 48 = .ok (.dup, 1) := by decide +kernel
theorem dX4_listFrom_49 : decode cX4_listFrom 49 = .ok (.getfield 105, 3) := by decide +kernel
theorem dX4_listFrom_52 : decode cX4_listFrom 52 = .ok (.iconst 1, 1) := by decide +kernel
theorem dX4_listFrom_53 : decode cX4_listFrom 53 = .ok (.iadd, 1) := by decide +kernel
theorem dX4_listFrom_54 : decode cX4_listFrom 54 = .ok (.putfield 105, 3) := by decide +kernel
theorem dX4_listFrom_57 : decode cX4_listFrom 57 = .ok (.return_, 1) := by decide +kernel
theorem dX4_listFrom_58 : decode cX4_listFrom 58 = .ok (.aload_n 0, 1) := by decide +kernel
theorem dX4_listFrom_59 : decode cX4_listFrom 59 = .ok (.iload_n 1, 1) := by decide +kernel
theorem dX4_listFrom_60 : decode cX4_listFrom 60 = .ok (.iconst 1, 1) := by decide +kernel
theorem dX4_listFrom_61 : decode cX4_listFrom 61 = .ok (.iadd, 1) := by decide +kernel
theorem dX4_listFrom_62 : decode cX4_listFrom 62 = .ok (.iload_n 2, 1) := by decide +kernel
theorem dX4_listFrom_63 : decode cX4_listFrom 63 = .ok (.iload_n 3, 1) := by decide +kernel
theorem dX4_listFrom_64 : decode cX4_listFrom 64 = .ok (.invokevirtual 108, 3) := by decide +kernel
theorem dX4_listFrom_67 : decode cX4_listFrom 67 = .ok (.iconst 0, 1) := by decide +kernel
theorem dX4_listFrom_68 : decode cX4_listFrom 68 = .ok (.istore 4, 2) := by decide +kernel
theorem dX4_listFrom_70 : decode cX4_listFrom 70 = .ok (.iload 4, 2) := by decide +kernel
theorem dX4_listFrom_72 : decode cX4_listFrom 72 = .ok (.aload_n 0, 1) := by decide +kernel
theorem dX4_listFrom_73 : decode cX4_listFrom 73 = .ok (.getfield 87, 3) := by decide +kernel
theorem dX4_listFrom_76 : decode cX4_listFrom 76 = .ok (.if_icmp .ge 73, 3) := by decide +kernel
theorem dX4_listFrom_79 : decode cX4_listFrom 79 = .ok (.iload_n 3, 1) := by decide +kernel
theorem dX4_listFrom_80 : decode cX4_listFrom 80 = .ok (.ifCond .le 69, 3) := by decide +kernel
theorem dX4_listFrom_83 : decode cX4_listFrom 83 = .ok (.iconst 0, 1) := by decide +kernel
theorem dX4_listFrom_84 : decode cX4_listFrom 84 = .ok (.istore 5, 2) := by decide +kernel
theorem dX4_listFrom_86 : decode cX4_listFrom 86 = .ok (.iload 5, 2) := by decide +kernel
theorem dX4_listFrom_88 : decode cX4_listFrom 88 = .ok (.iconst 2, 1) := by decide +kernel
theorem dX4_listFrom_89 : decode cX4_listFrom 89 = .ok (.if_icmp .ge 54, 3) := by decide +kernel
theorem dX4_listFrom_92 : decode cX4_listFrom 92 = .ok (.aload_n 0, 1) := by decide +kernel
theorem dX4_listFrom_93 : decode cX4_listFrom 93 = .ok (.getfield 40, 3) := by decide +kernel
theorem dX4_listFrom_96 : decode cX4_listFrom 96 = .ok (.getfield 118, 3) := by decide +kernel
theorem dX4_listFrom_99 : decode cX4_listFrom 99 = .ok (.iconst 2, 1) := by decide +kernel
theorem dX4_listFrom_100 : decode cX4_listFrom 100 = .ok (.aload_n 0, 1) := by decide +kernel
theorem dX4_listFrom_101 : decode cX4_listFrom 101 = .ok (.getfield 21, 3) := by decide +kernel
theorem dX4_listFrom_104 : decode cX4_listFrom 104 = .ok (.iload 4, 2) := by decide +kernel
theorem dX4_listFrom_106 : decode cX4_listFrom 106 = .ok (.iaload, 1) := by decide +kernel
theorem dX4_listFrom_107 : decode cX4_listFrom 107 = .ok (.imul, 1) := by decide +kernel
theorem dX4_listFrom_108 : decode cX4_listFrom 108 = .ok (.iload 5, 2) := by decide +kernel
theorem dX4_listFrom_110 : decode cX4_listFrom 110 = .ok (.iadd, 1) := by decide +kernel
theorem dX4_listFrom_111 : decode cX4_listFrom 111 = .ok (.iaload, 1) := by decide +kernel
theorem dX4_listFrom_112 : decode cX4_listFrom 112 = .ok (.iload_n 1, 1) := by decide +kernel
theorem dX4_listFrom_113 : decode cX4_listFrom 113 = .ok (.if_icmp .ne 24, 3) := by decide +kernel
theorem dX4_listFrom_116 : decode cX4_listFrom 116 = .ok (.aload_n 0, 1) := by decide +kernel
theorem dX4_listFrom_117 : decode cX4_listFrom 117 = .ok (.iload_n 1, 1) := by decide +kernel
theorem dX4_listFrom_118 : decode cX4_listFrom 118 = .ok (.iconst 1, 1) := by decide +kernel
theorem dX4_listFrom_119 : decode cX4_listFrom 119 = .ok (.iadd, 1) := by decide +kernel
theorem dX4_listFrom_120 : decode cX4_listFrom 120 = .ok (.iload_n 2, 1) := by decide +kernel
theorem dX4_listFrom_121 : decode cX4_listFrom 121 = .ok (.iconst 1, 1) := by decide +kernel
theorem dX4_listFrom_122 : decode cX4_listFrom 122 = .ok (.iconst 2, 1) := by decide +kernel
theorem dX4_listFrom_123 : decode cX4_listFrom 123 = .ok (.iload 4, 2) := by decide +kernel
theorem dX4_listFrom_125 : decode cX4_listFrom 125 = .ok (.imul, 1) := by decide +kernel
theorem dX4_listFrom_126 : decode cX4_listFrom 126 = .ok (.iload 5, 2) := by decide +kernel
theorem dX4_listFrom_128 : decode cX4_listFrom 128 = .ok (.iadd, 1) := by decide +kernel
theorem dX4_listFrom_129 : decode cX4_listFrom 129 = .ok (.ishl, 1) := by decide +kernel
theorem dX4_listFrom_130 : decode cX4_listFrom 130 = .ok (.ior, 1) := by decide +kernel
theorem dX4_listFrom_131 : decode cX4_listFrom 131 = .ok (.iload_n 3, 1) := by decide +kernel
theorem dX4_listFrom_132 : decode cX4_listFrom 132 = .ok (.iconst 1, 1) := by decide +kernel
theorem dX4_listFrom_133 : decode cX4_listFrom 133 = .ok (.isub, 1) := by decide +kernel
theorem dX4_listFrom_134 : decode cX4_listFrom 134 = .ok (.invokevirtual 108, 3) := by decide +kernel
theorem dX4_listFrom_137 : decode cX4_listFrom 137 = .ok (.iinc 5 1, 3) := by decide +kernel
theorem dX4_listFrom_140 : decode cX4_listFrom 140 = .ok (.goto (-54), 3) := by decide +kernel
theorem dX4_listFrom_143 : decode cX4_listFrom 143 = .ok (.iinc 4 1, 3) := by decide +kernel
theorem dX4_listFrom_146 : decode cX4_listFrom 146 = .ok (.goto (-76), 3) := by decide +kernel
theorem dX4_listFrom_149 : decode cX4_listFrom 149 = .ok (.return_, 1) := by decide +kernel
def bX4_listFrom (n : Nat) (self : Nat × Int × Int × Int → Mem → Option (Unit × Mem)) (v : Nat × Int × Int × Int) (μ : Mem) : Option (Unit × Mem) :=
  (gA μ 5 v.1 10).bind fun x2 =>
  (gI μ 2 x2 0).bind fun x5 =>
  if lt32 v.2.1 x5 then
    (inv μ 5 v.1 (self (v.1, (v.2.1 + 1), v.2.2.1, v.2.2.2) μ)).bind fun p64 =>
    lp (fun nx70 (v70 : Int) (μ70 : Mem) =>
    (gI μ70 5 v.1 3).bind fun x73 =>
    if lt32 v70 x73 then
      if lt32 0 v.2.2.2 then
        lp (fun nx86 (v86 : Int) (μ86 : Mem) =>
        if lt32 v86 2 then
          (gA μ86 5 v.1 10).bind fun x93 =>
          (gA μ86 2 x93 15).bind fun x96 =>
          (gA μ86 5 v.1 2).bind fun x101 =>
          (ldI μ86 0 x101 v70).bind fun x106 =>
          (ldI μ86 0 x96 ((2 * x106) + v86)).bind fun x111 =>
          if eq32 x111 v.2.1 then
            (inv μ86 5 v.1 (self (v.1, (v.2.1 + 1), (oOr v.2.2.1 (oShl 1 ((2 * v70) + v86))), (v.2.2.2 - 1)) μ86)).bind fun p134 =>
            nx86 (v86 + 1) p134.2
          else
          nx86 (v86 + 1) μ86
        else
        nx70 (v70 + 1) μ86) n 0 μ70
      else
      some ((), μ70)
    else
    some ((), μ70)) n 0 p64.2
  else
  if eq32 v.2.2.2 0 then
    (gI μ 5 v.1 6).bind fun x16 =>
    if lt32 x16 40 then
      (gA μ 5 v.1 4).bind fun x25 =>
      (gI μ 5 v.1 6).bind fun x29 =>
      (stI μ 0 x25 x29 v.2.2.1).bind fun μ33 =>
      (gA μ33 5 v.1 5).bind fun x35 =>
      (gI μ33 5 v.1 6).bind fun x39 =>
      (mJ6_bitCount_0f7a4 n v.2.2.1 μ33).bind fun p43 =>
      (stI p43.2 0 x35 x39 p43.1).bind fun μ46 =>
      (gI μ46 5 v.1 6).bind fun x49 =>
      (pI μ46 5 v.1 6 (x49 + 1)).bind fun μ54 =>
      some ((), μ54)
    else
    some ((), μ)
  else
  some ((), μ)
set_option maxRecDepth 100000 in
set_option maxHeartbeats 4000000 in
theorem bX4_listFrom_ok (n : Nat) (self : Nat × Int × Int × Int → Mem → Option (Unit × Mem)) (fs ls : Nat) (hs : ∀ (v : Nat × Int × Int × Int) (μ : Mem), Mc yX4_listFrom cX4_listFrom 6 none fs ls eV [aA v.1, aI v.2.1, aI v.2.2.1, aI v.2.2.2] μ (self v μ)) (v : Nat × Int × Int × Int) (μ : Mem) : Mc yX4_listFrom cX4_listFrom 6 none (fs + 1) (ls + 25) eV [aA v.1, aI v.2.1, aI v.2.2.1, aI v.2.2.2] μ (bX4_listFrom n self v μ) := by
  refine mc_of (L0 := [some (aA v.1), some (aI v.2.1), some (aI v.2.2.1), some (aI v.2.2.2), none, none]) (k := 2) (by decide) rfl rfl (fun X Γ => ?_)
  unfold bX4_listFrom
  refine sn_iload_n dX4_listFrom_0 rfl ?_
  refine sn_aload_n dX4_listFrom_1 rfl ?_
  refine sn_getA (ci := 4) (j := 10) dX4_listFrom_2 fl_X4_40 (by decide) (fun x2 => ?_)
  refine sn_getI (ci := 1) (j := 0) dX4_listFrom_5 fl_X4_99 rfl (fun x5 => ?_)
  refine sn_icmp_lt (tgt := 58) dX4_listFrom_8 (by decide) ?_ ?_
  · refine sn_aload_n dX4_listFrom_58 rfl ?_
    refine sn_iload_n dX4_listFrom_59 rfl ?_
    refine sn_iconst dX4_listFrom_60 ?_
    refine sn_iadd dX4_listFrom_61 ?_
    refine sn_iload_n dX4_listFrom_62 rfl ?_
    refine sn_iload_n dX4_listFrom_63 rfl ?_
    refine sn_callVV (vs := [aI (v.2.1 + 1), aI v.2.2.1, aI v.2.2.2]) (ci := 4) (hs (v.1, (v.2.1 + 1), v.2.2.1, v.2.2.2) μ) dX4_listFrom_64 cw_X4_108 rfl rfl rfl (by omega) (by omega) (Nat.le_of_ble_eq_true rfl) (fun p64 => ?_)
    refine sn_iconst dX4_listFrom_67 ?_
    refine sn_istore (L' := [some (aA v.1), some (aI v.2.1), some (aI v.2.2.1), some (aI v.2.2.2), some (aI 0), none]) dX4_listFrom_68 (by decide) rfl ?_
    refine sn_lp (La := fun v70 : Int => [some (aA v.1), some (aI v.2.1), some (aI v.2.2.1), some (aI v.2.2.2), some (aI v70), none]) ?_ n 0 p64.2
    intro nx70 hnx70 v70 μ70
    refine sn_iload dX4_listFrom_70 rfl ?_
    refine sn_aload_n dX4_listFrom_72 rfl ?_
    refine sn_getI (ci := 4) (j := 3) dX4_listFrom_73 fl_X4_87 rfl (fun x73 => ?_)
    refine sn_icmp_ge (tgt := 149) dX4_listFrom_76 (by decide) ?_ ?_
    · exact sn_vret dX4_listFrom_149
    · refine sn_iload_n dX4_listFrom_79 rfl ?_
      refine sn_if_le (tgt := 149) dX4_listFrom_80 (by decide) ?_ ?_
      · exact sn_vret dX4_listFrom_149
      · refine sn_iconst dX4_listFrom_83 ?_
        refine sn_istore (L' := [some (aA v.1), some (aI v.2.1), some (aI v.2.2.1), some (aI v.2.2.2), some (aI v70), some (aI 0)]) dX4_listFrom_84 (by decide) rfl ?_
        refine sn_lp (La := fun v86 : Int => [some (aA v.1), some (aI v.2.1), some (aI v.2.2.1), some (aI v.2.2.2), some (aI v70), some (aI v86)]) ?_ n 0 μ70
        intro nx86 hnx86 v86 μ86
        refine sn_iload dX4_listFrom_86 rfl ?_
        refine sn_iconst dX4_listFrom_88 ?_
        refine sn_icmp_ge (tgt := 143) dX4_listFrom_89 (by decide) ?_ ?_
        · refine sn_iinc (L' := [some (aA v.1), some (aI v.2.1), some (aI v.2.2.1), some (aI v.2.2.2), some (aI (v70 + 1)), some (aI v86)]) dX4_listFrom_143 rfl (by decide) rfl ?_
          refine sn_goto (tgt := 70) dX4_listFrom_146 (by decide) ?_
          exact sn_mask (L' := [some (aA v.1), some (aI v.2.1), some (aI v.2.2.1), some (aI v.2.2.2), some (aI (v70 + 1)), none]) [true, true, true, true, true, false] rfl (hnx70 (v70 + 1) μ86)
        · refine sn_aload_n dX4_listFrom_92 rfl ?_
          refine sn_getA (ci := 4) (j := 10) dX4_listFrom_93 fl_X4_40 (by decide) (fun x93 => ?_)
          refine sn_getA (ci := 1) (j := 15) dX4_listFrom_96 fl_X4_118 (by decide) (fun x96 => ?_)
          refine sn_iconst dX4_listFrom_99 ?_
          refine sn_aload_n dX4_listFrom_100 rfl ?_
          refine sn_getA (ci := 4) (j := 2) dX4_listFrom_101 fl_X4_21 (by decide) (fun x101 => ?_)
          refine sn_iload dX4_listFrom_104 rfl ?_
          refine sn_iald dX4_listFrom_106 (fun x106 => ?_)
          refine sn_imul dX4_listFrom_107 ?_
          refine sn_iload dX4_listFrom_108 rfl ?_
          refine sn_iadd dX4_listFrom_110 ?_
          refine sn_iald dX4_listFrom_111 (fun x111 => ?_)
          refine sn_iload_n dX4_listFrom_112 rfl ?_
          refine sn_icmp_ne (tgt := 137) dX4_listFrom_113 (by decide) ?_ ?_
          · refine sn_iinc (L' := [some (aA v.1), some (aI v.2.1), some (aI v.2.2.1), some (aI v.2.2.2), some (aI v70), some (aI (v86 + 1))]) dX4_listFrom_137 rfl (by decide) rfl ?_
            refine sn_goto (tgt := 86) dX4_listFrom_140 (by decide) ?_
            exact hnx86 (v86 + 1) μ86
          · refine sn_aload_n dX4_listFrom_116 rfl ?_
            refine sn_iload_n dX4_listFrom_117 rfl ?_
            refine sn_iconst dX4_listFrom_118 ?_
            refine sn_iadd dX4_listFrom_119 ?_
            refine sn_iload_n dX4_listFrom_120 rfl ?_
            refine sn_iconst dX4_listFrom_121 ?_
            refine sn_iconst dX4_listFrom_122 ?_
            refine sn_iload dX4_listFrom_123 rfl ?_
            refine sn_imul dX4_listFrom_125 ?_
            refine sn_iload dX4_listFrom_126 rfl ?_
            refine sn_iadd dX4_listFrom_128 ?_
            refine sn_ishl dX4_listFrom_129 ?_
            refine sn_ior dX4_listFrom_130 ?_
            refine sn_iload_n dX4_listFrom_131 rfl ?_
            refine sn_iconst dX4_listFrom_132 ?_
            refine sn_isub dX4_listFrom_133 ?_
            refine sn_callVV (vs := [aI (v.2.1 + 1), aI (oOr v.2.2.1 (oShl 1 ((2 * v70) + v86))), aI (v.2.2.2 - 1)]) (ci := 4) (hs (v.1, (v.2.1 + 1), (oOr v.2.2.1 (oShl 1 ((2 * v70) + v86))), (v.2.2.2 - 1)) μ86) dX4_listFrom_134 cw_X4_108 rfl rfl rfl (by omega) (by omega) (Nat.le_of_ble_eq_true rfl) (fun p134 => ?_)
            refine sn_iinc (L' := [some (aA v.1), some (aI v.2.1), some (aI v.2.2.1), some (aI v.2.2.2), some (aI v70), some (aI (v86 + 1))]) dX4_listFrom_137 rfl (by decide) rfl ?_
            refine sn_goto (tgt := 86) dX4_listFrom_140 (by decide) ?_
            exact hnx86 (v86 + 1) p134.2
  · refine sn_iload_n dX4_listFrom_11 rfl ?_
    refine sn_if_ne (tgt := 57) dX4_listFrom_12 (by decide) ?_ ?_
    · exact sn_vret dX4_listFrom_57
    · refine sn_aload_n dX4_listFrom_15 rfl ?_
      refine sn_getI (ci := 4) (j := 6) dX4_listFrom_16 fl_X4_105 rfl (fun x16 => ?_)
      refine sn_bipush dX4_listFrom_19 (by decide) ?_
      refine sn_icmp_ge (tgt := 57) dX4_listFrom_21 (by decide) ?_ ?_
      · exact sn_vret dX4_listFrom_57
      · refine sn_aload_n dX4_listFrom_24 rfl ?_
        refine sn_getA (ci := 4) (j := 4) dX4_listFrom_25 fl_X4_25 (by decide) (fun x25 => ?_)
        refine sn_aload_n dX4_listFrom_28 rfl ?_
        refine sn_getI (ci := 4) (j := 6) dX4_listFrom_29 fl_X4_105 rfl (fun x29 => ?_)
        refine sn_iload_n dX4_listFrom_32 rfl ?_
        refine sn_iast dX4_listFrom_33 (fun μ33 => ?_)
        refine sn_aload_n dX4_listFrom_34 rfl ?_
        refine sn_getA (ci := 4) (j := 5) dX4_listFrom_35 fl_X4_28 (by decide) (fun x35 => ?_)
        refine sn_aload_n dX4_listFrom_38 rfl ?_
        refine sn_getI (ci := 4) (j := 6) dX4_listFrom_39 fl_X4_105 rfl (fun x39 => ?_)
        refine sn_iload_n dX4_listFrom_42 rfl ?_
        refine sn_callSI (vs := [aI v.2.2.1]) (cJ6_bitCount_0f7a4_ok n v.2.2.1 μ33) dX4_listFrom_43 cw_X4_112 rfl (by omega) (by omega) (Nat.le_of_ble_eq_true rfl) (fun p43 => ?_)
        refine sn_iast dX4_listFrom_46 (fun μ46 => ?_)
        refine sn_aload_n dX4_listFrom_47 rfl ?_
        refine sn_dup dX4_listFrom_48 rfl ?_
        refine sn_getI (ci := 4) (j := 6) dX4_listFrom_49 fl_X4_105 rfl (fun x49 => ?_)
        refine sn_iconst dX4_listFrom_52 ?_
        refine sn_iadd dX4_listFrom_53 ?_
        refine sn_putI (ci := 4) (j := 6) dX4_listFrom_54 fl_X4_105 rfl (fun q h => by cases h; rfl) (fun μ54 => ?_)
        exact sn_vret dX4_listFrom_57
def rX4_listFrom (n : Nat) : Nat → Nat × Int × Int × Int → Mem → Option (Unit × Mem) := lp (bX4_listFrom n)
theorem rX4_listFrom_ok (n : Nat) : ∀ (d : Nat) (v : Nat × Int × Int × Int) (μ : Mem), Mc yX4_listFrom cX4_listFrom 6 none (1 * d) (25 * d) eV [aA v.1, aI v.2.1, aI v.2.2.1, aI v.2.2.2] μ (rX4_listFrom n d v μ)
  | 0, v, μ => fun r μ' h => by cases h
  | d + 1, v, μ => bX4_listFrom_ok n (rX4_listFrom n d) (1 * d) (25 * d) (rX4_listFrom_ok n d) v μ
def mX4_listFrom (n : Nat) (a : Nat) (b1 : Int) (b2 : Int) (b3 : Int) (μ : Mem) : Option (Unit × Mem) := rX4_listFrom n 12 (a, b1, b2, b3) μ
theorem cX4_listFrom_ok (n : Nat) (a : Nat) (b1 : Int) (b2 : Int) (b3 : Int) (μ : Mem) : Mc yX4_listFrom cX4_listFrom 6 none 12 300 eV [aA a, aI b1, aI b2, aI b3] μ (mX4_listFrom n a b1 b2 b3 μ) := rX4_listFrom_ok n 12 (a, b1, b2, b3) μ
theorem dX4_listChoices_0 : decode cX4_listChoices 0 = .ok (.aload_n 0, 1) := by decide +kernel
theorem dX4_listChoices_1 : decode cX4_listChoices 1 = .ok (.iconst 0, 1) := by decide +kernel
theorem dX4_listChoices_2 : decode cX4_listChoices 2 = .ok (.putfield 105, 3) := by decide +kernel
theorem dX4_listChoices_5 : decode cX4_listChoices 5 = .ok (.iconst 0, 1) := by decide +kernel
theorem dX4_listChoices_6 : decode cX4_listChoices 6 = .ok (.istore_n 1, 1) := by decide +kernel
theorem dX4_listChoices_7 : decode cX4_listChoices 7 = .ok (.iload_n 1, 1) := by decide +kernel
theorem dX4_listChoices_8 : decode cX4_listChoices 8 = .ok (.aload_n 0, 1) := by decide +kernel
theorem dX4_listChoices_9 : decode cX4_listChoices 9 = .ok (.getfield 40, 3) := by decide +kernel
theorem dX4_listChoices_12 : decode cX4_listChoices 12 = .ok (.getfield 99, 3) := by decide +kernel
theorem dX4_listChoices_15 : decode cX4_listChoices 15 = .ok (.if_icmp .gt 16, 3) := by decide +kernel
theorem dX4_listChoices_18 : decode cX4_listChoices 18 = .ok (.aload_n 0, 1) := by decide +kernel
theorem dX4_listChoices_19 : decode cX4_listChoices 19 = .ok (.iconst 0, 1) := by decide +kernel
theorem dX4_listChoices_20 : decode cX4_listChoices 20 = .ok (.iconst 0, 1) := by decide +kernel
theorem dX4_listChoices_21 : decode cX4_listChoices 21 = .ok (.iload_n 1, 1) := by decide +kernel
theorem dX4_listChoices_22 : decode cX4_listChoices 22 = .ok (.invokevirtual 108, 3) := by decide +kernel
theorem dX4_listChoices_25 : decode cX4_listChoices 25 = .ok (.iinc 1 1, 3) := by decide +kernel
theorem dX4_listChoices_28 : decode cX4_listChoices 28 = .ok (.goto (-21), 3) := by decide +kernel
theorem dX4_listChoices_31 : decode cX4_listChoices 31 = .ok (.return_, 1) := by decide +kernel
def mX4_listChoices (n : Nat) (a : Nat) (μ : Mem) : Option (Unit × Mem) :=
  (pI μ 5 a 6 0).bind fun μ2 =>
  lp (fun nx7 (v7 : Int) (μ7 : Mem) =>
  (gA μ7 5 a 10).bind fun x9 =>
  (gI μ7 2 x9 0).bind fun x12 =>
  if lt32 x12 v7 then
    some ((), μ7)
  else
  (inv μ7 5 a (mX4_listFrom n a 0 0 v7 μ7)).bind fun p22 =>
  nx7 (v7 + 1) p22.2) n 0 μ2
set_option maxRecDepth 100000 in
set_option maxHeartbeats 4000000 in
theorem cX4_listChoices_ok (n : Nat) (a : Nat) (μ : Mem) : Mc yX4_listChoices cX4_listChoices 2 none 13 325 eV [aA a] μ (mX4_listChoices n a μ) := by
  refine mc_of (L0 := [some (aA a), none]) (k := 1) (by decide) rfl rfl (fun X Γ => ?_)
  unfold mX4_listChoices
  refine sn_aload_n dX4_listChoices_0 rfl ?_
  refine sn_iconst dX4_listChoices_1 ?_
  refine sn_putI (ci := 4) (j := 6) dX4_listChoices_2 fl_X4_105 rfl (fun q h => by cases h; rfl) (fun μ2 => ?_)
  refine sn_iconst dX4_listChoices_5 ?_
  refine sn_istore_n (L' := [some (aA a), some (aI 0)]) dX4_listChoices_6 (by decide) rfl ?_
  refine sn_lp (La := fun v7 : Int => [some (aA a), some (aI v7)]) ?_ n 0 μ2
  intro nx7 hnx7 v7 μ7
  refine sn_iload_n dX4_listChoices_7 rfl ?_
  refine sn_aload_n dX4_listChoices_8 rfl ?_
  refine sn_getA (ci := 4) (j := 10) dX4_listChoices_9 fl_X4_40 (by decide) (fun x9 => ?_)
  refine sn_getI (ci := 1) (j := 0) dX4_listChoices_12 fl_X4_99 rfl (fun x12 => ?_)
  refine sn_icmp_gt (tgt := 31) dX4_listChoices_15 (by decide) ?_ ?_
  · exact sn_vret dX4_listChoices_31
  · refine sn_aload_n dX4_listChoices_18 rfl ?_
    refine sn_iconst dX4_listChoices_19 ?_
    refine sn_iconst dX4_listChoices_20 ?_
    refine sn_iload_n dX4_listChoices_21 rfl ?_
    refine sn_callVV (vs := [aI 0, aI 0, aI v7]) (ci := 4) (cX4_listFrom_ok n a 0 0 v7 μ7) dX4_listChoices_22 cw_X4_108 rfl rfl rfl (by decide) (by decide) (Nat.le_of_ble_eq_true rfl) (fun p22 => ?_)
    refine sn_iinc (L' := [some (aA a), some (aI (v7 + 1))]) dX4_listChoices_25 rfl (by decide) rfl ?_
    refine sn_goto (tgt := 7) dX4_listChoices_28 (by decide) ?_
    exact hnx7 (v7 + 1) p22.2
theorem dX4_prepare_0 : decode cX4_prepare 0 = .ok (.aload_n 0, 1) := by decide +kernel
theorem dX4_prepare_1 : decode cX4_prepare 1 = .ok (.iload_n 1, 1) := by decide +kernel
theorem dX4_prepare_2 : decode cX4_prepare 2 = .ok (.putfield 81, 3) := by decide +kernel
theorem dX4_prepare_5 : decode cX4_prepare 5 = .ok (.aload_n 0, 1) := by decide +kernel
theorem dX4_prepare_6 : decode cX4_prepare 6 = .ok (.iload_n 2, 1) := by decide +kernel
theorem dX4_prepare_7 : decode cX4_prepare 7 = .ok (.putfield 84, 3) := by decide +kernel
theorem dX4_prepare_10 : decode cX4_prepare 10 = .ok (.aload_n 0, 1) := by decide +kernel
theorem dX4_prepare_11 : decode cX4_prepare 11 = .ok (.iconst 0, 1) := by decide +kernel
theorem dX4_prepare_12 : decode cX4_prepare 12 = .ok (.putfield 87, 3) := by decide +kernel
theorem dX4_prepare_15 : decode cX4_prepare 15 = .ok (.iconst 0, 1) := by decide +kernel
theorem dX4_prepare_16 : decode cX4_prepare 16 = .ok (.istore 4, 2) := by decide +kernel
theorem dX4_prepare_18 : decode cX4_prepare 18 = .ok (.iload 4, 2) := by decide +kernel
theorem dX4_prepare_20 : decode cX4_prepare 20 = .ok (.aload_n 0, 1) := by decide +kernel
theorem dX4_prepare_21 : decode cX4_prepare 21 = .ok (.getfield 40, 3) := by decide +kernel
theorem dX4_prepare_24 : decode cX4_prepare 24 = .ok (.getfield 90, 3) := by decide +kernel
theorem dX4_prepare_27 : decode cX4_prepare 27 = .ok (.if_icmp .ge 59, 3) := by decide +kernel
theorem dX4_prepare_30 : decode cX4_prepare 30 = .ok (.aload_n 0, 1) := by decide +kernel
theorem dX4_prepare_31 : decode cX4_prepare 31 = .ok (.getfield 40, 3) := by decide +kernel
theorem dX4_prepare_34 : decode cX4_prepare 34 = .ok (.getfield 95, 3) := by decide +kernel
theorem dX4_prepare_37 : decode cX4_prepare 37 = .ok (.iload 4, 2) := by decide +kernel
theorem dX4_prepare_39 : decode cX4_prepare 39 = .ok (.baload, 1) := by decide +kernel
theorem dX4_prepare_40 : decode cX4_prepare 40 = .ok (.ifCond .ne 40, 3) := by decide +kernel
theorem dX4_prepare_43 : decode cX4_prepare 43 = .ok (.iload 4, 2) := by decide +kernel
theorem dX4_prepare_45 : decode cX4_prepare 45 = .ok (.iload_n 3, 1) := by decide +kernel
theorem dX4_prepare_46 : decode cX4_prepare 46 = .ok (.if_icmp .eq 34, 3) := by decide +kernel
theorem dX4_prepare_49 : decode cX4_prepare 49 = .ok (.aload_n 0, 1) := by decide +kernel
theorem dX4_prepare_50 : decode cX4_prepare 50 = .ok (.getfield 87, 3) := by decide +kernel
theorem dX4_prepare_53 : decode cX4_prepare 53 = .ok (.iconst 3, 1) := by decide +kernel
theorem dX4_prepare_54 : decode cX4_prepare 54 = .ok (.if_icmp .lt 5, 3) := by decide +kernel
theorem dX4_prepare_57 : decode cX4_prepare 57 = .ok (.iconst 0, 1) := by decide +kernel
theorem dX4_prepare_58 : decode cX4_prepare 58 = .ok (.ireturn, 1) := by decide +kernel
theorem dX4_prepare_59 : decode cX4_prepare 59 = .ok (.aload_n 0, 1) := by decide +kernel
theorem dX4_prepare_60 : decode cX4_prepare 60 = .ok (.getfield 21, 3) := by decide +kernel
theorem dX4_prepare_63 : decode cX4_prepare 63 = .ok (.aload_n 0, 1) := by decide +kernel
theorem dX4_prepare_64 : decode cX4_prepare 64 = .ok (.getfield 87, 3) := by decide +kernel
theorem dX4_prepare_67 : decode cX4_prepare 67 = .ok (.iload 4, 2) := by decide +kernel
theorem dX4_prepare_69 : decode cX4_prepare 69 = .ok (.iastore, 1) := by decide +kernel
theorem dX4_prepare_70 : decode cX4_prepare 70 = .ok (.aload_n 0, 1) := by decide +kernel
theorem dX4_prepare_71 : decode cX4_prepare 71 = .ok (.dup, 1) := by decide +kernel
theorem dX4_prepare_72 : decode cX4_prepare 72 = .ok (.getfield 87, 3) := by decide +kernel
theorem dX4_prepare_75 : decode cX4_prepare 75 = .ok (.iconst 1, 1) := by decide +kernel
theorem dX4_prepare_76 : decode cX4_prepare 76 = .ok (.iadd, 1) := by decide +kernel
theorem dX4_prepare_77 : decode cX4_prepare 77 = .ok (.putfield 87, 3) := by decide +kernel
theorem dX4_prepare_80 : decode cX4_prepare 80 = .ok (.iinc 4 1, 3) := by decide +kernel
theorem dX4_prepare_83 : decode cX4_prepare 83 = .ok (.goto (-65), 3) := by decide +kernel
theorem dX4_prepare_86 : decode cX4_prepare 86 = .ok (.aload_n 0, 1) := by decide +kernel
theorem dX4_prepare_87 : decode cX4_prepare 87 = .ok (.getfield 40, 3) := by decide +kernel
theorem dX4_prepare_90 : decode cX4_prepare 90 = .ok (.getfield 99, 3) := by decide +kernel
theorem dX4_prepare_93 : decode cX4_prepare 93 = .ok (.iconst 4, 1) := by decide +kernel
theorem dX4_prepare_94 : decode cX4_prepare 94 = .ok (.if_icmp .le 5, 3) := by decide +kernel
theorem dX4_prepare_97 : decode cX4_prepare 97 = .ok (.iconst 0, 1) := by decide +kernel
theorem dX4_prepare_98 : decode cX4_prepare 98 = .ok (.ireturn, 1) := by decide +kernel
theorem dX4_prepare_99 : decode cX4_prepare 99 = .ok (.aload_n 0, 1) := by decide +kernel
theorem dX4_prepare_100 : decode cX4_prepare 100 = .ok (.invokevirtual 102, 3) := by decide +kernel
theorem dX4_prepare_103 : decode cX4_prepare 103 = .ok (.iconst 1, 1) := by decide +kernel
theorem dX4_prepare_104 : decode cX4_prepare 104 = .ok (.ireturn, 1) := by decide +kernel
def mX4_prepare (n : Nat) (a : Nat) (b1 : Int) (b2 : Int) (b3 : Int) (μ : Mem) : Option (Int × Mem) :=
  (pI μ 5 a 11 b1).bind fun μ2 =>
  (pI μ2 5 a 12 b2).bind fun μ7 =>
  (pI μ7 5 a 3 0).bind fun μ12 =>
  lp (fun nx18 (v18 : Int) (μ18 : Mem) =>
  (gA μ18 5 a 10).bind fun x21 =>
  (gI μ18 2 x21 1).bind fun x24 =>
  if lt32 v18 x24 then
    (gA μ18 5 a 10).bind fun x31 =>
    (gA μ18 2 x31 14).bind fun x34 =>
    (ldI μ18 2 x34 v18).bind fun x39 =>
    if eq32 x39 0 then
      if eq32 v18 b3 then
        nx18 (v18 + 1) μ18
      else
      (gI μ18 5 a 3).bind fun x50 =>
      if lt32 x50 3 then
        (gA μ18 5 a 2).bind fun x60 =>
        (gI μ18 5 a 3).bind fun x64 =>
        (stI μ18 0 x60 x64 v18).bind fun μ69 =>
        (gI μ69 5 a 3).bind fun x72 =>
        (pI μ69 5 a 3 (x72 + 1)).bind fun μ77 =>
        nx18 (v18 + 1) μ77
      else
      retZ 0 μ18
    else
    nx18 (v18 + 1) μ18
  else
  (gA μ18 5 a 10).bind fun x87 =>
  (gI μ18 2 x87 0).bind fun x90 =>
  if lt32 4 x90 then
    retZ 0 μ18
  else
  (inv μ18 5 a (mX4_listChoices n a μ18)).bind fun p100 =>
  retZ 1 p100.2) n 0 μ12
set_option maxRecDepth 100000 in
set_option maxHeartbeats 4000000 in
theorem cX4_prepare_ok (n : Nat) (a : Nat) (b1 : Int) (b2 : Int) (b3 : Int) (μ : Mem) : Mc yX4_prepare cX4_prepare 5 (some .boolean) 14 346 eI [aA a, aI b1, aI b2, aI b3] μ (mX4_prepare n a b1 b2 b3 μ) := by
  refine mc_of (L0 := [some (aA a), some (aI b1), some (aI b2), some (aI b3), none]) (k := 1) (by decide) rfl rfl (fun X Γ => ?_)
  unfold mX4_prepare
  refine sn_aload_n dX4_prepare_0 rfl ?_
  refine sn_iload_n dX4_prepare_1 rfl ?_
  refine sn_putI (ci := 4) (j := 11) dX4_prepare_2 fl_X4_81 rfl (fun q h => by cases h; rfl) (fun μ2 => ?_)
  refine sn_aload_n dX4_prepare_5 rfl ?_
  refine sn_iload_n dX4_prepare_6 rfl ?_
  refine sn_putI (ci := 4) (j := 12) dX4_prepare_7 fl_X4_84 rfl (fun q h => by cases h; rfl) (fun μ7 => ?_)
  refine sn_aload_n dX4_prepare_10 rfl ?_
  refine sn_iconst dX4_prepare_11 ?_
  refine sn_putI (ci := 4) (j := 3) dX4_prepare_12 fl_X4_87 rfl (fun q h => by cases h; rfl) (fun μ12 => ?_)
  refine sn_iconst dX4_prepare_15 ?_
  refine sn_istore (L' := [some (aA a), some (aI b1), some (aI b2), some (aI b3), some (aI 0)]) dX4_prepare_16 (by decide) rfl ?_
  refine sn_mask (L' := [some (aA a), none, none, some (aI b3), some (aI 0)]) [true, false, false, true, true] rfl ?_
  refine sn_lp (La := fun v18 : Int => [some (aA a), none, none, some (aI b3), some (aI v18)]) ?_ n 0 μ12
  intro nx18 hnx18 v18 μ18
  refine sn_iload dX4_prepare_18 rfl ?_
  refine sn_aload_n dX4_prepare_20 rfl ?_
  refine sn_getA (ci := 4) (j := 10) dX4_prepare_21 fl_X4_40 (by decide) (fun x21 => ?_)
  refine sn_getI (ci := 1) (j := 1) dX4_prepare_24 fl_X4_90 rfl (fun x24 => ?_)
  refine sn_icmp_ge (tgt := 86) dX4_prepare_27 (by decide) ?_ ?_
  · refine sn_aload_n dX4_prepare_86 rfl ?_
    refine sn_getA (ci := 4) (j := 10) dX4_prepare_87 fl_X4_40 (by decide) (fun x87 => ?_)
    refine sn_getI (ci := 1) (j := 0) dX4_prepare_90 fl_X4_99 rfl (fun x90 => ?_)
    refine sn_iconst dX4_prepare_93 ?_
    refine sn_icmp_le (tgt := 99) dX4_prepare_94 (by decide) ?_ ?_
    · refine sn_aload_n dX4_prepare_99 rfl ?_
      refine sn_callVV (vs := []) (ci := 4) (cX4_listChoices_ok n a μ18) dX4_prepare_100 cw_X4_102 rfl rfl rfl (by decide) (by decide) (Nat.le_of_ble_eq_true rfl) (fun p100 => ?_)
      refine sn_iconst dX4_prepare_103 ?_
      exact sn_zret dX4_prepare_104
    · refine sn_iconst dX4_prepare_97 ?_
      exact sn_zret dX4_prepare_98
  · refine sn_aload_n dX4_prepare_30 rfl ?_
    refine sn_getA (ci := 4) (j := 10) dX4_prepare_31 fl_X4_40 (by decide) (fun x31 => ?_)
    refine sn_getA (ci := 1) (j := 14) dX4_prepare_34 fl_X4_95 (by decide) (fun x34 => ?_)
    refine sn_iload dX4_prepare_37 rfl ?_
    refine sn_zald dX4_prepare_39 (fun x39 => ?_)
    refine sn_if_ne (tgt := 80) dX4_prepare_40 (by decide) ?_ ?_
    · refine sn_iinc (L' := [some (aA a), none, none, some (aI b3), some (aI (v18 + 1))]) dX4_prepare_80 rfl (by decide) rfl ?_
      refine sn_goto (tgt := 18) dX4_prepare_83 (by decide) ?_
      exact hnx18 (v18 + 1) μ18
    · refine sn_iload dX4_prepare_43 rfl ?_
      refine sn_iload_n dX4_prepare_45 rfl ?_
      refine sn_icmp_eq (tgt := 80) dX4_prepare_46 (by decide) ?_ ?_
      · refine sn_iinc (L' := [some (aA a), none, none, some (aI b3), some (aI (v18 + 1))]) dX4_prepare_80 rfl (by decide) rfl ?_
        refine sn_goto (tgt := 18) dX4_prepare_83 (by decide) ?_
        exact hnx18 (v18 + 1) μ18
      · refine sn_aload_n dX4_prepare_49 rfl ?_
        refine sn_getI (ci := 4) (j := 3) dX4_prepare_50 fl_X4_87 rfl (fun x50 => ?_)
        refine sn_iconst dX4_prepare_53 ?_
        refine sn_icmp_lt (tgt := 59) dX4_prepare_54 (by decide) ?_ ?_
        · refine sn_aload_n dX4_prepare_59 rfl ?_
          refine sn_getA (ci := 4) (j := 2) dX4_prepare_60 fl_X4_21 (by decide) (fun x60 => ?_)
          refine sn_aload_n dX4_prepare_63 rfl ?_
          refine sn_getI (ci := 4) (j := 3) dX4_prepare_64 fl_X4_87 rfl (fun x64 => ?_)
          refine sn_iload dX4_prepare_67 rfl ?_
          refine sn_iast dX4_prepare_69 (fun μ69 => ?_)
          refine sn_aload_n dX4_prepare_70 rfl ?_
          refine sn_dup dX4_prepare_71 rfl ?_
          refine sn_getI (ci := 4) (j := 3) dX4_prepare_72 fl_X4_87 rfl (fun x72 => ?_)
          refine sn_iconst dX4_prepare_75 ?_
          refine sn_iadd dX4_prepare_76 ?_
          refine sn_putI (ci := 4) (j := 3) dX4_prepare_77 fl_X4_87 rfl (fun q h => by cases h; rfl) (fun μ77 => ?_)
          refine sn_iinc (L' := [some (aA a), none, none, some (aI b3), some (aI (v18 + 1))]) dX4_prepare_80 rfl (by decide) rfl ?_
          refine sn_goto (tgt := 18) dX4_prepare_83 (by decide) ?_
          exact hnx18 (v18 + 1) μ77
        · refine sn_iconst dX4_prepare_57 ?_
          exact sn_zret dX4_prepare_58
theorem dX4_stateNow_0 : decode cX4_stateNow 0 = .ok (.lconst 0, 1) := by decide +kernel
theorem dX4_stateNow_1 : decode cX4_stateNow 1 = .ok (.lstore_n 1, 1) := by decide +kernel
theorem dX4_stateNow_2 : decode cX4_stateNow 2 = .ok (.iconst 0, 1) := by decide +kernel
theorem dX4_stateNow_3 : decode cX4_stateNow 3 = .ok (.istore_n 3, 1) := by decide +kernel
theorem dX4_stateNow_4 : decode cX4_stateNow 4 = .ok (.iload_n 3, 1) := by decide +kernel
theorem dX4_stateNow_5 : decode cX4_stateNow 5 = .ok (.aload_n 0, 1) := by decide +kernel
theorem dX4_stateNow_6 : decode cX4_stateNow 6 = .ok (.getfield 87, 3) := by decide +kernel
theorem dX4_stateNow_9 : decode cX4_stateNow 9 = .ok (.if_icmp .ge 99, 3) := by decide +kernel
theorem dX4_stateNow_12 : decode cX4_stateNow 12 = .ok (.aload_n 0, 1) := by decide +kernel
theorem dX4_stateNow_13 : decode cX4_stateNow 13 = .ok (.getfield 21, 3) := by decide +kernel
theorem dX4_stateNow_16 : decode cX4_stateNow 16 = .ok (.iload_n 3, 1) := by decide +kernel
theorem dX4_stateNow_17 : decode cX4_stateNow 17 = .ok (.iaload, 1) := by decide +kernel
theorem dX4_stateNow_18 : decode cX4_stateNow 18 = .ok (.istore 4, 2) := by decide +kernel
theorem dX4_stateNow_20 : decode cX4_stateNow 20 = .ok (.lload_n 1, 1) := by decide +kernel
theorem dX4_stateNow_21 : decode cX4_stateNow 21 = .ok (.aload_n 0, 1) := by decide +kernel
theorem dX4_stateNow_22 : decode cX4_stateNow 22 = .ok (.getfield 40, 3) := by decide +kernel
theorem dX4_stateNow_25 : decode cX4_stateNow 25 = .ok (.getfield 121, 3) := by decide +kernel
theorem dX4_stateNow_28 : decode cX4_stateNow 28 = .ok (.iload 4, 2) := by decide +kernel
theorem dX4_stateNow_30 : decode cX4_stateNow 30 = .ok (.iaload, 1) := by decide +kernel
theorem dX4_stateNow_31 : decode cX4_stateNow 31 = .ok (.i2l, 1) := by decide +kernel
theorem dX4_stateNow_32 : decode cX4_stateNow 32 = .ok (.iconst 4, 1) := by decide +kernel
theorem dX4_stateNow_33 : decode cX4_stateNow 33 = .ok (.iload_n 3, 1) := by decide +kernel
theorem dX4_stateNow_34 : decode cX4_stateNow 34 = .ok (.imul, 1) := by decide +kernel
theorem dX4_stateNow_35 : decode cX4_stateNow 35 = .ok (.lshl, 1) := by decide +kernel
theorem dX4_stateNow_36 : decode cX4_stateNow 36 = .ok (.lor, 1) := by decide +kernel
theorem dX4_stateNow_37 : decode cX4_stateNow 37 = .ok (.lstore_n 1, 1) := by decide +kernel
theorem dX4_stateNow_38 : decode cX4_stateNow 38 = .ok (.lload_n 1, 1) := by decide +kernel
theorem dX4_stateNow_39 : decode cX4_stateNow 39 = .ok (.aload_n 0, 1) := by decide +kernel
theorem dX4_stateNow_40 : decode cX4_stateNow 40 = .ok (.getfield 40, 3) := by decide +kernel
theorem dX4_stateNow_43 : decode cX4_stateNow 43 = .ok (.getfield 124, 3) := by decide +kernel
theorem dX4_stateNow_46 : decode cX4_stateNow 46 = .ok (.iconst 2, 1) := by decide +kernel
theorem dX4_stateNow_47 : decode cX4_stateNow 47 = .ok (.iload 4, 2) := by decide +kernel
theorem dX4_stateNow_49 : decode cX4_stateNow 49 = .ok (.imul, 1) := by decide +kernel
theorem dX4_stateNow_50 : decode cX4_stateNow 50 = .ok (.baload, 1) := by decide +kernel
theorem dX4_stateNow_51 : decode cX4_stateNow 51 = .ok (.ifCond .eq 14, 3) := by decide +kernel
theorem dX4_stateNow_54 : decode cX4_stateNow 54 = .ok (.lconst 1, 1) := by decide +kernel
theorem dX4_stateNow_55 : decode cX4_stateNow 55 = .ok (.bipush 12, 2) := by decide +kernel
theorem dX4_stateNow_57 : decode cX4_stateNow 57 = .ok (.iconst 2, 1) := by decide +kernel
theorem dX4_stateNow_58 : decode cX4_stateNow 58 = .ok (.iload_n 3, 1) := by decide +kernel
theorem dX4_stateNow_59 : decode cX4_stateNow 59 = .ok (.imul, 1) := by decide +kernel
theorem dX4_stateNow_60 : decode cX4_stateNow 60 = .ok (.iadd, 1) := by decide +kernel
theorem dX4_stateNow_61 : decode cX4_stateNow 61 = .ok (.lshl, 1) := by decide +kernel
theorem dX4_stateNow_62 : decode cX4_stateNow 62 = .ok (.goto 4, 3) := by decide +kernel
theorem dX4_stateNow_65 : decode cX4_stateNow 65 = .ok (.lconst 0, 1) := by decide +kernel
theorem dX4_stateNow_66 : decode cX4_stateNow 66 = .ok (.lor, 1) := by decide +kernel
theorem dX4_stateNow_67 : decode cX4_stateNow 67 = .ok (.lstore_n 1, 1) := by decide +kernel
theorem dX4_stateNow_68 : decode cX4_stateNow 68 = .ok (.lload_n 1, 1) := by decide +kernel
theorem dX4_stateNow_69 : decode cX4_stateNow 69 = .ok (.aload_n 0, 1) := by decide +kernel
theorem dX4_stateNow_70 : decode cX4_stateNow 70 = .ok (.getfield 40, 3) := by decide +kernel
theorem dX4_stateNow_73 : decode cX4_stateNow 73 = .ok (.getfield 124, 3) := by decide +kernel
theorem dX4_stateNow_76 : decode cX4_stateNow 76 = .ok (.iconst 2, 1) := by decide +kernel
theorem dX4_stateNow_77 : decode cX4_stateNow 77 = .ok (.iload 4, 2) := by decide +kernel
theorem dX4_stateNow_79 : decode cX4_stateNow 79 = .ok (.imul, 1) := by decide +kernel
theorem dX4_stateNow_80 : decode cX4_stateNow 80 = .ok (.iconst 1, 1) := by decide +kernel
theorem dX4_stateNow_81 : decode cX4_stateNow 81 = .ok (.iadd, 1) := by decide +kernel
theorem dX4_stateNow_82 : decode cX4_stateNow 82 = .ok (.baload, 1) := by decide +kernel
theorem dX4_stateNow_83 : decode cX4_stateNow 83 = .ok (.ifCond .eq 16, 3) := by decide +kernel
theorem dX4_stateNow_86 : decode cX4_stateNow 86 = .ok (.lconst 1, 1) := by decide +kernel
theorem dX4_stateNow_87 : decode cX4_stateNow 87 = .ok (.bipush 12, 2) := by decide +kernel
theorem dX4_stateNow_89 : decode cX4_stateNow 89 = .ok (.iconst 2, 1) := by decide +kernel
theorem dX4_stateNow_90 : decode cX4_stateNow 90 = .ok (.iload_n 3, 1) := by decide +kernel
theorem dX4_stateNow_91 : decode cX4_stateNow 91 = .ok (.imul, 1) := by decide +kernel
theorem dX4_stateNow_92 : decode cX4_stateNow 92 = .ok (.iadd, 1) := by decide +kernel
theorem dX4_stateNow_93 : decode cX4_stateNow 93 = .ok (.iconst 1, 1) := by decide +kernel
theorem dX4_stateNow_94 : decode cX4_stateNow 94 = .ok (.iadd, 1) := by decide +kernel
theorem dX4_stateNow_95 : decode cX4_stateNow 95 = .ok (.lshl, 1) := by decide +kernel
theorem dX4_stateNow_96 : decode cX4_stateNow 96 = .ok (.goto 4, 3) := by decide +kernel
theorem dX4_stateNow_99 : decode cX4_stateNow 99 = .ok (.lconst 0, 1) := by decide +kernel
theorem dX4_stateNow_100 : decode cX4_stateNow 100 = .ok (.lor, 1) := by decide +kernel
theorem dX4_stateNow_101 : decode cX4_stateNow 101 = .ok (.lstore_n 1, 1) := by decide +kernel
theorem dX4_stateNow_102 : decode cX4_stateNow 102 = .ok (.iinc 3 1, 3) := by decide +kernel
theorem dX4_stateNow_105 : decode cX4_stateNow 105 = .ok (.goto (-101), 3) := by decide +kernel
theorem dX4_stateNow_108 : decode cX4_stateNow 108 = .ok (.iconst 0, 1) := by decide +kernel
theorem dX4_stateNow_109 : decode cX4_stateNow 109 = .ok (.istore_n 3, 1) := by decide +kernel
theorem dX4_stateNow_110 : decode cX4_stateNow 110 = .ok (.iload_n 3, 1) := by decide +kernel
theorem dX4_stateNow_111 : decode cX4_stateNow 111 = .ok (.aload_n 0, 1) := by decide +kernel
theorem dX4_stateNow_112 : decode cX4_stateNow 112 = .ok (.getfield 40, 3) := by decide +kernel
theorem dX4_stateNow_115 : decode cX4_stateNow 115 = .ok (.getfield 99, 3) := by decide +kernel
theorem dX4_stateNow_118 : decode cX4_stateNow 118 = .ok (.if_icmp .ge 30, 3) := by decide +kernel
theorem dX4_stateNow_121 : decode cX4_stateNow 121 = .ok (.lload_n 1, 1) := by decide +kernel
theorem dX4_stateNow_122 : decode cX4_stateNow 122 = .ok (.aload_n 0, 1) := by decide +kernel
theorem dX4_stateNow_123 : decode cX4_stateNow 123 = .ok (.getfield 40, 3) := by decide +kernel
theorem dX4_stateNow_126 : decode cX4_stateNow 126 = .ok (.getfield 127, 3) := by decide +kernel
theorem dX4_stateNow_129 : decode cX4_stateNow 129 = .ok (.iload_n 3, 1) := by decide +kernel
theorem dX4_stateNow_130 : decode cX4_stateNow 130 = .ok (.iaload, 1) := by decide +kernel
theorem dX4_stateNow_131 : decode cX4_stateNow 131 = .ok (.i2l, 1) := by decide +kernel
theorem dX4_stateNow_132 : decode cX4_stateNow 132 = .ok (.bipush 18, 2) := by decide +kernel
theorem dX4_stateNow_134 : decode cX4_stateNow 134 = .ok (.bipush 7, 2) := by decide +kernel
theorem dX4_stateNow_136 : decode cX4_stateNow 136 = .ok (.iload_n 3, 1) := by decide +kernel
theorem dX4_stateNow_137 : decode cX4_stateNow 137 = .ok (.imul, 1) := by decide +kernel
theorem dX4_stateNow_138 : decode cX4_stateNow 138 = .ok (.iadd, 1) := by decide +kernel
theorem dX4_stateNow_139 : decode cX4_stateNow 139 = .ok (.lshl, 1) := by decide +kernel
theorem dX4_stateNow_140 : decode cX4_stateNow 140 = .ok (.lor, 1) := by decide +kernel
theorem dX4_stateNow_141 : decode cX4_stateNow 141 = .ok (.lstore_n 1, 1) := by decide +kernel
theorem dX4_stateNow_142 : decode cX4_stateNow 142 = .ok (.iinc 3 1, 3) := by decide +kernel
theorem dX4_stateNow_145 : decode cX4_stateNow 145 = .ok (.goto (-35), 3) := by decide +kernel
theorem dX4_stateNow_148 : decode cX4_stateNow 148 = .ok (.lload_n 1, 1) := by decide +kernel
theorem dX4_stateNow_149 : decode cX4_stateNow 149 = .ok (.lreturn, 1) := by decide +kernel
def mX4_stateNow (n : Nat) (a : Nat) (μ : Mem) : Option (Int × Mem) :=
  lp (fun nx4 (v4 : Int × Int) (μ4 : Mem) =>
  (gI μ4 5 a 3).bind fun x6 =>
  if lt32 v4.2 x6 then
    (gA μ4 5 a 2).bind fun x13 =>
    (ldI μ4 0 x13 v4.2).bind fun x17 =>
    (gA μ4 5 a 10).bind fun x22 =>
    (gA μ4 2 x22 13).bind fun x25 =>
    (ldI μ4 0 x25 x17).bind fun x30 =>
    (gA μ4 5 a 10).bind fun x40 =>
    (gA μ4 2 x40 17).bind fun x43 =>
    (ldI μ4 2 x43 (2 * x17)).bind fun x50 =>
    jn (fun (v66 : Int) (μ66 : Mem) =>
    (gA μ66 5 a 10).bind fun x70 =>
    (gA μ66 2 x70 17).bind fun x73 =>
    (ldI μ66 2 x73 ((2 * x17) + 1)).bind fun x82 =>
    jn (fun (v100 : Int) (μ100 : Mem) =>
    nx4 ((lOr (lOr (lOr v4.1 (lShl (oI2l x30) (4 * v4.2))) v66) v100), (v4.2 + 1)) μ100) (fun j100 =>
    if eq32 x82 0 then
      j100 0 μ66
    else
    j100 (lShl 1 ((12 + (2 * v4.2)) + 1)) μ66)) (fun j66 =>
    if eq32 x50 0 then
      j66 0 μ4
    else
    j66 (lShl 1 (12 + (2 * v4.2))) μ4)
  else
  lp (fun nx110 (v110 : Int × Int) (μ110 : Mem) =>
  (gA μ110 5 a 10).bind fun x112 =>
  (gI μ110 2 x112 0).bind fun x115 =>
  if lt32 v110.2 x115 then
    (gA μ110 5 a 10).bind fun x123 =>
    (gA μ110 2 x123 8).bind fun x126 =>
    (ldI μ110 0 x126 v110.2).bind fun x130 =>
    nx110 ((lOr v110.1 (lShl (oI2l x130) (18 + (7 * v110.2)))), (v110.2 + 1)) μ110
  else
  some (v110.1, μ110)) n (v4.1, 0) μ4) n (0, 0) μ
set_option maxRecDepth 100000 in
set_option maxHeartbeats 4000000 in
theorem cX4_stateNow_ok (n : Nat) (a : Nat) (μ : Mem) : Mc yX4_stateNow cX4_stateNow 5 (some .long) 0 0 eJ [aA a] μ (mX4_stateNow n a μ) := by
  refine mc_of (L0 := [some (aA a), none, none, none, none]) (k := 4) (by decide) rfl rfl (fun X Γ => ?_)
  unfold mX4_stateNow
  refine sn_lconst (v := 0) dX4_stateNow_0 (by decide) ?_
  refine sn_lstore_n (L' := [some (aA a), some (aJ 0), none, none, none]) dX4_stateNow_1 (by decide) rfl ?_
  refine sn_iconst dX4_stateNow_2 ?_
  refine sn_istore_n (L' := [some (aA a), some (aJ 0), none, some (aI 0), none]) dX4_stateNow_3 (by decide) rfl ?_
  refine sn_lp (La := fun v4 : Int × Int => [some (aA a), some (aJ v4.1), none, some (aI v4.2), none]) ?_ n (0, 0) μ
  intro nx4 hnx4 v4 μ4
  refine sn_iload_n dX4_stateNow_4 rfl ?_
  refine sn_aload_n dX4_stateNow_5 rfl ?_
  refine sn_getI (ci := 4) (j := 3) dX4_stateNow_6 fl_X4_87 rfl (fun x6 => ?_)
  refine sn_icmp_ge (tgt := 108) dX4_stateNow_9 (by decide) ?_ ?_
  · refine sn_iconst dX4_stateNow_108 ?_
    refine sn_istore_n (L' := [some (aA a), some (aJ v4.1), none, some (aI 0), none]) dX4_stateNow_109 (by decide) rfl ?_
    refine sn_lp (La := fun v110 : Int × Int => [some (aA a), some (aJ v110.1), none, some (aI v110.2), none]) ?_ n (v4.1, 0) μ4
    intro nx110 hnx110 v110 μ110
    refine sn_iload_n dX4_stateNow_110 rfl ?_
    refine sn_aload_n dX4_stateNow_111 rfl ?_
    refine sn_getA (ci := 4) (j := 10) dX4_stateNow_112 fl_X4_40 (by decide) (fun x112 => ?_)
    refine sn_getI (ci := 1) (j := 0) dX4_stateNow_115 fl_X4_99 rfl (fun x115 => ?_)
    refine sn_icmp_ge (tgt := 148) dX4_stateNow_118 (by decide) ?_ ?_
    · refine sn_lload_n dX4_stateNow_148 rfl ?_
      exact sn_lret dX4_stateNow_149
    · refine sn_lload_n dX4_stateNow_121 rfl ?_
      refine sn_aload_n dX4_stateNow_122 rfl ?_
      refine sn_getA (ci := 4) (j := 10) dX4_stateNow_123 fl_X4_40 (by decide) (fun x123 => ?_)
      refine sn_getA (ci := 1) (j := 8) dX4_stateNow_126 fl_X4_127 (by decide) (fun x126 => ?_)
      refine sn_iload_n dX4_stateNow_129 rfl ?_
      refine sn_iald dX4_stateNow_130 (fun x130 => ?_)
      refine sn_i2l dX4_stateNow_131 ?_
      refine sn_bipush dX4_stateNow_132 (by decide) ?_
      refine sn_bipush dX4_stateNow_134 (by decide) ?_
      refine sn_iload_n dX4_stateNow_136 rfl ?_
      refine sn_imul dX4_stateNow_137 ?_
      refine sn_iadd dX4_stateNow_138 ?_
      refine sn_lshl dX4_stateNow_139 ?_
      refine sn_lor dX4_stateNow_140 ?_
      refine sn_lstore_n (L' := [some (aA a), some (aJ (lOr v110.1 (lShl (oI2l x130) (18 + (7 * v110.2))))), none, some (aI v110.2), none]) dX4_stateNow_141 (by decide) rfl ?_
      refine sn_iinc (L' := [some (aA a), some (aJ (lOr v110.1 (lShl (oI2l x130) (18 + (7 * v110.2))))), none, some (aI (v110.2 + 1)), none]) dX4_stateNow_142 rfl (by decide) rfl ?_
      refine sn_goto (tgt := 110) dX4_stateNow_145 (by decide) ?_
      exact hnx110 ((lOr v110.1 (lShl (oI2l x130) (18 + (7 * v110.2)))), (v110.2 + 1)) μ110
  · refine sn_aload_n dX4_stateNow_12 rfl ?_
    refine sn_getA (ci := 4) (j := 2) dX4_stateNow_13 fl_X4_21 (by decide) (fun x13 => ?_)
    refine sn_iload_n dX4_stateNow_16 rfl ?_
    refine sn_iald dX4_stateNow_17 (fun x17 => ?_)
    refine sn_istore (L' := [some (aA a), some (aJ v4.1), none, some (aI v4.2), some (aI x17)]) dX4_stateNow_18 (by decide) rfl ?_
    refine sn_lload_n dX4_stateNow_20 rfl ?_
    refine sn_aload_n dX4_stateNow_21 rfl ?_
    refine sn_getA (ci := 4) (j := 10) dX4_stateNow_22 fl_X4_40 (by decide) (fun x22 => ?_)
    refine sn_getA (ci := 1) (j := 13) dX4_stateNow_25 fl_X4_121 (by decide) (fun x25 => ?_)
    refine sn_iload dX4_stateNow_28 rfl ?_
    refine sn_iald dX4_stateNow_30 (fun x30 => ?_)
    refine sn_i2l dX4_stateNow_31 ?_
    refine sn_iconst dX4_stateNow_32 ?_
    refine sn_iload_n dX4_stateNow_33 rfl ?_
    refine sn_imul dX4_stateNow_34 ?_
    refine sn_lshl dX4_stateNow_35 ?_
    refine sn_lor dX4_stateNow_36 ?_
    refine sn_lstore_n (L' := [some (aA a), some (aJ (lOr v4.1 (lShl (oI2l x30) (4 * v4.2)))), none, some (aI v4.2), some (aI x17)]) dX4_stateNow_37 (by decide) rfl ?_
    refine sn_lload_n dX4_stateNow_38 rfl ?_
    refine sn_aload_n dX4_stateNow_39 rfl ?_
    refine sn_getA (ci := 4) (j := 10) dX4_stateNow_40 fl_X4_40 (by decide) (fun x40 => ?_)
    refine sn_getA (ci := 1) (j := 17) dX4_stateNow_43 fl_X4_124 (by decide) (fun x43 => ?_)
    refine sn_iconst dX4_stateNow_46 ?_
    refine sn_iload dX4_stateNow_47 rfl ?_
    refine sn_imul dX4_stateNow_49 ?_
    refine sn_zald dX4_stateNow_50 (fun x50 => ?_)
    refine sn_jn (pcj := 66) (La := fun v66 : Int => [some (aA a), none, none, some (aI v4.2), some (aI x17)]) (Sa := fun v66 : Int => [aJ v66, aJ (lOr v4.1 (lShl (oI2l x30) (4 * v4.2)))]) ?_ ?_
    · intro v66 μ66
      refine sn_lor dX4_stateNow_66 ?_
      refine sn_lstore_n (L' := [some (aA a), some (aJ (lOr (lOr v4.1 (lShl (oI2l x30) (4 * v4.2))) v66)), none, some (aI v4.2), some (aI x17)]) dX4_stateNow_67 (by decide) rfl ?_
      refine sn_lload_n dX4_stateNow_68 rfl ?_
      refine sn_aload_n dX4_stateNow_69 rfl ?_
      refine sn_getA (ci := 4) (j := 10) dX4_stateNow_70 fl_X4_40 (by decide) (fun x70 => ?_)
      refine sn_getA (ci := 1) (j := 17) dX4_stateNow_73 fl_X4_124 (by decide) (fun x73 => ?_)
      refine sn_iconst dX4_stateNow_76 ?_
      refine sn_iload dX4_stateNow_77 rfl ?_
      refine sn_imul dX4_stateNow_79 ?_
      refine sn_iconst dX4_stateNow_80 ?_
      refine sn_iadd dX4_stateNow_81 ?_
      refine sn_zald dX4_stateNow_82 (fun x82 => ?_)
      refine sn_jn (pcj := 100) (La := fun v100 : Int => [some (aA a), none, none, some (aI v4.2), none]) (Sa := fun v100 : Int => [aJ v100, aJ (lOr (lOr v4.1 (lShl (oI2l x30) (4 * v4.2))) v66)]) ?_ ?_
      · intro v100 μ100
        refine sn_lor dX4_stateNow_100 ?_
        refine sn_lstore_n (L' := [some (aA a), some (aJ (lOr (lOr (lOr v4.1 (lShl (oI2l x30) (4 * v4.2))) v66) v100)), none, some (aI v4.2), none]) dX4_stateNow_101 (by decide) rfl ?_
        refine sn_iinc (L' := [some (aA a), some (aJ (lOr (lOr (lOr v4.1 (lShl (oI2l x30) (4 * v4.2))) v66) v100)), none, some (aI (v4.2 + 1)), none]) dX4_stateNow_102 rfl (by decide) rfl ?_
        refine sn_goto (tgt := 4) dX4_stateNow_105 (by decide) ?_
        exact hnx4 ((lOr (lOr (lOr v4.1 (lShl (oI2l x30) (4 * v4.2))) v66) v100), (v4.2 + 1)) μ100
      intro j100 hj100
      refine sn_if_eq (tgt := 99) dX4_stateNow_83 (by decide) ?_ ?_
      · refine sn_lconst (v := 0) dX4_stateNow_99 (by decide) ?_
        exact sn_mask (L' := [some (aA a), none, none, some (aI v4.2), none]) [true, false, false, true, false] rfl (hj100 0 μ66)
      · refine sn_lconst (v := 1) dX4_stateNow_86 (by decide) ?_
        refine sn_bipush dX4_stateNow_87 (by decide) ?_
        refine sn_iconst dX4_stateNow_89 ?_
        refine sn_iload_n dX4_stateNow_90 rfl ?_
        refine sn_imul dX4_stateNow_91 ?_
        refine sn_iadd dX4_stateNow_92 ?_
        refine sn_iconst dX4_stateNow_93 ?_
        refine sn_iadd dX4_stateNow_94 ?_
        refine sn_lshl dX4_stateNow_95 ?_
        refine sn_goto (tgt := 100) dX4_stateNow_96 (by decide) ?_
        exact sn_mask (L' := [some (aA a), none, none, some (aI v4.2), none]) [true, false, false, true, false] rfl (hj100 (lShl 1 ((12 + (2 * v4.2)) + 1)) μ66)
    intro j66 hj66
    refine sn_if_eq (tgt := 65) dX4_stateNow_51 (by decide) ?_ ?_
    · refine sn_lconst (v := 0) dX4_stateNow_65 (by decide) ?_
      exact sn_mask (L' := [some (aA a), none, none, some (aI v4.2), some (aI x17)]) [true, false, false, true, true] rfl (hj66 0 μ4)
    · refine sn_lconst (v := 1) dX4_stateNow_54 (by decide) ?_
      refine sn_bipush dX4_stateNow_55 (by decide) ?_
      refine sn_iconst dX4_stateNow_57 ?_
      refine sn_iload_n dX4_stateNow_58 rfl ?_
      refine sn_imul dX4_stateNow_59 ?_
      refine sn_iadd dX4_stateNow_60 ?_
      refine sn_lshl dX4_stateNow_61 ?_
      refine sn_goto (tgt := 66) dX4_stateNow_62 (by decide) ?_
      exact sn_mask (L' := [some (aA a), none, none, some (aI v4.2), some (aI x17)]) [true, false, false, true, true] rfl (hj66 (lShl 1 (12 + (2 * v4.2))) μ4)
theorem dX4_weightIn_0 : decode cX4_weightIn 0 = .ok (.lload_n 1, 1) := by decide +kernel
theorem dX4_weightIn_1 : decode cX4_weightIn 1 = .ok (.bipush 12, 2) := by decide +kernel
theorem dX4_weightIn_3 : decode cX4_weightIn 3 = .ok (.iconst 2, 1) := by decide +kernel
theorem dX4_weightIn_4 : decode cX4_weightIn 4 = .ok (.iload_n 3, 1) := by decide +kernel
theorem dX4_weightIn_5 : decode cX4_weightIn 5 = .ok (.imul, 1) := by decide +kernel
theorem dX4_weightIn_6 : decode cX4_weightIn 6 = .ok (.iadd, 1) := by decide +kernel
theorem dX4_weightIn_7 : decode cX4_weightIn 7 = .ok (.iload 4, 2) := by decide +kernel
theorem dX4_weightIn_9 : decode cX4_weightIn 9 = .ok (.iadd, 1) := by decide +kernel
theorem dX4_weightIn_10 : decode cX4_weightIn 10 = .ok (.lushr, 1) := by decide +kernel
theorem dX4_weightIn_11 : decode cX4_weightIn 11 = .ok (.lconst 1, 1) := by decide +kernel
theorem dX4_weightIn_12 : decode cX4_weightIn 12 = .ok (.land, 1) := by decide +kernel
theorem dX4_weightIn_13 : decode cX4_weightIn 13 = .ok (.lconst 1, 1) := by decide +kernel
theorem dX4_weightIn_14 : decode cX4_weightIn 14 = .ok (.lcmp, 1) := by decide +kernel
theorem dX4_weightIn_15 : decode cX4_weightIn 15 = .ok (.ifCond .ne 7, 3) := by decide +kernel
theorem dX4_weightIn_18 : decode cX4_weightIn 18 = .ok (.iconst 1, 1) := by decide +kernel
theorem dX4_weightIn_19 : decode cX4_weightIn 19 = .ok (.goto 4, 3) := by decide +kernel
theorem dX4_weightIn_22 : decode cX4_weightIn 22 = .ok (.iconst 0, 1) := by decide +kernel
theorem dX4_weightIn_23 : decode cX4_weightIn 23 = .ok (.istore 5, 2) := by decide +kernel
theorem dX4_weightIn_25 : decode cX4_weightIn 25 = .ok (.aload_n 0, 1) := by decide +kernel
theorem dX4_weightIn_26 : decode cX4_weightIn 26 = .ok (.getfield 40, 3) := by decide +kernel
theorem dX4_weightIn_29 : decode cX4_weightIn 29 = .ok (.iconst 2, 1) := by decide +kernel
theorem dX4_weightIn_30 : decode cX4_weightIn 30 = .ok (.aload_n 0, 1) := by decide +kernel
theorem dX4_weightIn_31 : decode cX4_weightIn 31 = .ok (.getfield 21, 3) := by decide +kernel
theorem dX4_weightIn_34 : decode cX4_weightIn 34 = .ok (.iload_n 3, 1) := by decide +kernel
theorem dX4_weightIn_35 : decode cX4_weightIn 35 = .ok (.iaload, 1) := by decide +kernel
theorem dX4_weightIn_36 : decode cX4_weightIn 36 = .ok (.imul, 1) := by decide +kernel
theorem dX4_weightIn_37 : decode cX4_weightIn 37 = .ok (.iload 4, 2) := by decide +kernel
theorem dX4_weightIn_39 : decode cX4_weightIn 39 = .ok (.iadd, 1) := by decide +kernel
theorem dX4_weightIn_40 : decode cX4_weightIn 40 = .ok (.invokevirtual 155, 3) := by decide +kernel
theorem dX4_weightIn_43 : decode cX4_weightIn 43 = .ok (.iload 5, 2) := by decide +kernel
theorem dX4_weightIn_45 : decode cX4_weightIn 45 = .ok (.ifCond .eq 13, 3) := by decide +kernel
theorem dX4_weightIn_48 : decode cX4_weightIn 48 = .ok (.aload_n 0, 1) := by decide +kernel
theorem dX4_weightIn_49 : decode cX4_weightIn 49 = .ok (.getfield 40, 3) := by decide +kernel
theorem dX4_weightIn_52 : decode cX4_weightIn 52 = .ok (.getfield 158, 3) := by decide +kernel
theorem dX4_weightIn_55 : decode cX4_weightIn 55 = .ok (.goto 4, 3) := by decide +kernel
theorem dX4_weightIn_58 : decode cX4_weightIn 58 = .ok (.iconst 0, 1) := by decide +kernel
theorem dX4_weightIn_59 : decode cX4_weightIn 59 = .ok (.iadd, 1) := by decide +kernel
theorem dX4_weightIn_60 : decode cX4_weightIn 60 = .ok (.ireturn, 1) := by decide +kernel
def mX4_weightIn (n : Nat) (a : Nat) (b1 : Int) (b2 : Int) (b3 : Int) (μ : Mem) : Option (Int × Mem) :=
  jn (fun (v23 : Int) (μ23 : Mem) =>
  (gA μ23 5 a 10).bind fun x26 =>
  (gA μ23 5 a 2).bind fun x31 =>
  (ldI μ23 0 x31 b2).bind fun x35 =>
  (inv μ23 2 x26 (mX1_emptyWeight n x26 ((2 * x35) + b3) μ23)).bind fun p40 =>
  if eq32 v23 0 then
    some ((p40.1 + 0), p40.2)
  else
  (gA p40.2 5 a 10).bind fun x49 =>
  (gI p40.2 2 x49 3).bind fun x52 =>
  some ((p40.1 + x52), p40.2)) (fun j23 =>
  if eq32 (oLcmp (lAnd (lUshr b1 ((12 + (2 * b2)) + b3)) 1) 1) 0 then
    j23 1 μ
  else
  j23 0 μ)
set_option maxRecDepth 100000 in
set_option maxHeartbeats 4000000 in
theorem cX4_weightIn_ok (n : Nat) (a : Nat) (b1 : Int) (b2 : Int) (b3 : Int) (μ : Mem) : Mc yX4_weightIn cX4_weightIn 6 (some .int) 1 21 eI [aA a, aJ b1, aI b2, aI b3] μ (mX4_weightIn n a b1 b2 b3 μ) := by
  refine mc_of (L0 := [some (aA a), some (aJ b1), none, some (aI b2), some (aI b3), none]) (k := 1) (by decide) rfl rfl (fun X Γ => ?_)
  unfold mX4_weightIn
  refine sn_lload_n dX4_weightIn_0 rfl ?_
  refine sn_bipush dX4_weightIn_1 (by decide) ?_
  refine sn_iconst dX4_weightIn_3 ?_
  refine sn_iload_n dX4_weightIn_4 rfl ?_
  refine sn_imul dX4_weightIn_5 ?_
  refine sn_iadd dX4_weightIn_6 ?_
  refine sn_iload dX4_weightIn_7 rfl ?_
  refine sn_iadd dX4_weightIn_9 ?_
  refine sn_lushr dX4_weightIn_10 ?_
  refine sn_lconst (v := 1) dX4_weightIn_11 (by decide) ?_
  refine sn_land dX4_weightIn_12 ?_
  refine sn_lconst (v := 1) dX4_weightIn_13 (by decide) ?_
  refine sn_lcmp dX4_weightIn_14 ?_
  refine sn_jn (pcj := 23) (La := fun v23 : Int => [some (aA a), none, none, some (aI b2), some (aI b3), none]) (Sa := fun v23 : Int => [aI v23]) ?_ ?_
  · intro v23 μ23
    refine sn_istore (L' := [some (aA a), none, none, some (aI b2), some (aI b3), some (aI v23)]) dX4_weightIn_23 (by decide) rfl ?_
    refine sn_aload_n dX4_weightIn_25 rfl ?_
    refine sn_getA (ci := 4) (j := 10) dX4_weightIn_26 fl_X4_40 (by decide) (fun x26 => ?_)
    refine sn_iconst dX4_weightIn_29 ?_
    refine sn_aload_n dX4_weightIn_30 rfl ?_
    refine sn_getA (ci := 4) (j := 2) dX4_weightIn_31 fl_X4_21 (by decide) (fun x31 => ?_)
    refine sn_iload_n dX4_weightIn_34 rfl ?_
    refine sn_iald dX4_weightIn_35 (fun x35 => ?_)
    refine sn_imul dX4_weightIn_36 ?_
    refine sn_iload dX4_weightIn_37 rfl ?_
    refine sn_iadd dX4_weightIn_39 ?_
    refine sn_callVI (vs := [aI ((2 * x35) + b3)]) (ci := 1) (cX1_emptyWeight_ok n x26 ((2 * x35) + b3) μ23) dX4_weightIn_40 cw_X4_155 rfl rfl rfl (by decide) (by decide) (Nat.le_of_ble_eq_true rfl) (fun p40 => ?_)
    refine sn_iload dX4_weightIn_43 rfl ?_
    refine sn_if_eq (tgt := 58) dX4_weightIn_45 (by decide) ?_ ?_
    · refine sn_iconst dX4_weightIn_58 ?_
      refine sn_iadd dX4_weightIn_59 ?_
      exact sn_iret dX4_weightIn_60
    · refine sn_aload_n dX4_weightIn_48 rfl ?_
      refine sn_getA (ci := 4) (j := 10) dX4_weightIn_49 fl_X4_40 (by decide) (fun x49 => ?_)
      refine sn_getI (ci := 1) (j := 3) dX4_weightIn_52 fl_X4_158 rfl (fun x52 => ?_)
      refine sn_goto (tgt := 59) dX4_weightIn_55 (by decide) ?_
      refine sn_iadd dX4_weightIn_59 ?_
      exact sn_iret dX4_weightIn_60
  intro j23 hj23
  refine sn_if_ne (tgt := 22) dX4_weightIn_15 (by decide) ?_ ?_
  · refine sn_iconst dX4_weightIn_22 ?_
    exact sn_mask (L' := [some (aA a), none, none, some (aI b2), some (aI b3), none]) [true, false, false, true, true, false] rfl (hj23 0 μ)
  · refine sn_iconst dX4_weightIn_18 ?_
    refine sn_goto (tgt := 23) dX4_weightIn_19 (by decide) ?_
    exact sn_mask (L' := [some (aA a), none, none, some (aI b2), some (aI b3), none]) [true, false, false, true, true, false] rfl (hj23 1 μ)
theorem dX4_firstLike_0 : decode cX4_firstLike 0 = .ok (.iload_n 2, 1) := by decide +kernel
theorem dX4_firstLike_1 : decode cX4_firstLike 1 = .ok (.istore_n 3, 1) := by decide +kernel
theorem dX4_firstLike_2 : decode cX4_firstLike 2 = .ok (.iload_n 2, 1) := by decide +kernel
theorem dX4_firstLike_3 : decode cX4_firstLike 3 = .ok (.iconst 1, 1) := by decide +kernel
theorem dX4_firstLike_4 : decode cX4_firstLike 4 = .ok (.isub, 1) := by decide +kernel
theorem dX4_firstLike_5 : decode cX4_firstLike 5 = .ok (.istore 4, 2) := by decide +kernel
theorem dX4_firstLike_7 : decode cX4_firstLike 7 = .ok (.iload 4, 2) := by decide +kernel
theorem dX4_firstLike_9 : decode cX4_firstLike 9 = .ok (.ifCond .lt 36, 3) := by decide +kernel
theorem dX4_firstLike_12 : decode cX4_firstLike 12 = .ok (.aload_n 0, 1) := by decide +kernel
theorem dX4_firstLike_13 : decode cX4_firstLike 13 = .ok (.getfield 31, 3) := by decide +kernel
theorem dX4_firstLike_16 : decode cX4_firstLike 16 = .ok (.iconst 4, 1) := by decide +kernel
theorem dX4_firstLike_17 : decode cX4_firstLike 17 = .ok (.iload_n 1, 1) := by decide +kernel
theorem dX4_firstLike_18 : decode cX4_firstLike 18 = .ok (.imul, 1) := by decide +kernel
theorem dX4_firstLike_19 : decode cX4_firstLike 19 = .ok (.iload 4, 2) := by decide +kernel
theorem dX4_firstLike_21 : decode cX4_firstLike 21 = .ok (.iadd, 1) := by decide +kernel
theorem dX4_firstLike_22 : decode cX4_firstLike 22 = .ok (.iaload, 1) := by decide +kernel
theorem dX4_firstLike_23 : decode cX4_firstLike 23 = .ok (.aload_n 0, 1) := by decide +kernel
theorem dX4_firstLike_24 : decode cX4_firstLike 24 = .ok (.getfield 31, 3) := by decide +kernel
theorem dX4_firstLike_27 : decode cX4_firstLike 27 = .ok (.iconst 4, 1) := by decide +kernel
theorem dX4_firstLike_28 : decode cX4_firstLike 28 = .ok (.iload_n 1, 1) := by decide +kernel
theorem dX4_firstLike_29 : decode cX4_firstLike 29 = .ok (.imul, 1) := by decide +kernel
theorem dX4_firstLike_30 : decode cX4_firstLike 30 = .ok (.iload_n 2, 1) := by decide +kernel
theorem dX4_firstLike_31 : decode cX4_firstLike 31 = .ok (.iadd, 1) := by decide +kernel
theorem dX4_firstLike_32 : decode cX4_firstLike 32 = .ok (.iaload, 1) := by decide +kernel
theorem dX4_firstLike_33 : decode cX4_firstLike 33 = .ok (.if_icmp .ne 6, 3) := by decide +kernel
theorem dX4_firstLike_36 : decode cX4_firstLike 36 = .ok (.iload 4, 2) := by decide +kernel
theorem dX4_firstLike_38 : decode cX4_firstLike 38 = .ok (.istore_n 3, 1) := by decide +kernel
theorem dX4_firstLike_39 : decode cX4_firstLike 39 = .ok (.iinc 4 (-1), 3) := by decide +kernel
theorem dX4_firstLike_42 : decode cX4_firstLike 42 = .ok (.goto (-35), 3) := by decide +kernel
theorem dX4_firstLike_45 : decode cX4_firstLike 45 = .ok (.iload_n 3, 1) := by decide +kernel
theorem dX4_firstLike_46 : decode cX4_firstLike 46 = .ok (.ireturn, 1) := by decide +kernel
def mX4_firstLike (n : Nat) (a : Nat) (b1 : Int) (b2 : Int) (μ : Mem) : Option (Int × Mem) :=
  lp (fun nx7 (v7 : Int × Int) (μ7 : Mem) =>
  if lt32 v7.2 0 then
    some (v7.1, μ7)
  else
  (gA μ7 5 a 7).bind fun x13 =>
  (ldI μ7 0 x13 ((4 * b1) + v7.2)).bind fun x22 =>
  (gA μ7 5 a 7).bind fun x24 =>
  (ldI μ7 0 x24 ((4 * b1) + b2)).bind fun x32 =>
  if eq32 x22 x32 then
    nx7 (v7.2, (v7.2 + (-1))) μ7
  else
  nx7 (v7.1, (v7.2 + (-1))) μ7) n (b2, (b2 - 1)) μ
set_option maxRecDepth 100000 in
set_option maxHeartbeats 4000000 in
theorem cX4_firstLike_ok (n : Nat) (a : Nat) (b1 : Int) (b2 : Int) (μ : Mem) : Mc yX4_firstLike cX4_firstLike 5 (some .int) 0 0 eI [aA a, aI b1, aI b2] μ (mX4_firstLike n a b1 b2 μ) := by
  refine mc_of (L0 := [some (aA a), some (aI b1), some (aI b2), none, none]) (k := 2) (by decide) rfl rfl (fun X Γ => ?_)
  unfold mX4_firstLike
  refine sn_iload_n dX4_firstLike_0 rfl ?_
  refine sn_istore_n (L' := [some (aA a), some (aI b1), some (aI b2), some (aI b2), none]) dX4_firstLike_1 (by decide) rfl ?_
  refine sn_iload_n dX4_firstLike_2 rfl ?_
  refine sn_iconst dX4_firstLike_3 ?_
  refine sn_isub dX4_firstLike_4 ?_
  refine sn_istore (L' := [some (aA a), some (aI b1), some (aI b2), some (aI b2), some (aI (b2 - 1))]) dX4_firstLike_5 (by decide) rfl ?_
  refine sn_lp (La := fun v7 : Int × Int => [some (aA a), some (aI b1), some (aI b2), some (aI v7.1), some (aI v7.2)]) ?_ n (b2, (b2 - 1)) μ
  intro nx7 hnx7 v7 μ7
  refine sn_iload dX4_firstLike_7 rfl ?_
  refine sn_if_lt (tgt := 45) dX4_firstLike_9 (by decide) ?_ ?_
  · refine sn_iload_n dX4_firstLike_45 rfl ?_
    exact sn_iret dX4_firstLike_46
  · refine sn_aload_n dX4_firstLike_12 rfl ?_
    refine sn_getA (ci := 4) (j := 7) dX4_firstLike_13 fl_X4_31 (by decide) (fun x13 => ?_)
    refine sn_iconst dX4_firstLike_16 ?_
    refine sn_iload_n dX4_firstLike_17 rfl ?_
    refine sn_imul dX4_firstLike_18 ?_
    refine sn_iload dX4_firstLike_19 rfl ?_
    refine sn_iadd dX4_firstLike_21 ?_
    refine sn_iald dX4_firstLike_22 (fun x22 => ?_)
    refine sn_aload_n dX4_firstLike_23 rfl ?_
    refine sn_getA (ci := 4) (j := 7) dX4_firstLike_24 fl_X4_31 (by decide) (fun x24 => ?_)
    refine sn_iconst dX4_firstLike_27 ?_
    refine sn_iload_n dX4_firstLike_28 rfl ?_
    refine sn_imul dX4_firstLike_29 ?_
    refine sn_iload_n dX4_firstLike_30 rfl ?_
    refine sn_iadd dX4_firstLike_31 ?_
    refine sn_iald dX4_firstLike_32 (fun x32 => ?_)
    refine sn_icmp_ne (tgt := 39) dX4_firstLike_33 (by decide) ?_ ?_
    · refine sn_iinc (L' := [some (aA a), some (aI b1), some (aI b2), some (aI v7.1), some (aI (v7.2 + (-1)))]) dX4_firstLike_39 rfl (by decide) rfl ?_
      refine sn_goto (tgt := 7) dX4_firstLike_42 (by decide) ?_
      exact hnx7 (v7.1, (v7.2 + (-1))) μ7
    · refine sn_iload dX4_firstLike_36 rfl ?_
      refine sn_istore_n (L' := [some (aA a), some (aI b1), some (aI b2), some (aI v7.2), some (aI v7.2)]) dX4_firstLike_38 (by decide) rfl ?_
      refine sn_iinc (L' := [some (aA a), some (aI b1), some (aI b2), some (aI v7.2), some (aI (v7.2 + (-1)))]) dX4_firstLike_39 rfl (by decide) rfl ?_
      refine sn_goto (tgt := 7) dX4_firstLike_42 (by decide) ?_
      exact hnx7 (v7.2, (v7.2 + (-1))) μ7
theorem dX4_lookAhead_0 : decode cX4_lookAhead 0 = .ok (.iconst 0, 1) := by decide +kernel
theorem dX4_lookAhead_1 : decode cX4_lookAhead 1 = .ok (.istore_n 3, 1) := by decide +kernel
theorem dX4_lookAhead_2 : decode cX4_lookAhead 2 = .ok (.iload_n 3, 1) := by decide +kernel
theorem dX4_lookAhead_3 : decode cX4_lookAhead 3 = .ok (.aload_n 0, 1) := by decide +kernel
theorem dX4_lookAhead_4 : decode cX4_lookAhead 4 = .ok (.getfield 87, 3) := by decide +kernel
theorem dX4_lookAhead_7 : decode cX4_lookAhead 7 = .ok (.if_icmp .ge 140, 3) := by decide +kernel
theorem dX4_lookAhead_10 : decode cX4_lookAhead 10 = .ok (.aload_n 0, 1) := by decide +kernel
theorem dX4_lookAhead_11 : decode cX4_lookAhead 11 = .ok (.getfield 21, 3) := by decide +kernel
theorem dX4_lookAhead_14 : decode cX4_lookAhead 14 = .ok (.iload_n 3, 1) := by decide +kernel
theorem dX4_lookAhead_15 : decode cX4_lookAhead 15 = .ok (.iaload, 1) := by decide +kernel
theorem dX4_lookAhead_16 : decode cX4_lookAhead 16 = .ok (.istore 4, 2) := by decide +kernel
theorem dX4_lookAhead_18 : decode cX4_lookAhead 18 = .ok (.lload_n 1, 1) := by decide +kernel
theorem dX4_lookAhead_19 : decode cX4_lookAhead 19 = .ok (.iconst 4, 1) := by decide +kernel
theorem dX4_lookAhead_20 : decode cX4_lookAhead 20 = .ok (.iload_n 3, 1) := by decide +kernel
theorem dX4_lookAhead_21 : decode cX4_lookAhead 21 = .ok (.imul, 1) := by decide +kernel
theorem dX4_lookAhead_22 : decode cX4_lookAhead 22 = .ok (.lushr, 1) := by decide +kernel
theorem dX4_lookAhead_23 : decode cX4_lookAhead 23 = .ok (.l2i, 1) := by decide +kernel
theorem dX4_lookAhead_24 : decode cX4_lookAhead 24 = .ok (.bipush 15, 2) := by decide +kernel
theorem dX4_lookAhead_26 : decode cX4_lookAhead 26 = .ok (.iand, 1) := by decide +kernel
theorem dX4_lookAhead_27 : decode cX4_lookAhead 27 = .ok (.istore 5, 2) := by decide +kernel
theorem dX4_lookAhead_29 : decode cX4_lookAhead 29 = .ok (.aload_n 0, 1) := by decide +kernel
theorem dX4_lookAhead_30 : decode cX4_lookAhead 30 = .ok (.lload_n 1, 1) := by decide +kernel
theorem dX4_lookAhead_31 : decode cX4_lookAhead 31 = .ok (.iload_n 3, 1) := by decide +kernel
theorem dX4_lookAhead_32 : decode cX4_lookAhead 32 = .ok (.iconst 0, 1) := by decide +kernel
theorem dX4_lookAhead_33 : decode cX4_lookAhead 33 = .ok (.invokevirtual 139, 3) := by decide +kernel
theorem dX4_lookAhead_36 : decode cX4_lookAhead 36 = .ok (.aload_n 0, 1) := by decide +kernel
theorem dX4_lookAhead_37 : decode cX4_lookAhead 37 = .ok (.lload_n 1, 1) := by decide +kernel
theorem dX4_lookAhead_38 : decode cX4_lookAhead 38 = .ok (.iload_n 3, 1) := by decide +kernel
theorem dX4_lookAhead_39 : decode cX4_lookAhead 39 = .ok (.iconst 1, 1) := by decide +kernel
theorem dX4_lookAhead_40 : decode cX4_lookAhead 40 = .ok (.invokevirtual 139, 3) := by decide +kernel
theorem dX4_lookAhead_43 : decode cX4_lookAhead 43 = .ok (.isub, 1) := by decide +kernel
theorem dX4_lookAhead_44 : decode cX4_lookAhead 44 = .ok (.istore 6, 2) := by decide +kernel
theorem dX4_lookAhead_46 : decode cX4_lookAhead 46 = .ok (.iconst 0, 1) := by decide +kernel
theorem dX4_lookAhead_47 : decode cX4_lookAhead 47 = .ok (.istore 7, 2) := by decide +kernel
theorem dX4_lookAhead_49 : decode cX4_lookAhead 49 = .ok (.iload 7, 2) := by decide +kernel
theorem dX4_lookAhead_51 : decode cX4_lookAhead 51 = .ok (.iconst 4, 1) := by decide +kernel
theorem dX4_lookAhead_52 : decode cX4_lookAhead 52 = .ok (.if_icmp .ge 89, 3) := by decide +kernel
theorem dX4_lookAhead_55 : decode cX4_lookAhead 55 = .ok (.aload_n 0, 1) := by decide +kernel
theorem dX4_lookAhead_56 : decode cX4_lookAhead 56 = .ok (.getfield 40, 3) := by decide +kernel
theorem dX4_lookAhead_59 : decode cX4_lookAhead 59 = .ok (.iload 4, 2) := by decide +kernel
theorem dX4_lookAhead_61 : decode cX4_lookAhead 61 = .ok (.iload 7, 2) := by decide +kernel
theorem dX4_lookAhead_63 : decode cX4_lookAhead 63 = .ok (.iconst 1, 1) := by decide +kernel
theorem dX4_lookAhead_64 : decode cX4_lookAhead 64 = .ok (.iand, 1) := by decide +kernel
theorem dX4_lookAhead_65 : decode cX4_lookAhead 65 = .ok (.ifCond .eq 7, 3) := by decide +kernel
theorem dX4_lookAhead_68 : decode cX4_lookAhead 68 = .ok (.iconst 1, 1) := by decide +kernel
theorem dX4_lookAhead_69 : decode cX4_lookAhead 69 = .ok (.goto 4, 3) := by decide +kernel
theorem dX4_lookAhead_72 : decode cX4_lookAhead 72 = .ok (.iconst 0, 1) := by decide +kernel
theorem dX4_lookAhead_73 : decode cX4_lookAhead 73 = .ok (.iload 7, 2) := by decide +kernel
theorem dX4_lookAhead_75 : decode cX4_lookAhead 75 = .ok (.iconst 2, 1) := by decide +kernel
theorem dX4_lookAhead_76 : decode cX4_lookAhead 76 = .ok (.iand, 1) := by decide +kernel
theorem dX4_lookAhead_77 : decode cX4_lookAhead 77 = .ok (.ifCond .eq 7, 3) := by decide +kernel
theorem dX4_lookAhead_80 : decode cX4_lookAhead 80 = .ok (.iconst 1, 1) := by decide +kernel
theorem dX4_lookAhead_81 : decode cX4_lookAhead 81 = .ok (.goto 4, 3) := by decide +kernel
theorem dX4_lookAhead_84 : decode cX4_lookAhead 84 = .ok (.iconst 0, 1) := by decide +kernel
theorem dX4_lookAhead_85 : decode cX4_lookAhead 85 = .ok (.invokevirtual 143, 3) := by decide +kernel
theorem dX4_lookAhead_88 : decode cX4_lookAhead 88 = .ok (.istore 8, 2) := by decide +kernel
theorem dX4_lookAhead_90 : decode cX4_lookAhead 90 = .ok (.aload_n 0, 1) := by decide +kernel
theorem dX4_lookAhead_91 : decode cX4_lookAhead 91 = .ok (.getfield 31, 3) := by decide +kernel
theorem dX4_lookAhead_94 : decode cX4_lookAhead 94 = .ok (.iconst 4, 1) := by decide +kernel
theorem dX4_lookAhead_95 : decode cX4_lookAhead 95 = .ok (.iload_n 3, 1) := by decide +kernel
theorem dX4_lookAhead_96 : decode cX4_lookAhead 96 = .ok (.imul, 1) := by decide +kernel
theorem dX4_lookAhead_97 : decode cX4_lookAhead 97 = .ok (.iload 7, 2) := by decide +kernel
theorem dX4_lookAhead_99 : decode cX4_lookAhead 99 = .ok (.iadd, 1) := by decide +kernel
theorem dX4_lookAhead_100 : decode cX4_lookAhead 100 = .ok (.aload_n 0, 1) := by decide +kernel
theorem dX4_lookAhead_101 : decode cX4_lookAhead 101 = .ok (.getfield 40, 3) := by decide +kernel
theorem dX4_lookAhead_104 : decode cX4_lookAhead 104 = .ok (.iload 4, 2) := by decide +kernel
theorem dX4_lookAhead_106 : decode cX4_lookAhead 106 = .ok (.iload 5, 2) := by decide +kernel
theorem dX4_lookAhead_108 : decode cX4_lookAhead 108 = .ok (.iload 6, 2) := by decide +kernel
theorem dX4_lookAhead_110 : decode cX4_lookAhead 110 = .ok (.iload 8, 2) := by decide +kernel
theorem dX4_lookAhead_112 : decode cX4_lookAhead 112 = .ok (.iadd, 1) := by decide +kernel
theorem dX4_lookAhead_113 : decode cX4_lookAhead 113 = .ok (.invokevirtual 147, 3) := by decide +kernel
theorem dX4_lookAhead_116 : decode cX4_lookAhead 116 = .ok (.iastore, 1) := by decide +kernel
theorem dX4_lookAhead_117 : decode cX4_lookAhead 117 = .ok (.aload_n 0, 1) := by decide +kernel
theorem dX4_lookAhead_118 : decode cX4_lookAhead 118 = .ok (.getfield 34, 3) := by decide +kernel
theorem dX4_lookAhead_121 : decode cX4_lookAhead 121 = .ok (.iconst 4, 1) := by decide +kernel
theorem dX4_lookAhead_122 : decode cX4_lookAhead 122 = .ok (.iload_n 3, 1) := by decide +kernel
theorem dX4_lookAhead_123 : decode cX4_lookAhead 123 = .ok (.imul, 1) := by decide +kernel
theorem dX4_lookAhead_124 : decode cX4_lookAhead 124 = .ok (.iload 7, 2) := by decide +kernel
theorem dX4_lookAhead_126 : decode cX4_lookAhead 126 = .ok (.iadd, 1) := by decide +kernel
theorem dX4_lookAhead_127 : decode cX4_lookAhead 127 = .ok (.aload_n 0, 1) := by decide +kernel
theorem dX4_lookAhead_128 : decode cX4_lookAhead 128 = .ok (.iload_n 3, 1) := by decide +kernel
theorem dX4_lookAhead_129 : decode cX4_lookAhead 129 = .ok (.iload 7, 2) := by decide +kernel
theorem dX4_lookAhead_131 : decode cX4_lookAhead 131 = .ok (.invokevirtual 151, 3) := by decide +kernel
theorem dX4_lookAhead_134 : decode cX4_lookAhead 134 = .ok (.iastore, 1) := by decide +kernel
theorem dX4_lookAhead_135 : decode cX4_lookAhead 135 = .ok (.iinc 7 1, 3) := by decide +kernel
theorem dX4_lookAhead_138 : decode cX4_lookAhead 138 = .ok (.goto (-89), 3) := by decide +kernel
theorem dX4_lookAhead_141 : decode cX4_lookAhead 141 = .ok (.iinc 3 1, 3) := by decide +kernel
theorem dX4_lookAhead_144 : decode cX4_lookAhead 144 = .ok (.goto (-142), 3) := by decide +kernel
theorem dX4_lookAhead_147 : decode cX4_lookAhead 147 = .ok (.return_, 1) := by decide +kernel
def mX4_lookAhead (n : Nat) (a : Nat) (b1 : Int) (μ : Mem) : Option (Unit × Mem) :=
  lp (fun nx2 (v2 : Int) (μ2 : Mem) =>
  (gI μ2 5 a 3).bind fun x4 =>
  if lt32 v2 x4 then
    (gA μ2 5 a 2).bind fun x11 =>
    (ldI μ2 0 x11 v2).bind fun x15 =>
    (inv μ2 5 a (mX4_weightIn n a b1 v2 0 μ2)).bind fun p33 =>
    (inv p33.2 5 a (mX4_weightIn n a b1 v2 1 p33.2)).bind fun p40 =>
    lp (fun nx49 (v49 : Int) (μ49 : Mem) =>
    if lt32 v49 4 then
      (gA μ49 5 a 10).bind fun x56 =>
      jn (fun (v73 : Int) (μ73 : Mem) =>
      jn (fun (v85 : Int) (μ85 : Mem) =>
      (inv μ85 2 x56 (mX1_pullLean n x56 x15 v73 v85 μ85)).bind fun p85 =>
      (gA p85.2 5 a 7).bind fun x91 =>
      (gA p85.2 5 a 10).bind fun x101 =>
      (inv p85.2 2 x101 (mX1_depthFrom n x101 x15 (oAnd (lUshr b1 (4 * v2)) 15) ((p33.1 - p40.1) + p85.1) p85.2)).bind fun p113 =>
      (stI p113.2 0 x91 ((4 * v2) + v49) p113.1).bind fun μ116 =>
      (gA μ116 5 a 8).bind fun x118 =>
      (inv μ116 5 a (mX4_firstLike n a v2 v49 μ116)).bind fun p131 =>
      (stI p131.2 0 x118 ((4 * v2) + v49) p131.1).bind fun μ134 =>
      nx49 (v49 + 1) μ134) (fun j85 =>
      if eq32 (oAnd v49 2) 0 then
        j85 0 μ73
      else
      j85 1 μ73)) (fun j73 =>
      if eq32 (oAnd v49 1) 0 then
        j73 0 μ49
      else
      j73 1 μ49)
    else
    nx2 (v2 + 1) μ49) n 0 p40.2
  else
  some ((), μ2)) n 0 μ
set_option maxRecDepth 100000 in
set_option maxHeartbeats 4000000 in
theorem cX4_lookAhead_ok (n : Nat) (a : Nat) (b1 : Int) (μ : Mem) : Mc yX4_lookAhead cX4_lookAhead 9 none 2 64 eV [aA a, aJ b1] μ (mX4_lookAhead n a b1 μ) := by
  refine mc_of (L0 := [some (aA a), some (aJ b1), none, none, none, none, none, none, none]) (k := 6) (by decide) rfl rfl (fun X Γ => ?_)
  unfold mX4_lookAhead
  refine sn_iconst dX4_lookAhead_0 ?_
  refine sn_istore_n (L' := [some (aA a), some (aJ b1), none, some (aI 0), none, none, none, none, none]) dX4_lookAhead_1 (by decide) rfl ?_
  refine sn_lp (La := fun v2 : Int => [some (aA a), some (aJ b1), none, some (aI v2), none, none, none, none, none]) ?_ n 0 μ
  intro nx2 hnx2 v2 μ2
  refine sn_iload_n dX4_lookAhead_2 rfl ?_
  refine sn_aload_n dX4_lookAhead_3 rfl ?_
  refine sn_getI (ci := 4) (j := 3) dX4_lookAhead_4 fl_X4_87 rfl (fun x4 => ?_)
  refine sn_icmp_ge (tgt := 147) dX4_lookAhead_7 (by decide) ?_ ?_
  · exact sn_vret dX4_lookAhead_147
  · refine sn_aload_n dX4_lookAhead_10 rfl ?_
    refine sn_getA (ci := 4) (j := 2) dX4_lookAhead_11 fl_X4_21 (by decide) (fun x11 => ?_)
    refine sn_iload_n dX4_lookAhead_14 rfl ?_
    refine sn_iald dX4_lookAhead_15 (fun x15 => ?_)
    refine sn_istore (L' := [some (aA a), some (aJ b1), none, some (aI v2), some (aI x15), none, none, none, none]) dX4_lookAhead_16 (by decide) rfl ?_
    refine sn_lload_n dX4_lookAhead_18 rfl ?_
    refine sn_iconst dX4_lookAhead_19 ?_
    refine sn_iload_n dX4_lookAhead_20 rfl ?_
    refine sn_imul dX4_lookAhead_21 ?_
    refine sn_lushr dX4_lookAhead_22 ?_
    refine sn_l2i dX4_lookAhead_23 ?_
    refine sn_bipush dX4_lookAhead_24 (by decide) ?_
    refine sn_iand dX4_lookAhead_26 ?_
    refine sn_istore (L' := [some (aA a), some (aJ b1), none, some (aI v2), some (aI x15), some (aI (oAnd (lUshr b1 (4 * v2)) 15)), none, none, none]) dX4_lookAhead_27 (by decide) rfl ?_
    refine sn_aload_n dX4_lookAhead_29 rfl ?_
    refine sn_lload_n dX4_lookAhead_30 rfl ?_
    refine sn_iload_n dX4_lookAhead_31 rfl ?_
    refine sn_iconst dX4_lookAhead_32 ?_
    refine sn_callVI (vs := [aJ b1, aI v2, aI 0]) (ci := 4) (cX4_weightIn_ok n a b1 v2 0 μ2) dX4_lookAhead_33 cw_X4_139 rfl rfl rfl (by decide) (by decide) (Nat.le_of_ble_eq_true rfl) (fun p33 => ?_)
    refine sn_aload_n dX4_lookAhead_36 rfl ?_
    refine sn_lload_n dX4_lookAhead_37 rfl ?_
    refine sn_iload_n dX4_lookAhead_38 rfl ?_
    refine sn_iconst dX4_lookAhead_39 ?_
    refine sn_callVI (vs := [aJ b1, aI v2, aI 1]) (ci := 4) (cX4_weightIn_ok n a b1 v2 1 p33.2) dX4_lookAhead_40 cw_X4_139 rfl rfl rfl (by decide) (by decide) (Nat.le_of_ble_eq_true rfl) (fun p40 => ?_)
    refine sn_isub dX4_lookAhead_43 ?_
    refine sn_istore (L' := [some (aA a), some (aJ b1), none, some (aI v2), some (aI x15), some (aI (oAnd (lUshr b1 (4 * v2)) 15)), some (aI (p33.1 - p40.1)), none, none]) dX4_lookAhead_44 (by decide) rfl ?_
    refine sn_iconst dX4_lookAhead_46 ?_
    refine sn_istore (L' := [some (aA a), some (aJ b1), none, some (aI v2), some (aI x15), some (aI (oAnd (lUshr b1 (4 * v2)) 15)), some (aI (p33.1 - p40.1)), some (aI 0), none]) dX4_lookAhead_47 (by decide) rfl ?_
    refine sn_lp (La := fun v49 : Int => [some (aA a), some (aJ b1), none, some (aI v2), some (aI x15), some (aI (oAnd (lUshr b1 (4 * v2)) 15)), some (aI (p33.1 - p40.1)), some (aI v49), none]) ?_ n 0 p40.2
    intro nx49 hnx49 v49 μ49
    refine sn_iload dX4_lookAhead_49 rfl ?_
    refine sn_iconst dX4_lookAhead_51 ?_
    refine sn_icmp_ge (tgt := 141) dX4_lookAhead_52 (by decide) ?_ ?_
    · refine sn_iinc (L' := [some (aA a), some (aJ b1), none, some (aI (v2 + 1)), some (aI x15), some (aI (oAnd (lUshr b1 (4 * v2)) 15)), some (aI (p33.1 - p40.1)), some (aI v49), none]) dX4_lookAhead_141 rfl (by decide) rfl ?_
      refine sn_goto (tgt := 2) dX4_lookAhead_144 (by decide) ?_
      exact sn_mask (L' := [some (aA a), some (aJ b1), none, some (aI (v2 + 1)), none, none, none, none, none]) [true, true, false, true, false, false, false, false, false] rfl (hnx2 (v2 + 1) μ49)
    · refine sn_aload_n dX4_lookAhead_55 rfl ?_
      refine sn_getA (ci := 4) (j := 10) dX4_lookAhead_56 fl_X4_40 (by decide) (fun x56 => ?_)
      refine sn_iload dX4_lookAhead_59 rfl ?_
      refine sn_iload dX4_lookAhead_61 rfl ?_
      refine sn_iconst dX4_lookAhead_63 ?_
      refine sn_iand dX4_lookAhead_64 ?_
      refine sn_jn (pcj := 73) (La := fun v73 : Int => [some (aA a), some (aJ b1), none, some (aI v2), some (aI x15), some (aI (oAnd (lUshr b1 (4 * v2)) 15)), some (aI (p33.1 - p40.1)), some (aI v49), none]) (Sa := fun v73 : Int => [aI v73, aI x15, aA x56]) ?_ ?_
      · intro v73 μ73
        refine sn_iload dX4_lookAhead_73 rfl ?_
        refine sn_iconst dX4_lookAhead_75 ?_
        refine sn_iand dX4_lookAhead_76 ?_
        refine sn_jn (pcj := 85) (La := fun v85 : Int => [some (aA a), some (aJ b1), none, some (aI v2), some (aI x15), some (aI (oAnd (lUshr b1 (4 * v2)) 15)), some (aI (p33.1 - p40.1)), some (aI v49), none]) (Sa := fun v85 : Int => [aI v85, aI v73, aI x15, aA x56]) ?_ ?_
        · intro v85 μ85
          refine sn_callVI (vs := [aI x15, aI v73, aI v85]) (ci := 1) (cX1_pullLean_ok n x56 x15 v73 v85 μ85) dX4_lookAhead_85 cw_X4_143 rfl rfl rfl (by decide) (by decide) (Nat.le_of_ble_eq_true rfl) (fun p85 => ?_)
          refine sn_istore (L' := [some (aA a), some (aJ b1), none, some (aI v2), some (aI x15), some (aI (oAnd (lUshr b1 (4 * v2)) 15)), some (aI (p33.1 - p40.1)), some (aI v49), some (aI p85.1)]) dX4_lookAhead_88 (by decide) rfl ?_
          refine sn_aload_n dX4_lookAhead_90 rfl ?_
          refine sn_getA (ci := 4) (j := 7) dX4_lookAhead_91 fl_X4_31 (by decide) (fun x91 => ?_)
          refine sn_iconst dX4_lookAhead_94 ?_
          refine sn_iload_n dX4_lookAhead_95 rfl ?_
          refine sn_imul dX4_lookAhead_96 ?_
          refine sn_iload dX4_lookAhead_97 rfl ?_
          refine sn_iadd dX4_lookAhead_99 ?_
          refine sn_aload_n dX4_lookAhead_100 rfl ?_
          refine sn_getA (ci := 4) (j := 10) dX4_lookAhead_101 fl_X4_40 (by decide) (fun x101 => ?_)
          refine sn_iload dX4_lookAhead_104 rfl ?_
          refine sn_iload dX4_lookAhead_106 rfl ?_
          refine sn_iload dX4_lookAhead_108 rfl ?_
          refine sn_iload dX4_lookAhead_110 rfl ?_
          refine sn_iadd dX4_lookAhead_112 ?_
          refine sn_callVI (vs := [aI x15, aI (oAnd (lUshr b1 (4 * v2)) 15), aI ((p33.1 - p40.1) + p85.1)]) (ci := 1) (cX1_depthFrom_ok n x101 x15 (oAnd (lUshr b1 (4 * v2)) 15) ((p33.1 - p40.1) + p85.1) p85.2) dX4_lookAhead_113 cw_X4_147 rfl rfl rfl (by decide) (by decide) (Nat.le_of_ble_eq_true rfl) (fun p113 => ?_)
          refine sn_iast dX4_lookAhead_116 (fun μ116 => ?_)
          refine sn_aload_n dX4_lookAhead_117 rfl ?_
          refine sn_getA (ci := 4) (j := 8) dX4_lookAhead_118 fl_X4_34 (by decide) (fun x118 => ?_)
          refine sn_iconst dX4_lookAhead_121 ?_
          refine sn_iload_n dX4_lookAhead_122 rfl ?_
          refine sn_imul dX4_lookAhead_123 ?_
          refine sn_iload dX4_lookAhead_124 rfl ?_
          refine sn_iadd dX4_lookAhead_126 ?_
          refine sn_aload_n dX4_lookAhead_127 rfl ?_
          refine sn_iload_n dX4_lookAhead_128 rfl ?_
          refine sn_iload dX4_lookAhead_129 rfl ?_
          refine sn_callVI (vs := [aI v2, aI v49]) (ci := 4) (cX4_firstLike_ok n a v2 v49 μ116) dX4_lookAhead_131 cw_X4_151 rfl rfl rfl (by decide) (by decide) (Nat.le_of_ble_eq_true rfl) (fun p131 => ?_)
          refine sn_iast dX4_lookAhead_134 (fun μ134 => ?_)
          refine sn_iinc (L' := [some (aA a), some (aJ b1), none, some (aI v2), some (aI x15), some (aI (oAnd (lUshr b1 (4 * v2)) 15)), some (aI (p33.1 - p40.1)), some (aI (v49 + 1)), some (aI p85.1)]) dX4_lookAhead_135 rfl (by decide) rfl ?_
          refine sn_goto (tgt := 49) dX4_lookAhead_138 (by decide) ?_
          exact sn_mask (L' := [some (aA a), some (aJ b1), none, some (aI v2), some (aI x15), some (aI (oAnd (lUshr b1 (4 * v2)) 15)), some (aI (p33.1 - p40.1)), some (aI (v49 + 1)), none]) [true, true, false, true, true, true, true, true, false] rfl (hnx49 (v49 + 1) μ134)
        intro j85 hj85
        refine sn_if_eq (tgt := 84) dX4_lookAhead_77 (by decide) ?_ ?_
        · refine sn_iconst dX4_lookAhead_84 ?_
          exact hj85 0 μ73
        · refine sn_iconst dX4_lookAhead_80 ?_
          refine sn_goto (tgt := 85) dX4_lookAhead_81 (by decide) ?_
          exact hj85 1 μ73
      intro j73 hj73
      refine sn_if_eq (tgt := 72) dX4_lookAhead_65 (by decide) ?_ ?_
      · refine sn_iconst dX4_lookAhead_72 ?_
        exact hj73 0 μ49
      · refine sn_iconst dX4_lookAhead_68 ?_
        refine sn_goto (tgt := 73) dX4_lookAhead_69 (by decide) ?_
        exact hj73 1 μ49
theorem dX4_likeChoice_0 : decode cX4_likeChoice 0 = .ok (.iconst 0, 1) := by decide +kernel
theorem dX4_likeChoice_1 : decode cX4_likeChoice 1 = .ok (.istore_n 2, 1) := by decide +kernel
theorem dX4_likeChoice_2 : decode cX4_likeChoice 2 = .ok (.iconst 0, 1) := by decide +kernel
theorem dX4_likeChoice_3 : decode cX4_likeChoice 3 = .ok (.istore_n 3, 1) := by decide +kernel
theorem dX4_likeChoice_4 : decode cX4_likeChoice 4 = .ok (.iload_n 3, 1) := by decide +kernel
theorem dX4_likeChoice_5 : decode cX4_likeChoice 5 = .ok (.aload_n 0, 1) := by decide +kernel
theorem dX4_likeChoice_6 : decode cX4_likeChoice 6 = .ok (.getfield 87, 3) := by decide +kernel
theorem dX4_likeChoice_9 : decode cX4_likeChoice 9 = .ok (.if_icmp .ge 32, 3) := by decide +kernel
theorem dX4_likeChoice_12 : decode cX4_likeChoice 12 = .ok (.iload_n 2, 1) := by decide +kernel
theorem dX4_likeChoice_13 : decode cX4_likeChoice 13 = .ok (.aload_n 0, 1) := by decide +kernel
theorem dX4_likeChoice_14 : decode cX4_likeChoice 14 = .ok (.getfield 34, 3) := by decide +kernel
theorem dX4_likeChoice_17 : decode cX4_likeChoice 17 = .ok (.iconst 4, 1) := by decide +kernel
theorem dX4_likeChoice_18 : decode cX4_likeChoice 18 = .ok (.iload_n 3, 1) := by decide +kernel
theorem dX4_likeChoice_19 : decode cX4_likeChoice 19 = .ok (.imul, 1) := by decide +kernel
theorem dX4_likeChoice_20 : decode cX4_likeChoice 20 = .ok (.iload_n 1, 1) := by decide +kernel
theorem dX4_likeChoice_21 : decode cX4_likeChoice 21 = .ok (.iconst 2, 1) := by decide +kernel
theorem dX4_likeChoice_22 : decode cX4_likeChoice 22 = .ok (.iload_n 3, 1) := by decide +kernel
theorem dX4_likeChoice_23 : decode cX4_likeChoice 23 = .ok (.imul, 1) := by decide +kernel
theorem dX4_likeChoice_24 : decode cX4_likeChoice 24 = .ok (.ishr, 1) := by decide +kernel
theorem dX4_likeChoice_25 : decode cX4_likeChoice 25 = .ok (.iconst 3, 1) := by decide +kernel
theorem dX4_likeChoice_26 : decode cX4_likeChoice 26 = .ok (.iand, 1) := by decide +kernel
theorem dX4_likeChoice_27 : decode cX4_likeChoice 27 = .ok (.iadd, 1) := by decide +kernel
theorem dX4_likeChoice_28 : decode cX4_likeChoice 28 = .ok (.iaload, 1) := by decide +kernel
theorem dX4_likeChoice_29 : decode cX4_likeChoice 29 = .ok (.iconst 2, 1) := by decide +kernel
theorem dX4_likeChoice_30 : decode cX4_likeChoice 30 = .ok (.iload_n 3, 1) := by decide +kernel
theorem dX4_likeChoice_31 : decode cX4_likeChoice 31 = .ok (.imul, 1) := by decide +kernel
theorem dX4_likeChoice_32 : decode cX4_likeChoice 32 = .ok (.ishl, 1) := by decide +kernel
theorem dX4_likeChoice_33 : decode cX4_likeChoice 33 = .ok (.ior, 1) := by decide +kernel
theorem dX4_likeChoice_34 : decode cX4_likeChoice 34 = .ok (.istore_n 2, 1) := by decide +kernel
theorem dX4_likeChoice_35 : decode cX4_likeChoice 35 = .ok (.iinc 3 1, 3) := by decide +kernel
theorem dX4_likeChoice_38 : decode cX4_likeChoice 38 = .ok (.goto (-34), 3) := by decide +kernel
theorem dX4_likeChoice_41 : decode cX4_likeChoice 41 = .ok (.iload_n 2, 1) := by decide +kernel
theorem dX4_likeChoice_42 : decode cX4_likeChoice 42 = .ok (.ireturn, 1) := by decide +kernel
def mX4_likeChoice (n : Nat) (a : Nat) (b1 : Int) (μ : Mem) : Option (Int × Mem) :=
  lp (fun nx4 (v4 : Int × Int) (μ4 : Mem) =>
  (gI μ4 5 a 3).bind fun x6 =>
  if lt32 v4.2 x6 then
    (gA μ4 5 a 8).bind fun x14 =>
    (ldI μ4 0 x14 ((4 * v4.2) + (oAnd (oShr b1 (2 * v4.2)) 3))).bind fun x28 =>
    nx4 ((oOr v4.1 (oShl x28 (2 * v4.2))), (v4.2 + 1)) μ4
  else
  some (v4.1, μ4)) n (0, 0) μ
set_option maxRecDepth 100000 in
set_option maxHeartbeats 4000000 in
theorem cX4_likeChoice_ok (n : Nat) (a : Nat) (b1 : Int) (μ : Mem) : Mc yX4_likeChoice cX4_likeChoice 4 (some .int) 0 0 eI [aA a, aI b1] μ (mX4_likeChoice n a b1 μ) := by
  refine mc_of (L0 := [some (aA a), some (aI b1), none, none]) (k := 2) (by decide) rfl rfl (fun X Γ => ?_)
  unfold mX4_likeChoice
  refine sn_iconst dX4_likeChoice_0 ?_
  refine sn_istore_n (L' := [some (aA a), some (aI b1), some (aI 0), none]) dX4_likeChoice_1 (by decide) rfl ?_
  refine sn_iconst dX4_likeChoice_2 ?_
  refine sn_istore_n (L' := [some (aA a), some (aI b1), some (aI 0), some (aI 0)]) dX4_likeChoice_3 (by decide) rfl ?_
  refine sn_lp (La := fun v4 : Int × Int => [some (aA a), some (aI b1), some (aI v4.1), some (aI v4.2)]) ?_ n (0, 0) μ
  intro nx4 hnx4 v4 μ4
  refine sn_iload_n dX4_likeChoice_4 rfl ?_
  refine sn_aload_n dX4_likeChoice_5 rfl ?_
  refine sn_getI (ci := 4) (j := 3) dX4_likeChoice_6 fl_X4_87 rfl (fun x6 => ?_)
  refine sn_icmp_ge (tgt := 41) dX4_likeChoice_9 (by decide) ?_ ?_
  · refine sn_iload_n dX4_likeChoice_41 rfl ?_
    exact sn_iret dX4_likeChoice_42
  · refine sn_iload_n dX4_likeChoice_12 rfl ?_
    refine sn_aload_n dX4_likeChoice_13 rfl ?_
    refine sn_getA (ci := 4) (j := 8) dX4_likeChoice_14 fl_X4_34 (by decide) (fun x14 => ?_)
    refine sn_iconst dX4_likeChoice_17 ?_
    refine sn_iload_n dX4_likeChoice_18 rfl ?_
    refine sn_imul dX4_likeChoice_19 ?_
    refine sn_iload_n dX4_likeChoice_20 rfl ?_
    refine sn_iconst dX4_likeChoice_21 ?_
    refine sn_iload_n dX4_likeChoice_22 rfl ?_
    refine sn_imul dX4_likeChoice_23 ?_
    refine sn_ishr dX4_likeChoice_24 ?_
    refine sn_iconst dX4_likeChoice_25 ?_
    refine sn_iand dX4_likeChoice_26 ?_
    refine sn_iadd dX4_likeChoice_27 ?_
    refine sn_iald dX4_likeChoice_28 (fun x28 => ?_)
    refine sn_iconst dX4_likeChoice_29 ?_
    refine sn_iload_n dX4_likeChoice_30 rfl ?_
    refine sn_imul dX4_likeChoice_31 ?_
    refine sn_ishl dX4_likeChoice_32 ?_
    refine sn_ior dX4_likeChoice_33 ?_
    refine sn_istore_n (L' := [some (aA a), some (aI b1), some (aI (oOr v4.1 (oShl x28 (2 * v4.2)))), some (aI v4.2)]) dX4_likeChoice_34 (by decide) rfl ?_
    refine sn_iinc (L' := [some (aA a), some (aI b1), some (aI (oOr v4.1 (oShl x28 (2 * v4.2)))), some (aI (v4.2 + 1))]) dX4_likeChoice_35 rfl (by decide) rfl ?_
    refine sn_goto (tgt := 4) dX4_likeChoice_38 (by decide) ?_
    exact hnx4 ((oOr v4.1 (oShl x28 (2 * v4.2))), (v4.2 + 1)) μ4
theorem dX4_behindHour_0 : decode cX4_behindHour 0 = .ok (.iconst 0, 1) := by decide +kernel
theorem dX4_behindHour_1 : decode cX4_behindHour 1 = .ok (.istore 4, 2) := by decide +kernel
theorem dX4_behindHour_3 : decode cX4_behindHour 3 = .ok (.iload 4, 2) := by decide +kernel
theorem dX4_behindHour_5 : decode cX4_behindHour 5 = .ok (.aload_n 0, 1) := by decide +kernel
theorem dX4_behindHour_6 : decode cX4_behindHour 6 = .ok (.getfield 40, 3) := by decide +kernel
theorem dX4_behindHour_9 : decode cX4_behindHour 9 = .ok (.getfield 99, 3) := by decide +kernel
theorem dX4_behindHour_12 : decode cX4_behindHour 12 = .ok (.if_icmp .ge 30, 3) := by decide +kernel
theorem dX4_behindHour_15 : decode cX4_behindHour 15 = .ok (.aload_n 0, 1) := by decide +kernel
theorem dX4_behindHour_16 : decode cX4_behindHour 16 = .ok (.getfield 37, 3) := by decide +kernel
theorem dX4_behindHour_19 : decode cX4_behindHour 19 = .ok (.iload 4, 2) := by decide +kernel
theorem dX4_behindHour_21 : decode cX4_behindHour 21 = .ok (.lload_n 1, 1) := by decide +kernel
theorem dX4_behindHour_22 : decode cX4_behindHour 22 = .ok (.bipush 18, 2) := by decide +kernel
theorem dX4_behindHour_24 : decode cX4_behindHour 24 = .ok (.bipush 7, 2) := by decide +kernel
theorem dX4_behindHour_26 : decode cX4_behindHour 26 = .ok (.iload 4, 2) := by decide +kernel
theorem dX4_behindHour_28 : decode cX4_behindHour 28 = .ok (.imul, 1) := by decide +kernel
theorem dX4_behindHour_29 : decode cX4_behindHour 29 = .ok (.iadd, 1) := by decide +kernel
theorem dX4_behindHour_30 : decode cX4_behindHour 30 = .ok (.lushr, 1) := by decide +kernel
theorem dX4_behindHour_31 : decode cX4_behindHour 31 = .ok (.l2i, 1) := by decide +kernel
theorem dX4_behindHour_32 : decode cX4_behindHour 32 = .ok (.bipush 127, 2) := by decide +kernel
theorem dX4_behindHour_34 : decode cX4_behindHour 34 = .ok (.iand, 1) := by decide +kernel
theorem dX4_behindHour_35 : decode cX4_behindHour 35 = .ok (.iastore, 1) := by decide +kernel
theorem dX4_behindHour_36 : decode cX4_behindHour 36 = .ok (.iinc 4 1, 3) := by decide +kernel
theorem dX4_behindHour_39 : decode cX4_behindHour 39 = .ok (.goto (-36), 3) := by decide +kernel
theorem dX4_behindHour_42 : decode cX4_behindHour 42 = .ok (.lload_n 1, 1) := by decide +kernel
theorem dX4_behindHour_43 : decode cX4_behindHour 43 = .ok (.bipush 12, 2) := by decide +kernel
theorem dX4_behindHour_45 : decode cX4_behindHour 45 = .ok (.lushr, 1) := by decide +kernel
theorem dX4_behindHour_46 : decode cX4_behindHour 46 = .ok (.l2i, 1) := by decide +kernel
theorem dX4_behindHour_47 : decode cX4_behindHour 47 = .ok (.bipush 63, 2) := by decide +kernel
theorem dX4_behindHour_49 : decode cX4_behindHour 49 = .ok (.iand, 1) := by decide +kernel
theorem dX4_behindHour_50 : decode cX4_behindHour 50 = .ok (.istore 4, 2) := by decide +kernel
theorem dX4_behindHour_52 : decode cX4_behindHour 52 = .ok (.lload_n 1, 1) := by decide +kernel
theorem dX4_behindHour_53 : decode cX4_behindHour 53 = .ok (.bipush 46, 2) := by decide +kernel
theorem dX4_behindHour_55 : decode cX4_behindHour 55 = .ok (.lushr, 1) := by decide +kernel
theorem dX4_behindHour_56 : decode cX4_behindHour 56 = .ok (.l2i, 1) := by decide +kernel
theorem dX4_behindHour_57 : decode cX4_behindHour 57 = .ok (.istore 5, 2) := by decide +kernel
theorem dX4_behindHour_59 : decode cX4_behindHour 59 = .ok (.lconst 0, 1) := by decide +kernel
theorem dX4_behindHour_60 : decode cX4_behindHour 60 = .ok (.lstore 6, 2) := by decide +kernel
theorem dX4_behindHour_62 : decode cX4_behindHour 62 = .ok (.iconst 0, 1) := by decide +kernel
theorem dX4_behindHour_63 : decode cX4_behindHour 63 = .ok (.istore 8, 2) := by decide +kernel
theorem dX4_behindHour_65 : decode cX4_behindHour 65 = .ok (.iload 8, 2) := by decide +kernel
theorem dX4_behindHour_67 : decode cX4_behindHour 67 = .ok (.aload_n 0, 1) := by decide +kernel
theorem dX4_behindHour_68 : decode cX4_behindHour 68 = .ok (.getfield 87, 3) := by decide +kernel
theorem dX4_behindHour_71 : decode cX4_behindHour 71 = .ok (.if_icmp .ge 223, 3) := by decide +kernel
theorem dX4_behindHour_74 : decode cX4_behindHour 74 = .ok (.aload_n 0, 1) := by decide +kernel
theorem dX4_behindHour_75 : decode cX4_behindHour 75 = .ok (.getfield 31, 3) := by decide +kernel
theorem dX4_behindHour_78 : decode cX4_behindHour 78 = .ok (.iconst 4, 1) := by decide +kernel
theorem dX4_behindHour_79 : decode cX4_behindHour 79 = .ok (.iload 8, 2) := by decide +kernel
theorem dX4_behindHour_81 : decode cX4_behindHour 81 = .ok (.imul, 1) := by decide +kernel
theorem dX4_behindHour_82 : decode cX4_behindHour 82 = .ok (.iload_n 3, 1) := by decide +kernel
theorem dX4_behindHour_83 : decode cX4_behindHour 83 = .ok (.iconst 2, 1) := by decide +kernel
theorem dX4_behindHour_84 : decode cX4_behindHour 84 = .ok (.iload 8, 2) := by decide +kernel
theorem dX4_behindHour_86 : decode cX4_behindHour 86 = .ok (.imul, 1) := by decide +kernel
theorem dX4_behindHour_87 : decode cX4_behindHour 87 = .ok (.ishr, 1) := by decide +kernel
theorem dX4_behindHour_88 : decode cX4_behindHour 88 = .ok (.iconst 3, 1) := by decide +kernel
theorem dX4_behindHour_89 : decode cX4_behindHour 89 = .ok (.iand, 1) := by decide +kernel
theorem dX4_behindHour_90 : decode cX4_behindHour 90 = .ok (.iadd, 1) := by decide +kernel
theorem dX4_behindHour_91 : decode cX4_behindHour 91 = .ok (.iaload, 1) := by decide +kernel
theorem dX4_behindHour_92 : decode cX4_behindHour 92 = .ok (.istore 9, 2) := by decide +kernel
theorem dX4_behindHour_94 : decode cX4_behindHour 94 = .ok (.lload 6, 2) := by decide +kernel
theorem dX4_behindHour_96 : decode cX4_behindHour 96 = .ok (.iload 9, 2) := by decide +kernel
theorem dX4_behindHour_98 : decode cX4_behindHour 98 = .ok (.i2l, 1) := by decide +kernel
theorem dX4_behindHour_99 : decode cX4_behindHour 99 = .ok (.iconst 4, 1) := by decide +kernel
theorem dX4_behindHour_100 : decode cX4_behindHour 100 = .ok (.iload 8, 2) := by decide +kernel
theorem dX4_behindHour_102 : decode cX4_behindHour 102 = .ok (.imul, 1) := by decide +kernel
theorem dX4_behindHour_103 : decode cX4_behindHour 103 = .ok (.lshl, 1) := by decide +kernel
theorem dX4_behindHour_104 : decode cX4_behindHour 104 = .ok (.lor, 1) := by decide +kernel
theorem dX4_behindHour_105 : decode cX4_behindHour 105 = .ok (.lstore 6, 2) := by decide +kernel
theorem dX4_behindHour_107 : decode cX4_behindHour 107 = .ok (.iconst 0, 1) := by decide +kernel
theorem dX4_behindHour_108 : decode cX4_behindHour 108 = .ok (.istore 10, 2) := by decide +kernel
theorem dX4_behindHour_110 : decode cX4_behindHour 110 = .ok (.iload 10, 2) := by decide +kernel
theorem dX4_behindHour_112 : decode cX4_behindHour 112 = .ok (.iconst 2, 1) := by decide +kernel
theorem dX4_behindHour_113 : decode cX4_behindHour 113 = .ok (.if_icmp .ge 175, 3) := by decide +kernel
theorem dX4_behindHour_116 : decode cX4_behindHour 116 = .ok (.aload_n 0, 1) := by decide +kernel
theorem dX4_behindHour_117 : decode cX4_behindHour 117 = .ok (.getfield 40, 3) := by decide +kernel
theorem dX4_behindHour_120 : decode cX4_behindHour 120 = .ok (.getfield 118, 3) := by decide +kernel
theorem dX4_behindHour_123 : decode cX4_behindHour 123 = .ok (.iconst 2, 1) := by decide +kernel
theorem dX4_behindHour_124 : decode cX4_behindHour 124 = .ok (.aload_n 0, 1) := by decide +kernel
theorem dX4_behindHour_125 : decode cX4_behindHour 125 = .ok (.getfield 21, 3) := by decide +kernel
theorem dX4_behindHour_128 : decode cX4_behindHour 128 = .ok (.iload 8, 2) := by decide +kernel
theorem dX4_behindHour_130 : decode cX4_behindHour 130 = .ok (.iaload, 1) := by decide +kernel
theorem dX4_behindHour_131 : decode cX4_behindHour 131 = .ok (.imul, 1) := by decide +kernel
theorem dX4_behindHour_132 : decode cX4_behindHour 132 = .ok (.iload 10, 2) := by decide +kernel
theorem dX4_behindHour_134 : decode cX4_behindHour 134 = .ok (.iadd, 1) := by decide +kernel
theorem dX4_behindHour_135 : decode cX4_behindHour 135 = .ok (.iaload, 1) := by decide +kernel
theorem dX4_behindHour_136 : decode cX4_behindHour 136 = .ok (.istore 11, 2) := by decide +kernel
theorem dX4_behindHour_138 : decode cX4_behindHour 138 = .ok (.iconst 1, 1) := by decide +kernel
theorem dX4_behindHour_139 : decode cX4_behindHour 139 = .ok (.iconst 2, 1) := by decide +kernel
theorem dX4_behindHour_140 : decode cX4_behindHour 140 = .ok (.iload 8, 2) := by decide +kernel
theorem dX4_behindHour_142 : decode cX4_behindHour 142 = .ok (.imul, 1) := by decide +kernel
theorem dX4_behindHour_143 : decode cX4_behindHour 143 = .ok (.iload 10, 2) := by decide +kernel
theorem dX4_behindHour_145 : decode cX4_behindHour 145 = .ok (.iadd, 1) := by decide +kernel
theorem dX4_behindHour_146 : decode cX4_behindHour 146 = .ok (.ishl, 1) := by decide +kernel
theorem dX4_behindHour_147 : decode cX4_behindHour 147 = .ok (.istore 12, 2) := by decide +kernel
theorem dX4_behindHour_149 : decode cX4_behindHour 149 = .ok (.iload 10, 2) := by decide +kernel
theorem dX4_behindHour_151 : decode cX4_behindHour 151 = .ok (.ifCond .ne 8, 3) := by decide +kernel
theorem dX4_behindHour_154 : decode cX4_behindHour 154 = .ok (.iload 9, 2) := by decide +kernel
theorem dX4_behindHour_156 : decode cX4_behindHour 156 = .ok (.goto 21, 3) := by decide +kernel
theorem dX4_behindHour_159 : decode cX4_behindHour 159 = .ok (.aload_n 0, 1) := by decide +kernel
theorem dX4_behindHour_160 : decode cX4_behindHour 160 = .ok (.getfield 40, 3) := by decide +kernel
theorem dX4_behindHour_163 : decode cX4_behindHour 163 = .ok (.getfield 161, 3) := by decide +kernel
theorem dX4_behindHour_166 : decode cX4_behindHour 166 = .ok (.aload_n 0, 1) := by decide +kernel
theorem dX4_behindHour_167 : decode cX4_behindHour 167 = .ok (.getfield 21, 3) := by decide +kernel
theorem dX4_behindHour_170 : decode cX4_behindHour 170 = .ok (.iload 8, 2) := by decide +kernel
theorem dX4_behindHour_172 : decode cX4_behindHour 172 = .ok (.iaload, 1) := by decide +kernel
theorem dX4_behindHour_173 : decode cX4_behindHour 173 = .ok (.iaload, 1) := by decide +kernel
theorem dX4_behindHour_174 : decode cX4_behindHour 174 = .ok (.iload 9, 2) := by decide +kernel
theorem dX4_behindHour_176 : decode cX4_behindHour 176 = .ok (.isub, 1) := by decide +kernel
theorem dX4_behindHour_177 : decode cX4_behindHour 177 = .ok (.istore 13, 2) := by decide +kernel
theorem dX4_behindHour_179 : decode cX4_behindHour 179 = .ok (.iload 4, 2) := by decide +kernel
theorem dX4_behindHour_181 : decode cX4_behindHour 181 = .ok (.iload 12, 2) := by decide +kernel
theorem dX4_behindHour_183 : decode cX4_behindHour 183 = .ok (.iand, 1) := by decide +kernel
theorem dX4_behindHour_184 : decode cX4_behindHour 184 = .ok (.ifCond .ne 49, 3) := by decide +kernel
theorem dX4_behindHour_187 : decode cX4_behindHour 187 = .ok (.iload 13, 2) := by decide +kernel
theorem dX4_behindHour_189 : decode cX4_behindHour 189 = .ok (.aload_n 0, 1) := by decide +kernel
theorem dX4_behindHour_190 : decode cX4_behindHour 190 = .ok (.getfield 40, 3) := by decide +kernel
theorem dX4_behindHour_193 : decode cX4_behindHour 193 = .ok (.getfield 164, 3) := by decide +kernel
theorem dX4_behindHour_196 : decode cX4_behindHour 196 = .ok (.iload 11, 2) := by decide +kernel
theorem dX4_behindHour_198 : decode cX4_behindHour 198 = .ok (.iaload, 1) := by decide +kernel
theorem dX4_behindHour_199 : decode cX4_behindHour 199 = .ok (.if_icmp .lt 34, 3) := by decide +kernel
theorem dX4_behindHour_202 : decode cX4_behindHour 202 = .ok (.aload_n 0, 1) := by decide +kernel
theorem dX4_behindHour_203 : decode cX4_behindHour 203 = .ok (.getfield 37, 3) := by decide +kernel
theorem dX4_behindHour_206 : decode cX4_behindHour 206 = .ok (.iload 11, 2) := by decide +kernel
theorem dX4_behindHour_208 : decode cX4_behindHour 208 = .ok (.iaload, 1) := by decide +kernel
theorem dX4_behindHour_209 : decode cX4_behindHour 209 = .ok (.ifCond .le 24, 3) := by decide +kernel
theorem dX4_behindHour_212 : decode cX4_behindHour 212 = .ok (.iload 4, 2) := by decide +kernel
theorem dX4_behindHour_214 : decode cX4_behindHour 214 = .ok (.iload 12, 2) := by decide +kernel
theorem dX4_behindHour_216 : decode cX4_behindHour 216 = .ok (.ior, 1) := by decide +kernel
theorem dX4_behindHour_217 : decode cX4_behindHour 217 = .ok (.istore 4, 2) := by decide +kernel
theorem dX4_behindHour_219 : decode cX4_behindHour 219 = .ok (.aload_n 0, 1) := by decide +kernel
theorem dX4_behindHour_220 : decode cX4_behindHour 220 = .ok (.getfield 37, 3) := by decide +kernel
theorem dX4_behindHour_223 : decode cX4_behindHour 223 = .ok (.iload 11, 2) := by decide +kernel
theorem dX4_behindHour_225 : decode cX4_behindHour 225 = .ok (.dup2, 1) := by decide +kernel
theorem dX4_behindHour_226 : decode cX4_behindHour 226 = .ok (.iaload, 1) := by decide +kernel
theorem dX4_behindHour_227 : decode cX4_behindHour 227 = .ok (.iconst 1, 1) := by decide +kernel
theorem dX4_behindHour_228 : decode cX4_behindHour 228 = .ok (.isub, 1) := by decide +kernel
theorem dX4_behindHour_229 : decode cX4_behindHour 229 = .ok (.iastore, 1) := by decide +kernel
theorem dX4_behindHour_230 : decode cX4_behindHour 230 = .ok (.goto 52, 3) := by decide +kernel
theorem dX4_behindHour_233 : decode cX4_behindHour 233 = .ok (.iload 4, 2) := by decide +kernel
theorem dX4_behindHour_235 : decode cX4_behindHour 235 = .ok (.iload 12, 2) := by decide +kernel
theorem dX4_behindHour_237 : decode cX4_behindHour 237 = .ok (.iand, 1) := by decide +kernel
theorem dX4_behindHour_238 : decode cX4_behindHour 238 = .ok (.ifCond .eq 44, 3) := by decide +kernel
theorem dX4_behindHour_241 : decode cX4_behindHour 241 = .ok (.iload 13, 2) := by decide +kernel
theorem dX4_behindHour_243 : decode cX4_behindHour 243 = .ok (.ifCond .ne 39, 3) := by decide +kernel
theorem dX4_behindHour_246 : decode cX4_behindHour 246 = .ok (.iload 4, 2) := by decide +kernel
theorem dX4_behindHour_248 : decode cX4_behindHour 248 = .ok (.iload 12, 2) := by decide +kernel
theorem dX4_behindHour_250 : decode cX4_behindHour 250 = .ok (.iconst (-1), 1) := by decide +kernel
theorem dX4_behindHour_251 : decode cX4_behindHour 251 = .ok (.ixor, 1) := by decide +kernel
theorem dX4_behindHour_252 : decode cX4_behindHour 252 = .ok (.iand, 1) := by decide +kernel
theorem dX4_behindHour_253 : decode cX4_behindHour 253 = .ok (.istore 4, 2) := by decide +kernel
theorem dX4_behindHour_255 : decode cX4_behindHour 255 = .ok (.iload 11, 2) := by decide +kernel
theorem dX4_behindHour_257 : decode cX4_behindHour 257 = .ok (.aload_n 0, 1) := by decide +kernel
theorem dX4_behindHour_258 : decode cX4_behindHour 258 = .ok (.getfield 81, 3) := by decide +kernel
theorem dX4_behindHour_261 : decode cX4_behindHour 261 = .ok (.if_icmp .ne 17, 3) := by decide +kernel
theorem dX4_behindHour_264 : decode cX4_behindHour 264 = .ok (.iload 5, 2) := by decide +kernel
theorem dX4_behindHour_266 : decode cX4_behindHour 266 = .ok (.iconst 1, 1) := by decide +kernel
theorem dX4_behindHour_267 : decode cX4_behindHour 267 = .ok (.iadd, 1) := by decide +kernel
theorem dX4_behindHour_268 : decode cX4_behindHour 268 = .ok (.aload_n 0, 1) := by decide +kernel
theorem dX4_behindHour_269 : decode cX4_behindHour 269 = .ok (.getfield 84, 3) := by decide +kernel
theorem dX4_behindHour_272 : decode cX4_behindHour 272 = .ok (.invokestatic 167, 3) := by decide +kernel
theorem dX4_behindHour_275 : decode cX4_behindHour 275 = .ok (.goto 5, 3) := by decide +kernel
theorem dX4_behindHour_278 : decode cX4_behindHour 278 = .ok (.iload 5, 2) := by decide +kernel
theorem dX4_behindHour_280 : decode cX4_behindHour 280 = .ok (.istore 5, 2) := by decide +kernel
theorem dX4_behindHour_282 : decode cX4_behindHour 282 = .ok (.iinc 10 1, 3) := by decide +kernel
theorem dX4_behindHour_285 : decode cX4_behindHour 285 = .ok (.goto (-175), 3) := by decide +kernel
theorem dX4_behindHour_288 : decode cX4_behindHour 288 = .ok (.iinc 8 1, 3) := by decide +kernel
theorem dX4_behindHour_291 : decode cX4_behindHour 291 = .ok (.goto (-226), 3) := by decide +kernel
theorem dX4_behindHour_294 : decode cX4_behindHour 294 = .ok (.iconst 0, 1) := by decide +kernel
theorem dX4_behindHour_295 : decode cX4_behindHour 295 = .ok (.istore 8, 2) := by decide +kernel
theorem dX4_behindHour_297 : decode cX4_behindHour 297 = .ok (.iload 8, 2) := by decide +kernel
theorem dX4_behindHour_299 : decode cX4_behindHour 299 = .ok (.aload_n 0, 1) := by decide +kernel
theorem dX4_behindHour_300 : decode cX4_behindHour 300 = .ok (.getfield 40, 3) := by decide +kernel
theorem dX4_behindHour_303 : decode cX4_behindHour 303 = .ok (.getfield 99, 3) := by decide +kernel
theorem dX4_behindHour_306 : decode cX4_behindHour 306 = .ok (.if_icmp .ge 31, 3) := by decide +kernel
theorem dX4_behindHour_309 : decode cX4_behindHour 309 = .ok (.lload 6, 2) := by decide +kernel
theorem dX4_behindHour_311 : decode cX4_behindHour 311 = .ok (.aload_n 0, 1) := by decide +kernel
theorem dX4_behindHour_312 : decode cX4_behindHour 312 = .ok (.getfield 37, 3) := by decide +kernel
theorem dX4_behindHour_315 : decode cX4_behindHour 315 = .ok (.iload 8, 2) := by decide +kernel
theorem dX4_behindHour_317 : decode cX4_behindHour 317 = .ok (.iaload, 1) := by decide +kernel
theorem dX4_behindHour_318 : decode cX4_behindHour 318 = .ok (.i2l, 1) := by decide +kernel
theorem dX4_behindHour_319 : decode cX4_behindHour 319 = .ok (.bipush 18, 2) := by decide +kernel
theorem dX4_behindHour_321 : decode cX4_behindHour 321 = .ok (.bipush 7, 2) := by decide +kernel
theorem dX4_behindHour_323 : decode cX4_behindHour 323 = .ok (.iload 8, 2) := by decide +kernel
theorem dX4_behindHour_325 : decode cX4_behindHour 325 = .ok (.imul, 1) := by decide +kernel
theorem dX4_behindHour_326 : decode cX4_behindHour 326 = .ok (.iadd, 1) := by decide +kernel
theorem dX4_behindHour_327 : decode cX4_behindHour 327 = .ok (.lshl, 1) := by decide +kernel
theorem dX4_behindHour_328 : decode cX4_behindHour 328 = .ok (.lor, 1) := by decide +kernel
theorem dX4_behindHour_329 : decode cX4_behindHour 329 = .ok (.lstore 6, 2) := by decide +kernel
theorem dX4_behindHour_331 : decode cX4_behindHour 331 = .ok (.iinc 8 1, 3) := by decide +kernel
theorem dX4_behindHour_334 : decode cX4_behindHour 334 = .ok (.goto (-37), 3) := by decide +kernel
theorem dX4_behindHour_337 : decode cX4_behindHour 337 = .ok (.lload 6, 2) := by decide +kernel
theorem dX4_behindHour_339 : decode cX4_behindHour 339 = .ok (.iload 4, 2) := by decide +kernel
theorem dX4_behindHour_341 : decode cX4_behindHour 341 = .ok (.i2l, 1) := by decide +kernel
theorem dX4_behindHour_342 : decode cX4_behindHour 342 = .ok (.bipush 12, 2) := by decide +kernel
theorem dX4_behindHour_344 : decode cX4_behindHour 344 = .ok (.lshl, 1) := by decide +kernel
theorem dX4_behindHour_345 : decode cX4_behindHour 345 = .ok (.lor, 1) := by decide +kernel
theorem dX4_behindHour_346 : decode cX4_behindHour 346 = .ok (.iload 5, 2) := by decide +kernel
theorem dX4_behindHour_348 : decode cX4_behindHour 348 = .ok (.i2l, 1) := by decide +kernel
theorem dX4_behindHour_349 : decode cX4_behindHour 349 = .ok (.bipush 46, 2) := by decide +kernel
theorem dX4_behindHour_351 : decode cX4_behindHour 351 = .ok (.lshl, 1) := by decide +kernel
theorem dX4_behindHour_352 : decode cX4_behindHour 352 = .ok (.lor, 1) := by decide +kernel
theorem dX4_behindHour_353 : decode cX4_behindHour 353 = .ok (.lreturn, 1) := by decide +kernel
def mX4_behindHour (n : Nat) (a : Nat) (b1 : Int) (b2 : Int) (μ : Mem) : Option (Int × Mem) :=
  lp (fun nx3 (v3 : Int) (μ3 : Mem) =>
  (gA μ3 5 a 10).bind fun x6 =>
  (gI μ3 2 x6 0).bind fun x9 =>
  if lt32 v3 x9 then
    (gA μ3 5 a 9).bind fun x16 =>
    (stI μ3 0 x16 v3 (oAnd (lUshr b1 (18 + (7 * v3))) 127)).bind fun μ35 =>
    nx3 (v3 + 1) μ35
  else
  lp (fun nx65 (v65 : Int × Int × Int × Int) (μ65 : Mem) =>
  (gI μ65 5 a 3).bind fun x68 =>
  if lt32 v65.2.2.2 x68 then
    (gA μ65 5 a 7).bind fun x75 =>
    (ldI μ65 0 x75 ((4 * v65.2.2.2) + (oAnd (oShr b2 (2 * v65.2.2.2)) 3))).bind fun x91 =>
    lp (fun nx110 (v110 : Int × Int × Int) (μ110 : Mem) =>
    if lt32 v110.2.2 2 then
      (gA μ110 5 a 10).bind fun x117 =>
      (gA μ110 2 x117 15).bind fun x120 =>
      (gA μ110 5 a 2).bind fun x125 =>
      (ldI μ110 0 x125 v65.2.2.2).bind fun x130 =>
      (ldI μ110 0 x120 ((2 * x130) + v110.2.2)).bind fun x135 =>
      jn (fun (v177 : Int) (μ177 : Mem) =>
      jn (fun (v233 : Int × Int) (μ233 : Mem) =>
      if eq32 (oAnd v233.1 (oShl 1 ((2 * v65.2.2.2) + v110.2.2))) 0 then
        nx110 (v233.1, v110.2.1, (v233.2 + 1)) μ233
      else
      if eq32 v177 0 then
        (gI μ233 5 a 11).bind fun x258 =>
        if eq32 x135 x258 then
          (gI μ233 5 a 12).bind fun x269 =>
          nx110 ((oAnd v233.1 (oXor (oShl 1 ((2 * v65.2.2.2) + v110.2.2)) (-1))), (mMin (v110.2.1 + 1) x269), (v233.2 + 1)) μ233
        else
        nx110 ((oAnd v233.1 (oXor (oShl 1 ((2 * v65.2.2.2) + v110.2.2)) (-1))), v110.2.1, (v233.2 + 1)) μ233
      else
      nx110 (v233.1, v110.2.1, (v233.2 + 1)) μ233) (fun j233 =>
      if eq32 (oAnd v110.1 (oShl 1 ((2 * v65.2.2.2) + v110.2.2))) 0 then
        (gA μ177 5 a 10).bind fun x190 =>
        (gA μ177 2 x190 7).bind fun x193 =>
        (ldI μ177 0 x193 x135).bind fun x198 =>
        if lt32 v177 x198 then
          j233 (v110.1, v110.2.2) μ177
        else
        (gA μ177 5 a 9).bind fun x203 =>
        (ldI μ177 0 x203 x135).bind fun x208 =>
        if lt32 0 x208 then
          (gA μ177 5 a 9).bind fun x220 =>
          (ldI μ177 0 x220 x135).bind fun x226 =>
          (stI μ177 0 x220 x135 (x226 - 1)).bind fun μ229 =>
          nx110 ((oOr v110.1 (oShl 1 ((2 * v65.2.2.2) + v110.2.2))), v110.2.1, (v110.2.2 + 1)) μ229
        else
        j233 (v110.1, v110.2.2) μ177
      else
      j233 (v110.1, v110.2.2) μ177)) (fun j177 =>
      if eq32 v110.2.2 0 then
        j177 x91 μ110
      else
      (gA μ110 5 a 10).bind fun x160 =>
      (gA μ110 2 x160 12).bind fun x163 =>
      (gA μ110 5 a 2).bind fun x167 =>
      (ldI μ110 0 x167 v65.2.2.2).bind fun x172 =>
      (ldI μ110 0 x163 x172).bind fun x173 =>
      j177 (x173 - x91) μ110)
    else
    nx65 (v110.1, v110.2.1, (lOr v65.2.2.1 (lShl (oI2l x91) (4 * v65.2.2.2))), (v65.2.2.2 + 1)) μ110) n (v65.1, v65.2.1, 0) μ65
  else
  lp (fun nx297 (v297 : Int × Int) (μ297 : Mem) =>
  (gA μ297 5 a 10).bind fun x300 =>
  (gI μ297 2 x300 0).bind fun x303 =>
  if lt32 v297.2 x303 then
    (gA μ297 5 a 9).bind fun x312 =>
    (ldI μ297 0 x312 v297.2).bind fun x317 =>
    nx297 ((lOr v297.1 (lShl (oI2l x317) (18 + (7 * v297.2)))), (v297.2 + 1)) μ297
  else
  some ((lOr (lOr v297.1 (lShl (oI2l v65.1) 12)) (lShl (oI2l v65.2.1) 46)), μ297)) n (v65.2.2.1, 0) μ65) n ((oAnd (lUshr b1 12) 63), (lUshr b1 46), 0, 0) μ3) n 0 μ
set_option maxRecDepth 100000 in
set_option maxHeartbeats 4000000 in
theorem cX4_behindHour_ok (n : Nat) (a : Nat) (b1 : Int) (b2 : Int) (μ : Mem) : Mc yX4_behindHour cX4_behindHour 14 (some .long) 1 40 eJ [aA a, aJ b1, aI b2] μ (mX4_behindHour n a b1 b2 μ) := by
  refine mc_of (L0 := [some (aA a), some (aJ b1), none, some (aI b2), none, none, none, none, none, none, none, none, none, none]) (k := 10) (by decide) rfl rfl (fun X Γ => ?_)
  unfold mX4_behindHour
  refine sn_iconst dX4_behindHour_0 ?_
  refine sn_istore (L' := [some (aA a), some (aJ b1), none, some (aI b2), some (aI 0), none, none, none, none, none, none, none, none, none]) dX4_behindHour_1 (by decide) rfl ?_
  refine sn_lp (La := fun v3 : Int => [some (aA a), some (aJ b1), none, some (aI b2), some (aI v3), none, none, none, none, none, none, none, none, none]) ?_ n 0 μ
  intro nx3 hnx3 v3 μ3
  refine sn_iload dX4_behindHour_3 rfl ?_
  refine sn_aload_n dX4_behindHour_5 rfl ?_
  refine sn_getA (ci := 4) (j := 10) dX4_behindHour_6 fl_X4_40 (by decide) (fun x6 => ?_)
  refine sn_getI (ci := 1) (j := 0) dX4_behindHour_9 fl_X4_99 rfl (fun x9 => ?_)
  refine sn_icmp_ge (tgt := 42) dX4_behindHour_12 (by decide) ?_ ?_
  · refine sn_lload_n dX4_behindHour_42 rfl ?_
    refine sn_bipush dX4_behindHour_43 (by decide) ?_
    refine sn_lushr dX4_behindHour_45 ?_
    refine sn_l2i dX4_behindHour_46 ?_
    refine sn_bipush dX4_behindHour_47 (by decide) ?_
    refine sn_iand dX4_behindHour_49 ?_
    refine sn_istore (L' := [some (aA a), some (aJ b1), none, some (aI b2), some (aI (oAnd (lUshr b1 12) 63)), none, none, none, none, none, none, none, none, none]) dX4_behindHour_50 (by decide) rfl ?_
    refine sn_lload_n dX4_behindHour_52 rfl ?_
    refine sn_bipush dX4_behindHour_53 (by decide) ?_
    refine sn_lushr dX4_behindHour_55 ?_
    refine sn_l2i dX4_behindHour_56 ?_
    refine sn_istore (L' := [some (aA a), some (aJ b1), none, some (aI b2), some (aI (oAnd (lUshr b1 12) 63)), some (aI (lUshr b1 46)), none, none, none, none, none, none, none, none]) dX4_behindHour_57 (by decide) rfl ?_
    refine sn_lconst (v := 0) dX4_behindHour_59 (by decide) ?_
    refine sn_lstore (L' := [some (aA a), some (aJ b1), none, some (aI b2), some (aI (oAnd (lUshr b1 12) 63)), some (aI (lUshr b1 46)), some (aJ 0), none, none, none, none, none, none, none]) dX4_behindHour_60 (by decide) rfl ?_
    refine sn_iconst dX4_behindHour_62 ?_
    refine sn_istore (L' := [some (aA a), some (aJ b1), none, some (aI b2), some (aI (oAnd (lUshr b1 12) 63)), some (aI (lUshr b1 46)), some (aJ 0), none, some (aI 0), none, none, none, none, none]) dX4_behindHour_63 (by decide) rfl ?_
    refine sn_mask (L' := [some (aA a), none, none, some (aI b2), some (aI (oAnd (lUshr b1 12) 63)), some (aI (lUshr b1 46)), some (aJ 0), none, some (aI 0), none, none, none, none, none]) [true, false, false, true, true, true, true, false, true, false, false, false, false, false] rfl ?_
    refine sn_lp (La := fun v65 : Int × Int × Int × Int => [some (aA a), none, none, some (aI b2), some (aI v65.1), some (aI v65.2.1), some (aJ v65.2.2.1), none, some (aI v65.2.2.2), none, none, none, none, none]) ?_ n ((oAnd (lUshr b1 12) 63), (lUshr b1 46), 0, 0) μ3
    intro nx65 hnx65 v65 μ65
    refine sn_iload dX4_behindHour_65 rfl ?_
    refine sn_aload_n dX4_behindHour_67 rfl ?_
    refine sn_getI (ci := 4) (j := 3) dX4_behindHour_68 fl_X4_87 rfl (fun x68 => ?_)
    refine sn_icmp_ge (tgt := 294) dX4_behindHour_71 (by decide) ?_ ?_
    · refine sn_iconst dX4_behindHour_294 ?_
      refine sn_istore (L' := [some (aA a), none, none, some (aI b2), some (aI v65.1), some (aI v65.2.1), some (aJ v65.2.2.1), none, some (aI 0), none, none, none, none, none]) dX4_behindHour_295 (by decide) rfl ?_
      refine sn_mask (L' := [some (aA a), none, none, none, some (aI v65.1), some (aI v65.2.1), some (aJ v65.2.2.1), none, some (aI 0), none, none, none, none, none]) [true, false, false, false, true, true, true, false, true, false, false, false, false, false] rfl ?_
      refine sn_lp (La := fun v297 : Int × Int => [some (aA a), none, none, none, some (aI v65.1), some (aI v65.2.1), some (aJ v297.1), none, some (aI v297.2), none, none, none, none, none]) ?_ n (v65.2.2.1, 0) μ65
      intro nx297 hnx297 v297 μ297
      refine sn_iload dX4_behindHour_297 rfl ?_
      refine sn_aload_n dX4_behindHour_299 rfl ?_
      refine sn_getA (ci := 4) (j := 10) dX4_behindHour_300 fl_X4_40 (by decide) (fun x300 => ?_)
      refine sn_getI (ci := 1) (j := 0) dX4_behindHour_303 fl_X4_99 rfl (fun x303 => ?_)
      refine sn_icmp_ge (tgt := 337) dX4_behindHour_306 (by decide) ?_ ?_
      · refine sn_lload dX4_behindHour_337 rfl ?_
        refine sn_iload dX4_behindHour_339 rfl ?_
        refine sn_i2l dX4_behindHour_341 ?_
        refine sn_bipush dX4_behindHour_342 (by decide) ?_
        refine sn_lshl dX4_behindHour_344 ?_
        refine sn_lor dX4_behindHour_345 ?_
        refine sn_iload dX4_behindHour_346 rfl ?_
        refine sn_i2l dX4_behindHour_348 ?_
        refine sn_bipush dX4_behindHour_349 (by decide) ?_
        refine sn_lshl dX4_behindHour_351 ?_
        refine sn_lor dX4_behindHour_352 ?_
        exact sn_lret dX4_behindHour_353
      · refine sn_lload dX4_behindHour_309 rfl ?_
        refine sn_aload_n dX4_behindHour_311 rfl ?_
        refine sn_getA (ci := 4) (j := 9) dX4_behindHour_312 fl_X4_37 (by decide) (fun x312 => ?_)
        refine sn_iload dX4_behindHour_315 rfl ?_
        refine sn_iald dX4_behindHour_317 (fun x317 => ?_)
        refine sn_i2l dX4_behindHour_318 ?_
        refine sn_bipush dX4_behindHour_319 (by decide) ?_
        refine sn_bipush dX4_behindHour_321 (by decide) ?_
        refine sn_iload dX4_behindHour_323 rfl ?_
        refine sn_imul dX4_behindHour_325 ?_
        refine sn_iadd dX4_behindHour_326 ?_
        refine sn_lshl dX4_behindHour_327 ?_
        refine sn_lor dX4_behindHour_328 ?_
        refine sn_lstore (L' := [some (aA a), none, none, none, some (aI v65.1), some (aI v65.2.1), some (aJ (lOr v297.1 (lShl (oI2l x317) (18 + (7 * v297.2))))), none, some (aI v297.2), none, none, none, none, none]) dX4_behindHour_329 (by decide) rfl ?_
        refine sn_iinc (L' := [some (aA a), none, none, none, some (aI v65.1), some (aI v65.2.1), some (aJ (lOr v297.1 (lShl (oI2l x317) (18 + (7 * v297.2))))), none, some (aI (v297.2 + 1)), none, none, none, none, none]) dX4_behindHour_331 rfl (by decide) rfl ?_
        refine sn_goto (tgt := 297) dX4_behindHour_334 (by decide) ?_
        exact hnx297 ((lOr v297.1 (lShl (oI2l x317) (18 + (7 * v297.2)))), (v297.2 + 1)) μ297
    · refine sn_aload_n dX4_behindHour_74 rfl ?_
      refine sn_getA (ci := 4) (j := 7) dX4_behindHour_75 fl_X4_31 (by decide) (fun x75 => ?_)
      refine sn_iconst dX4_behindHour_78 ?_
      refine sn_iload dX4_behindHour_79 rfl ?_
      refine sn_imul dX4_behindHour_81 ?_
      refine sn_iload_n dX4_behindHour_82 rfl ?_
      refine sn_iconst dX4_behindHour_83 ?_
      refine sn_iload dX4_behindHour_84 rfl ?_
      refine sn_imul dX4_behindHour_86 ?_
      refine sn_ishr dX4_behindHour_87 ?_
      refine sn_iconst dX4_behindHour_88 ?_
      refine sn_iand dX4_behindHour_89 ?_
      refine sn_iadd dX4_behindHour_90 ?_
      refine sn_iald dX4_behindHour_91 (fun x91 => ?_)
      refine sn_istore (L' := [some (aA a), none, none, some (aI b2), some (aI v65.1), some (aI v65.2.1), some (aJ v65.2.2.1), none, some (aI v65.2.2.2), some (aI x91), none, none, none, none]) dX4_behindHour_92 (by decide) rfl ?_
      refine sn_lload dX4_behindHour_94 rfl ?_
      refine sn_iload dX4_behindHour_96 rfl ?_
      refine sn_i2l dX4_behindHour_98 ?_
      refine sn_iconst dX4_behindHour_99 ?_
      refine sn_iload dX4_behindHour_100 rfl ?_
      refine sn_imul dX4_behindHour_102 ?_
      refine sn_lshl dX4_behindHour_103 ?_
      refine sn_lor dX4_behindHour_104 ?_
      refine sn_lstore (L' := [some (aA a), none, none, some (aI b2), some (aI v65.1), some (aI v65.2.1), some (aJ (lOr v65.2.2.1 (lShl (oI2l x91) (4 * v65.2.2.2)))), none, some (aI v65.2.2.2), some (aI x91), none, none, none, none]) dX4_behindHour_105 (by decide) rfl ?_
      refine sn_iconst dX4_behindHour_107 ?_
      refine sn_istore (L' := [some (aA a), none, none, some (aI b2), some (aI v65.1), some (aI v65.2.1), some (aJ (lOr v65.2.2.1 (lShl (oI2l x91) (4 * v65.2.2.2)))), none, some (aI v65.2.2.2), some (aI x91), some (aI 0), none, none, none]) dX4_behindHour_108 (by decide) rfl ?_
      refine sn_lp (La := fun v110 : Int × Int × Int => [some (aA a), none, none, some (aI b2), some (aI v110.1), some (aI v110.2.1), some (aJ (lOr v65.2.2.1 (lShl (oI2l x91) (4 * v65.2.2.2)))), none, some (aI v65.2.2.2), some (aI x91), some (aI v110.2.2), none, none, none]) ?_ n (v65.1, v65.2.1, 0) μ65
      intro nx110 hnx110 v110 μ110
      refine sn_iload dX4_behindHour_110 rfl ?_
      refine sn_iconst dX4_behindHour_112 ?_
      refine sn_icmp_ge (tgt := 288) dX4_behindHour_113 (by decide) ?_ ?_
      · refine sn_iinc (L' := [some (aA a), none, none, some (aI b2), some (aI v110.1), some (aI v110.2.1), some (aJ (lOr v65.2.2.1 (lShl (oI2l x91) (4 * v65.2.2.2)))), none, some (aI (v65.2.2.2 + 1)), some (aI x91), some (aI v110.2.2), none, none, none]) dX4_behindHour_288 rfl (by decide) rfl ?_
        refine sn_goto (tgt := 65) dX4_behindHour_291 (by decide) ?_
        exact sn_mask (L' := [some (aA a), none, none, some (aI b2), some (aI v110.1), some (aI v110.2.1), some (aJ (lOr v65.2.2.1 (lShl (oI2l x91) (4 * v65.2.2.2)))), none, some (aI (v65.2.2.2 + 1)), none, none, none, none, none]) [true, false, false, true, true, true, true, false, true, false, false, false, false, false] rfl (hnx65 (v110.1, v110.2.1, (lOr v65.2.2.1 (lShl (oI2l x91) (4 * v65.2.2.2))), (v65.2.2.2 + 1)) μ110)
      · refine sn_aload_n dX4_behindHour_116 rfl ?_
        refine sn_getA (ci := 4) (j := 10) dX4_behindHour_117 fl_X4_40 (by decide) (fun x117 => ?_)
        refine sn_getA (ci := 1) (j := 15) dX4_behindHour_120 fl_X4_118 (by decide) (fun x120 => ?_)
        refine sn_iconst dX4_behindHour_123 ?_
        refine sn_aload_n dX4_behindHour_124 rfl ?_
        refine sn_getA (ci := 4) (j := 2) dX4_behindHour_125 fl_X4_21 (by decide) (fun x125 => ?_)
        refine sn_iload dX4_behindHour_128 rfl ?_
        refine sn_iald dX4_behindHour_130 (fun x130 => ?_)
        refine sn_imul dX4_behindHour_131 ?_
        refine sn_iload dX4_behindHour_132 rfl ?_
        refine sn_iadd dX4_behindHour_134 ?_
        refine sn_iald dX4_behindHour_135 (fun x135 => ?_)
        refine sn_istore (L' := [some (aA a), none, none, some (aI b2), some (aI v110.1), some (aI v110.2.1), some (aJ (lOr v65.2.2.1 (lShl (oI2l x91) (4 * v65.2.2.2)))), none, some (aI v65.2.2.2), some (aI x91), some (aI v110.2.2), some (aI x135), none, none]) dX4_behindHour_136 (by decide) rfl ?_
        refine sn_iconst dX4_behindHour_138 ?_
        refine sn_iconst dX4_behindHour_139 ?_
        refine sn_iload dX4_behindHour_140 rfl ?_
        refine sn_imul dX4_behindHour_142 ?_
        refine sn_iload dX4_behindHour_143 rfl ?_
        refine sn_iadd dX4_behindHour_145 ?_
        refine sn_ishl dX4_behindHour_146 ?_
        refine sn_istore (L' := [some (aA a), none, none, some (aI b2), some (aI v110.1), some (aI v110.2.1), some (aJ (lOr v65.2.2.1 (lShl (oI2l x91) (4 * v65.2.2.2)))), none, some (aI v65.2.2.2), some (aI x91), some (aI v110.2.2), some (aI x135), some (aI (oShl 1 ((2 * v65.2.2.2) + v110.2.2))), none]) dX4_behindHour_147 (by decide) rfl ?_
        refine sn_iload dX4_behindHour_149 rfl ?_
        refine sn_jn (pcj := 177) (La := fun v177 : Int => [some (aA a), none, none, some (aI b2), some (aI v110.1), some (aI v110.2.1), some (aJ (lOr v65.2.2.1 (lShl (oI2l x91) (4 * v65.2.2.2)))), none, some (aI v65.2.2.2), some (aI x91), some (aI v110.2.2), some (aI x135), some (aI (oShl 1 ((2 * v65.2.2.2) + v110.2.2))), none]) (Sa := fun v177 : Int => [aI v177]) ?_ ?_
        · intro v177 μ177
          refine sn_istore (L' := [some (aA a), none, none, some (aI b2), some (aI v110.1), some (aI v110.2.1), some (aJ (lOr v65.2.2.1 (lShl (oI2l x91) (4 * v65.2.2.2)))), none, some (aI v65.2.2.2), some (aI x91), some (aI v110.2.2), some (aI x135), some (aI (oShl 1 ((2 * v65.2.2.2) + v110.2.2))), some (aI v177)]) dX4_behindHour_177 (by decide) rfl ?_
          refine sn_iload dX4_behindHour_179 rfl ?_
          refine sn_iload dX4_behindHour_181 rfl ?_
          refine sn_iand dX4_behindHour_183 ?_
          refine sn_jn (pcj := 233) (La := fun v233 : Int × Int => [some (aA a), none, none, some (aI b2), some (aI v233.1), some (aI v110.2.1), some (aJ (lOr v65.2.2.1 (lShl (oI2l x91) (4 * v65.2.2.2)))), none, some (aI v65.2.2.2), some (aI x91), some (aI v233.2), some (aI x135), some (aI (oShl 1 ((2 * v65.2.2.2) + v110.2.2))), some (aI v177)]) (Sa := fun v233 : Int × Int => []) ?_ ?_
          · intro v233 μ233
            refine sn_iload dX4_behindHour_233 rfl ?_
            refine sn_iload dX4_behindHour_235 rfl ?_
            refine sn_iand dX4_behindHour_237 ?_
            refine sn_if_eq (tgt := 282) dX4_behindHour_238 (by decide) ?_ ?_
            · refine sn_iinc (L' := [some (aA a), none, none, some (aI b2), some (aI v233.1), some (aI v110.2.1), some (aJ (lOr v65.2.2.1 (lShl (oI2l x91) (4 * v65.2.2.2)))), none, some (aI v65.2.2.2), some (aI x91), some (aI (v233.2 + 1)), some (aI x135), some (aI (oShl 1 ((2 * v65.2.2.2) + v110.2.2))), some (aI v177)]) dX4_behindHour_282 rfl (by decide) rfl ?_
              refine sn_goto (tgt := 110) dX4_behindHour_285 (by decide) ?_
              exact sn_mask (L' := [some (aA a), none, none, some (aI b2), some (aI v233.1), some (aI v110.2.1), some (aJ (lOr v65.2.2.1 (lShl (oI2l x91) (4 * v65.2.2.2)))), none, some (aI v65.2.2.2), some (aI x91), some (aI (v233.2 + 1)), none, none, none]) [true, false, false, true, true, true, true, false, true, true, true, false, false, false] rfl (hnx110 (v233.1, v110.2.1, (v233.2 + 1)) μ233)
            · refine sn_iload dX4_behindHour_241 rfl ?_
              refine sn_if_ne (tgt := 282) dX4_behindHour_243 (by decide) ?_ ?_
              · refine sn_iinc (L' := [some (aA a), none, none, some (aI b2), some (aI v233.1), some (aI v110.2.1), some (aJ (lOr v65.2.2.1 (lShl (oI2l x91) (4 * v65.2.2.2)))), none, some (aI v65.2.2.2), some (aI x91), some (aI (v233.2 + 1)), some (aI x135), some (aI (oShl 1 ((2 * v65.2.2.2) + v110.2.2))), some (aI v177)]) dX4_behindHour_282 rfl (by decide) rfl ?_
                refine sn_goto (tgt := 110) dX4_behindHour_285 (by decide) ?_
                exact sn_mask (L' := [some (aA a), none, none, some (aI b2), some (aI v233.1), some (aI v110.2.1), some (aJ (lOr v65.2.2.1 (lShl (oI2l x91) (4 * v65.2.2.2)))), none, some (aI v65.2.2.2), some (aI x91), some (aI (v233.2 + 1)), none, none, none]) [true, false, false, true, true, true, true, false, true, true, true, false, false, false] rfl (hnx110 (v233.1, v110.2.1, (v233.2 + 1)) μ233)
              · refine sn_iload dX4_behindHour_246 rfl ?_
                refine sn_iload dX4_behindHour_248 rfl ?_
                refine sn_iconst dX4_behindHour_250 ?_
                refine sn_ixor dX4_behindHour_251 ?_
                refine sn_iand dX4_behindHour_252 ?_
                refine sn_istore (L' := [some (aA a), none, none, some (aI b2), some (aI (oAnd v233.1 (oXor (oShl 1 ((2 * v65.2.2.2) + v110.2.2)) (-1)))), some (aI v110.2.1), some (aJ (lOr v65.2.2.1 (lShl (oI2l x91) (4 * v65.2.2.2)))), none, some (aI v65.2.2.2), some (aI x91), some (aI v233.2), some (aI x135), some (aI (oShl 1 ((2 * v65.2.2.2) + v110.2.2))), some (aI v177)]) dX4_behindHour_253 (by decide) rfl ?_
                refine sn_iload dX4_behindHour_255 rfl ?_
                refine sn_aload_n dX4_behindHour_257 rfl ?_
                refine sn_getI (ci := 4) (j := 11) dX4_behindHour_258 fl_X4_81 rfl (fun x258 => ?_)
                refine sn_icmp_ne (tgt := 278) dX4_behindHour_261 (by decide) ?_ ?_
                · refine sn_iload dX4_behindHour_278 rfl ?_
                  refine sn_istore (L' := [some (aA a), none, none, some (aI b2), some (aI (oAnd v233.1 (oXor (oShl 1 ((2 * v65.2.2.2) + v110.2.2)) (-1)))), some (aI v110.2.1), some (aJ (lOr v65.2.2.1 (lShl (oI2l x91) (4 * v65.2.2.2)))), none, some (aI v65.2.2.2), some (aI x91), some (aI v233.2), some (aI x135), some (aI (oShl 1 ((2 * v65.2.2.2) + v110.2.2))), some (aI v177)]) dX4_behindHour_280 (by decide) rfl ?_
                  refine sn_iinc (L' := [some (aA a), none, none, some (aI b2), some (aI (oAnd v233.1 (oXor (oShl 1 ((2 * v65.2.2.2) + v110.2.2)) (-1)))), some (aI v110.2.1), some (aJ (lOr v65.2.2.1 (lShl (oI2l x91) (4 * v65.2.2.2)))), none, some (aI v65.2.2.2), some (aI x91), some (aI (v233.2 + 1)), some (aI x135), some (aI (oShl 1 ((2 * v65.2.2.2) + v110.2.2))), some (aI v177)]) dX4_behindHour_282 rfl (by decide) rfl ?_
                  refine sn_goto (tgt := 110) dX4_behindHour_285 (by decide) ?_
                  exact sn_mask (L' := [some (aA a), none, none, some (aI b2), some (aI (oAnd v233.1 (oXor (oShl 1 ((2 * v65.2.2.2) + v110.2.2)) (-1)))), some (aI v110.2.1), some (aJ (lOr v65.2.2.1 (lShl (oI2l x91) (4 * v65.2.2.2)))), none, some (aI v65.2.2.2), some (aI x91), some (aI (v233.2 + 1)), none, none, none]) [true, false, false, true, true, true, true, false, true, true, true, false, false, false] rfl (hnx110 ((oAnd v233.1 (oXor (oShl 1 ((2 * v65.2.2.2) + v110.2.2)) (-1))), v110.2.1, (v233.2 + 1)) μ233)
                · refine sn_iload dX4_behindHour_264 rfl ?_
                  refine sn_iconst dX4_behindHour_266 ?_
                  refine sn_iadd dX4_behindHour_267 ?_
                  refine sn_aload_n dX4_behindHour_268 rfl ?_
                  refine sn_getI (ci := 4) (j := 12) dX4_behindHour_269 fl_X4_84 rfl (fun x269 => ?_)
                  refine sn_mMin dX4_behindHour_272 ml_X4_167 (by decide) (by decide) (Nat.le_of_ble_eq_true rfl) ?_
                  refine sn_goto (tgt := 280) dX4_behindHour_275 (by decide) ?_
                  refine sn_istore (L' := [some (aA a), none, none, some (aI b2), some (aI (oAnd v233.1 (oXor (oShl 1 ((2 * v65.2.2.2) + v110.2.2)) (-1)))), some (aI (mMin (v110.2.1 + 1) x269)), some (aJ (lOr v65.2.2.1 (lShl (oI2l x91) (4 * v65.2.2.2)))), none, some (aI v65.2.2.2), some (aI x91), some (aI v233.2), some (aI x135), some (aI (oShl 1 ((2 * v65.2.2.2) + v110.2.2))), some (aI v177)]) dX4_behindHour_280 (by decide) rfl ?_
                  refine sn_iinc (L' := [some (aA a), none, none, some (aI b2), some (aI (oAnd v233.1 (oXor (oShl 1 ((2 * v65.2.2.2) + v110.2.2)) (-1)))), some (aI (mMin (v110.2.1 + 1) x269)), some (aJ (lOr v65.2.2.1 (lShl (oI2l x91) (4 * v65.2.2.2)))), none, some (aI v65.2.2.2), some (aI x91), some (aI (v233.2 + 1)), some (aI x135), some (aI (oShl 1 ((2 * v65.2.2.2) + v110.2.2))), some (aI v177)]) dX4_behindHour_282 rfl (by decide) rfl ?_
                  refine sn_goto (tgt := 110) dX4_behindHour_285 (by decide) ?_
                  exact sn_mask (L' := [some (aA a), none, none, some (aI b2), some (aI (oAnd v233.1 (oXor (oShl 1 ((2 * v65.2.2.2) + v110.2.2)) (-1)))), some (aI (mMin (v110.2.1 + 1) x269)), some (aJ (lOr v65.2.2.1 (lShl (oI2l x91) (4 * v65.2.2.2)))), none, some (aI v65.2.2.2), some (aI x91), some (aI (v233.2 + 1)), none, none, none]) [true, false, false, true, true, true, true, false, true, true, true, false, false, false] rfl (hnx110 ((oAnd v233.1 (oXor (oShl 1 ((2 * v65.2.2.2) + v110.2.2)) (-1))), (mMin (v110.2.1 + 1) x269), (v233.2 + 1)) μ233)
          intro j233 hj233
          refine sn_if_ne (tgt := 233) dX4_behindHour_184 (by decide) ?_ ?_
          · exact hj233 (v110.1, v110.2.2) μ177
          · refine sn_iload dX4_behindHour_187 rfl ?_
            refine sn_aload_n dX4_behindHour_189 rfl ?_
            refine sn_getA (ci := 4) (j := 10) dX4_behindHour_190 fl_X4_40 (by decide) (fun x190 => ?_)
            refine sn_getA (ci := 1) (j := 7) dX4_behindHour_193 fl_X4_164 (by decide) (fun x193 => ?_)
            refine sn_iload dX4_behindHour_196 rfl ?_
            refine sn_iald dX4_behindHour_198 (fun x198 => ?_)
            refine sn_icmp_lt (tgt := 233) dX4_behindHour_199 (by decide) ?_ ?_
            · exact hj233 (v110.1, v110.2.2) μ177
            · refine sn_aload_n dX4_behindHour_202 rfl ?_
              refine sn_getA (ci := 4) (j := 9) dX4_behindHour_203 fl_X4_37 (by decide) (fun x203 => ?_)
              refine sn_iload dX4_behindHour_206 rfl ?_
              refine sn_iald dX4_behindHour_208 (fun x208 => ?_)
              refine sn_if_le (tgt := 233) dX4_behindHour_209 (by decide) ?_ ?_
              · exact hj233 (v110.1, v110.2.2) μ177
              · refine sn_iload dX4_behindHour_212 rfl ?_
                refine sn_iload dX4_behindHour_214 rfl ?_
                refine sn_ior dX4_behindHour_216 ?_
                refine sn_istore (L' := [some (aA a), none, none, some (aI b2), some (aI (oOr v110.1 (oShl 1 ((2 * v65.2.2.2) + v110.2.2)))), some (aI v110.2.1), some (aJ (lOr v65.2.2.1 (lShl (oI2l x91) (4 * v65.2.2.2)))), none, some (aI v65.2.2.2), some (aI x91), some (aI v110.2.2), some (aI x135), some (aI (oShl 1 ((2 * v65.2.2.2) + v110.2.2))), some (aI v177)]) dX4_behindHour_217 (by decide) rfl ?_
                refine sn_aload_n dX4_behindHour_219 rfl ?_
                refine sn_getA (ci := 4) (j := 9) dX4_behindHour_220 fl_X4_37 (by decide) (fun x220 => ?_)
                refine sn_iload dX4_behindHour_223 rfl ?_
                refine sn_dup2 dX4_behindHour_225 rfl rfl ?_
                refine sn_iald dX4_behindHour_226 (fun x226 => ?_)
                refine sn_iconst dX4_behindHour_227 ?_
                refine sn_isub dX4_behindHour_228 ?_
                refine sn_iast dX4_behindHour_229 (fun μ229 => ?_)
                refine sn_goto (tgt := 282) dX4_behindHour_230 (by decide) ?_
                refine sn_iinc (L' := [some (aA a), none, none, some (aI b2), some (aI (oOr v110.1 (oShl 1 ((2 * v65.2.2.2) + v110.2.2)))), some (aI v110.2.1), some (aJ (lOr v65.2.2.1 (lShl (oI2l x91) (4 * v65.2.2.2)))), none, some (aI v65.2.2.2), some (aI x91), some (aI (v110.2.2 + 1)), some (aI x135), some (aI (oShl 1 ((2 * v65.2.2.2) + v110.2.2))), some (aI v177)]) dX4_behindHour_282 rfl (by decide) rfl ?_
                refine sn_goto (tgt := 110) dX4_behindHour_285 (by decide) ?_
                exact sn_mask (L' := [some (aA a), none, none, some (aI b2), some (aI (oOr v110.1 (oShl 1 ((2 * v65.2.2.2) + v110.2.2)))), some (aI v110.2.1), some (aJ (lOr v65.2.2.1 (lShl (oI2l x91) (4 * v65.2.2.2)))), none, some (aI v65.2.2.2), some (aI x91), some (aI (v110.2.2 + 1)), none, none, none]) [true, false, false, true, true, true, true, false, true, true, true, false, false, false] rfl (hnx110 ((oOr v110.1 (oShl 1 ((2 * v65.2.2.2) + v110.2.2))), v110.2.1, (v110.2.2 + 1)) μ229)
        intro j177 hj177
        refine sn_if_ne (tgt := 159) dX4_behindHour_151 (by decide) ?_ ?_
        · refine sn_aload_n dX4_behindHour_159 rfl ?_
          refine sn_getA (ci := 4) (j := 10) dX4_behindHour_160 fl_X4_40 (by decide) (fun x160 => ?_)
          refine sn_getA (ci := 1) (j := 12) dX4_behindHour_163 fl_X4_161 (by decide) (fun x163 => ?_)
          refine sn_aload_n dX4_behindHour_166 rfl ?_
          refine sn_getA (ci := 4) (j := 2) dX4_behindHour_167 fl_X4_21 (by decide) (fun x167 => ?_)
          refine sn_iload dX4_behindHour_170 rfl ?_
          refine sn_iald dX4_behindHour_172 (fun x172 => ?_)
          refine sn_iald dX4_behindHour_173 (fun x173 => ?_)
          refine sn_iload dX4_behindHour_174 rfl ?_
          refine sn_isub dX4_behindHour_176 ?_
          exact hj177 (x173 - x91) μ110
        · refine sn_iload dX4_behindHour_154 rfl ?_
          refine sn_goto (tgt := 177) dX4_behindHour_156 (by decide) ?_
          exact hj177 x91 μ110
  · refine sn_aload_n dX4_behindHour_15 rfl ?_
    refine sn_getA (ci := 4) (j := 9) dX4_behindHour_16 fl_X4_37 (by decide) (fun x16 => ?_)
    refine sn_iload dX4_behindHour_19 rfl ?_
    refine sn_lload_n dX4_behindHour_21 rfl ?_
    refine sn_bipush dX4_behindHour_22 (by decide) ?_
    refine sn_bipush dX4_behindHour_24 (by decide) ?_
    refine sn_iload dX4_behindHour_26 rfl ?_
    refine sn_imul dX4_behindHour_28 ?_
    refine sn_iadd dX4_behindHour_29 ?_
    refine sn_lushr dX4_behindHour_30 ?_
    refine sn_l2i dX4_behindHour_31 ?_
    refine sn_bipush dX4_behindHour_32 (by decide) ?_
    refine sn_iand dX4_behindHour_34 ?_
    refine sn_iast dX4_behindHour_35 (fun μ35 => ?_)
    refine sn_iinc (L' := [some (aA a), some (aJ b1), none, some (aI b2), some (aI (v3 + 1)), none, none, none, none, none, none, none, none, none]) dX4_behindHour_36 rfl (by decide) rfl ?_
    refine sn_goto (tgt := 3) dX4_behindHour_39 (by decide) ?_
    exact hnx3 (v3 + 1) μ35
