/-! layer 1: top2 -/
theorem dX10_init_0 : decode cX10_init 0 = .ok (.aload_n 0, 1) := by decide +kernel
theorem dX10_init_1 : decode cX10_init 1 = .ok (.invokespecial 1, 3) := by decide +kernel
theorem dX10_init_4 : decode cX10_init 4 = .ok (.aload_n 0, 1) := by decide +kernel
theorem dX10_init_5 : decode cX10_init 5 = .ok (.new 7, 3) := by decide +kernel
theorem dX10_init_8 : decode cX10_init 8 = .ok (.dup, 1) := by decide +kernel
theorem dX10_init_9 : decode cX10_init 9 = .ok (.invokespecial 9, 3) := by decide +kernel
theorem dX10_init_12 : decode cX10_init 12 = .ok (.putfield 10, 3) := by decide +kernel
theorem dX10_init_15 : decode cX10_init 15 = .ok (.aload_n 0, 1) := by decide +kernel
theorem dX10_init_16 : decode cX10_init 16 = .ok (.new 16, 3) := by decide +kernel
theorem dX10_init_19 : decode cX10_init 19 = .ok (.dup, 1) := by decide +kernel
theorem dX10_init_20 : decode cX10_init 20 = .ok (.invokespecial 18, 3) := by decide +kernel
theorem dX10_init_23 : decode cX10_init 23 = .ok (.putfield 19, 3) := by decide +kernel
theorem dX10_init_26 : decode cX10_init 26 = .ok (.aload_n 0, 1) := by decide +kernel
theorem dX10_init_27 : decode cX10_init 27 = .ok (.new 16, 3) := by decide +kernel
theorem dX10_init_30 : decode cX10_init 30 = .ok (.dup, 1) := by decide +kernel
theorem dX10_init_31 : decode cX10_init 31 = .ok (.invokespecial 18, 3) := by decide +kernel
theorem dX10_init_34 : decode cX10_init 34 = .ok (.putfield 23, 3) := by decide +kernel
theorem dX10_init_37 : decode cX10_init 37 = .ok (.aload_n 0, 1) := by decide +kernel
theorem dX10_init_38 : decode cX10_init 38 = .ok (.iconst 2, 1) := by decide +kernel
theorem dX10_init_39 : decode cX10_init 39 = .ok (.anewarray 16, 3) := by decide +kernel
theorem dX10_init_42 : decode cX10_init 42 = .ok (.putfield 26, 3) := by decide +kernel
theorem dX10_init_45 : decode cX10_init 45 = .ok (.aload_n 0, 1) := by decide +kernel
theorem dX10_init_46 : decode cX10_init 46 = .ok (.iconst 2, 1) := by decide +kernel
theorem dX10_init_47 : decode cX10_init 47 = .ok (.newarray .boolean, 2) := by decide +kernel
theorem dX10_init_49 : decode cX10_init 49 = .ok (.putfield 30, 3) := by decide +kernel
theorem dX10_init_52 : decode cX10_init 52 = .ok (.aload_n 0, 1) := by decide +kernel
theorem dX10_init_53 : decode cX10_init 53 = .ok (.iconst 4, 1) := by decide +kernel
theorem dX10_init_54 : decode cX10_init 54 = .ok (.anewarray 34, 3) := by decide +kernel
theorem dX10_init_57 : decode cX10_init 57 = .ok (.putfield 36, 3) := by decide +kernel
theorem dX10_init_60 : decode cX10_init 60 = .ok (.aload_n 0, 1) := by decide +kernel
theorem dX10_init_61 : decode cX10_init 61 = .ok (.new 40, 3) := by decide +kernel
theorem dX10_init_64 : decode cX10_init 64 = .ok (.dup, 1) := by decide +kernel
theorem dX10_init_65 : decode cX10_init 65 = .ok (.invokespecial 42, 3) := by decide +kernel
theorem dX10_init_68 : decode cX10_init 68 = .ok (.putfield 43, 3) := by decide +kernel
theorem dX10_init_71 : decode cX10_init 71 = .ok (.aload_n 0, 1) := by decide +kernel
theorem dX10_init_72 : decode cX10_init 72 = .ok (.new 47, 3) := by decide +kernel
theorem dX10_init_75 : decode cX10_init 75 = .ok (.dup, 1) := by decide +kernel
theorem dX10_init_76 : decode cX10_init 76 = .ok (.invokespecial 49, 3) := by decide +kernel
theorem dX10_init_79 : decode cX10_init 79 = .ok (.putfield 50, 3) := by decide +kernel
theorem dX10_init_82 : decode cX10_init 82 = .ok (.aload_n 0, 1) := by decide +kernel
theorem dX10_init_83 : decode cX10_init 83 = .ok (.new 54, 3) := by decide +kernel
theorem dX10_init_86 : decode cX10_init 86 = .ok (.dup, 1) := by decide +kernel
theorem dX10_init_87 : decode cX10_init 87 = .ok (.invokespecial 56, 3) := by decide +kernel
theorem dX10_init_90 : decode cX10_init 90 = .ok (.putfield 57, 3) := by decide +kernel
theorem dX10_init_93 : decode cX10_init 93 = .ok (.aload_n 0, 1) := by decide +kernel
theorem dX10_init_94 : decode cX10_init 94 = .ok (.new 61, 3) := by decide +kernel
theorem dX10_init_97 : decode cX10_init 97 = .ok (.dup, 1) := by decide +kernel
theorem dX10_init_98 : decode cX10_init 98 = .ok (.invokespecial 63, 3) := by decide +kernel
theorem dX10_init_101 : decode cX10_init 101 = .ok (.putfield 64, 3) := by decide +kernel
theorem dX10_init_104 : decode cX10_init 104 = .ok (.aload_n 0, 1) := by decide +kernel
theorem dX10_init_105 : decode cX10_init 105 = .ok (.new 68, 3) := by decide +kernel
theorem dX10_init_108 : decode cX10_init 108 = .ok (.dup, 1) := by decide +kernel
theorem dX10_init_109 : decode cX10_init 109 = .ok (.invokespecial 70, 3) := by decide +kernel
theorem dX10_init_112 : decode cX10_init 112 = .ok (.putfield 71, 3) := by decide +kernel
theorem dX10_init_115 : decode cX10_init 115 = .ok (.iconst 0, 1) := by decide +kernel
theorem dX10_init_116 : decode cX10_init 116 = .ok (.istore_n 1, 1) := by decide +kernel
theorem dX10_init_117 : decode cX10_init 117 = .ok (.iload_n 1, 1) := by decide +kernel
theorem dX10_init_118 : decode cX10_init 118 = .ok (.iconst 2, 1) := by decide +kernel
theorem dX10_init_119 : decode cX10_init 119 = .ok (.if_icmp .ge 22, 3) := by decide +kernel
theorem dX10_init_122 : decode cX10_init 122 = .ok (.aload_n 0, 1) := by decide +kernel
theorem dX10_init_123 : decode cX10_init 123 = .ok (.getfield 26, 3) := by decide +kernel
theorem dX10_init_126 : decode cX10_init 126 = .ok (.iload_n 1, 1) := by decide +kernel
theorem dX10_init_127 : decode cX10_init 127 = .ok (.new 16, 3) := by decide +kernel
theorem dX10_init_130 : decode cX10_init 130 = .ok (.dup, 1) := by decide +kernel
theorem dX10_init_131 : decode cX10_init 131 = .ok (.invokespecial 18, 3) := by decide +kernel
theorem dX10_init_134 : decode cX10_init 134 = .ok (.aastore, 1) := by decide +kernel
theorem dX10_init_135 : decode cX10_init 135 = .ok (.iinc 1 1, 3) := by decide +kernel
theorem dX10_init_138 : decode cX10_init 138 = .ok (.goto (-21), 3) := by decide +kernel
theorem dX10_init_141 : decode cX10_init 141 = .ok (.iconst 0, 1) := by decide +kernel
theorem dX10_init_142 : decode cX10_init 142 = .ok (.istore_n 1, 1) := by decide +kernel
theorem dX10_init_143 : decode cX10_init 143 = .ok (.iload_n 1, 1) := by decide +kernel
theorem dX10_init_144 : decode cX10_init 144 = .ok (.iconst 4, 1) := by decide +kernel
theorem dX10_init_145 : decode cX10_init 145 = .ok (.if_icmp .ge 22, 3) := by decide +kernel
theorem dX10_init_148 : decode cX10_init 148 = .ok (.aload_n 0, 1) := by decide +kernel
theorem dX10_init_149 : decode cX10_init 149 = .ok (.getfield 36, 3) := by decide +kernel
theorem dX10_init_152 : decode cX10_init 152 = .ok (.iload_n 1, 1) := by decide +kernel
theorem dX10_init_153 : decode cX10_init 153 = .ok (.new 34, 3) := by decide +kernel
theorem dX10_init_156 : decode cX10_init 156 = .ok (.dup, 1) := by decide +kernel
theorem dX10_init_157 : decode cX10_init 157 = .ok (.invokespecial 75, 3) := by decide +kernel
theorem dX10_init_160 : decode cX10_init 160 = .ok (.aastore, 1) := by decide +kernel
theorem dX10_init_161 : decode cX10_init 161 = .ok (.iinc 1 1, 3) := by decide +kernel
theorem dX10_init_164 : decode cX10_init 164 = .ok (.goto (-21), 3) := by decide +kernel
theorem dX10_init_167 : decode cX10_init 167 = .ok (.return_, 1) := by decide +kernel
def mX10_init (n : Nat) (a : Nat) (μ : Mem) : Option (Unit × Mem) :=
  inv μ 11 a
  ((nwO μ 9 9).bind fun p5 =>
  if p5.1 = 0 then none else (mX8_init n p5.1 p5.2).bind fun p9 =>
  (pA p9.2 11 a 0 p5.1).bind fun μ12 =>
  (nwO μ12 2 18).bind fun p16 =>
  if p16.1 = 0 then none else (mX1_init n p16.1 p16.2).bind fun p20 =>
  (pA p20.2 11 a 1 p16.1).bind fun μ23 =>
  (nwO μ23 2 18).bind fun p27 =>
  if p27.1 = 0 then none else (mX1_init n p27.1 p27.2).bind fun p31 =>
  (pA p31.2 11 a 2 p27.1).bind fun μ34 =>
  (nwA μ34 4 2).bind fun p39 =>
  (pA p39.2 11 a 3 p39.1).bind fun μ42 =>
  (nwA μ42 2 2).bind fun p47 =>
  (pA p47.2 11 a 4 p47.1).bind fun μ49 =>
  (nwA μ49 5 4).bind fun p54 =>
  (pA p54.2 11 a 5 p54.1).bind fun μ57 =>
  (nwO μ57 8 8).bind fun p61 =>
  if p61.1 = 0 then none else (mX7_init n p61.1 p61.2).bind fun p65 =>
  (pA p65.2 11 a 6 p61.1).bind fun μ68 =>
  (nwO μ68 10 2).bind fun p72 =>
  if p72.1 = 0 then none else (mX9_init n p72.1 p72.2).bind fun p76 =>
  (pA p76.2 11 a 7 p72.1).bind fun μ79 =>
  (nwO μ79 3 7).bind fun p83 =>
  if p83.1 = 0 then none else (mX2_init n p83.1 p83.2).bind fun p87 =>
  (pA p87.2 11 a 8 p83.1).bind fun μ90 =>
  (nwO μ90 1 6).bind fun p94 =>
  if p94.1 = 0 then none else (mX0_init n p94.1 p94.2).bind fun p98 =>
  (pA p98.2 11 a 9 p94.1).bind fun μ101 =>
  (nwO μ101 6 4).bind fun p105 =>
  if p105.1 = 0 then none else (mX5_init n p105.1 p105.2).bind fun p109 =>
  (pA p109.2 11 a 10 p105.1).bind fun μ112 =>
  lp (fun nx117 (v117 : Int) (μ117 : Mem) =>
  if lt32 v117 2 then
    (gA μ117 11 a 3).bind fun x123 =>
    (nwO μ117 2 18).bind fun p127 =>
    if p127.1 = 0 then none else (mX1_init n p127.1 p127.2).bind fun p131 =>
    (stA p131.2 2 4 x123 v117 p127.1).bind fun μ134 =>
    nx117 (v117 + 1) μ134
  else
  lp (fun nx143 (v143 : Int) (μ143 : Mem) =>
  if lt32 v143 4 then
    (gA μ143 11 a 5).bind fun x149 =>
    (nwO μ143 4 3).bind fun p153 =>
    if p153.1 = 0 then none else (mX3_init n p153.1 p153.2).bind fun p157 =>
    (stA p157.2 4 5 x149 v143 p153.1).bind fun μ160 =>
    nx143 (v143 + 1) μ160
  else
  some ((), μ143)) n 0 μ117) n 0 μ112)
set_option maxRecDepth 100000 in
set_option maxHeartbeats 4000000 in
theorem cX10_init_ok (n : Nat) (a : Nat) (μ : Mem) : Mc yX10_init cX10_init 2 none 3 61 eV [aA a] μ (mX10_init n a μ) := by
  refine mc_of (L0 := [some (aA a), none]) (k := 1) (by decide) rfl rfl (fun X Γ => ?_)
  unfold mX10_init
  refine sn_aload_n dX10_init_0 rfl ?_
  refine sn_objInit (ci := 10) dX10_init_1 (by decide) ml_X10_1 im_obj co_obj (by decide) (by decide) (Nat.le_of_ble_eq_true rfl) ?_
  refine sn_aload_n dX10_init_4 rfl ?_
  refine sn_new (ci := 8) dX10_init_5 rfl cl_X10_7 is_8 in_X8 (fun p5 => ?_)
  refine sn_dup dX10_init_8 rfl ?_
  refine sn_callN (vs := []) (cX8_init_ok n p5.1 p5.2) dX10_init_9 cw_X10_9 rfl rfl (by decide) (by decide) (Nat.le_of_ble_eq_true rfl) (fun p9 => ?_)
  refine sn_putA (ci := 10) (j := 0) dX10_init_12 fl_X10_10 (Or.inl ⟨_, rfl⟩) (Or.inr ⟨rfl, fun q h => by cases h; exact ⟨rfl, rfl⟩⟩) (fun μ12 => ?_)
  refine sn_aload_n dX10_init_15 rfl ?_
  refine sn_new (ci := 1) dX10_init_16 rfl cl_X10_16 is_1 in_X1 (fun p16 => ?_)
  refine sn_dup dX10_init_19 rfl ?_
  refine sn_callI (vs := []) (cX1_init_ok n p16.1 p16.2) dX10_init_20 cw_X10_18 rfl rfl (by decide) (by decide) (Nat.le_of_ble_eq_true rfl) (fun p20 => ?_)
  refine sn_putA (ci := 10) (j := 1) dX10_init_23 fl_X10_19 (Or.inl ⟨_, rfl⟩) (Or.inr ⟨rfl, fun q h => by cases h; exact ⟨rfl, rfl⟩⟩) (fun μ23 => ?_)
  refine sn_aload_n dX10_init_26 rfl ?_
  refine sn_new (ci := 1) dX10_init_27 rfl cl_X10_16 is_1 in_X1 (fun p27 => ?_)
  refine sn_dup dX10_init_30 rfl ?_
  refine sn_callI (vs := []) (cX1_init_ok n p27.1 p27.2) dX10_init_31 cw_X10_18 rfl rfl (by decide) (by decide) (Nat.le_of_ble_eq_true rfl) (fun p31 => ?_)
  refine sn_putA (ci := 10) (j := 2) dX10_init_34 fl_X10_23 (Or.inl ⟨_, rfl⟩) (Or.inr ⟨rfl, fun q h => by cases h; exact ⟨rfl, rfl⟩⟩) (fun μ34 => ?_)
  refine sn_aload_n dX10_init_37 rfl ?_
  refine sn_iconst dX10_init_38 ?_
  refine sn_anew (t := 4) dX10_init_39 (by decide) rfl (by decide) cl_X10_16 (fun p39 => ?_)
  refine sn_putA (ci := 10) (j := 3) dX10_init_42 fl_X10_26 (Or.inr ⟨_, rfl⟩) (Or.inr ⟨rfl, fun q h => by cases h; exact ⟨rfl, rfl⟩⟩) (fun μ42 => ?_)
  refine sn_aload_n dX10_init_45 rfl ?_
  refine sn_iconst dX10_init_46 ?_
  refine sn_newa (t := 2) dX10_init_47 (by decide) rfl ac_2 (fun p47 => ?_)
  refine sn_putA (ci := 10) (j := 4) dX10_init_49 fl_X10_30 (Or.inr ⟨_, rfl⟩) (Or.inr ⟨rfl, fun q h => by cases h; exact ⟨rfl, rfl⟩⟩) (fun μ49 => ?_)
  refine sn_aload_n dX10_init_52 rfl ?_
  refine sn_iconst dX10_init_53 ?_
  refine sn_anew (t := 5) dX10_init_54 (by decide) rfl (by decide) cl_X10_34 (fun p54 => ?_)
  refine sn_putA (ci := 10) (j := 5) dX10_init_57 fl_X10_36 (Or.inr ⟨_, rfl⟩) (Or.inr ⟨rfl, fun q h => by cases h; exact ⟨rfl, rfl⟩⟩) (fun μ57 => ?_)
  refine sn_aload_n dX10_init_60 rfl ?_
  refine sn_new (ci := 7) dX10_init_61 rfl cl_X10_40 is_7 in_X7 (fun p61 => ?_)
  refine sn_dup dX10_init_64 rfl ?_
  refine sn_callN (vs := []) (cX7_init_ok n p61.1 p61.2) dX10_init_65 cw_X10_42 rfl rfl (by decide) (by decide) (Nat.le_of_ble_eq_true rfl) (fun p65 => ?_)
  refine sn_putA (ci := 10) (j := 6) dX10_init_68 fl_X10_43 (Or.inl ⟨_, rfl⟩) (Or.inr ⟨rfl, fun q h => by cases h; exact ⟨rfl, rfl⟩⟩) (fun μ68 => ?_)
  refine sn_aload_n dX10_init_71 rfl ?_
  refine sn_new (ci := 9) dX10_init_72 rfl cl_X10_47 is_9 in_X9 (fun p72 => ?_)
  refine sn_dup dX10_init_75 rfl ?_
  refine sn_callN (vs := []) (cX9_init_ok n p72.1 p72.2) dX10_init_76 cw_X10_49 rfl rfl (by decide) (by decide) (Nat.le_of_ble_eq_true rfl) (fun p76 => ?_)
  refine sn_putA (ci := 10) (j := 7) dX10_init_79 fl_X10_50 (Or.inl ⟨_, rfl⟩) (Or.inr ⟨rfl, fun q h => by cases h; exact ⟨rfl, rfl⟩⟩) (fun μ79 => ?_)
  refine sn_aload_n dX10_init_82 rfl ?_
  refine sn_new (ci := 2) dX10_init_83 rfl cl_X10_54 is_2 in_X2 (fun p83 => ?_)
  refine sn_dup dX10_init_86 rfl ?_
  refine sn_callI (vs := []) (cX2_init_ok n p83.1 p83.2) dX10_init_87 cw_X10_56 rfl rfl (by decide) (by decide) (Nat.le_of_ble_eq_true rfl) (fun p87 => ?_)
  refine sn_putA (ci := 10) (j := 8) dX10_init_90 fl_X10_57 (Or.inl ⟨_, rfl⟩) (Or.inr ⟨rfl, fun q h => by cases h; exact ⟨rfl, rfl⟩⟩) (fun μ90 => ?_)
  refine sn_aload_n dX10_init_93 rfl ?_
  refine sn_new (ci := 0) dX10_init_94 rfl cl_X10_61 is_0 in_X0 (fun p94 => ?_)
  refine sn_dup dX10_init_97 rfl ?_
  refine sn_callN (vs := []) (cX0_init_ok n p94.1 p94.2) dX10_init_98 cw_X10_63 rfl rfl (by decide) (by decide) (Nat.le_of_ble_eq_true rfl) (fun p98 => ?_)
  refine sn_putA (ci := 10) (j := 9) dX10_init_101 fl_X10_64 (Or.inl ⟨_, rfl⟩) (Or.inr ⟨rfl, fun q h => by cases h; exact ⟨rfl, rfl⟩⟩) (fun μ101 => ?_)
  refine sn_aload_n dX10_init_104 rfl ?_
  refine sn_new (ci := 5) dX10_init_105 rfl cl_X10_68 is_5 in_X5 (fun p105 => ?_)
  refine sn_dup dX10_init_108 rfl ?_
  refine sn_callN (vs := []) (cX5_init_ok n p105.1 p105.2) dX10_init_109 cw_X10_70 rfl rfl (by decide) (by decide) (Nat.le_of_ble_eq_true rfl) (fun p109 => ?_)
  refine sn_putA (ci := 10) (j := 10) dX10_init_112 fl_X10_71 (Or.inl ⟨_, rfl⟩) (Or.inr ⟨rfl, fun q h => by cases h; exact ⟨rfl, rfl⟩⟩) (fun μ112 => ?_)
  refine sn_iconst dX10_init_115 ?_
  refine sn_istore_n (L' := [some (aA a), some (aI 0)]) dX10_init_116 (by decide) rfl ?_
  refine sn_lp (La := fun v117 : Int => [some (aA a), some (aI v117)]) ?_ n 0 μ112
  intro nx117 hnx117 v117 μ117
  refine sn_iload_n dX10_init_117 rfl ?_
  refine sn_iconst dX10_init_118 ?_
  refine sn_icmp_ge (tgt := 141) dX10_init_119 (by decide) ?_ ?_
  · refine sn_iconst dX10_init_141 ?_
    refine sn_istore_n (L' := [some (aA a), some (aI 0)]) dX10_init_142 (by decide) rfl ?_
    refine sn_lp (La := fun v143 : Int => [some (aA a), some (aI v143)]) ?_ n 0 μ117
    intro nx143 hnx143 v143 μ143
    refine sn_iload_n dX10_init_143 rfl ?_
    refine sn_iconst dX10_init_144 ?_
    refine sn_icmp_ge (tgt := 167) dX10_init_145 (by decide) ?_ ?_
    · exact sn_vret dX10_init_167
    · refine sn_aload_n dX10_init_148 rfl ?_
      refine sn_getA (ci := 10) (j := 5) dX10_init_149 fl_X10_36 (by decide) (fun x149 => ?_)
      refine sn_iload_n dX10_init_152 rfl ?_
      refine sn_new (ci := 3) dX10_init_153 rfl cl_X10_34 is_3 in_X3 (fun p153 => ?_)
      refine sn_dup dX10_init_156 rfl ?_
      refine sn_callN (vs := []) (cX3_init_ok n p153.1 p153.2) dX10_init_157 cw_X10_75 rfl rfl (by decide) (by decide) (Nat.le_of_ble_eq_true rfl) (fun p157 => ?_)
      refine sn_aast5 dX10_init_160 (fun μ160 => ?_)
      refine sn_iinc (L' := [some (aA a), some (aI (v143 + 1))]) dX10_init_161 rfl (by decide) rfl ?_
      refine sn_goto (tgt := 143) dX10_init_164 (by decide) ?_
      exact hnx143 (v143 + 1) μ160
  · refine sn_aload_n dX10_init_122 rfl ?_
    refine sn_getA (ci := 10) (j := 3) dX10_init_123 fl_X10_26 (by decide) (fun x123 => ?_)
    refine sn_iload_n dX10_init_126 rfl ?_
    refine sn_new (ci := 1) dX10_init_127 rfl cl_X10_16 is_1 in_X1 (fun p127 => ?_)
    refine sn_dup dX10_init_130 rfl ?_
    refine sn_callI (vs := []) (cX1_init_ok n p127.1 p127.2) dX10_init_131 cw_X10_18 rfl rfl (by decide) (by decide) (Nat.le_of_ble_eq_true rfl) (fun p131 => ?_)
    refine sn_aast4 dX10_init_134 (fun μ134 => ?_)
    refine sn_iinc (L' := [some (aA a), some (aI (v117 + 1))]) dX10_init_135 rfl (by decide) rfl ?_
    refine sn_goto (tgt := 117) dX10_init_138 (by decide) ?_
    exact hnx117 (v117 + 1) μ134
theorem dX10_judge_0 : decode cX10_judge 0 = .ok (.iload_n 1, 1) := by decide +kernel
theorem dX10_judge_1 : decode cX10_judge 1 = .ok (.invokestatic 166, 3) := by decide +kernel
theorem dX10_judge_4 : decode cX10_judge 4 = .ok (.ifCond .eq 12, 3) := by decide +kernel
theorem dX10_judge_7 : decode cX10_judge 7 = .ok (.iload_n 2, 1) := by decide +kernel
theorem dX10_judge_8 : decode cX10_judge 8 = .ok (.ifCond .lt 8, 3) := by decide +kernel
theorem dX10_judge_11 : decode cX10_judge 11 = .ok (.iload_n 2, 1) := by decide +kernel
theorem dX10_judge_12 : decode cX10_judge 12 = .ok (.iconst 4, 1) := by decide +kernel
theorem dX10_judge_13 : decode cX10_judge 13 = .ok (.if_icmp .le 6, 3) := by decide +kernel
theorem dX10_judge_16 : decode cX10_judge 16 = .ok (.bipush (-2), 2) := by decide +kernel
theorem dX10_judge_18 : decode cX10_judge 18 = .ok (.ireturn, 1) := by decide +kernel
theorem dX10_judge_19 : decode cX10_judge 19 = .ok (.aload_n 0, 1) := by decide +kernel
theorem dX10_judge_20 : decode cX10_judge 20 = .ok (.getfield 36, 3) := by decide +kernel
theorem dX10_judge_23 : decode cX10_judge 23 = .ok (.iload_n 1, 1) := by decide +kernel
theorem dX10_judge_24 : decode cX10_judge 24 = .ok (.aaload, 1) := by decide +kernel
theorem dX10_judge_25 : decode cX10_judge 25 = .ok (.invokevirtual 169, 3) := by decide +kernel
theorem dX10_judge_28 : decode cX10_judge 28 = .ok (.ifCond .eq 6, 3) := by decide +kernel
theorem dX10_judge_31 : decode cX10_judge 31 = .ok (.bipush (-6), 2) := by decide +kernel
theorem dX10_judge_33 : decode cX10_judge 33 = .ok (.ireturn, 1) := by decide +kernel
theorem dX10_judge_34 : decode cX10_judge 34 = .ok (.aload_n 0, 1) := by decide +kernel
theorem dX10_judge_35 : decode cX10_judge 35 = .ok (.getfield 23, 3) := by decide +kernel
theorem dX10_judge_38 : decode cX10_judge 38 = .ok (.aload_n 0, 1) := by decide +kernel
theorem dX10_judge_39 : decode cX10_judge 39 = .ok (.getfield 19, 3) := by decide +kernel
theorem dX10_judge_42 : decode cX10_judge 42 = .ok (.invokevirtual 91, 3) := by decide +kernel
theorem dX10_judge_45 : decode cX10_judge 45 = .ok (.aload_n 0, 1) := by decide +kernel
theorem dX10_judge_46 : decode cX10_judge 46 = .ok (.getfield 43, 3) := by decide +kernel
theorem dX10_judge_49 : decode cX10_judge 49 = .ok (.aload_n 0, 1) := by decide +kernel
theorem dX10_judge_50 : decode cX10_judge 50 = .ok (.getfield 23, 3) := by decide +kernel
theorem dX10_judge_53 : decode cX10_judge 53 = .ok (.aload_n 0, 1) := by decide +kernel
theorem dX10_judge_54 : decode cX10_judge 54 = .ok (.getfield 36, 3) := by decide +kernel
theorem dX10_judge_57 : decode cX10_judge 57 = .ok (.iload_n 1, 1) := by decide +kernel
theorem dX10_judge_58 : decode cX10_judge 58 = .ok (.aaload, 1) := by decide +kernel
theorem dX10_judge_59 : decode cX10_judge 59 = .ok (.invokevirtual 173, 3) := by decide +kernel
theorem dX10_judge_62 : decode cX10_judge 62 = .ok (.iload_n 2, 1) := by decide +kernel
theorem dX10_judge_63 : decode cX10_judge 63 = .ok (.tableswitch 61 0 3 #[29, 37, 45, 53], 29) := by decide +kernel
theorem dX10_judge_92 : decode cX10_judge 92 = .ok (.aload_n 0, 1) := by decide +kernel
theorem dX10_judge_93 : decode cX10_judge 93 = .ok (.getfield 43, 3) := by decide +kernel
theorem dX10_judge_96 : decode cX10_judge 96 = .ok (.getfield 177, 3) := by decide +kernel
theorem dX10_judge_99 : decode cX10_judge 99 = .ok (.ireturn, 1) := by decide +kernel
theorem dX10_judge_100 : decode cX10_judge 100 = .ok (.aload_n 0, 1) := by decide +kernel
theorem dX10_judge_101 : decode cX10_judge 101 = .ok (.getfield 43, 3) := by decide +kernel
theorem dX10_judge_104 : decode cX10_judge 104 = .ok (.getfield 180, 3) := by decide +kernel
theorem dX10_judge_107 : decode cX10_judge 107 = .ok (.ireturn, 1) := by decide +kernel
theorem dX10_judge_108 : decode cX10_judge 108 = .ok (.aload_n 0, 1) := by decide +kernel
theorem dX10_judge_109 : decode cX10_judge 109 = .ok (.getfield 43, 3) := by decide +kernel
theorem dX10_judge_112 : decode cX10_judge 112 = .ok (.getfield 183, 3) := by decide +kernel
theorem dX10_judge_115 : decode cX10_judge 115 = .ok (.ireturn, 1) := by decide +kernel
theorem dX10_judge_116 : decode cX10_judge 116 = .ok (.aload_n 0, 1) := by decide +kernel
theorem dX10_judge_117 : decode cX10_judge 117 = .ok (.getfield 43, 3) := by decide +kernel
theorem dX10_judge_120 : decode cX10_judge 120 = .ok (.getfield 159, 3) := by decide +kernel
theorem dX10_judge_123 : decode cX10_judge 123 = .ok (.ireturn, 1) := by decide +kernel
theorem dX10_judge_124 : decode cX10_judge 124 = .ok (.aload_n 0, 1) := by decide +kernel
theorem dX10_judge_125 : decode cX10_judge 125 = .ok (.getfield 43, 3) := by decide +kernel
theorem dX10_judge_128 : decode cX10_judge 128 = .ok (.getfield 186, 3) := by decide +kernel
theorem dX10_judge_131 : decode cX10_judge 131 = .ok (.ireturn, 1) := by decide +kernel
def mX10_judge (n : Nat) (a : Nat) (b1 : Int) (b2 : Int) (μ : Mem) : Option (Int × Mem) :=
  (mX10_isRow n b1 μ).bind fun p1 =>
  if eq32 p1.1 0 then
    some ((-2), p1.2)
  else
  if lt32 b2 0 then
    some ((-2), p1.2)
  else
  if lt32 4 b2 then
    some ((-2), p1.2)
  else
  (gA p1.2 11 a 5).bind fun x20 =>
  (ldA p1.2 5 x20 b1).bind fun x24 =>
  (inv p1.2 4 x24 (mX3_isMissing n x24 p1.2)).bind fun p25 =>
  if eq32 p25.1 0 then
    (gA p25.2 11 a 2).bind fun x35 =>
    (gA p25.2 11 a 1).bind fun x39 =>
    (inv p25.2 2 x35 (mX1_takeAll n x35 x39 p25.2)).bind fun p42 =>
    (gA p42.2 11 a 6).bind fun x46 =>
    (gA p42.2 11 a 2).bind fun x50 =>
    (gA p42.2 11 a 5).bind fun x54 =>
    (ldA p42.2 5 x54 b1).bind fun x58 =>
    (inv p42.2 8 x46 (mX7_doTold n x46 x50 x58 p42.2)).bind fun p59 =>
    if eq32 b2 0 then
      (gA p59.2 11 a 6).bind fun x93 =>
      (gI p59.2 8 x93 0).bind fun x96 =>
      some (x96, p59.2)
    else
    if eq32 b2 1 then
      (gA p59.2 11 a 6).bind fun x101 =>
      (gI p59.2 8 x101 1).bind fun x104 =>
      some (x104, p59.2)
    else
    if eq32 b2 2 then
      (gA p59.2 11 a 6).bind fun x109 =>
      (gI p59.2 8 x109 2).bind fun x112 =>
      some (x112, p59.2)
    else
    if eq32 b2 3 then
      (gA p59.2 11 a 6).bind fun x117 =>
      (gI p59.2 8 x117 3).bind fun x120 =>
      some (x120, p59.2)
    else
    (gA p59.2 11 a 6).bind fun x125 =>
    (gI p59.2 8 x125 4).bind fun x128 =>
    some (x128, p59.2)
  else
  some ((-6), p25.2)
set_option maxRecDepth 100000 in
set_option maxHeartbeats 4000000 in
theorem cX10_judge_ok (n : Nat) (a : Nat) (b1 : Int) (b2 : Int) (μ : Mem) : Mc yX10_judge cX10_judge 3 (some .int) 7 177 eI [aA a, aI b1, aI b2] μ (mX10_judge n a b1 b2 μ) := by
  refine mc_of (L0 := [some (aA a), some (aI b1), some (aI b2)]) (k := 0) (by decide) rfl rfl (fun X Γ => ?_)
  unfold mX10_judge
  refine sn_iload_n dX10_judge_0 rfl ?_
  refine sn_callSI (vs := [aI b1]) (cX10_isRow_ok n b1 μ) dX10_judge_1 cw_X10_166 rfl (by decide) (by decide) (Nat.le_of_ble_eq_true rfl) (fun p1 => ?_)
  refine sn_if_eq (tgt := 16) dX10_judge_4 (by decide) ?_ ?_
  · refine sn_bipush dX10_judge_16 (by decide) ?_
    exact sn_iret dX10_judge_18
  · refine sn_iload_n dX10_judge_7 rfl ?_
    refine sn_if_lt (tgt := 16) dX10_judge_8 (by decide) ?_ ?_
    · refine sn_bipush dX10_judge_16 (by decide) ?_
      exact sn_iret dX10_judge_18
    · refine sn_iload_n dX10_judge_11 rfl ?_
      refine sn_iconst dX10_judge_12 ?_
      refine sn_icmp_le (tgt := 19) dX10_judge_13 (by decide) ?_ ?_
      · refine sn_aload_n dX10_judge_19 rfl ?_
        refine sn_getA (ci := 10) (j := 5) dX10_judge_20 fl_X10_36 (by decide) (fun x20 => ?_)
        refine sn_iload_n dX10_judge_23 rfl ?_
        refine sn_aald5 dX10_judge_24 (fun x24 => ?_)
        refine sn_callVI (vs := []) (ci := 3) (cX3_isMissing_ok n x24 p1.2) dX10_judge_25 cw_X10_169 rfl rfl rfl (by decide) (by decide) (Nat.le_of_ble_eq_true rfl) (fun p25 => ?_)
        refine sn_if_eq (tgt := 34) dX10_judge_28 (by decide) ?_ ?_
        · refine sn_aload_n dX10_judge_34 rfl ?_
          refine sn_getA (ci := 10) (j := 2) dX10_judge_35 fl_X10_23 (by decide) (fun x35 => ?_)
          refine sn_aload_n dX10_judge_38 rfl ?_
          refine sn_getA (ci := 10) (j := 1) dX10_judge_39 fl_X10_19 (by decide) (fun x39 => ?_)
          refine sn_callVV (vs := [aA x39]) (ci := 1) (cX1_takeAll_ok n x35 x39 p25.2) dX10_judge_42 cw_X10_91 rfl rfl rfl (by decide) (by decide) (Nat.le_of_ble_eq_true rfl) (fun p42 => ?_)
          refine sn_aload_n dX10_judge_45 rfl ?_
          refine sn_getA (ci := 10) (j := 6) dX10_judge_46 fl_X10_43 (by decide) (fun x46 => ?_)
          refine sn_aload_n dX10_judge_49 rfl ?_
          refine sn_getA (ci := 10) (j := 2) dX10_judge_50 fl_X10_23 (by decide) (fun x50 => ?_)
          refine sn_aload_n dX10_judge_53 rfl ?_
          refine sn_getA (ci := 10) (j := 5) dX10_judge_54 fl_X10_36 (by decide) (fun x54 => ?_)
          refine sn_iload_n dX10_judge_57 rfl ?_
          refine sn_aald5 dX10_judge_58 (fun x58 => ?_)
          refine sn_callVV (vs := [aA x50, aA x58]) (ci := 7) (cX7_doTold_ok n x46 x50 x58 p42.2) dX10_judge_59 cw_X10_173 rfl rfl rfl (by decide) (by decide) (Nat.le_of_ble_eq_true rfl) (fun p59 => ?_)
          refine sn_iload_n dX10_judge_62 rfl ?_
          refine sn_ite (fun c63_0 => ?_) (fun c63_0 => ?_)
          · refine sn_swIn (k := 0) (off := 29) (tgt := 92) dX10_judge_63 c63_0 (by decide) (by decide) rfl (by decide) ?_
            refine sn_aload_n dX10_judge_92 rfl ?_
            refine sn_getA (ci := 10) (j := 6) dX10_judge_93 fl_X10_43 (by decide) (fun x93 => ?_)
            refine sn_getI (ci := 7) (j := 0) dX10_judge_96 fl_X10_177 rfl (fun x96 => ?_)
            exact sn_iret dX10_judge_99
          refine sn_ite (fun c63_1 => ?_) (fun c63_1 => ?_)
          · refine sn_swIn (k := 1) (off := 37) (tgt := 100) dX10_judge_63 c63_1 (by decide) (by decide) rfl (by decide) ?_
            refine sn_aload_n dX10_judge_100 rfl ?_
            refine sn_getA (ci := 10) (j := 6) dX10_judge_101 fl_X10_43 (by decide) (fun x101 => ?_)
            refine sn_getI (ci := 7) (j := 1) dX10_judge_104 fl_X10_180 rfl (fun x104 => ?_)
            exact sn_iret dX10_judge_107
          refine sn_ite (fun c63_2 => ?_) (fun c63_2 => ?_)
          · refine sn_swIn (k := 2) (off := 45) (tgt := 108) dX10_judge_63 c63_2 (by decide) (by decide) rfl (by decide) ?_
            refine sn_aload_n dX10_judge_108 rfl ?_
            refine sn_getA (ci := 10) (j := 6) dX10_judge_109 fl_X10_43 (by decide) (fun x109 => ?_)
            refine sn_getI (ci := 7) (j := 2) dX10_judge_112 fl_X10_183 rfl (fun x112 => ?_)
            exact sn_iret dX10_judge_115
          refine sn_ite (fun c63_3 => ?_) (fun c63_3 => ?_)
          · refine sn_swIn (k := 3) (off := 53) (tgt := 116) dX10_judge_63 c63_3 (by decide) (by decide) rfl (by decide) ?_
            refine sn_aload_n dX10_judge_116 rfl ?_
            refine sn_getA (ci := 10) (j := 6) dX10_judge_117 fl_X10_43 (by decide) (fun x117 => ?_)
            refine sn_getI (ci := 7) (j := 3) dX10_judge_120 fl_X10_159 rfl (fun x120 => ?_)
            exact sn_iret dX10_judge_123
          refine sn_swOut (tgt := 124) dX10_judge_63 (by have e0 := sw_ne c63_0 (by decide); have e1 := sw_ne c63_1 (by decide); have e2 := sw_ne c63_2 (by decide); have e3 := sw_ne c63_3 (by decide); omega) (by decide) ?_
          refine sn_aload_n dX10_judge_124 rfl ?_
          refine sn_getA (ci := 10) (j := 6) dX10_judge_125 fl_X10_43 (by decide) (fun x125 => ?_)
          refine sn_getI (ci := 7) (j := 4) dX10_judge_128 fl_X10_186 rfl (fun x128 => ?_)
          exact sn_iret dX10_judge_131
        · refine sn_bipush dX10_judge_31 (by decide) ?_
          exact sn_iret dX10_judge_33
      · refine sn_bipush dX10_judge_16 (by decide) ?_
        exact sn_iret dX10_judge_18
theorem dX10_land_0 : decode cX10_land 0 = .ok (.iload_n 1, 1) := by decide +kernel
theorem dX10_land_1 : decode cX10_land 1 = .ok (.ifCond .lt 14, 3) := by decide +kernel
theorem dX10_land_4 : decode cX10_land 4 = .ok (.iload_n 1, 1) := by decide +kernel
theorem dX10_land_5 : decode cX10_land 5 = .ok (.aload_n 0, 1) := by decide +kernel
theorem dX10_land_6 : decode cX10_land 6 = .ok (.getfield 10, 3) := by decide +kernel
theorem dX10_land_9 : decode cX10_land 9 = .ok (.getfield 76, 3) := by decide +kernel
theorem dX10_land_12 : decode cX10_land 12 = .ok (.if_icmp .le 6, 3) := by decide +kernel
theorem dX10_land_15 : decode cX10_land 15 = .ok (.bipush (-3), 2) := by decide +kernel
theorem dX10_land_17 : decode cX10_land 17 = .ok (.ireturn, 1) := by decide +kernel
theorem dX10_land_18 : decode cX10_land 18 = .ok (.aload_n 0, 1) := by decide +kernel
theorem dX10_land_19 : decode cX10_land 19 = .ok (.getfield 10, 3) := by decide +kernel
theorem dX10_land_22 : decode cX10_land 22 = .ok (.iload_n 1, 1) := by decide +kernel
theorem dX10_land_23 : decode cX10_land 23 = .ok (.aload_n 0, 1) := by decide +kernel
theorem dX10_land_24 : decode cX10_land 24 = .ok (.getfield 23, 3) := by decide +kernel
theorem dX10_land_27 : decode cX10_land 27 = .ok (.invokevirtual 84, 3) := by decide +kernel
theorem dX10_land_30 : decode cX10_land 30 = .ok (.aload_n 0, 1) := by decide +kernel
theorem dX10_land_31 : decode cX10_land 31 = .ok (.getfield 10, 3) := by decide +kernel
theorem dX10_land_34 : decode cX10_land 34 = .ok (.getfield 88, 3) := by decide +kernel
theorem dX10_land_37 : decode cX10_land 37 = .ok (.ifCond .eq 14, 3) := by decide +kernel
theorem dX10_land_40 : decode cX10_land 40 = .ok (.bipush (-30), 2) := by decide +kernel
theorem dX10_land_42 : decode cX10_land 42 = .ok (.aload_n 0, 1) := by decide +kernel
theorem dX10_land_43 : decode cX10_land 43 = .ok (.getfield 10, 3) := by decide +kernel
theorem dX10_land_46 : decode cX10_land 46 = .ok (.getfield 88, 3) := by decide +kernel
theorem dX10_land_49 : decode cX10_land 49 = .ok (.isub, 1) := by decide +kernel
theorem dX10_land_50 : decode cX10_land 50 = .ok (.ireturn, 1) := by decide +kernel
theorem dX10_land_51 : decode cX10_land 51 = .ok (.aload_n 0, 1) := by decide +kernel
theorem dX10_land_52 : decode cX10_land 52 = .ok (.getfield 19, 3) := by decide +kernel
theorem dX10_land_55 : decode cX10_land 55 = .ok (.aload_n 0, 1) := by decide +kernel
theorem dX10_land_56 : decode cX10_land 56 = .ok (.getfield 23, 3) := by decide +kernel
theorem dX10_land_59 : decode cX10_land 59 = .ok (.invokevirtual 91, 3) := by decide +kernel
theorem dX10_land_62 : decode cX10_land 62 = .ok (.aload_n 0, 1) := by decide +kernel
theorem dX10_land_63 : decode cX10_land 63 = .ok (.getfield 19, 3) := by decide +kernel
theorem dX10_land_66 : decode cX10_land 66 = .ok (.getfield 95, 3) := by decide +kernel
theorem dX10_land_69 : decode cX10_land 69 = .ok (.ireturn, 1) := by decide +kernel
def mX10_land (n : Nat) (a : Nat) (b1 : Int) (μ : Mem) : Option (Int × Mem) :=
  if lt32 b1 0 then
    some ((-3), μ)
  else
  (gA μ 11 a 0).bind fun x6 =>
  (gI μ 9 x6 0).bind fun x9 =>
  if lt32 x9 b1 then
    some ((-3), μ)
  else
  (gA μ 11 a 0).bind fun x19 =>
  (gA μ 11 a 2).bind fun x24 =>
  (inv μ 9 x19 (mX8_readText n x19 b1 x24 μ)).bind fun p27 =>
  (gA p27.2 11 a 0).bind fun x31 =>
  (gI p27.2 9 x31 1).bind fun x34 =>
  if eq32 x34 0 then
    (gA p27.2 11 a 1).bind fun x52 =>
    (gA p27.2 11 a 2).bind fun x56 =>
    (inv p27.2 2 x52 (mX1_takeAll n x52 x56 p27.2)).bind fun p59 =>
    (gA p59.2 11 a 1).bind fun x63 =>
    (gI p59.2 2 x63 5).bind fun x66 =>
    some (x66, p59.2)
  else
  (gA p27.2 11 a 0).bind fun x43 =>
  (gI p27.2 9 x43 1).bind fun x46 =>
  some (((-30) - x46), p27.2)
set_option maxRecDepth 100000 in
set_option maxHeartbeats 4000000 in
theorem cX10_land_ok (n : Nat) (a : Nat) (b1 : Int) (μ : Mem) : Mc yX10_land cX10_land 2 (some .int) 9 197 eI [aA a, aI b1] μ (mX10_land n a b1 μ) := by
  refine mc_of (L0 := [some (aA a), some (aI b1)]) (k := 0) (by decide) rfl rfl (fun X Γ => ?_)
  unfold mX10_land
  refine sn_iload_n dX10_land_0 rfl ?_
  refine sn_if_lt (tgt := 15) dX10_land_1 (by decide) ?_ ?_
  · refine sn_bipush dX10_land_15 (by decide) ?_
    exact sn_iret dX10_land_17
  · refine sn_iload_n dX10_land_4 rfl ?_
    refine sn_aload_n dX10_land_5 rfl ?_
    refine sn_getA (ci := 10) (j := 0) dX10_land_6 fl_X10_10 (by decide) (fun x6 => ?_)
    refine sn_getI (ci := 8) (j := 0) dX10_land_9 fl_X10_76 rfl (fun x9 => ?_)
    refine sn_icmp_le (tgt := 18) dX10_land_12 (by decide) ?_ ?_
    · refine sn_aload_n dX10_land_18 rfl ?_
      refine sn_getA (ci := 10) (j := 0) dX10_land_19 fl_X10_10 (by decide) (fun x19 => ?_)
      refine sn_iload_n dX10_land_22 rfl ?_
      refine sn_aload_n dX10_land_23 rfl ?_
      refine sn_getA (ci := 10) (j := 2) dX10_land_24 fl_X10_23 (by decide) (fun x24 => ?_)
      refine sn_callVV (vs := [aI b1, aA x24]) (ci := 8) (cX8_readText_ok n x19 b1 x24 μ) dX10_land_27 cw_X10_84 rfl rfl rfl (by decide) (by decide) (Nat.le_of_ble_eq_true rfl) (fun p27 => ?_)
      refine sn_aload_n dX10_land_30 rfl ?_
      refine sn_getA (ci := 10) (j := 0) dX10_land_31 fl_X10_10 (by decide) (fun x31 => ?_)
      refine sn_getI (ci := 8) (j := 1) dX10_land_34 fl_X10_88 rfl (fun x34 => ?_)
      refine sn_if_eq (tgt := 51) dX10_land_37 (by decide) ?_ ?_
      · refine sn_aload_n dX10_land_51 rfl ?_
        refine sn_getA (ci := 10) (j := 1) dX10_land_52 fl_X10_19 (by decide) (fun x52 => ?_)
        refine sn_aload_n dX10_land_55 rfl ?_
        refine sn_getA (ci := 10) (j := 2) dX10_land_56 fl_X10_23 (by decide) (fun x56 => ?_)
        refine sn_callVV (vs := [aA x56]) (ci := 1) (cX1_takeAll_ok n x52 x56 p27.2) dX10_land_59 cw_X10_91 rfl rfl rfl (by decide) (by decide) (Nat.le_of_ble_eq_true rfl) (fun p59 => ?_)
        refine sn_aload_n dX10_land_62 rfl ?_
        refine sn_getA (ci := 10) (j := 1) dX10_land_63 fl_X10_19 (by decide) (fun x63 => ?_)
        refine sn_getI (ci := 1) (j := 5) dX10_land_66 fl_X10_95 rfl (fun x66 => ?_)
        exact sn_iret dX10_land_69
      · refine sn_bipush dX10_land_40 (by decide) ?_
        refine sn_aload_n dX10_land_42 rfl ?_
        refine sn_getA (ci := 10) (j := 0) dX10_land_43 fl_X10_10 (by decide) (fun x43 => ?_)
        refine sn_getI (ci := 8) (j := 1) dX10_land_46 fl_X10_88 rfl (fun x46 => ?_)
        refine sn_isub dX10_land_49 ?_
        exact sn_iret dX10_land_50
    · refine sn_bipush dX10_land_15 (by decide) ?_
      exact sn_iret dX10_land_17
theorem dX10_lifts_0 : decode cX10_lifts 0 = .ok (.aload_n 0, 1) := by decide +kernel
theorem dX10_lifts_1 : decode cX10_lifts 1 = .ok (.getfield 19, 3) := by decide +kernel
theorem dX10_lifts_4 : decode cX10_lifts 4 = .ok (.iload_n 2, 1) := by decide +kernel
theorem dX10_lifts_5 : decode cX10_lifts 5 = .ok (.iload_n 1, 1) := by decide +kernel
theorem dX10_lifts_6 : decode cX10_lifts 6 = .ok (.invokevirtual 162, 3) := by decide +kernel
theorem dX10_lifts_9 : decode cX10_lifts 9 = .ok (.ifCond .ne 6, 3) := by decide +kernel
theorem dX10_lifts_12 : decode cX10_lifts 12 = .ok (.bipush (-2), 2) := by decide +kernel
theorem dX10_lifts_14 : decode cX10_lifts 14 = .ok (.ireturn, 1) := by decide +kernel
theorem dX10_lifts_15 : decode cX10_lifts 15 = .ok (.aload_n 0, 1) := by decide +kernel
theorem dX10_lifts_16 : decode cX10_lifts 16 = .ok (.getfield 19, 3) := by decide +kernel
theorem dX10_lifts_19 : decode cX10_lifts 19 = .ok (.getfield 149, 3) := by decide +kernel
theorem dX10_lifts_22 : decode cX10_lifts 22 = .ok (.iload_n 2, 1) := by decide +kernel
theorem dX10_lifts_23 : decode cX10_lifts 23 = .ok (.baload, 1) := by decide +kernel
theorem dX10_lifts_24 : decode cX10_lifts 24 = .ok (.ifCond .eq 6, 3) := by decide +kernel
theorem dX10_lifts_27 : decode cX10_lifts 27 = .ok (.bipush (-5), 2) := by decide +kernel
theorem dX10_lifts_29 : decode cX10_lifts 29 = .ok (.ireturn, 1) := by decide +kernel
theorem dX10_lifts_30 : decode cX10_lifts 30 = .ok (.aload_n 0, 1) := by decide +kernel
theorem dX10_lifts_31 : decode cX10_lifts 31 = .ok (.getfield 19, 3) := by decide +kernel
theorem dX10_lifts_34 : decode cX10_lifts 34 = .ok (.getfield 134, 3) := by decide +kernel
theorem dX10_lifts_37 : decode cX10_lifts 37 = .ok (.iconst 2, 1) := by decide +kernel
theorem dX10_lifts_38 : decode cX10_lifts 38 = .ok (.iload_n 2, 1) := by decide +kernel
theorem dX10_lifts_39 : decode cX10_lifts 39 = .ok (.imul, 1) := by decide +kernel
theorem dX10_lifts_40 : decode cX10_lifts 40 = .ok (.iaload, 1) := by decide +kernel
theorem dX10_lifts_41 : decode cX10_lifts 41 = .ok (.iload_n 1, 1) := by decide +kernel
theorem dX10_lifts_42 : decode cX10_lifts 42 = .ok (.if_icmp .ne 7, 3) := by decide +kernel
theorem dX10_lifts_45 : decode cX10_lifts 45 = .ok (.iconst 1, 1) := by decide +kernel
theorem dX10_lifts_46 : decode cX10_lifts 46 = .ok (.goto 4, 3) := by decide +kernel
theorem dX10_lifts_49 : decode cX10_lifts 49 = .ok (.iconst 0, 1) := by decide +kernel
theorem dX10_lifts_50 : decode cX10_lifts 50 = .ok (.istore_n 3, 1) := by decide +kernel
theorem dX10_lifts_51 : decode cX10_lifts 51 = .ok (.aload_n 0, 1) := by decide +kernel
theorem dX10_lifts_52 : decode cX10_lifts 52 = .ok (.getfield 19, 3) := by decide +kernel
theorem dX10_lifts_55 : decode cX10_lifts 55 = .ok (.getfield 220, 3) := by decide +kernel
theorem dX10_lifts_58 : decode cX10_lifts 58 = .ok (.iload_n 2, 1) := by decide +kernel
theorem dX10_lifts_59 : decode cX10_lifts 59 = .ok (.iaload, 1) := by decide +kernel
theorem dX10_lifts_60 : decode cX10_lifts 60 = .ok (.istore 4, 2) := by decide +kernel
theorem dX10_lifts_62 : decode cX10_lifts 62 = .ok (.aload_n 0, 1) := by decide +kernel
theorem dX10_lifts_63 : decode cX10_lifts 63 = .ok (.getfield 19, 3) := by decide +kernel
theorem dX10_lifts_66 : decode cX10_lifts 66 = .ok (.iload_n 2, 1) := by decide +kernel
theorem dX10_lifts_67 : decode cX10_lifts 67 = .ok (.iload_n 3, 1) := by decide +kernel
theorem dX10_lifts_68 : decode cX10_lifts 68 = .ok (.iload_n 3, 1) := by decide +kernel
theorem dX10_lifts_69 : decode cX10_lifts 69 = .ok (.ifCond .ne 7, 3) := by decide +kernel
theorem dX10_lifts_72 : decode cX10_lifts 72 = .ok (.iconst 1, 1) := by decide +kernel
theorem dX10_lifts_73 : decode cX10_lifts 73 = .ok (.goto 4, 3) := by decide +kernel
theorem dX10_lifts_76 : decode cX10_lifts 76 = .ok (.iconst 0, 1) := by decide +kernel
theorem dX10_lifts_77 : decode cX10_lifts 77 = .ok (.invokevirtual 223, 3) := by decide +kernel
theorem dX10_lifts_80 : decode cX10_lifts 80 = .ok (.istore 5, 2) := by decide +kernel
theorem dX10_lifts_82 : decode cX10_lifts 82 = .ok (.iload_n 3, 1) := by decide +kernel
theorem dX10_lifts_83 : decode cX10_lifts 83 = .ok (.ifCond .eq 13, 3) := by decide +kernel
theorem dX10_lifts_86 : decode cX10_lifts 86 = .ok (.iload 5, 2) := by decide +kernel
theorem dX10_lifts_88 : decode cX10_lifts 88 = .ok (.iload 4, 2) := by decide +kernel
theorem dX10_lifts_90 : decode cX10_lifts 90 = .ok (.if_icmp .ge 17, 3) := by decide +kernel
theorem dX10_lifts_93 : decode cX10_lifts 93 = .ok (.goto 10, 3) := by decide +kernel
theorem dX10_lifts_96 : decode cX10_lifts 96 = .ok (.iload 5, 2) := by decide +kernel
theorem dX10_lifts_98 : decode cX10_lifts 98 = .ok (.iload 4, 2) := by decide +kernel
theorem dX10_lifts_100 : decode cX10_lifts 100 = .ok (.if_icmp .le 7, 3) := by decide +kernel
theorem dX10_lifts_103 : decode cX10_lifts 103 = .ok (.iconst 1, 1) := by decide +kernel
theorem dX10_lifts_104 : decode cX10_lifts 104 = .ok (.goto 4, 3) := by decide +kernel
theorem dX10_lifts_107 : decode cX10_lifts 107 = .ok (.iconst 0, 1) := by decide +kernel
theorem dX10_lifts_108 : decode cX10_lifts 108 = .ok (.ireturn, 1) := by decide +kernel
def mX10_lifts (n : Nat) (a : Nat) (b1 : Int) (b2 : Int) (μ : Mem) : Option (Int × Mem) :=
  (gA μ 11 a 1).bind fun x1 =>
  (inv μ 2 x1 (mX1_hangs n x1 b2 b1 μ)).bind fun p6 =>
  if eq32 p6.1 0 then
    some ((-2), p6.2)
  else
  (gA p6.2 11 a 1).bind fun x16 =>
  (gA p6.2 2 x16 14).bind fun x19 =>
  (ldI p6.2 2 x19 b2).bind fun x23 =>
  if eq32 x23 0 then
    (gA p6.2 11 a 1).bind fun x31 =>
    (gA p6.2 2 x31 15).bind fun x34 =>
    (ldI p6.2 0 x34 (2 * b2)).bind fun x40 =>
    jn (fun (v50 : Int) (μ50 : Mem) =>
    (gA μ50 11 a 1).bind fun x52 =>
    (gA μ50 2 x52 13).bind fun x55 =>
    (ldI μ50 0 x55 b2).bind fun x59 =>
    (gA μ50 11 a 1).bind fun x63 =>
    jn (fun (v77 : Int) (μ77 : Mem) =>
    (inv μ77 2 x63 (mX1_depthBehind n x63 b2 v50 v77 μ77)).bind fun p77 =>
    if eq32 v50 0 then
      if lt32 x59 p77.1 then
        some (1, p77.2)
      else
      some (0, p77.2)
    else
    if lt32 p77.1 x59 then
      some (1, p77.2)
    else
    some (0, p77.2)) (fun j77 =>
    if eq32 v50 0 then
      j77 1 μ50
    else
    j77 0 μ50)) (fun j50 =>
    if eq32 x40 b1 then
      j50 1 p6.2
    else
    j50 0 p6.2)
  else
  some ((-5), p6.2)
set_option maxRecDepth 100000 in
set_option maxHeartbeats 4000000 in
theorem cX10_lifts_ok (n : Nat) (a : Nat) (b1 : Int) (b2 : Int) (μ : Mem) : Mc yX10_lifts cX10_lifts 6 (some .int) 3 88 eI [aA a, aI b1, aI b2] μ (mX10_lifts n a b1 b2 μ) := by
  refine mc_of (L0 := [some (aA a), some (aI b1), some (aI b2), none, none, none]) (k := 3) (by decide) rfl rfl (fun X Γ => ?_)
  unfold mX10_lifts
  refine sn_aload_n dX10_lifts_0 rfl ?_
  refine sn_getA (ci := 10) (j := 1) dX10_lifts_1 fl_X10_19 (by decide) (fun x1 => ?_)
  refine sn_iload_n dX10_lifts_4 rfl ?_
  refine sn_iload_n dX10_lifts_5 rfl ?_
  refine sn_callVI (vs := [aI b2, aI b1]) (ci := 1) (cX1_hangs_ok n x1 b2 b1 μ) dX10_lifts_6 cw_X10_162 rfl rfl rfl (by decide) (by decide) (Nat.le_of_ble_eq_true rfl) (fun p6 => ?_)
  refine sn_if_ne (tgt := 15) dX10_lifts_9 (by decide) ?_ ?_
  · refine sn_aload_n dX10_lifts_15 rfl ?_
    refine sn_getA (ci := 10) (j := 1) dX10_lifts_16 fl_X10_19 (by decide) (fun x16 => ?_)
    refine sn_getA (ci := 1) (j := 14) dX10_lifts_19 fl_X10_149 (by decide) (fun x19 => ?_)
    refine sn_iload_n dX10_lifts_22 rfl ?_
    refine sn_zald dX10_lifts_23 (fun x23 => ?_)
    refine sn_if_eq (tgt := 30) dX10_lifts_24 (by decide) ?_ ?_
    · refine sn_aload_n dX10_lifts_30 rfl ?_
      refine sn_getA (ci := 10) (j := 1) dX10_lifts_31 fl_X10_19 (by decide) (fun x31 => ?_)
      refine sn_getA (ci := 1) (j := 15) dX10_lifts_34 fl_X10_134 (by decide) (fun x34 => ?_)
      refine sn_iconst dX10_lifts_37 ?_
      refine sn_iload_n dX10_lifts_38 rfl ?_
      refine sn_imul dX10_lifts_39 ?_
      refine sn_iald dX10_lifts_40 (fun x40 => ?_)
      refine sn_iload_n dX10_lifts_41 rfl ?_
      refine sn_jn (pcj := 50) (La := fun v50 : Int => [some (aA a), none, some (aI b2), none, none, none]) (Sa := fun v50 : Int => [aI v50]) ?_ ?_
      · intro v50 μ50
        refine sn_istore_n (L' := [some (aA a), none, some (aI b2), some (aI v50), none, none]) dX10_lifts_50 (by decide) rfl ?_
        refine sn_aload_n dX10_lifts_51 rfl ?_
        refine sn_getA (ci := 10) (j := 1) dX10_lifts_52 fl_X10_19 (by decide) (fun x52 => ?_)
        refine sn_getA (ci := 1) (j := 13) dX10_lifts_55 fl_X10_220 (by decide) (fun x55 => ?_)
        refine sn_iload_n dX10_lifts_58 rfl ?_
        refine sn_iald dX10_lifts_59 (fun x59 => ?_)
        refine sn_istore (L' := [some (aA a), none, some (aI b2), some (aI v50), some (aI x59), none]) dX10_lifts_60 (by decide) rfl ?_
        refine sn_aload_n dX10_lifts_62 rfl ?_
        refine sn_getA (ci := 10) (j := 1) dX10_lifts_63 fl_X10_19 (by decide) (fun x63 => ?_)
        refine sn_iload_n dX10_lifts_66 rfl ?_
        refine sn_iload_n dX10_lifts_67 rfl ?_
        refine sn_iload_n dX10_lifts_68 rfl ?_
        refine sn_jn (pcj := 77) (La := fun v77 : Int => [none, none, none, some (aI v50), some (aI x59), none]) (Sa := fun v77 : Int => [aI v77, aI v50, aI b2, aA x63]) ?_ ?_
        · intro v77 μ77
          refine sn_callVI (vs := [aI b2, aI v50, aI v77]) (ci := 1) (cX1_depthBehind_ok n x63 b2 v50 v77 μ77) dX10_lifts_77 cw_X10_223 rfl rfl rfl (by decide) (by decide) (Nat.le_of_ble_eq_true rfl) (fun p77 => ?_)
          refine sn_istore (L' := [none, none, none, some (aI v50), some (aI x59), some (aI p77.1)]) dX10_lifts_80 (by decide) rfl ?_
          refine sn_iload_n dX10_lifts_82 rfl ?_
          refine sn_if_eq (tgt := 96) dX10_lifts_83 (by decide) ?_ ?_
          · refine sn_iload dX10_lifts_96 rfl ?_
            refine sn_iload dX10_lifts_98 rfl ?_
            refine sn_icmp_le (tgt := 107) dX10_lifts_100 (by decide) ?_ ?_
            · refine sn_iconst dX10_lifts_107 ?_
              exact sn_iret dX10_lifts_108
            · refine sn_iconst dX10_lifts_103 ?_
              refine sn_goto (tgt := 108) dX10_lifts_104 (by decide) ?_
              exact sn_iret dX10_lifts_108
          · refine sn_iload dX10_lifts_86 rfl ?_
            refine sn_iload dX10_lifts_88 rfl ?_
            refine sn_icmp_ge (tgt := 107) dX10_lifts_90 (by decide) ?_ ?_
            · refine sn_iconst dX10_lifts_107 ?_
              exact sn_iret dX10_lifts_108
            · refine sn_goto (tgt := 103) dX10_lifts_93 (by decide) ?_
              refine sn_iconst dX10_lifts_103 ?_
              refine sn_goto (tgt := 108) dX10_lifts_104 (by decide) ?_
              exact sn_iret dX10_lifts_108
        intro j77 hj77
        refine sn_if_ne (tgt := 76) dX10_lifts_69 (by decide) ?_ ?_
        · refine sn_iconst dX10_lifts_76 ?_
          exact sn_mask (L' := [none, none, none, some (aI v50), some (aI x59), none]) [false, false, false, true, true, false] rfl (hj77 0 μ50)
        · refine sn_iconst dX10_lifts_72 ?_
          refine sn_goto (tgt := 77) dX10_lifts_73 (by decide) ?_
          exact sn_mask (L' := [none, none, none, some (aI v50), some (aI x59), none]) [false, false, false, true, true, false] rfl (hj77 1 μ50)
      intro j50 hj50
      refine sn_icmp_ne (tgt := 49) dX10_lifts_42 (by decide) ?_ ?_
      · refine sn_iconst dX10_lifts_49 ?_
        exact sn_mask (L' := [some (aA a), none, some (aI b2), none, none, none]) [true, false, true, false, false, false] rfl (hj50 0 p6.2)
      · refine sn_iconst dX10_lifts_45 ?_
        refine sn_goto (tgt := 50) dX10_lifts_46 (by decide) ?_
        exact sn_mask (L' := [some (aA a), none, some (aI b2), none, none, none]) [true, false, true, false, false, false] rfl (hj50 1 p6.2)
    · refine sn_bipush dX10_lifts_27 (by decide) ?_
      exact sn_iret dX10_lifts_29
  · refine sn_bipush dX10_lifts_12 (by decide) ?_
    exact sn_iret dX10_lifts_14
theorem dX10_live_0 : decode cX10_live 0 = .ok (.aload_n 0, 1) := by decide +kernel
theorem dX10_live_1 : decode cX10_live 1 = .ok (.iload_n 1, 1) := by decide +kernel
theorem dX10_live_2 : decode cX10_live 2 = .ok (.invokevirtual 189, 3) := by decide +kernel
theorem dX10_live_5 : decode cX10_live 5 = .ok (.istore_n 2, 1) := by decide +kernel
theorem dX10_live_6 : decode cX10_live 6 = .ok (.iload_n 2, 1) := by decide +kernel
theorem dX10_live_7 : decode cX10_live 7 = .ok (.ifCond .eq 5, 3) := by decide +kernel
theorem dX10_live_10 : decode cX10_live 10 = .ok (.iload_n 2, 1) := by decide +kernel
theorem dX10_live_11 : decode cX10_live 11 = .ok (.ireturn, 1) := by decide +kernel
theorem dX10_live_12 : decode cX10_live 12 = .ok (.aload_n 0, 1) := by decide +kernel
theorem dX10_live_13 : decode cX10_live 13 = .ok (.getfield 43, 3) := by decide +kernel
theorem dX10_live_16 : decode cX10_live 16 = .ok (.aload_n 0, 1) := by decide +kernel
theorem dX10_live_17 : decode cX10_live 17 = .ok (.getfield 19, 3) := by decide +kernel
theorem dX10_live_20 : decode cX10_live 20 = .ok (.iload_n 1, 1) := by decide +kernel
theorem dX10_live_21 : decode cX10_live 21 = .ok (.invokevirtual 192, 3) := by decide +kernel
theorem dX10_live_24 : decode cX10_live 24 = .ok (.aload_n 0, 1) := by decide +kernel
theorem dX10_live_25 : decode cX10_live 25 = .ok (.getfield 43, 3) := by decide +kernel
theorem dX10_live_28 : decode cX10_live 28 = .ok (.getfield 159, 3) := by decide +kernel
theorem dX10_live_31 : decode cX10_live 31 = .ok (.ireturn, 1) := by decide +kernel
def mX10_live (n : Nat) (a : Nat) (b1 : Int) (μ : Mem) : Option (Int × Mem) :=
  (inv μ 11 a (mX10_customRefusal n a b1 μ)).bind fun p2 =>
  if eq32 p2.1 0 then
    (gA p2.2 11 a 6).bind fun x13 =>
    (gA p2.2 11 a 1).bind fun x17 =>
    (inv p2.2 8 x13 (mX7_doCustom n x13 x17 b1 p2.2)).bind fun p21 =>
    (gA p21.2 11 a 6).bind fun x25 =>
    (gI p21.2 8 x25 3).bind fun x28 =>
    some (x28, p21.2)
  else
  some (p2.1, p2.2)
set_option maxRecDepth 100000 in
set_option maxHeartbeats 4000000 in
theorem cX10_live_ok (n : Nat) (a : Nat) (b1 : Int) (μ : Mem) : Mc yX10_live cX10_live 3 (some .int) 6 156 eI [aA a, aI b1] μ (mX10_live n a b1 μ) := by
  refine mc_of (L0 := [some (aA a), some (aI b1), none]) (k := 1) (by decide) rfl rfl (fun X Γ => ?_)
  unfold mX10_live
  refine sn_aload_n dX10_live_0 rfl ?_
  refine sn_iload_n dX10_live_1 rfl ?_
  refine sn_callVI (vs := [aI b1]) (ci := 10) (cX10_customRefusal_ok n a b1 μ) dX10_live_2 cw_X10_189 rfl rfl rfl (by decide) (by decide) (Nat.le_of_ble_eq_true rfl) (fun p2 => ?_)
  refine sn_istore_n (L' := [some (aA a), some (aI b1), some (aI p2.1)]) dX10_live_5 (by decide) rfl ?_
  refine sn_iload_n dX10_live_6 rfl ?_
  refine sn_if_eq (tgt := 12) dX10_live_7 (by decide) ?_ ?_
  · refine sn_aload_n dX10_live_12 rfl ?_
    refine sn_getA (ci := 10) (j := 6) dX10_live_13 fl_X10_43 (by decide) (fun x13 => ?_)
    refine sn_aload_n dX10_live_16 rfl ?_
    refine sn_getA (ci := 10) (j := 1) dX10_live_17 fl_X10_19 (by decide) (fun x17 => ?_)
    refine sn_iload_n dX10_live_20 rfl ?_
    refine sn_callVV (vs := [aA x17, aI b1]) (ci := 7) (cX7_doCustom_ok n x13 x17 b1 p2.2) dX10_live_21 cw_X10_192 rfl rfl rfl (by decide) (by decide) (Nat.le_of_ble_eq_true rfl) (fun p21 => ?_)
    refine sn_aload_n dX10_live_24 rfl ?_
    refine sn_getA (ci := 10) (j := 6) dX10_live_25 fl_X10_43 (by decide) (fun x25 => ?_)
    refine sn_getI (ci := 7) (j := 3) dX10_live_28 fl_X10_159 rfl (fun x28 => ?_)
    exact sn_iret dX10_live_31
  · refine sn_iload_n dX10_live_10 rfl ?_
    exact sn_iret dX10_live_11
theorem dX10_loss_0 : decode cX10_loss 0 = .ok (.aload_n 0, 1) := by decide +kernel
theorem dX10_loss_1 : decode cX10_loss 1 = .ok (.getfield 19, 3) := by decide +kernel
theorem dX10_loss_4 : decode cX10_loss 4 = .ok (.iload_n 1, 1) := by decide +kernel
theorem dX10_loss_5 : decode cX10_loss 5 = .ok (.invokevirtual 101, 3) := by decide +kernel
theorem dX10_loss_8 : decode cX10_loss 8 = .ok (.ifCond .eq 14, 3) := by decide +kernel
theorem dX10_loss_11 : decode cX10_loss 11 = .ok (.aload_n 0, 1) := by decide +kernel
theorem dX10_loss_12 : decode cX10_loss 12 = .ok (.getfield 19, 3) := by decide +kernel
theorem dX10_loss_15 : decode cX10_loss 15 = .ok (.iload_n 2, 1) := by decide +kernel
theorem dX10_loss_16 : decode cX10_loss 16 = .ok (.invokevirtual 131, 3) := by decide +kernel
theorem dX10_loss_19 : decode cX10_loss 19 = .ok (.ifCond .ne 6, 3) := by decide +kernel
theorem dX10_loss_22 : decode cX10_loss 22 = .ok (.bipush (-2), 2) := by decide +kernel
theorem dX10_loss_24 : decode cX10_loss 24 = .ok (.ireturn, 1) := by decide +kernel
theorem dX10_loss_25 : decode cX10_loss 25 = .ok (.aload_n 0, 1) := by decide +kernel
theorem dX10_loss_26 : decode cX10_loss 26 = .ok (.getfield 19, 3) := by decide +kernel
theorem dX10_loss_29 : decode cX10_loss 29 = .ok (.getfield 149, 3) := by decide +kernel
theorem dX10_loss_32 : decode cX10_loss 32 = .ok (.iload_n 2, 1) := by decide +kernel
theorem dX10_loss_33 : decode cX10_loss 33 = .ok (.baload, 1) := by decide +kernel
theorem dX10_loss_34 : decode cX10_loss 34 = .ok (.ifCond .eq 6, 3) := by decide +kernel
theorem dX10_loss_37 : decode cX10_loss 37 = .ok (.bipush (-5), 2) := by decide +kernel
theorem dX10_loss_39 : decode cX10_loss 39 = .ok (.ireturn, 1) := by decide +kernel
theorem dX10_loss_40 : decode cX10_loss 40 = .ok (.aload_n 0, 1) := by decide +kernel
theorem dX10_loss_41 : decode cX10_loss 41 = .ok (.invokevirtual 243, 3) := by decide +kernel
theorem dX10_loss_44 : decode cX10_loss 44 = .ok (.iload_n 1, 1) := by decide +kernel
theorem dX10_loss_45 : decode cX10_loss 45 = .ok (.iconst 1, 1) := by decide +kernel
theorem dX10_loss_46 : decode cX10_loss 46 = .ok (.iconst (-1), 1) := by decide +kernel
theorem dX10_loss_47 : decode cX10_loss 47 = .ok (.invokevirtual 247, 3) := by decide +kernel
theorem dX10_loss_50 : decode cX10_loss 50 = .ok (.istore_n 3, 1) := by decide +kernel
theorem dX10_loss_51 : decode cX10_loss 51 = .ok (.iload_n 3, 1) := by decide +kernel
theorem dX10_loss_52 : decode cX10_loss 52 = .ok (.bipush (-4), 2) := by decide +kernel
theorem dX10_loss_54 : decode cX10_loss 54 = .ok (.if_icmp .ne 6, 3) := by decide +kernel
theorem dX10_loss_57 : decode cX10_loss 57 = .ok (.bipush (-4), 2) := by decide +kernel
theorem dX10_loss_59 : decode cX10_loss 59 = .ok (.ireturn, 1) := by decide +kernel
theorem dX10_loss_60 : decode cX10_loss 60 = .ok (.iload_n 3, 1) := by decide +kernel
theorem dX10_loss_61 : decode cX10_loss 61 = .ok (.iconst (-1), 1) := by decide +kernel
theorem dX10_loss_62 : decode cX10_loss 62 = .ok (.if_icmp .ne 6, 3) := by decide +kernel
theorem dX10_loss_65 : decode cX10_loss 65 = .ok (.bipush (-5), 2) := by decide +kernel
theorem dX10_loss_67 : decode cX10_loss 67 = .ok (.ireturn, 1) := by decide +kernel
theorem dX10_loss_68 : decode cX10_loss 68 = .ok (.aload_n 0, 1) := by decide +kernel
theorem dX10_loss_69 : decode cX10_loss 69 = .ok (.invokevirtual 243, 3) := by decide +kernel
theorem dX10_loss_72 : decode cX10_loss 72 = .ok (.iload_n 1, 1) := by decide +kernel
theorem dX10_loss_73 : decode cX10_loss 73 = .ok (.iconst 1, 1) := by decide +kernel
theorem dX10_loss_74 : decode cX10_loss 74 = .ok (.iload_n 2, 1) := by decide +kernel
theorem dX10_loss_75 : decode cX10_loss 75 = .ok (.invokevirtual 247, 3) := by decide +kernel
theorem dX10_loss_78 : decode cX10_loss 78 = .ok (.istore 4, 2) := by decide +kernel
theorem dX10_loss_80 : decode cX10_loss 80 = .ok (.iload 4, 2) := by decide +kernel
theorem dX10_loss_82 : decode cX10_loss 82 = .ok (.bipush (-4), 2) := by decide +kernel
theorem dX10_loss_84 : decode cX10_loss 84 = .ok (.if_icmp .eq 9, 3) := by decide +kernel
theorem dX10_loss_87 : decode cX10_loss 87 = .ok (.iload 4, 2) := by decide +kernel
theorem dX10_loss_89 : decode cX10_loss 89 = .ok (.iconst (-1), 1) := by decide +kernel
theorem dX10_loss_90 : decode cX10_loss 90 = .ok (.if_icmp .ne 6, 3) := by decide +kernel
theorem dX10_loss_93 : decode cX10_loss 93 = .ok (.iload 4, 2) := by decide +kernel
theorem dX10_loss_95 : decode cX10_loss 95 = .ok (.ireturn, 1) := by decide +kernel
theorem dX10_loss_96 : decode cX10_loss 96 = .ok (.iload 4, 2) := by decide +kernel
theorem dX10_loss_98 : decode cX10_loss 98 = .ok (.iload_n 3, 1) := by decide +kernel
theorem dX10_loss_99 : decode cX10_loss 99 = .ok (.isub, 1) := by decide +kernel
theorem dX10_loss_100 : decode cX10_loss 100 = .ok (.ireturn, 1) := by decide +kernel
def mX10_loss (n : Nat) (a : Nat) (b1 : Int) (b2 : Int) (μ : Mem) : Option (Int × Mem) :=
  (gA μ 11 a 1).bind fun x1 =>
  (inv μ 2 x1 (mX1_hasHouse n x1 b1 μ)).bind fun p5 =>
  if eq32 p5.1 0 then
    some ((-2), p5.2)
  else
  (gA p5.2 11 a 1).bind fun x12 =>
  (inv p5.2 2 x12 (mX1_hasRope n x12 b2 p5.2)).bind fun p16 =>
  if eq32 p16.1 0 then
    some ((-2), p16.2)
  else
  (gA p16.2 11 a 1).bind fun x26 =>
  (gA p16.2 2 x26 14).bind fun x29 =>
  (ldI p16.2 2 x29 b2).bind fun x33 =>
  if eq32 x33 0 then
    (inv p16.2 11 a (mX10_searcher n a p16.2)).bind fun p41 =>
    (inv p41.2 5 p41.1 (mX4_fewestHours n p41.1 b1 1 (-1) p41.2)).bind fun p47 =>
    if eq32 p47.1 (-4) then
      some ((-4), p47.2)
    else
    if eq32 p47.1 (-1) then
      some ((-5), p47.2)
    else
    (inv p47.2 11 a (mX10_searcher n a p47.2)).bind fun p69 =>
    (inv p69.2 5 p69.1 (mX4_fewestHours n p69.1 b1 1 b2 p69.2)).bind fun p75 =>
    if eq32 p75.1 (-4) then
      some (p75.1, p75.2)
    else
    if eq32 p75.1 (-1) then
      some (p75.1, p75.2)
    else
    some ((p75.1 - p47.1), p75.2)
  else
  some ((-5), p16.2)
set_option maxRecDepth 100000 in
set_option maxHeartbeats 4000000 in
theorem cX10_loss_ok (n : Nat) (a : Nat) (b1 : Int) (b2 : Int) (μ : Mem) : Mc yX10_loss cX10_loss 5 (some .int) 16 397 eI [aA a, aI b1, aI b2] μ (mX10_loss n a b1 b2 μ) := by
  refine mc_of (L0 := [some (aA a), some (aI b1), some (aI b2), none, none]) (k := 2) (by decide) rfl rfl (fun X Γ => ?_)
  unfold mX10_loss
  refine sn_aload_n dX10_loss_0 rfl ?_
  refine sn_getA (ci := 10) (j := 1) dX10_loss_1 fl_X10_19 (by decide) (fun x1 => ?_)
  refine sn_iload_n dX10_loss_4 rfl ?_
  refine sn_callVI (vs := [aI b1]) (ci := 1) (cX1_hasHouse_ok n x1 b1 μ) dX10_loss_5 cw_X10_101 rfl rfl rfl (by decide) (by decide) (Nat.le_of_ble_eq_true rfl) (fun p5 => ?_)
  refine sn_if_eq (tgt := 22) dX10_loss_8 (by decide) ?_ ?_
  · refine sn_bipush dX10_loss_22 (by decide) ?_
    exact sn_iret dX10_loss_24
  · refine sn_aload_n dX10_loss_11 rfl ?_
    refine sn_getA (ci := 10) (j := 1) dX10_loss_12 fl_X10_19 (by decide) (fun x12 => ?_)
    refine sn_iload_n dX10_loss_15 rfl ?_
    refine sn_callVI (vs := [aI b2]) (ci := 1) (cX1_hasRope_ok n x12 b2 p5.2) dX10_loss_16 cw_X10_131 rfl rfl rfl (by decide) (by decide) (Nat.le_of_ble_eq_true rfl) (fun p16 => ?_)
    refine sn_if_ne (tgt := 25) dX10_loss_19 (by decide) ?_ ?_
    · refine sn_aload_n dX10_loss_25 rfl ?_
      refine sn_getA (ci := 10) (j := 1) dX10_loss_26 fl_X10_19 (by decide) (fun x26 => ?_)
      refine sn_getA (ci := 1) (j := 14) dX10_loss_29 fl_X10_149 (by decide) (fun x29 => ?_)
      refine sn_iload_n dX10_loss_32 rfl ?_
      refine sn_zald dX10_loss_33 (fun x33 => ?_)
      refine sn_if_eq (tgt := 40) dX10_loss_34 (by decide) ?_ ?_
      · refine sn_aload_n dX10_loss_40 rfl ?_
        refine sn_callVA (vs := []) (ci := 10) (cX10_searcher_ok n a p16.2) dX10_loss_41 cw_X10_243 rfl rfl rfl (by decide) (by decide) (Nat.le_of_ble_eq_true rfl) (fun p41 => ?_)
        refine sn_iload_n dX10_loss_44 rfl ?_
        refine sn_iconst dX10_loss_45 ?_
        refine sn_iconst dX10_loss_46 ?_
        refine sn_callVI (vs := [aI b1, aI 1, aI (-1)]) (ci := 4) (cX4_fewestHours_ok n p41.1 b1 1 (-1) p41.2) dX10_loss_47 cw_X10_247 rfl rfl rfl (by decide) (by decide) (Nat.le_of_ble_eq_true rfl) (fun p47 => ?_)
        refine sn_istore_n (L' := [some (aA a), some (aI b1), some (aI b2), some (aI p47.1), none]) dX10_loss_50 (by decide) rfl ?_
        refine sn_iload_n dX10_loss_51 rfl ?_
        refine sn_bipush dX10_loss_52 (by decide) ?_
        refine sn_icmp_ne (tgt := 60) dX10_loss_54 (by decide) ?_ ?_
        · refine sn_iload_n dX10_loss_60 rfl ?_
          refine sn_iconst dX10_loss_61 ?_
          refine sn_icmp_ne (tgt := 68) dX10_loss_62 (by decide) ?_ ?_
          · refine sn_aload_n dX10_loss_68 rfl ?_
            refine sn_callVA (vs := []) (ci := 10) (cX10_searcher_ok n a p47.2) dX10_loss_69 cw_X10_243 rfl rfl rfl (by decide) (by decide) (Nat.le_of_ble_eq_true rfl) (fun p69 => ?_)
            refine sn_iload_n dX10_loss_72 rfl ?_
            refine sn_iconst dX10_loss_73 ?_
            refine sn_iload_n dX10_loss_74 rfl ?_
            refine sn_callVI (vs := [aI b1, aI 1, aI b2]) (ci := 4) (cX4_fewestHours_ok n p69.1 b1 1 b2 p69.2) dX10_loss_75 cw_X10_247 rfl rfl rfl (by decide) (by decide) (Nat.le_of_ble_eq_true rfl) (fun p75 => ?_)
            refine sn_istore (L' := [some (aA a), some (aI b1), some (aI b2), some (aI p47.1), some (aI p75.1)]) dX10_loss_78 (by decide) rfl ?_
            refine sn_iload dX10_loss_80 rfl ?_
            refine sn_bipush dX10_loss_82 (by decide) ?_
            refine sn_icmp_eq (tgt := 93) dX10_loss_84 (by decide) ?_ ?_
            · refine sn_iload dX10_loss_93 rfl ?_
              exact sn_iret dX10_loss_95
            · refine sn_iload dX10_loss_87 rfl ?_
              refine sn_iconst dX10_loss_89 ?_
              refine sn_icmp_ne (tgt := 96) dX10_loss_90 (by decide) ?_ ?_
              · refine sn_iload dX10_loss_96 rfl ?_
                refine sn_iload_n dX10_loss_98 rfl ?_
                refine sn_isub dX10_loss_99 ?_
                exact sn_iret dX10_loss_100
              · refine sn_iload dX10_loss_93 rfl ?_
                exact sn_iret dX10_loss_95
          · refine sn_bipush dX10_loss_65 (by decide) ?_
            exact sn_iret dX10_loss_67
        · refine sn_bipush dX10_loss_57 (by decide) ?_
          exact sn_iret dX10_loss_59
      · refine sn_bipush dX10_loss_37 (by decide) ?_
        exact sn_iret dX10_loss_39
    · refine sn_bipush dX10_loss_22 (by decide) ?_
      exact sn_iret dX10_loss_24
theorem dX10_mate_0 : decode cX10_mate 0 = .ok (.aload_n 0, 1) := by decide +kernel
theorem dX10_mate_1 : decode cX10_mate 1 = .ok (.getfield 19, 3) := by decide +kernel
theorem dX10_mate_4 : decode cX10_mate 4 = .ok (.iload_n 1, 1) := by decide +kernel
theorem dX10_mate_5 : decode cX10_mate 5 = .ok (.invokevirtual 101, 3) := by decide +kernel
theorem dX10_mate_8 : decode cX10_mate 8 = .ok (.ifCond .ne 6, 3) := by decide +kernel
theorem dX10_mate_11 : decode cX10_mate 11 = .ok (.bipush (-2), 2) := by decide +kernel
theorem dX10_mate_13 : decode cX10_mate 13 = .ok (.ireturn, 1) := by decide +kernel
theorem dX10_mate_14 : decode cX10_mate 14 = .ok (.aload_n 0, 1) := by decide +kernel
theorem dX10_mate_15 : decode cX10_mate 15 = .ok (.getfield 50, 3) := by decide +kernel
theorem dX10_mate_18 : decode cX10_mate 18 = .ok (.aload_n 0, 1) := by decide +kernel
theorem dX10_mate_19 : decode cX10_mate 19 = .ok (.getfield 19, 3) := by decide +kernel
theorem dX10_mate_22 : decode cX10_mate 22 = .ok (.iconst (-1), 1) := by decide +kernel
theorem dX10_mate_23 : decode cX10_mate 23 = .ok (.invokevirtual 227, 3) := by decide +kernel
theorem dX10_mate_26 : decode cX10_mate 26 = .ok (.iconst (-1), 1) := by decide +kernel
theorem dX10_mate_27 : decode cX10_mate 27 = .ok (.istore_n 2, 1) := by decide +kernel
theorem dX10_mate_28 : decode cX10_mate 28 = .ok (.bipush 13, 2) := by decide +kernel
theorem dX10_mate_30 : decode cX10_mate 30 = .ok (.istore_n 3, 1) := by decide +kernel
theorem dX10_mate_31 : decode cX10_mate 31 = .ok (.iconst 0, 1) := by decide +kernel
theorem dX10_mate_32 : decode cX10_mate 32 = .ok (.istore 4, 2) := by decide +kernel
theorem dX10_mate_34 : decode cX10_mate 34 = .ok (.iload 4, 2) := by decide +kernel
theorem dX10_mate_36 : decode cX10_mate 36 = .ok (.aload_n 0, 1) := by decide +kernel
theorem dX10_mate_37 : decode cX10_mate 37 = .ok (.getfield 19, 3) := by decide +kernel
theorem dX10_mate_40 : decode cX10_mate 40 = .ok (.getfield 274, 3) := by decide +kernel
theorem dX10_mate_43 : decode cX10_mate 43 = .ok (.if_icmp .ge 65, 3) := by decide +kernel
theorem dX10_mate_46 : decode cX10_mate 46 = .ok (.aload_n 0, 1) := by decide +kernel
theorem dX10_mate_47 : decode cX10_mate 47 = .ok (.getfield 19, 3) := by decide +kernel
theorem dX10_mate_50 : decode cX10_mate 50 = .ok (.getfield 115, 3) := by decide +kernel
theorem dX10_mate_53 : decode cX10_mate 53 = .ok (.iload_n 1, 1) := by decide +kernel
theorem dX10_mate_54 : decode cX10_mate 54 = .ok (.iaload, 1) := by decide +kernel
theorem dX10_mate_55 : decode cX10_mate 55 = .ok (.aload_n 0, 1) := by decide +kernel
theorem dX10_mate_56 : decode cX10_mate 56 = .ok (.getfield 19, 3) := by decide +kernel
theorem dX10_mate_59 : decode cX10_mate 59 = .ok (.getfield 115, 3) := by decide +kernel
theorem dX10_mate_62 : decode cX10_mate 62 = .ok (.iload 4, 2) := by decide +kernel
theorem dX10_mate_64 : decode cX10_mate 64 = .ok (.iaload, 1) := by decide +kernel
theorem dX10_mate_65 : decode cX10_mate 65 = .ok (.iand, 1) := by decide +kernel
theorem dX10_mate_66 : decode cX10_mate 66 = .ok (.invokestatic 277, 3) := by decide +kernel
theorem dX10_mate_69 : decode cX10_mate 69 = .ok (.istore 5, 2) := by decide +kernel
theorem dX10_mate_71 : decode cX10_mate 71 = .ok (.iload 4, 2) := by decide +kernel
theorem dX10_mate_73 : decode cX10_mate 73 = .ok (.iload_n 1, 1) := by decide +kernel
theorem dX10_mate_74 : decode cX10_mate 74 = .ok (.if_icmp .eq 28, 3) := by decide +kernel
theorem dX10_mate_77 : decode cX10_mate 77 = .ok (.aload_n 0, 1) := by decide +kernel
theorem dX10_mate_78 : decode cX10_mate 78 = .ok (.getfield 50, 3) := by decide +kernel
theorem dX10_mate_81 : decode cX10_mate 81 = .ok (.iload_n 1, 1) := by decide +kernel
theorem dX10_mate_82 : decode cX10_mate 82 = .ok (.iload 4, 2) := by decide +kernel
theorem dX10_mate_84 : decode cX10_mate 84 = .ok (.invokevirtual 282, 3) := by decide +kernel
theorem dX10_mate_87 : decode cX10_mate 87 = .ok (.ifCond .ne 15, 3) := by decide +kernel
theorem dX10_mate_90 : decode cX10_mate 90 = .ok (.iload 5, 2) := by decide +kernel
theorem dX10_mate_92 : decode cX10_mate 92 = .ok (.iload_n 3, 1) := by decide +kernel
theorem dX10_mate_93 : decode cX10_mate 93 = .ok (.if_icmp .ge 9, 3) := by decide +kernel
theorem dX10_mate_96 : decode cX10_mate 96 = .ok (.iload 4, 2) := by decide +kernel
theorem dX10_mate_98 : decode cX10_mate 98 = .ok (.istore_n 2, 1) := by decide +kernel
theorem dX10_mate_99 : decode cX10_mate 99 = .ok (.iload 5, 2) := by decide +kernel
theorem dX10_mate_101 : decode cX10_mate 101 = .ok (.istore_n 3, 1) := by decide +kernel
theorem dX10_mate_102 : decode cX10_mate 102 = .ok (.iinc 4 1, 3) := by decide +kernel
theorem dX10_mate_105 : decode cX10_mate 105 = .ok (.goto (-71), 3) := by decide +kernel
theorem dX10_mate_108 : decode cX10_mate 108 = .ok (.iload_n 2, 1) := by decide +kernel
theorem dX10_mate_109 : decode cX10_mate 109 = .ok (.ireturn, 1) := by decide +kernel
def mX10_mate (n : Nat) (a : Nat) (b1 : Int) (μ : Mem) : Option (Int × Mem) :=
  (gA μ 11 a 1).bind fun x1 =>
  (inv μ 2 x1 (mX1_hasHouse n x1 b1 μ)).bind fun p5 =>
  if eq32 p5.1 0 then
    some ((-2), p5.2)
  else
  (gA p5.2 11 a 7).bind fun x15 =>
  (gA p5.2 11 a 1).bind fun x19 =>
  (inv p5.2 10 x15 (mX9_look n x15 x19 (-1) p5.2)).bind fun p23 =>
  lp (fun nx34 (v34 : Int × Int × Int) (μ34 : Mem) =>
  (gA μ34 11 a 1).bind fun x37 =>
  (gI μ34 2 x37 0).bind fun x40 =>
  if lt32 v34.2.2 x40 then
    (gA μ34 11 a 1).bind fun x47 =>
    (gA μ34 2 x47 9).bind fun x50 =>
    (ldI μ34 0 x50 b1).bind fun x54 =>
    (gA μ34 11 a 1).bind fun x56 =>
    (gA μ34 2 x56 9).bind fun x59 =>
    (ldI μ34 0 x59 v34.2.2).bind fun x64 =>
    (mJ6_bitCount_0f7a4 n (oAnd x54 x64) μ34).bind fun p66 =>
    if eq32 v34.2.2 b1 then
      nx34 (v34.1, v34.2.1, (v34.2.2 + 1)) p66.2
    else
    (gA p66.2 11 a 7).bind fun x78 =>
    (inv p66.2 10 x78 (mX9_tied n x78 b1 v34.2.2 p66.2)).bind fun p84 =>
    if eq32 p84.1 0 then
      if lt32 p66.1 v34.2.1 then
        nx34 (v34.2.2, p66.1, (v34.2.2 + 1)) p84.2
      else
      nx34 (v34.1, v34.2.1, (v34.2.2 + 1)) p84.2
    else
    nx34 (v34.1, v34.2.1, (v34.2.2 + 1)) p84.2
  else
  some (v34.1, μ34)) n ((-1), 13, 0) p23.2
set_option maxRecDepth 100000 in
set_option maxHeartbeats 4000000 in
theorem cX10_mate_ok (n : Nat) (a : Nat) (b1 : Int) (μ : Mem) : Mc yX10_mate cX10_mate 6 (some .int) 2 48 eI [aA a, aI b1] μ (mX10_mate n a b1 μ) := by
  refine mc_of (L0 := [some (aA a), some (aI b1), none, none, none, none]) (k := 4) (by decide) rfl rfl (fun X Γ => ?_)
  unfold mX10_mate
  refine sn_aload_n dX10_mate_0 rfl ?_
  refine sn_getA (ci := 10) (j := 1) dX10_mate_1 fl_X10_19 (by decide) (fun x1 => ?_)
  refine sn_iload_n dX10_mate_4 rfl ?_
  refine sn_callVI (vs := [aI b1]) (ci := 1) (cX1_hasHouse_ok n x1 b1 μ) dX10_mate_5 cw_X10_101 rfl rfl rfl (by decide) (by decide) (Nat.le_of_ble_eq_true rfl) (fun p5 => ?_)
  refine sn_if_ne (tgt := 14) dX10_mate_8 (by decide) ?_ ?_
  · refine sn_aload_n dX10_mate_14 rfl ?_
    refine sn_getA (ci := 10) (j := 7) dX10_mate_15 fl_X10_50 (by decide) (fun x15 => ?_)
    refine sn_aload_n dX10_mate_18 rfl ?_
    refine sn_getA (ci := 10) (j := 1) dX10_mate_19 fl_X10_19 (by decide) (fun x19 => ?_)
    refine sn_iconst dX10_mate_22 ?_
    refine sn_callVV (vs := [aA x19, aI (-1)]) (ci := 9) (cX9_look_ok n x15 x19 (-1) p5.2) dX10_mate_23 cw_X10_227 rfl rfl rfl (by decide) (by decide) (Nat.le_of_ble_eq_true rfl) (fun p23 => ?_)
    refine sn_iconst dX10_mate_26 ?_
    refine sn_istore_n (L' := [some (aA a), some (aI b1), some (aI (-1)), none, none, none]) dX10_mate_27 (by decide) rfl ?_
    refine sn_bipush dX10_mate_28 (by decide) ?_
    refine sn_istore_n (L' := [some (aA a), some (aI b1), some (aI (-1)), some (aI 13), none, none]) dX10_mate_30 (by decide) rfl ?_
    refine sn_iconst dX10_mate_31 ?_
    refine sn_istore (L' := [some (aA a), some (aI b1), some (aI (-1)), some (aI 13), some (aI 0), none]) dX10_mate_32 (by decide) rfl ?_
    refine sn_lp (La := fun v34 : Int × Int × Int => [some (aA a), some (aI b1), some (aI v34.1), some (aI v34.2.1), some (aI v34.2.2), none]) ?_ n ((-1), 13, 0) p23.2
    intro nx34 hnx34 v34 μ34
    refine sn_iload dX10_mate_34 rfl ?_
    refine sn_aload_n dX10_mate_36 rfl ?_
    refine sn_getA (ci := 10) (j := 1) dX10_mate_37 fl_X10_19 (by decide) (fun x37 => ?_)
    refine sn_getI (ci := 1) (j := 0) dX10_mate_40 fl_X10_274 rfl (fun x40 => ?_)
    refine sn_icmp_ge (tgt := 108) dX10_mate_43 (by decide) ?_ ?_
    · refine sn_iload_n dX10_mate_108 rfl ?_
      exact sn_iret dX10_mate_109
    · refine sn_aload_n dX10_mate_46 rfl ?_
      refine sn_getA (ci := 10) (j := 1) dX10_mate_47 fl_X10_19 (by decide) (fun x47 => ?_)
      refine sn_getA (ci := 1) (j := 9) dX10_mate_50 fl_X10_115 (by decide) (fun x50 => ?_)
      refine sn_iload_n dX10_mate_53 rfl ?_
      refine sn_iald dX10_mate_54 (fun x54 => ?_)
      refine sn_aload_n dX10_mate_55 rfl ?_
      refine sn_getA (ci := 10) (j := 1) dX10_mate_56 fl_X10_19 (by decide) (fun x56 => ?_)
      refine sn_getA (ci := 1) (j := 9) dX10_mate_59 fl_X10_115 (by decide) (fun x59 => ?_)
      refine sn_iload dX10_mate_62 rfl ?_
      refine sn_iald dX10_mate_64 (fun x64 => ?_)
      refine sn_iand dX10_mate_65 ?_
      refine sn_callSI (vs := [aI (oAnd x54 x64)]) (cJ6_bitCount_0f7a4_ok n (oAnd x54 x64) μ34) dX10_mate_66 cw_X10_277 rfl (by decide) (by decide) (Nat.le_of_ble_eq_true rfl) (fun p66 => ?_)
      refine sn_istore (L' := [some (aA a), some (aI b1), some (aI v34.1), some (aI v34.2.1), some (aI v34.2.2), some (aI p66.1)]) dX10_mate_69 (by decide) rfl ?_
      refine sn_iload dX10_mate_71 rfl ?_
      refine sn_iload_n dX10_mate_73 rfl ?_
      refine sn_icmp_eq (tgt := 102) dX10_mate_74 (by decide) ?_ ?_
      · refine sn_iinc (L' := [some (aA a), some (aI b1), some (aI v34.1), some (aI v34.2.1), some (aI (v34.2.2 + 1)), some (aI p66.1)]) dX10_mate_102 rfl (by decide) rfl ?_
        refine sn_goto (tgt := 34) dX10_mate_105 (by decide) ?_
        exact sn_mask (L' := [some (aA a), some (aI b1), some (aI v34.1), some (aI v34.2.1), some (aI (v34.2.2 + 1)), none]) [true, true, true, true, true, false] rfl (hnx34 (v34.1, v34.2.1, (v34.2.2 + 1)) p66.2)
      · refine sn_aload_n dX10_mate_77 rfl ?_
        refine sn_getA (ci := 10) (j := 7) dX10_mate_78 fl_X10_50 (by decide) (fun x78 => ?_)
        refine sn_iload_n dX10_mate_81 rfl ?_
        refine sn_iload dX10_mate_82 rfl ?_
        refine sn_callVI (vs := [aI b1, aI v34.2.2]) (ci := 9) (cX9_tied_ok n x78 b1 v34.2.2 p66.2) dX10_mate_84 cw_X10_282 rfl rfl rfl (by decide) (by decide) (Nat.le_of_ble_eq_true rfl) (fun p84 => ?_)
        refine sn_if_ne (tgt := 102) dX10_mate_87 (by decide) ?_ ?_
        · refine sn_iinc (L' := [some (aA a), some (aI b1), some (aI v34.1), some (aI v34.2.1), some (aI (v34.2.2 + 1)), some (aI p66.1)]) dX10_mate_102 rfl (by decide) rfl ?_
          refine sn_goto (tgt := 34) dX10_mate_105 (by decide) ?_
          exact sn_mask (L' := [some (aA a), some (aI b1), some (aI v34.1), some (aI v34.2.1), some (aI (v34.2.2 + 1)), none]) [true, true, true, true, true, false] rfl (hnx34 (v34.1, v34.2.1, (v34.2.2 + 1)) p84.2)
        · refine sn_iload dX10_mate_90 rfl ?_
          refine sn_iload_n dX10_mate_92 rfl ?_
          refine sn_icmp_ge (tgt := 102) dX10_mate_93 (by decide) ?_ ?_
          · refine sn_iinc (L' := [some (aA a), some (aI b1), some (aI v34.1), some (aI v34.2.1), some (aI (v34.2.2 + 1)), some (aI p66.1)]) dX10_mate_102 rfl (by decide) rfl ?_
            refine sn_goto (tgt := 34) dX10_mate_105 (by decide) ?_
            exact sn_mask (L' := [some (aA a), some (aI b1), some (aI v34.1), some (aI v34.2.1), some (aI (v34.2.2 + 1)), none]) [true, true, true, true, true, false] rfl (hnx34 (v34.1, v34.2.1, (v34.2.2 + 1)) p84.2)
          · refine sn_iload dX10_mate_96 rfl ?_
            refine sn_istore_n (L' := [some (aA a), some (aI b1), some (aI v34.2.2), some (aI v34.2.1), some (aI v34.2.2), some (aI p66.1)]) dX10_mate_98 (by decide) rfl ?_
            refine sn_iload dX10_mate_99 rfl ?_
            refine sn_istore_n (L' := [some (aA a), some (aI b1), some (aI v34.2.2), some (aI p66.1), some (aI v34.2.2), some (aI p66.1)]) dX10_mate_101 (by decide) rfl ?_
            refine sn_iinc (L' := [some (aA a), some (aI b1), some (aI v34.2.2), some (aI p66.1), some (aI (v34.2.2 + 1)), some (aI p66.1)]) dX10_mate_102 rfl (by decide) rfl ?_
            refine sn_goto (tgt := 34) dX10_mate_105 (by decide) ?_
            exact sn_mask (L' := [some (aA a), some (aI b1), some (aI v34.2.2), some (aI p66.1), some (aI (v34.2.2 + 1)), none]) [true, true, true, true, true, false] rfl (hnx34 (v34.2.2, p66.1, (v34.2.2 + 1)) p84.2)
  · refine sn_bipush dX10_mate_11 (by decide) ?_
    exact sn_iret dX10_mate_13
theorem dX10_neighbours_0 : decode cX10_neighbours 0 = .ok (.aload_n 0, 1) := by decide +kernel
theorem dX10_neighbours_1 : decode cX10_neighbours 1 = .ok (.getfield 19, 3) := by decide +kernel
theorem dX10_neighbours_4 : decode cX10_neighbours 4 = .ok (.iload_n 1, 1) := by decide +kernel
theorem dX10_neighbours_5 : decode cX10_neighbours 5 = .ok (.invokevirtual 101, 3) := by decide +kernel
theorem dX10_neighbours_8 : decode cX10_neighbours 8 = .ok (.ifCond .ne 6, 3) := by decide +kernel
theorem dX10_neighbours_11 : decode cX10_neighbours 11 = .ok (.bipush (-2), 2) := by decide +kernel
theorem dX10_neighbours_13 : decode cX10_neighbours 13 = .ok (.ireturn, 1) := by decide +kernel
theorem dX10_neighbours_14 : decode cX10_neighbours 14 = .ok (.aload_n 0, 1) := by decide +kernel
theorem dX10_neighbours_15 : decode cX10_neighbours 15 = .ok (.getfield 50, 3) := by decide +kernel
theorem dX10_neighbours_18 : decode cX10_neighbours 18 = .ok (.aload_n 0, 1) := by decide +kernel
theorem dX10_neighbours_19 : decode cX10_neighbours 19 = .ok (.getfield 19, 3) := by decide +kernel
theorem dX10_neighbours_22 : decode cX10_neighbours 22 = .ok (.iconst (-1), 1) := by decide +kernel
theorem dX10_neighbours_23 : decode cX10_neighbours 23 = .ok (.invokevirtual 227, 3) := by decide +kernel
theorem dX10_neighbours_26 : decode cX10_neighbours 26 = .ok (.aload_n 0, 1) := by decide +kernel
theorem dX10_neighbours_27 : decode cX10_neighbours 27 = .ok (.getfield 50, 3) := by decide +kernel
theorem dX10_neighbours_30 : decode cX10_neighbours 30 = .ok (.iload_n 1, 1) := by decide +kernel
theorem dX10_neighbours_31 : decode cX10_neighbours 31 = .ok (.invokevirtual 240, 3) := by decide +kernel
theorem dX10_neighbours_34 : decode cX10_neighbours 34 = .ok (.ireturn, 1) := by decide +kernel
def mX10_neighbours (n : Nat) (a : Nat) (b1 : Int) (μ : Mem) : Option (Int × Mem) :=
  (gA μ 11 a 1).bind fun x1 =>
  (inv μ 2 x1 (mX1_hasHouse n x1 b1 μ)).bind fun p5 =>
  if eq32 p5.1 0 then
    some ((-2), p5.2)
  else
  (gA p5.2 11 a 7).bind fun x15 =>
  (gA p5.2 11 a 1).bind fun x19 =>
  (inv p5.2 10 x15 (mX9_look n x15 x19 (-1) p5.2)).bind fun p23 =>
  (gA p23.2 11 a 7).bind fun x27 =>
  (inv p23.2 10 x27 (mX9_part n x27 b1 p23.2)).bind fun p31 =>
  some (p31.1, p31.2)
set_option maxRecDepth 100000 in
set_option maxHeartbeats 4000000 in
theorem cX10_neighbours_ok (n : Nat) (a : Nat) (b1 : Int) (μ : Mem) : Mc yX10_neighbours cX10_neighbours 2 (some .int) 2 48 eI [aA a, aI b1] μ (mX10_neighbours n a b1 μ) := by
  refine mc_of (L0 := [some (aA a), some (aI b1)]) (k := 0) (by decide) rfl rfl (fun X Γ => ?_)
  unfold mX10_neighbours
  refine sn_aload_n dX10_neighbours_0 rfl ?_
  refine sn_getA (ci := 10) (j := 1) dX10_neighbours_1 fl_X10_19 (by decide) (fun x1 => ?_)
  refine sn_iload_n dX10_neighbours_4 rfl ?_
  refine sn_callVI (vs := [aI b1]) (ci := 1) (cX1_hasHouse_ok n x1 b1 μ) dX10_neighbours_5 cw_X10_101 rfl rfl rfl (by decide) (by decide) (Nat.le_of_ble_eq_true rfl) (fun p5 => ?_)
  refine sn_if_ne (tgt := 14) dX10_neighbours_8 (by decide) ?_ ?_
  · refine sn_aload_n dX10_neighbours_14 rfl ?_
    refine sn_getA (ci := 10) (j := 7) dX10_neighbours_15 fl_X10_50 (by decide) (fun x15 => ?_)
    refine sn_aload_n dX10_neighbours_18 rfl ?_
    refine sn_getA (ci := 10) (j := 1) dX10_neighbours_19 fl_X10_19 (by decide) (fun x19 => ?_)
    refine sn_iconst dX10_neighbours_22 ?_
    refine sn_callVV (vs := [aA x19, aI (-1)]) (ci := 9) (cX9_look_ok n x15 x19 (-1) p5.2) dX10_neighbours_23 cw_X10_227 rfl rfl rfl (by decide) (by decide) (Nat.le_of_ble_eq_true rfl) (fun p23 => ?_)
    refine sn_aload_n dX10_neighbours_26 rfl ?_
    refine sn_getA (ci := 10) (j := 7) dX10_neighbours_27 fl_X10_50 (by decide) (fun x27 => ?_)
    refine sn_iload_n dX10_neighbours_30 rfl ?_
    refine sn_callVI (vs := [aI b1]) (ci := 9) (cX9_part_ok n x27 b1 p23.2) dX10_neighbours_31 cw_X10_240 rfl rfl rfl (by decide) (by decide) (Nat.le_of_ble_eq_true rfl) (fun p31 => ?_)
    exact sn_iret dX10_neighbours_34
  · refine sn_bipush dX10_neighbours_11 (by decide) ?_
    exact sn_iret dX10_neighbours_13
theorem dX10_numbers_0 : decode cX10_numbers 0 = .ok (.iload_n 1, 1) := by decide +kernel
theorem dX10_numbers_1 : decode cX10_numbers 1 = .ok (.invokestatic 166, 3) := by decide +kernel
theorem dX10_numbers_4 : decode cX10_numbers 4 = .ok (.ifCond .eq 12, 3) := by decide +kernel
theorem dX10_numbers_7 : decode cX10_numbers 7 = .ok (.iload_n 2, 1) := by decide +kernel
theorem dX10_numbers_8 : decode cX10_numbers 8 = .ok (.ifCond .lt 8, 3) := by decide +kernel
theorem dX10_numbers_11 : decode cX10_numbers 11 = .ok (.iload_n 2, 1) := by decide +kernel
theorem dX10_numbers_12 : decode cX10_numbers 12 = .ok (.iconst 3, 1) := by decide +kernel
theorem dX10_numbers_13 : decode cX10_numbers 13 = .ok (.if_icmp .le 6, 3) := by decide +kernel
theorem dX10_numbers_16 : decode cX10_numbers 16 = .ok (.bipush (-2), 2) := by decide +kernel
theorem dX10_numbers_18 : decode cX10_numbers 18 = .ok (.ireturn, 1) := by decide +kernel
theorem dX10_numbers_19 : decode cX10_numbers 19 = .ok (.iload_n 3, 1) := by decide +kernel
theorem dX10_numbers_20 : decode cX10_numbers 20 = .ok (.ifCond .lt 9, 3) := by decide +kernel
theorem dX10_numbers_23 : decode cX10_numbers 23 = .ok (.iload_n 3, 1) := by decide +kernel
theorem dX10_numbers_24 : decode cX10_numbers 24 = .ok (.bipush 60, 2) := by decide +kernel
theorem dX10_numbers_26 : decode cX10_numbers 26 = .ok (.if_icmp .le 6, 3) := by decide +kernel
theorem dX10_numbers_29 : decode cX10_numbers 29 = .ok (.bipush (-3), 2) := by decide +kernel
theorem dX10_numbers_31 : decode cX10_numbers 31 = .ok (.ireturn, 1) := by decide +kernel
theorem dX10_numbers_32 : decode cX10_numbers 32 = .ok (.aload_n 0, 1) := by decide +kernel
theorem dX10_numbers_33 : decode cX10_numbers 33 = .ok (.getfield 36, 3) := by decide +kernel
theorem dX10_numbers_36 : decode cX10_numbers 36 = .ok (.iload_n 1, 1) := by decide +kernel
theorem dX10_numbers_37 : decode cX10_numbers 37 = .ok (.aaload, 1) := by decide +kernel
theorem dX10_numbers_38 : decode cX10_numbers 38 = .ok (.iload_n 2, 1) := by decide +kernel
theorem dX10_numbers_39 : decode cX10_numbers 39 = .ok (.iload_n 3, 1) := by decide +kernel
theorem dX10_numbers_40 : decode cX10_numbers 40 = .ok (.invokevirtual 315, 3) := by decide +kernel
theorem dX10_numbers_43 : decode cX10_numbers 43 = .ok (.iconst 0, 1) := by decide +kernel
theorem dX10_numbers_44 : decode cX10_numbers 44 = .ok (.ireturn, 1) := by decide +kernel
def mX10_numbers (n : Nat) (a : Nat) (b1 : Int) (b2 : Int) (b3 : Int) (μ : Mem) : Option (Int × Mem) :=
  (mX10_isRow n b1 μ).bind fun p1 =>
  if eq32 p1.1 0 then
    some ((-2), p1.2)
  else
  if lt32 b2 0 then
    some ((-2), p1.2)
  else
  if lt32 3 b2 then
    some ((-2), p1.2)
  else
  if lt32 b3 0 then
    some ((-3), p1.2)
  else
  if lt32 60 b3 then
    some ((-3), p1.2)
  else
  (gA p1.2 11 a 5).bind fun x33 =>
  (ldA p1.2 5 x33 b1).bind fun x37 =>
  (inv p1.2 4 x37 (mX3_begin n x37 b2 b3 p1.2)).bind fun p40 =>
  some (0, p40.2)
set_option maxRecDepth 100000 in
set_option maxHeartbeats 4000000 in
theorem cX10_numbers_ok (n : Nat) (a : Nat) (b1 : Int) (b2 : Int) (b3 : Int) (μ : Mem) : Mc yX10_numbers cX10_numbers 4 (some .int) 2 62 eI [aA a, aI b1, aI b2, aI b3] μ (mX10_numbers n a b1 b2 b3 μ) := by
  refine mc_of (L0 := [some (aA a), some (aI b1), some (aI b2), some (aI b3)]) (k := 0) (by decide) rfl rfl (fun X Γ => ?_)
  unfold mX10_numbers
  refine sn_iload_n dX10_numbers_0 rfl ?_
  refine sn_callSI (vs := [aI b1]) (cX10_isRow_ok n b1 μ) dX10_numbers_1 cw_X10_166 rfl (by decide) (by decide) (Nat.le_of_ble_eq_true rfl) (fun p1 => ?_)
  refine sn_if_eq (tgt := 16) dX10_numbers_4 (by decide) ?_ ?_
  · refine sn_bipush dX10_numbers_16 (by decide) ?_
    exact sn_iret dX10_numbers_18
  · refine sn_iload_n dX10_numbers_7 rfl ?_
    refine sn_if_lt (tgt := 16) dX10_numbers_8 (by decide) ?_ ?_
    · refine sn_bipush dX10_numbers_16 (by decide) ?_
      exact sn_iret dX10_numbers_18
    · refine sn_iload_n dX10_numbers_11 rfl ?_
      refine sn_iconst dX10_numbers_12 ?_
      refine sn_icmp_le (tgt := 19) dX10_numbers_13 (by decide) ?_ ?_
      · refine sn_iload_n dX10_numbers_19 rfl ?_
        refine sn_if_lt (tgt := 29) dX10_numbers_20 (by decide) ?_ ?_
        · refine sn_bipush dX10_numbers_29 (by decide) ?_
          exact sn_iret dX10_numbers_31
        · refine sn_iload_n dX10_numbers_23 rfl ?_
          refine sn_bipush dX10_numbers_24 (by decide) ?_
          refine sn_icmp_le (tgt := 32) dX10_numbers_26 (by decide) ?_ ?_
          · refine sn_aload_n dX10_numbers_32 rfl ?_
            refine sn_getA (ci := 10) (j := 5) dX10_numbers_33 fl_X10_36 (by decide) (fun x33 => ?_)
            refine sn_iload_n dX10_numbers_36 rfl ?_
            refine sn_aald5 dX10_numbers_37 (fun x37 => ?_)
            refine sn_iload_n dX10_numbers_38 rfl ?_
            refine sn_iload_n dX10_numbers_39 rfl ?_
            refine sn_callVV (vs := [aI b2, aI b3]) (ci := 3) (cX3_begin_ok n x37 b2 b3 p1.2) dX10_numbers_40 cw_X10_315 rfl rfl rfl (by decide) (by decide) (Nat.le_of_ble_eq_true rfl) (fun p40 => ?_)
            refine sn_iconst dX10_numbers_43 ?_
            exact sn_iret dX10_numbers_44
          · refine sn_bipush dX10_numbers_29 (by decide) ?_
            exact sn_iret dX10_numbers_31
      · refine sn_bipush dX10_numbers_16 (by decide) ?_
        exact sn_iret dX10_numbers_18
theorem dX10_parted_0 : decode cX10_parted 0 = .ok (.aload_n 0, 1) := by decide +kernel
theorem dX10_parted_1 : decode cX10_parted 1 = .ok (.getfield 50, 3) := by decide +kernel
theorem dX10_parted_4 : decode cX10_parted 4 = .ok (.aload_n 0, 1) := by decide +kernel
theorem dX10_parted_5 : decode cX10_parted 5 = .ok (.getfield 19, 3) := by decide +kernel
theorem dX10_parted_8 : decode cX10_parted 8 = .ok (.iconst (-1), 1) := by decide +kernel
theorem dX10_parted_9 : decode cX10_parted 9 = .ok (.invokevirtual 227, 3) := by decide +kernel
theorem dX10_parted_12 : decode cX10_parted 12 = .ok (.aload_n 0, 1) := by decide +kernel
theorem dX10_parted_13 : decode cX10_parted 13 = .ok (.getfield 50, 3) := by decide +kernel
theorem dX10_parted_16 : decode cX10_parted 16 = .ok (.invokevirtual 233, 3) := by decide +kernel
theorem dX10_parted_19 : decode cX10_parted 19 = .ok (.ireturn, 1) := by decide +kernel
def mX10_parted (n : Nat) (a : Nat) (μ : Mem) : Option (Int × Mem) :=
  (gA μ 11 a 7).bind fun x1 =>
  (gA μ 11 a 1).bind fun x5 =>
  (inv μ 10 x1 (mX9_look n x1 x5 (-1) μ)).bind fun p9 =>
  (gA p9.2 11 a 7).bind fun x13 =>
  (inv p9.2 10 x13 (mX9_oneSide n x13 p9.2)).bind fun p16 =>
  some (p16.1, p16.2)
set_option maxRecDepth 100000 in
set_option maxHeartbeats 4000000 in
theorem cX10_parted_ok (n : Nat) (a : Nat) (μ : Mem) : Mc yX10_parted cX10_parted 1 (some .int) 2 49 eI [aA a] μ (mX10_parted n a μ) := by
  refine mc_of (L0 := [some (aA a)]) (k := 0) (by decide) rfl rfl (fun X Γ => ?_)
  unfold mX10_parted
  refine sn_aload_n dX10_parted_0 rfl ?_
  refine sn_getA (ci := 10) (j := 7) dX10_parted_1 fl_X10_50 (by decide) (fun x1 => ?_)
  refine sn_aload_n dX10_parted_4 rfl ?_
  refine sn_getA (ci := 10) (j := 1) dX10_parted_5 fl_X10_19 (by decide) (fun x5 => ?_)
  refine sn_iconst dX10_parted_8 ?_
  refine sn_callVV (vs := [aA x5, aI (-1)]) (ci := 9) (cX9_look_ok n x1 x5 (-1) μ) dX10_parted_9 cw_X10_227 rfl rfl rfl (by decide) (by decide) (Nat.le_of_ble_eq_true rfl) (fun p9 => ?_)
  refine sn_aload_n dX10_parted_12 rfl ?_
  refine sn_getA (ci := 10) (j := 7) dX10_parted_13 fl_X10_50 (by decide) (fun x13 => ?_)
  refine sn_callVI (vs := []) (ci := 9) (cX9_oneSide_ok n x13 p9.2) dX10_parted_16 cw_X10_233 rfl rfl rfl (by decide) (by decide) (Nat.le_of_ble_eq_true rfl) (fun p16 => ?_)
  exact sn_iret dX10_parted_19
theorem dX10_pass_0 : decode cX10_pass 0 = .ok (.aload_n 0, 1) := by decide +kernel
theorem dX10_pass_1 : decode cX10_pass 1 = .ok (.getfield 19, 3) := by decide +kernel
theorem dX10_pass_4 : decode cX10_pass 4 = .ok (.getfield 152, 3) := by decide +kernel
theorem dX10_pass_7 : decode cX10_pass 7 = .ok (.sipush 9999, 3) := by decide +kernel
theorem dX10_pass_10 : decode cX10_pass 10 = .ok (.if_icmp .lt 6, 3) := by decide +kernel
theorem dX10_pass_13 : decode cX10_pass 13 = .ok (.bipush (-5), 2) := by decide +kernel
theorem dX10_pass_15 : decode cX10_pass 15 = .ok (.ireturn, 1) := by decide +kernel
theorem dX10_pass_16 : decode cX10_pass 16 = .ok (.aload_n 0, 1) := by decide +kernel
theorem dX10_pass_17 : decode cX10_pass 17 = .ok (.getfield 43, 3) := by decide +kernel
theorem dX10_pass_20 : decode cX10_pass 20 = .ok (.aload_n 0, 1) := by decide +kernel
theorem dX10_pass_21 : decode cX10_pass 21 = .ok (.getfield 19, 3) := by decide +kernel
theorem dX10_pass_24 : decode cX10_pass 24 = .ok (.iconst (-1), 1) := by decide +kernel
theorem dX10_pass_25 : decode cX10_pass 25 = .ok (.iconst (-1), 1) := by decide +kernel
theorem dX10_pass_26 : decode cX10_pass 26 = .ok (.invokevirtual 155, 3) := by decide +kernel
theorem dX10_pass_29 : decode cX10_pass 29 = .ok (.aload_n 0, 1) := by decide +kernel
theorem dX10_pass_30 : decode cX10_pass 30 = .ok (.getfield 43, 3) := by decide +kernel
theorem dX10_pass_33 : decode cX10_pass 33 = .ok (.getfield 159, 3) := by decide +kernel
theorem dX10_pass_36 : decode cX10_pass 36 = .ok (.ireturn, 1) := by decide +kernel
def mX10_pass (n : Nat) (a : Nat) (μ : Mem) : Option (Int × Mem) :=
  (gA μ 11 a 1).bind fun x1 =>
  (gI μ 2 x1 2).bind fun x4 =>
  if lt32 x4 9999 then
    (gA μ 11 a 6).bind fun x17 =>
    (gA μ 11 a 1).bind fun x21 =>
    (inv μ 8 x17 (mX7_doHour n x17 x21 (-1) (-1) μ)).bind fun p26 =>
    (gA p26.2 11 a 6).bind fun x30 =>
    (gI p26.2 8 x30 3).bind fun x33 =>
    some (x33, p26.2)
  else
  some ((-5), μ)
set_option maxRecDepth 100000 in
set_option maxHeartbeats 4000000 in
theorem cX10_pass_ok (n : Nat) (a : Nat) (μ : Mem) : Mc yX10_pass cX10_pass 1 (some .int) 6 154 eI [aA a] μ (mX10_pass n a μ) := by
  refine mc_of (L0 := [some (aA a)]) (k := 0) (by decide) rfl rfl (fun X Γ => ?_)
  unfold mX10_pass
  refine sn_aload_n dX10_pass_0 rfl ?_
  refine sn_getA (ci := 10) (j := 1) dX10_pass_1 fl_X10_19 (by decide) (fun x1 => ?_)
  refine sn_getI (ci := 1) (j := 2) dX10_pass_4 fl_X10_152 rfl (fun x4 => ?_)
  refine sn_sipush dX10_pass_7 (by decide) ?_
  refine sn_icmp_lt (tgt := 16) dX10_pass_10 (by decide) ?_ ?_
  · refine sn_aload_n dX10_pass_16 rfl ?_
    refine sn_getA (ci := 10) (j := 6) dX10_pass_17 fl_X10_43 (by decide) (fun x17 => ?_)
    refine sn_aload_n dX10_pass_20 rfl ?_
    refine sn_getA (ci := 10) (j := 1) dX10_pass_21 fl_X10_19 (by decide) (fun x21 => ?_)
    refine sn_iconst dX10_pass_24 ?_
    refine sn_iconst dX10_pass_25 ?_
    refine sn_callVV (vs := [aA x21, aI (-1), aI (-1)]) (ci := 7) (cX7_doHour_ok n x17 x21 (-1) (-1) μ) dX10_pass_26 cw_X10_155 rfl rfl rfl (by decide) (by decide) (Nat.le_of_ble_eq_true rfl) (fun p26 => ?_)
    refine sn_aload_n dX10_pass_29 rfl ?_
    refine sn_getA (ci := 10) (j := 6) dX10_pass_30 fl_X10_43 (by decide) (fun x30 => ?_)
    refine sn_getI (ci := 7) (j := 3) dX10_pass_33 fl_X10_159 rfl (fun x33 => ?_)
    exact sn_iret dX10_pass_36
  · refine sn_bipush dX10_pass_13 (by decide) ?_
    exact sn_iret dX10_pass_15
theorem dX10_perform_0 : decode cX10_perform 0 = .ok (.iload_n 1, 1) := by decide +kernel
theorem dX10_perform_1 : decode cX10_perform 1 = .ok (.invokestatic 166, 3) := by decide +kernel
theorem dX10_perform_4 : decode cX10_perform 4 = .ok (.ifCond .ne 6, 3) := by decide +kernel
theorem dX10_perform_7 : decode cX10_perform 7 = .ok (.bipush (-2), 2) := by decide +kernel
theorem dX10_perform_9 : decode cX10_perform 9 = .ok (.ireturn, 1) := by decide +kernel
theorem dX10_perform_10 : decode cX10_perform 10 = .ok (.aload_n 0, 1) := by decide +kernel
theorem dX10_perform_11 : decode cX10_perform 11 = .ok (.getfield 36, 3) := by decide +kernel
theorem dX10_perform_14 : decode cX10_perform 14 = .ok (.iload_n 1, 1) := by decide +kernel
theorem dX10_perform_15 : decode cX10_perform 15 = .ok (.aaload, 1) := by decide +kernel
theorem dX10_perform_16 : decode cX10_perform 16 = .ok (.invokevirtual 169, 3) := by decide +kernel
theorem dX10_perform_19 : decode cX10_perform 19 = .ok (.ifCond .eq 6, 3) := by decide +kernel
theorem dX10_perform_22 : decode cX10_perform 22 = .ok (.bipush (-6), 2) := by decide +kernel
theorem dX10_perform_24 : decode cX10_perform 24 = .ok (.ireturn, 1) := by decide +kernel
theorem dX10_perform_25 : decode cX10_perform 25 = .ok (.aload_n 0, 1) := by decide +kernel
theorem dX10_perform_26 : decode cX10_perform 26 = .ok (.getfield 43, 3) := by decide +kernel
theorem dX10_perform_29 : decode cX10_perform 29 = .ok (.aload_n 0, 1) := by decide +kernel
theorem dX10_perform_30 : decode cX10_perform 30 = .ok (.getfield 19, 3) := by decide +kernel
theorem dX10_perform_33 : decode cX10_perform 33 = .ok (.aload_n 0, 1) := by decide +kernel
theorem dX10_perform_34 : decode cX10_perform 34 = .ok (.getfield 36, 3) := by decide +kernel
theorem dX10_perform_37 : decode cX10_perform 37 = .ok (.iload_n 1, 1) := by decide +kernel
theorem dX10_perform_38 : decode cX10_perform 38 = .ok (.aaload, 1) := by decide +kernel
theorem dX10_perform_39 : decode cX10_perform 39 = .ok (.invokevirtual 173, 3) := by decide +kernel
theorem dX10_perform_42 : decode cX10_perform 42 = .ok (.aload_n 0, 1) := by decide +kernel
theorem dX10_perform_43 : decode cX10_perform 43 = .ok (.getfield 43, 3) := by decide +kernel
theorem dX10_perform_46 : decode cX10_perform 46 = .ok (.getfield 183, 3) := by decide +kernel
theorem dX10_perform_49 : decode cX10_perform 49 = .ok (.ireturn, 1) := by decide +kernel
def mX10_perform (n : Nat) (a : Nat) (b1 : Int) (μ : Mem) : Option (Int × Mem) :=
  (mX10_isRow n b1 μ).bind fun p1 =>
  if eq32 p1.1 0 then
    some ((-2), p1.2)
  else
  (gA p1.2 11 a 5).bind fun x11 =>
  (ldA p1.2 5 x11 b1).bind fun x15 =>
  (inv p1.2 4 x15 (mX3_isMissing n x15 p1.2)).bind fun p16 =>
  if eq32 p16.1 0 then
    (gA p16.2 11 a 6).bind fun x26 =>
    (gA p16.2 11 a 1).bind fun x30 =>
    (gA p16.2 11 a 5).bind fun x34 =>
    (ldA p16.2 5 x34 b1).bind fun x38 =>
    (inv p16.2 8 x26 (mX7_doTold n x26 x30 x38 p16.2)).bind fun p39 =>
    (gA p39.2 11 a 6).bind fun x43 =>
    (gI p39.2 8 x43 2).bind fun x46 =>
    some (x46, p39.2)
  else
  some ((-6), p16.2)
set_option maxRecDepth 100000 in
set_option maxHeartbeats 4000000 in
theorem cX10_perform_ok (n : Nat) (a : Nat) (b1 : Int) (μ : Mem) : Mc yX10_perform cX10_perform 2 (some .int) 7 177 eI [aA a, aI b1] μ (mX10_perform n a b1 μ) := by
  refine mc_of (L0 := [some (aA a), some (aI b1)]) (k := 0) (by decide) rfl rfl (fun X Γ => ?_)
  unfold mX10_perform
  refine sn_iload_n dX10_perform_0 rfl ?_
  refine sn_callSI (vs := [aI b1]) (cX10_isRow_ok n b1 μ) dX10_perform_1 cw_X10_166 rfl (by decide) (by decide) (Nat.le_of_ble_eq_true rfl) (fun p1 => ?_)
  refine sn_if_ne (tgt := 10) dX10_perform_4 (by decide) ?_ ?_
  · refine sn_aload_n dX10_perform_10 rfl ?_
    refine sn_getA (ci := 10) (j := 5) dX10_perform_11 fl_X10_36 (by decide) (fun x11 => ?_)
    refine sn_iload_n dX10_perform_14 rfl ?_
    refine sn_aald5 dX10_perform_15 (fun x15 => ?_)
    refine sn_callVI (vs := []) (ci := 3) (cX3_isMissing_ok n x15 p1.2) dX10_perform_16 cw_X10_169 rfl rfl rfl (by decide) (by decide) (Nat.le_of_ble_eq_true rfl) (fun p16 => ?_)
    refine sn_if_eq (tgt := 25) dX10_perform_19 (by decide) ?_ ?_
    · refine sn_aload_n dX10_perform_25 rfl ?_
      refine sn_getA (ci := 10) (j := 6) dX10_perform_26 fl_X10_43 (by decide) (fun x26 => ?_)
      refine sn_aload_n dX10_perform_29 rfl ?_
      refine sn_getA (ci := 10) (j := 1) dX10_perform_30 fl_X10_19 (by decide) (fun x30 => ?_)
      refine sn_aload_n dX10_perform_33 rfl ?_
      refine sn_getA (ci := 10) (j := 5) dX10_perform_34 fl_X10_36 (by decide) (fun x34 => ?_)
      refine sn_iload_n dX10_perform_37 rfl ?_
      refine sn_aald5 dX10_perform_38 (fun x38 => ?_)
      refine sn_callVV (vs := [aA x30, aA x38]) (ci := 7) (cX7_doTold_ok n x26 x30 x38 p16.2) dX10_perform_39 cw_X10_173 rfl rfl rfl (by decide) (by decide) (Nat.le_of_ble_eq_true rfl) (fun p39 => ?_)
      refine sn_aload_n dX10_perform_42 rfl ?_
      refine sn_getA (ci := 10) (j := 6) dX10_perform_43 fl_X10_43 (by decide) (fun x43 => ?_)
      refine sn_getI (ci := 7) (j := 2) dX10_perform_46 fl_X10_183 rfl (fun x46 => ?_)
      exact sn_iret dX10_perform_49
    · refine sn_bipush dX10_perform_22 (by decide) ?_
      exact sn_iret dX10_perform_24
  · refine sn_bipush dX10_perform_7 (by decide) ?_
    exact sn_iret dX10_perform_9
theorem dX10_pull_0 : decode cX10_pull 0 = .ok (.aload_n 0, 1) := by decide +kernel
theorem dX10_pull_1 : decode cX10_pull 1 = .ok (.getfield 19, 3) := by decide +kernel
theorem dX10_pull_4 : decode cX10_pull 4 = .ok (.iload_n 2, 1) := by decide +kernel
theorem dX10_pull_5 : decode cX10_pull 5 = .ok (.iload_n 1, 1) := by decide +kernel
theorem dX10_pull_6 : decode cX10_pull 6 = .ok (.invokevirtual 162, 3) := by decide +kernel
theorem dX10_pull_9 : decode cX10_pull 9 = .ok (.ifCond .ne 6, 3) := by decide +kernel
theorem dX10_pull_12 : decode cX10_pull 12 = .ok (.bipush (-2), 2) := by decide +kernel
theorem dX10_pull_14 : decode cX10_pull 14 = .ok (.ireturn, 1) := by decide +kernel
theorem dX10_pull_15 : decode cX10_pull 15 = .ok (.aload_n 0, 1) := by decide +kernel
theorem dX10_pull_16 : decode cX10_pull 16 = .ok (.getfield 19, 3) := by decide +kernel
theorem dX10_pull_19 : decode cX10_pull 19 = .ok (.getfield 149, 3) := by decide +kernel
theorem dX10_pull_22 : decode cX10_pull 22 = .ok (.iload_n 2, 1) := by decide +kernel
theorem dX10_pull_23 : decode cX10_pull 23 = .ok (.baload, 1) := by decide +kernel
theorem dX10_pull_24 : decode cX10_pull 24 = .ok (.ifCond .ne 16, 3) := by decide +kernel
theorem dX10_pull_27 : decode cX10_pull 27 = .ok (.aload_n 0, 1) := by decide +kernel
theorem dX10_pull_28 : decode cX10_pull 28 = .ok (.getfield 19, 3) := by decide +kernel
theorem dX10_pull_31 : decode cX10_pull 31 = .ok (.getfield 152, 3) := by decide +kernel
theorem dX10_pull_34 : decode cX10_pull 34 = .ok (.sipush 9999, 3) := by decide +kernel
theorem dX10_pull_37 : decode cX10_pull 37 = .ok (.if_icmp .lt 6, 3) := by decide +kernel
theorem dX10_pull_40 : decode cX10_pull 40 = .ok (.bipush (-5), 2) := by decide +kernel
theorem dX10_pull_42 : decode cX10_pull 42 = .ok (.ireturn, 1) := by decide +kernel
theorem dX10_pull_43 : decode cX10_pull 43 = .ok (.aload_n 0, 1) := by decide +kernel
theorem dX10_pull_44 : decode cX10_pull 44 = .ok (.getfield 43, 3) := by decide +kernel
theorem dX10_pull_47 : decode cX10_pull 47 = .ok (.aload_n 0, 1) := by decide +kernel
theorem dX10_pull_48 : decode cX10_pull 48 = .ok (.getfield 19, 3) := by decide +kernel
theorem dX10_pull_51 : decode cX10_pull 51 = .ok (.iload_n 1, 1) := by decide +kernel
theorem dX10_pull_52 : decode cX10_pull 52 = .ok (.iload_n 2, 1) := by decide +kernel
theorem dX10_pull_53 : decode cX10_pull 53 = .ok (.invokevirtual 155, 3) := by decide +kernel
theorem dX10_pull_56 : decode cX10_pull 56 = .ok (.aload_n 0, 1) := by decide +kernel
theorem dX10_pull_57 : decode cX10_pull 57 = .ok (.getfield 43, 3) := by decide +kernel
theorem dX10_pull_60 : decode cX10_pull 60 = .ok (.getfield 159, 3) := by decide +kernel
theorem dX10_pull_63 : decode cX10_pull 63 = .ok (.ireturn, 1) := by decide +kernel
def mX10_pull (n : Nat) (a : Nat) (b1 : Int) (b2 : Int) (μ : Mem) : Option (Int × Mem) :=
  (gA μ 11 a 1).bind fun x1 =>
  (inv μ 2 x1 (mX1_hangs n x1 b2 b1 μ)).bind fun p6 =>
  if eq32 p6.1 0 then
    some ((-2), p6.2)
  else
  (gA p6.2 11 a 1).bind fun x16 =>
  (gA p6.2 2 x16 14).bind fun x19 =>
  (ldI p6.2 2 x19 b2).bind fun x23 =>
  if eq32 x23 0 then
    (gA p6.2 11 a 1).bind fun x28 =>
    (gI p6.2 2 x28 2).bind fun x31 =>
    if lt32 x31 9999 then
      (gA p6.2 11 a 6).bind fun x44 =>
      (gA p6.2 11 a 1).bind fun x48 =>
      (inv p6.2 8 x44 (mX7_doHour n x44 x48 b1 b2 p6.2)).bind fun p53 =>
      (gA p53.2 11 a 6).bind fun x57 =>
      (gI p53.2 8 x57 3).bind fun x60 =>
      some (x60, p53.2)
    else
    some ((-5), p6.2)
  else
  some ((-5), p6.2)
set_option maxRecDepth 100000 in
set_option maxHeartbeats 4000000 in
theorem cX10_pull_ok (n : Nat) (a : Nat) (b1 : Int) (b2 : Int) (μ : Mem) : Mc yX10_pull cX10_pull 3 (some .int) 6 154 eI [aA a, aI b1, aI b2] μ (mX10_pull n a b1 b2 μ) := by
  refine mc_of (L0 := [some (aA a), some (aI b1), some (aI b2)]) (k := 0) (by decide) rfl rfl (fun X Γ => ?_)
  unfold mX10_pull
  refine sn_aload_n dX10_pull_0 rfl ?_
  refine sn_getA (ci := 10) (j := 1) dX10_pull_1 fl_X10_19 (by decide) (fun x1 => ?_)
  refine sn_iload_n dX10_pull_4 rfl ?_
  refine sn_iload_n dX10_pull_5 rfl ?_
  refine sn_callVI (vs := [aI b2, aI b1]) (ci := 1) (cX1_hangs_ok n x1 b2 b1 μ) dX10_pull_6 cw_X10_162 rfl rfl rfl (by decide) (by decide) (Nat.le_of_ble_eq_true rfl) (fun p6 => ?_)
  refine sn_if_ne (tgt := 15) dX10_pull_9 (by decide) ?_ ?_
  · refine sn_aload_n dX10_pull_15 rfl ?_
    refine sn_getA (ci := 10) (j := 1) dX10_pull_16 fl_X10_19 (by decide) (fun x16 => ?_)
    refine sn_getA (ci := 1) (j := 14) dX10_pull_19 fl_X10_149 (by decide) (fun x19 => ?_)
    refine sn_iload_n dX10_pull_22 rfl ?_
    refine sn_zald dX10_pull_23 (fun x23 => ?_)
    refine sn_if_ne (tgt := 40) dX10_pull_24 (by decide) ?_ ?_
    · refine sn_bipush dX10_pull_40 (by decide) ?_
      exact sn_iret dX10_pull_42
    · refine sn_aload_n dX10_pull_27 rfl ?_
      refine sn_getA (ci := 10) (j := 1) dX10_pull_28 fl_X10_19 (by decide) (fun x28 => ?_)
      refine sn_getI (ci := 1) (j := 2) dX10_pull_31 fl_X10_152 rfl (fun x31 => ?_)
      refine sn_sipush dX10_pull_34 (by decide) ?_
      refine sn_icmp_lt (tgt := 43) dX10_pull_37 (by decide) ?_ ?_
      · refine sn_aload_n dX10_pull_43 rfl ?_
        refine sn_getA (ci := 10) (j := 6) dX10_pull_44 fl_X10_43 (by decide) (fun x44 => ?_)
        refine sn_aload_n dX10_pull_47 rfl ?_
        refine sn_getA (ci := 10) (j := 1) dX10_pull_48 fl_X10_19 (by decide) (fun x48 => ?_)
        refine sn_iload_n dX10_pull_51 rfl ?_
        refine sn_iload_n dX10_pull_52 rfl ?_
        refine sn_callVV (vs := [aA x48, aI b1, aI b2]) (ci := 7) (cX7_doHour_ok n x44 x48 b1 b2 p6.2) dX10_pull_53 cw_X10_155 rfl rfl rfl (by decide) (by decide) (Nat.le_of_ble_eq_true rfl) (fun p53 => ?_)
        refine sn_aload_n dX10_pull_56 rfl ?_
        refine sn_getA (ci := 10) (j := 6) dX10_pull_57 fl_X10_43 (by decide) (fun x57 => ?_)
        refine sn_getI (ci := 7) (j := 3) dX10_pull_60 fl_X10_159 rfl (fun x60 => ?_)
        exact sn_iret dX10_pull_63
      · refine sn_bipush dX10_pull_40 (by decide) ?_
        exact sn_iret dX10_pull_42
  · refine sn_bipush dX10_pull_12 (by decide) ?_
    exact sn_iret dX10_pull_14
theorem dX10_sightRefusal_0 : decode cX10_sightRefusal 0 = .ok (.iload_n 1, 1) := by decide +kernel
theorem dX10_sightRefusal_1 : decode cX10_sightRefusal 1 = .ok (.invokestatic 166, 3) := by decide +kernel
theorem dX10_sightRefusal_4 : decode cX10_sightRefusal 4 = .ok (.ifCond .ne 6, 3) := by decide +kernel
theorem dX10_sightRefusal_7 : decode cX10_sightRefusal 7 = .ok (.bipush (-2), 2) := by decide +kernel
theorem dX10_sightRefusal_9 : decode cX10_sightRefusal 9 = .ok (.ireturn, 1) := by decide +kernel
theorem dX10_sightRefusal_10 : decode cX10_sightRefusal 10 = .ok (.aload_n 0, 1) := by decide +kernel
theorem dX10_sightRefusal_11 : decode cX10_sightRefusal 11 = .ok (.getfield 36, 3) := by decide +kernel
theorem dX10_sightRefusal_14 : decode cX10_sightRefusal 14 = .ok (.iload_n 1, 1) := by decide +kernel
theorem dX10_sightRefusal_15 : decode cX10_sightRefusal 15 = .ok (.aaload, 1) := by decide +kernel
theorem dX10_sightRefusal_16 : decode cX10_sightRefusal 16 = .ok (.invokevirtual 169, 3) := by decide +kernel
theorem dX10_sightRefusal_19 : decode cX10_sightRefusal 19 = .ok (.ifCond .eq 6, 3) := by decide +kernel
theorem dX10_sightRefusal_22 : decode cX10_sightRefusal 22 = .ok (.bipush (-6), 2) := by decide +kernel
theorem dX10_sightRefusal_24 : decode cX10_sightRefusal 24 = .ok (.ireturn, 1) := by decide +kernel
theorem dX10_sightRefusal_25 : decode cX10_sightRefusal 25 = .ok (.aload_n 0, 1) := by decide +kernel
theorem dX10_sightRefusal_26 : decode cX10_sightRefusal 26 = .ok (.getfield 36, 3) := by decide +kernel
theorem dX10_sightRefusal_29 : decode cX10_sightRefusal 29 = .ok (.iload_n 1, 1) := by decide +kernel
theorem dX10_sightRefusal_30 : decode cX10_sightRefusal 30 = .ok (.aaload, 1) := by decide +kernel
theorem dX10_sightRefusal_31 : decode cX10_sightRefusal 31 = .ok (.getfield 312, 3) := by decide +kernel
theorem dX10_sightRefusal_34 : decode cX10_sightRefusal 34 = .ok (.aload_n 0, 1) := by decide +kernel
theorem dX10_sightRefusal_35 : decode cX10_sightRefusal 35 = .ok (.getfield 19, 3) := by decide +kernel
theorem dX10_sightRefusal_38 : decode cX10_sightRefusal 38 = .ok (.getfield 212, 3) := by decide +kernel
theorem dX10_sightRefusal_41 : decode cX10_sightRefusal 41 = .ok (.if_icmp .eq 6, 3) := by decide +kernel
theorem dX10_sightRefusal_44 : decode cX10_sightRefusal 44 = .ok (.bipush (-7), 2) := by decide +kernel
theorem dX10_sightRefusal_46 : decode cX10_sightRefusal 46 = .ok (.ireturn, 1) := by decide +kernel
theorem dX10_sightRefusal_47 : decode cX10_sightRefusal 47 = .ok (.aload_n 0, 1) := by decide +kernel
theorem dX10_sightRefusal_48 : decode cX10_sightRefusal 48 = .ok (.getfield 19, 3) := by decide +kernel
theorem dX10_sightRefusal_51 : decode cX10_sightRefusal 51 = .ok (.getfield 274, 3) := by decide +kernel
theorem dX10_sightRefusal_54 : decode cX10_sightRefusal 54 = .ok (.bipush 6, 2) := by decide +kernel
theorem dX10_sightRefusal_56 : decode cX10_sightRefusal 56 = .ok (.if_icmp .le 8, 3) := by decide +kernel
theorem dX10_sightRefusal_59 : decode cX10_sightRefusal 59 = .ok (.bipush (-4), 2) := by decide +kernel
theorem dX10_sightRefusal_61 : decode cX10_sightRefusal 61 = .ok (.goto 4, 3) := by decide +kernel
theorem dX10_sightRefusal_64 : decode cX10_sightRefusal 64 = .ok (.iconst 0, 1) := by decide +kernel
theorem dX10_sightRefusal_65 : decode cX10_sightRefusal 65 = .ok (.ireturn, 1) := by decide +kernel
def mX10_sightRefusal (n : Nat) (a : Nat) (b1 : Int) (μ : Mem) : Option (Int × Mem) :=
  (mX10_isRow n b1 μ).bind fun p1 =>
  if eq32 p1.1 0 then
    some ((-2), p1.2)
  else
  (gA p1.2 11 a 5).bind fun x11 =>
  (ldA p1.2 5 x11 b1).bind fun x15 =>
  (inv p1.2 4 x15 (mX3_isMissing n x15 p1.2)).bind fun p16 =>
  if eq32 p16.1 0 then
    (gA p16.2 11 a 5).bind fun x26 =>
    (ldA p16.2 5 x26 b1).bind fun x30 =>
    (gI p16.2 4 x30 0).bind fun x31 =>
    (gA p16.2 11 a 1).bind fun x35 =>
    (gI p16.2 2 x35 1).bind fun x38 =>
    if eq32 x31 x38 then
      (gA p16.2 11 a 1).bind fun x48 =>
      (gI p16.2 2 x48 0).bind fun x51 =>
      if lt32 6 x51 then
        some ((-4), p16.2)
      else
      some (0, p16.2)
    else
    some ((-7), p16.2)
  else
  some ((-6), p16.2)
set_option maxRecDepth 100000 in
set_option maxHeartbeats 4000000 in
theorem cX10_sightRefusal_ok (n : Nat) (a : Nat) (b1 : Int) (μ : Mem) : Mc yX10_sightRefusal cX10_sightRefusal 2 (some .int) 1 20 eI [aA a, aI b1] μ (mX10_sightRefusal n a b1 μ) := by
  refine mc_of (L0 := [some (aA a), some (aI b1)]) (k := 0) (by decide) rfl rfl (fun X Γ => ?_)
  unfold mX10_sightRefusal
  refine sn_iload_n dX10_sightRefusal_0 rfl ?_
  refine sn_callSI (vs := [aI b1]) (cX10_isRow_ok n b1 μ) dX10_sightRefusal_1 cw_X10_166 rfl (by decide) (by decide) (Nat.le_of_ble_eq_true rfl) (fun p1 => ?_)
  refine sn_if_ne (tgt := 10) dX10_sightRefusal_4 (by decide) ?_ ?_
  · refine sn_aload_n dX10_sightRefusal_10 rfl ?_
    refine sn_getA (ci := 10) (j := 5) dX10_sightRefusal_11 fl_X10_36 (by decide) (fun x11 => ?_)
    refine sn_iload_n dX10_sightRefusal_14 rfl ?_
    refine sn_aald5 dX10_sightRefusal_15 (fun x15 => ?_)
    refine sn_callVI (vs := []) (ci := 3) (cX3_isMissing_ok n x15 p1.2) dX10_sightRefusal_16 cw_X10_169 rfl rfl rfl (by decide) (by decide) (Nat.le_of_ble_eq_true rfl) (fun p16 => ?_)
    refine sn_if_eq (tgt := 25) dX10_sightRefusal_19 (by decide) ?_ ?_
    · refine sn_aload_n dX10_sightRefusal_25 rfl ?_
      refine sn_getA (ci := 10) (j := 5) dX10_sightRefusal_26 fl_X10_36 (by decide) (fun x26 => ?_)
      refine sn_iload_n dX10_sightRefusal_29 rfl ?_
      refine sn_aald5 dX10_sightRefusal_30 (fun x30 => ?_)
      refine sn_getI (ci := 3) (j := 0) dX10_sightRefusal_31 fl_X10_312 rfl (fun x31 => ?_)
      refine sn_aload_n dX10_sightRefusal_34 rfl ?_
      refine sn_getA (ci := 10) (j := 1) dX10_sightRefusal_35 fl_X10_19 (by decide) (fun x35 => ?_)
      refine sn_getI (ci := 1) (j := 1) dX10_sightRefusal_38 fl_X10_212 rfl (fun x38 => ?_)
      refine sn_icmp_eq (tgt := 47) dX10_sightRefusal_41 (by decide) ?_ ?_
      · refine sn_aload_n dX10_sightRefusal_47 rfl ?_
        refine sn_getA (ci := 10) (j := 1) dX10_sightRefusal_48 fl_X10_19 (by decide) (fun x48 => ?_)
        refine sn_getI (ci := 1) (j := 0) dX10_sightRefusal_51 fl_X10_274 rfl (fun x51 => ?_)
        refine sn_bipush dX10_sightRefusal_54 (by decide) ?_
        refine sn_icmp_le (tgt := 64) dX10_sightRefusal_56 (by decide) ?_ ?_
        · refine sn_iconst dX10_sightRefusal_64 ?_
          exact sn_iret dX10_sightRefusal_65
        · refine sn_bipush dX10_sightRefusal_59 (by decide) ?_
          refine sn_goto (tgt := 65) dX10_sightRefusal_61 (by decide) ?_
          exact sn_iret dX10_sightRefusal_65
      · refine sn_bipush dX10_sightRefusal_44 (by decide) ?_
        exact sn_iret dX10_sightRefusal_46
    · refine sn_bipush dX10_sightRefusal_22 (by decide) ?_
      exact sn_iret dX10_sightRefusal_24
  · refine sn_bipush dX10_sightRefusal_7 (by decide) ?_
    exact sn_iret dX10_sightRefusal_9
theorem dX10_pulled_0 : decode cX10_pulled 0 = .ok (.aload_n 0, 1) := by decide +kernel
theorem dX10_pulled_1 : decode cX10_pulled 1 = .ok (.iload_n 1, 1) := by decide +kernel
theorem dX10_pulled_2 : decode cX10_pulled 2 = .ok (.invokevirtual 300, 3) := by decide +kernel
theorem dX10_pulled_5 : decode cX10_pulled 5 = .ok (.istore_n 2, 1) := by decide +kernel
theorem dX10_pulled_6 : decode cX10_pulled 6 = .ok (.iload_n 2, 1) := by decide +kernel
theorem dX10_pulled_7 : decode cX10_pulled 7 = .ok (.ifCond .eq 5, 3) := by decide +kernel
theorem dX10_pulled_10 : decode cX10_pulled 10 = .ok (.iload_n 2, 1) := by decide +kernel
theorem dX10_pulled_11 : decode cX10_pulled 11 = .ok (.ireturn, 1) := by decide +kernel
theorem dX10_pulled_12 : decode cX10_pulled 12 = .ok (.aload_n 0, 1) := by decide +kernel
theorem dX10_pulled_13 : decode cX10_pulled 13 = .ok (.getfield 71, 3) := by decide +kernel
theorem dX10_pulled_16 : decode cX10_pulled 16 = .ok (.aload_n 0, 1) := by decide +kernel
theorem dX10_pulled_17 : decode cX10_pulled 17 = .ok (.getfield 19, 3) := by decide +kernel
theorem dX10_pulled_20 : decode cX10_pulled 20 = .ok (.aload_n 0, 1) := by decide +kernel
theorem dX10_pulled_21 : decode cX10_pulled 21 = .ok (.getfield 36, 3) := by decide +kernel
theorem dX10_pulled_24 : decode cX10_pulled 24 = .ok (.iload_n 1, 1) := by decide +kernel
theorem dX10_pulled_25 : decode cX10_pulled 25 = .ok (.aaload, 1) := by decide +kernel
theorem dX10_pulled_26 : decode cX10_pulled 26 = .ok (.invokevirtual 303, 3) := by decide +kernel
theorem dX10_pulled_29 : decode cX10_pulled 29 = .ok (.aload_n 0, 1) := by decide +kernel
theorem dX10_pulled_30 : decode cX10_pulled 30 = .ok (.getfield 71, 3) := by decide +kernel
theorem dX10_pulled_33 : decode cX10_pulled 33 = .ok (.getfield 306, 3) := by decide +kernel
theorem dX10_pulled_36 : decode cX10_pulled 36 = .ok (.ifCond .ne 7, 3) := by decide +kernel
theorem dX10_pulled_39 : decode cX10_pulled 39 = .ok (.iconst 0, 1) := by decide +kernel
theorem dX10_pulled_40 : decode cX10_pulled 40 = .ok (.goto 10, 3) := by decide +kernel
theorem dX10_pulled_43 : decode cX10_pulled 43 = .ok (.aload_n 0, 1) := by decide +kernel
theorem dX10_pulled_44 : decode cX10_pulled 44 = .ok (.getfield 71, 3) := by decide +kernel
theorem dX10_pulled_47 : decode cX10_pulled 47 = .ok (.getfield 309, 3) := by decide +kernel
theorem dX10_pulled_50 : decode cX10_pulled 50 = .ok (.ireturn, 1) := by decide +kernel
def mX10_pulled (n : Nat) (a : Nat) (b1 : Int) (μ : Mem) : Option (Int × Mem) :=
  (inv μ 11 a (mX10_sightRefusal n a b1 μ)).bind fun p2 =>
  if eq32 p2.1 0 then
    (gA p2.2 11 a 10).bind fun x13 =>
    (gA p2.2 11 a 1).bind fun x17 =>
    (gA p2.2 11 a 5).bind fun x21 =>
    (ldA p2.2 5 x21 b1).bind fun x25 =>
    (inv p2.2 6 x13 (mX5_watch n x13 x17 x25 p2.2)).bind fun p26 =>
    (gA p26.2 11 a 10).bind fun x30 =>
    (gI p26.2 6 x30 0).bind fun x33 =>
    if eq32 x33 0 then
      some (0, p26.2)
    else
    (gA p26.2 11 a 10).bind fun x44 =>
    (gI p26.2 6 x44 1).bind fun x47 =>
    some (x47, p26.2)
  else
  some (p2.1, p2.2)
set_option maxRecDepth 100000 in
set_option maxHeartbeats 4000000 in
theorem cX10_pulled_ok (n : Nat) (a : Nat) (b1 : Int) (μ : Mem) : Mc yX10_pulled cX10_pulled 3 (some .int) 38 838 eI [aA a, aI b1] μ (mX10_pulled n a b1 μ) := by
  refine mc_of (L0 := [some (aA a), some (aI b1), none]) (k := 1) (by decide) rfl rfl (fun X Γ => ?_)
  unfold mX10_pulled
  refine sn_aload_n dX10_pulled_0 rfl ?_
  refine sn_iload_n dX10_pulled_1 rfl ?_
  refine sn_callVI (vs := [aI b1]) (ci := 10) (cX10_sightRefusal_ok n a b1 μ) dX10_pulled_2 cw_X10_300 rfl rfl rfl (by decide) (by decide) (Nat.le_of_ble_eq_true rfl) (fun p2 => ?_)
  refine sn_istore_n (L' := [some (aA a), some (aI b1), some (aI p2.1)]) dX10_pulled_5 (by decide) rfl ?_
  refine sn_iload_n dX10_pulled_6 rfl ?_
  refine sn_if_eq (tgt := 12) dX10_pulled_7 (by decide) ?_ ?_
  · refine sn_aload_n dX10_pulled_12 rfl ?_
    refine sn_getA (ci := 10) (j := 10) dX10_pulled_13 fl_X10_71 (by decide) (fun x13 => ?_)
    refine sn_aload_n dX10_pulled_16 rfl ?_
    refine sn_getA (ci := 10) (j := 1) dX10_pulled_17 fl_X10_19 (by decide) (fun x17 => ?_)
    refine sn_aload_n dX10_pulled_20 rfl ?_
    refine sn_getA (ci := 10) (j := 5) dX10_pulled_21 fl_X10_36 (by decide) (fun x21 => ?_)
    refine sn_iload_n dX10_pulled_24 rfl ?_
    refine sn_aald5 dX10_pulled_25 (fun x25 => ?_)
    refine sn_callVV (vs := [aA x17, aA x25]) (ci := 5) (cX5_watch_ok n x13 x17 x25 p2.2) dX10_pulled_26 cw_X10_303 rfl rfl rfl (by decide) (by decide) (Nat.le_of_ble_eq_true rfl) (fun p26 => ?_)
    refine sn_aload_n dX10_pulled_29 rfl ?_
    refine sn_getA (ci := 10) (j := 10) dX10_pulled_30 fl_X10_71 (by decide) (fun x30 => ?_)
    refine sn_getI (ci := 5) (j := 0) dX10_pulled_33 fl_X10_306 rfl (fun x33 => ?_)
    refine sn_if_ne (tgt := 43) dX10_pulled_36 (by decide) ?_ ?_
    · refine sn_aload_n dX10_pulled_43 rfl ?_
      refine sn_getA (ci := 10) (j := 10) dX10_pulled_44 fl_X10_71 (by decide) (fun x44 => ?_)
      refine sn_getI (ci := 5) (j := 1) dX10_pulled_47 fl_X10_309 rfl (fun x47 => ?_)
      exact sn_iret dX10_pulled_50
    · refine sn_iconst dX10_pulled_39 ?_
      refine sn_goto (tgt := 50) dX10_pulled_40 (by decide) ?_
      exact sn_iret dX10_pulled_50
  · refine sn_iload_n dX10_pulled_10 rfl ?_
    exact sn_iret dX10_pulled_11
theorem dX10_restore_0 : decode cX10_restore 0 = .ok (.iload_n 1, 1) := by decide +kernel
theorem dX10_restore_1 : decode cX10_restore 1 = .ok (.ifCond .lt 8, 3) := by decide +kernel
theorem dX10_restore_4 : decode cX10_restore 4 = .ok (.iload_n 1, 1) := by decide +kernel
theorem dX10_restore_5 : decode cX10_restore 5 = .ok (.iconst 2, 1) := by decide +kernel
theorem dX10_restore_6 : decode cX10_restore 6 = .ok (.if_icmp .lt 6, 3) := by decide +kernel
theorem dX10_restore_9 : decode cX10_restore 9 = .ok (.bipush (-2), 2) := by decide +kernel
theorem dX10_restore_11 : decode cX10_restore 11 = .ok (.ireturn, 1) := by decide +kernel
theorem dX10_restore_12 : decode cX10_restore 12 = .ok (.aload_n 0, 1) := by decide +kernel
theorem dX10_restore_13 : decode cX10_restore 13 = .ok (.getfield 30, 3) := by decide +kernel
theorem dX10_restore_16 : decode cX10_restore 16 = .ok (.iload_n 1, 1) := by decide +kernel
theorem dX10_restore_17 : decode cX10_restore 17 = .ok (.baload, 1) := by decide +kernel
theorem dX10_restore_18 : decode cX10_restore 18 = .ok (.ifCond .ne 6, 3) := by decide +kernel
theorem dX10_restore_21 : decode cX10_restore 21 = .ok (.bipush (-5), 2) := by decide +kernel
theorem dX10_restore_23 : decode cX10_restore 23 = .ok (.ireturn, 1) := by decide +kernel
theorem dX10_restore_24 : decode cX10_restore 24 = .ok (.aload_n 0, 1) := by decide +kernel
theorem dX10_restore_25 : decode cX10_restore 25 = .ok (.getfield 19, 3) := by decide +kernel
theorem dX10_restore_28 : decode cX10_restore 28 = .ok (.aload_n 0, 1) := by decide +kernel
theorem dX10_restore_29 : decode cX10_restore 29 = .ok (.getfield 26, 3) := by decide +kernel
theorem dX10_restore_32 : decode cX10_restore 32 = .ok (.iload_n 1, 1) := by decide +kernel
theorem dX10_restore_33 : decode cX10_restore 33 = .ok (.aaload, 1) := by decide +kernel
theorem dX10_restore_34 : decode cX10_restore 34 = .ok (.invokevirtual 91, 3) := by decide +kernel
theorem dX10_restore_37 : decode cX10_restore 37 = .ok (.iconst 0, 1) := by decide +kernel
theorem dX10_restore_38 : decode cX10_restore 38 = .ok (.ireturn, 1) := by decide +kernel
def mX10_restore (n : Nat) (a : Nat) (b1 : Int) (μ : Mem) : Option (Int × Mem) :=
  if lt32 b1 0 then
    some ((-2), μ)
  else
  if lt32 b1 2 then
    (gA μ 11 a 4).bind fun x13 =>
    (ldI μ 2 x13 b1).bind fun x17 =>
    if eq32 x17 0 then
      some ((-5), μ)
    else
    (gA μ 11 a 1).bind fun x25 =>
    (gA μ 11 a 3).bind fun x29 =>
    (ldA μ 4 x29 b1).bind fun x33 =>
    (inv μ 2 x25 (mX1_takeAll n x25 x33 μ)).bind fun p34 =>
    some (0, p34.2)
  else
  some ((-2), μ)
set_option maxRecDepth 100000 in
set_option maxHeartbeats 4000000 in
theorem cX10_restore_ok (n : Nat) (a : Nat) (b1 : Int) (μ : Mem) : Mc yX10_restore cX10_restore 2 (some .int) 3 122 eI [aA a, aI b1] μ (mX10_restore n a b1 μ) := by
  refine mc_of (L0 := [some (aA a), some (aI b1)]) (k := 0) (by decide) rfl rfl (fun X Γ => ?_)
  unfold mX10_restore
  refine sn_iload_n dX10_restore_0 rfl ?_
  refine sn_if_lt (tgt := 9) dX10_restore_1 (by decide) ?_ ?_
  · refine sn_bipush dX10_restore_9 (by decide) ?_
    exact sn_iret dX10_restore_11
  · refine sn_iload_n dX10_restore_4 rfl ?_
    refine sn_iconst dX10_restore_5 ?_
    refine sn_icmp_lt (tgt := 12) dX10_restore_6 (by decide) ?_ ?_
    · refine sn_aload_n dX10_restore_12 rfl ?_
      refine sn_getA (ci := 10) (j := 4) dX10_restore_13 fl_X10_30 (by decide) (fun x13 => ?_)
      refine sn_iload_n dX10_restore_16 rfl ?_
      refine sn_zald dX10_restore_17 (fun x17 => ?_)
      refine sn_if_ne (tgt := 24) dX10_restore_18 (by decide) ?_ ?_
      · refine sn_aload_n dX10_restore_24 rfl ?_
        refine sn_getA (ci := 10) (j := 1) dX10_restore_25 fl_X10_19 (by decide) (fun x25 => ?_)
        refine sn_aload_n dX10_restore_28 rfl ?_
        refine sn_getA (ci := 10) (j := 3) dX10_restore_29 fl_X10_26 (by decide) (fun x29 => ?_)
        refine sn_iload_n dX10_restore_32 rfl ?_
        refine sn_aald4 dX10_restore_33 (fun x33 => ?_)
        refine sn_callVV (vs := [aA x33]) (ci := 1) (cX1_takeAll_ok n x25 x33 μ) dX10_restore_34 cw_X10_91 rfl rfl rfl (by decide) (by decide) (Nat.le_of_ble_eq_true rfl) (fun p34 => ?_)
        refine sn_iconst dX10_restore_37 ?_
        exact sn_iret dX10_restore_38
      · refine sn_bipush dX10_restore_21 (by decide) ?_
        exact sn_iret dX10_restore_23
    · refine sn_bipush dX10_restore_9 (by decide) ?_
      exact sn_iret dX10_restore_11
theorem dX10_rests_0 : decode cX10_rests 0 = .ok (.aload_n 0, 1) := by decide +kernel
theorem dX10_rests_1 : decode cX10_rests 1 = .ok (.getfield 19, 3) := by decide +kernel
theorem dX10_rests_4 : decode cX10_rests 4 = .ok (.invokevirtual 209, 3) := by decide +kernel
theorem dX10_rests_7 : decode cX10_rests 7 = .ok (.ireturn, 1) := by decide +kernel
def mX10_rests (n : Nat) (a : Nat) (μ : Mem) : Option (Int × Mem) :=
  (gA μ 11 a 1).bind fun x1 =>
  (inv μ 2 x1 (mX1_restBits n x1 μ)).bind fun p4 =>
  some (p4.1, p4.2)
set_option maxRecDepth 100000 in
set_option maxHeartbeats 4000000 in
theorem cX10_rests_ok (n : Nat) (a : Nat) (μ : Mem) : Mc yX10_rests cX10_rests 1 (some .int) 4 110 eI [aA a] μ (mX10_rests n a μ) := by
  refine mc_of (L0 := [some (aA a)]) (k := 0) (by decide) rfl rfl (fun X Γ => ?_)
  unfold mX10_rests
  refine sn_aload_n dX10_rests_0 rfl ?_
  refine sn_getA (ci := 10) (j := 1) dX10_rests_1 fl_X10_19 (by decide) (fun x1 => ?_)
  refine sn_callVI (vs := []) (ci := 1) (cX1_restBits_ok n x1 μ) dX10_rests_4 cw_X10_209 rfl rfl rfl (by decide) (by decide) (Nat.le_of_ble_eq_true rfl) (fun p4 => ?_)
  exact sn_iret dX10_rests_7
theorem dX10_ring_0 : decode cX10_ring 0 = .ok (.iconst (-1), 1) := by decide +kernel
theorem dX10_ring_1 : decode cX10_ring 1 = .ok (.istore_n 1, 1) := by decide +kernel
theorem dX10_ring_2 : decode cX10_ring 2 = .ok (.iconst 0, 1) := by decide +kernel
theorem dX10_ring_3 : decode cX10_ring 3 = .ok (.istore_n 2, 1) := by decide +kernel
theorem dX10_ring_4 : decode cX10_ring 4 = .ok (.iload_n 2, 1) := by decide +kernel
theorem dX10_ring_5 : decode cX10_ring 5 = .ok (.aload_n 0, 1) := by decide +kernel
theorem dX10_ring_6 : decode cX10_ring 6 = .ok (.getfield 19, 3) := by decide +kernel
theorem dX10_ring_9 : decode cX10_ring 9 = .ok (.getfield 212, 3) := by decide +kernel
theorem dX10_ring_12 : decode cX10_ring 12 = .ok (.if_icmp .ge 86, 3) := by decide +kernel
theorem dX10_ring_15 : decode cX10_ring 15 = .ok (.aload_n 0, 1) := by decide +kernel
theorem dX10_ring_16 : decode cX10_ring 16 = .ok (.getfield 19, 3) := by decide +kernel
theorem dX10_ring_19 : decode cX10_ring 19 = .ok (.getfield 149, 3) := by decide +kernel
theorem dX10_ring_22 : decode cX10_ring 22 = .ok (.iload_n 2, 1) := by decide +kernel
theorem dX10_ring_23 : decode cX10_ring 23 = .ok (.baload, 1) := by decide +kernel
theorem dX10_ring_24 : decode cX10_ring 24 = .ok (.ifCond .ne 68, 3) := by decide +kernel
theorem dX10_ring_27 : decode cX10_ring 27 = .ok (.aload_n 0, 1) := by decide +kernel
theorem dX10_ring_28 : decode cX10_ring 28 = .ok (.getfield 50, 3) := by decide +kernel
theorem dX10_ring_31 : decode cX10_ring 31 = .ok (.aload_n 0, 1) := by decide +kernel
theorem dX10_ring_32 : decode cX10_ring 32 = .ok (.getfield 19, 3) := by decide +kernel
theorem dX10_ring_35 : decode cX10_ring 35 = .ok (.iload_n 2, 1) := by decide +kernel
theorem dX10_ring_36 : decode cX10_ring 36 = .ok (.invokevirtual 227, 3) := by decide +kernel
theorem dX10_ring_39 : decode cX10_ring 39 = .ok (.aload_n 0, 1) := by decide +kernel
theorem dX10_ring_40 : decode cX10_ring 40 = .ok (.getfield 50, 3) := by decide +kernel
theorem dX10_ring_43 : decode cX10_ring 43 = .ok (.aload_n 0, 1) := by decide +kernel
theorem dX10_ring_44 : decode cX10_ring 44 = .ok (.getfield 19, 3) := by decide +kernel
theorem dX10_ring_47 : decode cX10_ring 47 = .ok (.getfield 134, 3) := by decide +kernel
theorem dX10_ring_50 : decode cX10_ring 50 = .ok (.iconst 2, 1) := by decide +kernel
theorem dX10_ring_51 : decode cX10_ring 51 = .ok (.iload_n 2, 1) := by decide +kernel
theorem dX10_ring_52 : decode cX10_ring 52 = .ok (.imul, 1) := by decide +kernel
theorem dX10_ring_53 : decode cX10_ring 53 = .ok (.iaload, 1) := by decide +kernel
theorem dX10_ring_54 : decode cX10_ring 54 = .ok (.aload_n 0, 1) := by decide +kernel
theorem dX10_ring_55 : decode cX10_ring 55 = .ok (.getfield 19, 3) := by decide +kernel
theorem dX10_ring_58 : decode cX10_ring 58 = .ok (.getfield 134, 3) := by decide +kernel
theorem dX10_ring_61 : decode cX10_ring 61 = .ok (.iconst 2, 1) := by decide +kernel
theorem dX10_ring_62 : decode cX10_ring 62 = .ok (.iload_n 2, 1) := by decide +kernel
theorem dX10_ring_63 : decode cX10_ring 63 = .ok (.imul, 1) := by decide +kernel
theorem dX10_ring_64 : decode cX10_ring 64 = .ok (.iconst 1, 1) := by decide +kernel
theorem dX10_ring_65 : decode cX10_ring 65 = .ok (.iadd, 1) := by decide +kernel
theorem dX10_ring_66 : decode cX10_ring 66 = .ok (.iaload, 1) := by decide +kernel
theorem dX10_ring_67 : decode cX10_ring 67 = .ok (.invokevirtual 236, 3) := by decide +kernel
theorem dX10_ring_70 : decode cX10_ring 70 = .ok (.istore_n 3, 1) := by decide +kernel
theorem dX10_ring_71 : decode cX10_ring 71 = .ok (.iload_n 3, 1) := by decide +kernel
theorem dX10_ring_72 : decode cX10_ring 72 = .ok (.iconst (-1), 1) := by decide +kernel
theorem dX10_ring_73 : decode cX10_ring 73 = .ok (.if_icmp .eq 19, 3) := by decide +kernel
theorem dX10_ring_76 : decode cX10_ring 76 = .ok (.iload_n 1, 1) := by decide +kernel
theorem dX10_ring_77 : decode cX10_ring 77 = .ok (.iconst (-1), 1) := by decide +kernel
theorem dX10_ring_78 : decode cX10_ring 78 = .ok (.if_icmp .eq 10, 3) := by decide +kernel
theorem dX10_ring_81 : decode cX10_ring 81 = .ok (.iload_n 3, 1) := by decide +kernel
theorem dX10_ring_82 : decode cX10_ring 82 = .ok (.iconst 1, 1) := by decide +kernel
theorem dX10_ring_83 : decode cX10_ring 83 = .ok (.iadd, 1) := by decide +kernel
theorem dX10_ring_84 : decode cX10_ring 84 = .ok (.iload_n 1, 1) := by decide +kernel
theorem dX10_ring_85 : decode cX10_ring 85 = .ok (.if_icmp .ge 7, 3) := by decide +kernel
theorem dX10_ring_88 : decode cX10_ring 88 = .ok (.iload_n 3, 1) := by decide +kernel
theorem dX10_ring_89 : decode cX10_ring 89 = .ok (.iconst 1, 1) := by decide +kernel
theorem dX10_ring_90 : decode cX10_ring 90 = .ok (.iadd, 1) := by decide +kernel
theorem dX10_ring_91 : decode cX10_ring 91 = .ok (.istore_n 1, 1) := by decide +kernel
theorem dX10_ring_92 : decode cX10_ring 92 = .ok (.iinc 2 1, 3) := by decide +kernel
theorem dX10_ring_95 : decode cX10_ring 95 = .ok (.goto (-91), 3) := by decide +kernel
theorem dX10_ring_98 : decode cX10_ring 98 = .ok (.iload_n 1, 1) := by decide +kernel
theorem dX10_ring_99 : decode cX10_ring 99 = .ok (.ireturn, 1) := by decide +kernel
def mX10_ring (n : Nat) (a : Nat) (μ : Mem) : Option (Int × Mem) :=
  lp (fun nx4 (v4 : Int × Int) (μ4 : Mem) =>
  (gA μ4 11 a 1).bind fun x6 =>
  (gI μ4 2 x6 1).bind fun x9 =>
  if lt32 v4.2 x9 then
    (gA μ4 11 a 1).bind fun x16 =>
    (gA μ4 2 x16 14).bind fun x19 =>
    (ldI μ4 2 x19 v4.2).bind fun x23 =>
    if eq32 x23 0 then
      (gA μ4 11 a 7).bind fun x28 =>
      (gA μ4 11 a 1).bind fun x32 =>
      (inv μ4 10 x28 (mX9_look n x28 x32 v4.2 μ4)).bind fun p36 =>
      (gA p36.2 11 a 7).bind fun x40 =>
      (gA p36.2 11 a 1).bind fun x44 =>
      (gA p36.2 2 x44 15).bind fun x47 =>
      (ldI p36.2 0 x47 (2 * v4.2)).bind fun x53 =>
      (gA p36.2 11 a 1).bind fun x55 =>
      (gA p36.2 2 x55 15).bind fun x58 =>
      (ldI p36.2 0 x58 ((2 * v4.2) + 1)).bind fun x66 =>
      (inv p36.2 10 x40 (mX9_steps n x40 x53 x66 p36.2)).bind fun p67 =>
      if eq32 p67.1 (-1) then
        nx4 (v4.1, (v4.2 + 1)) p67.2
      else
      if eq32 v4.1 (-1) then
        nx4 ((p67.1 + 1), (v4.2 + 1)) p67.2
      else
      if lt32 (p67.1 + 1) v4.1 then
        nx4 ((p67.1 + 1), (v4.2 + 1)) p67.2
      else
      nx4 (v4.1, (v4.2 + 1)) p67.2
    else
    nx4 (v4.1, (v4.2 + 1)) μ4
  else
  some (v4.1, μ4)) n ((-1), 0) μ
set_option maxRecDepth 100000 in
set_option maxHeartbeats 4000000 in
theorem cX10_ring_ok (n : Nat) (a : Nat) (μ : Mem) : Mc yX10_ring cX10_ring 4 (some .int) 2 48 eI [aA a] μ (mX10_ring n a μ) := by
  refine mc_of (L0 := [some (aA a), none, none, none]) (k := 3) (by decide) rfl rfl (fun X Γ => ?_)
  unfold mX10_ring
  refine sn_iconst dX10_ring_0 ?_
  refine sn_istore_n (L' := [some (aA a), some (aI (-1)), none, none]) dX10_ring_1 (by decide) rfl ?_
  refine sn_iconst dX10_ring_2 ?_
  refine sn_istore_n (L' := [some (aA a), some (aI (-1)), some (aI 0), none]) dX10_ring_3 (by decide) rfl ?_
  refine sn_lp (La := fun v4 : Int × Int => [some (aA a), some (aI v4.1), some (aI v4.2), none]) ?_ n ((-1), 0) μ
  intro nx4 hnx4 v4 μ4
  refine sn_iload_n dX10_ring_4 rfl ?_
  refine sn_aload_n dX10_ring_5 rfl ?_
  refine sn_getA (ci := 10) (j := 1) dX10_ring_6 fl_X10_19 (by decide) (fun x6 => ?_)
  refine sn_getI (ci := 1) (j := 1) dX10_ring_9 fl_X10_212 rfl (fun x9 => ?_)
  refine sn_icmp_ge (tgt := 98) dX10_ring_12 (by decide) ?_ ?_
  · refine sn_iload_n dX10_ring_98 rfl ?_
    exact sn_iret dX10_ring_99
  · refine sn_aload_n dX10_ring_15 rfl ?_
    refine sn_getA (ci := 10) (j := 1) dX10_ring_16 fl_X10_19 (by decide) (fun x16 => ?_)
    refine sn_getA (ci := 1) (j := 14) dX10_ring_19 fl_X10_149 (by decide) (fun x19 => ?_)
    refine sn_iload_n dX10_ring_22 rfl ?_
    refine sn_zald dX10_ring_23 (fun x23 => ?_)
    refine sn_if_ne (tgt := 92) dX10_ring_24 (by decide) ?_ ?_
    · refine sn_iinc (L' := [some (aA a), some (aI v4.1), some (aI (v4.2 + 1)), none]) dX10_ring_92 rfl (by decide) rfl ?_
      refine sn_goto (tgt := 4) dX10_ring_95 (by decide) ?_
      exact hnx4 (v4.1, (v4.2 + 1)) μ4
    · refine sn_aload_n dX10_ring_27 rfl ?_
      refine sn_getA (ci := 10) (j := 7) dX10_ring_28 fl_X10_50 (by decide) (fun x28 => ?_)
      refine sn_aload_n dX10_ring_31 rfl ?_
      refine sn_getA (ci := 10) (j := 1) dX10_ring_32 fl_X10_19 (by decide) (fun x32 => ?_)
      refine sn_iload_n dX10_ring_35 rfl ?_
      refine sn_callVV (vs := [aA x32, aI v4.2]) (ci := 9) (cX9_look_ok n x28 x32 v4.2 μ4) dX10_ring_36 cw_X10_227 rfl rfl rfl (by decide) (by decide) (Nat.le_of_ble_eq_true rfl) (fun p36 => ?_)
      refine sn_aload_n dX10_ring_39 rfl ?_
      refine sn_getA (ci := 10) (j := 7) dX10_ring_40 fl_X10_50 (by decide) (fun x40 => ?_)
      refine sn_aload_n dX10_ring_43 rfl ?_
      refine sn_getA (ci := 10) (j := 1) dX10_ring_44 fl_X10_19 (by decide) (fun x44 => ?_)
      refine sn_getA (ci := 1) (j := 15) dX10_ring_47 fl_X10_134 (by decide) (fun x47 => ?_)
      refine sn_iconst dX10_ring_50 ?_
      refine sn_iload_n dX10_ring_51 rfl ?_
      refine sn_imul dX10_ring_52 ?_
      refine sn_iald dX10_ring_53 (fun x53 => ?_)
      refine sn_aload_n dX10_ring_54 rfl ?_
      refine sn_getA (ci := 10) (j := 1) dX10_ring_55 fl_X10_19 (by decide) (fun x55 => ?_)
      refine sn_getA (ci := 1) (j := 15) dX10_ring_58 fl_X10_134 (by decide) (fun x58 => ?_)
      refine sn_iconst dX10_ring_61 ?_
      refine sn_iload_n dX10_ring_62 rfl ?_
      refine sn_imul dX10_ring_63 ?_
      refine sn_iconst dX10_ring_64 ?_
      refine sn_iadd dX10_ring_65 ?_
      refine sn_iald dX10_ring_66 (fun x66 => ?_)
      refine sn_callVI (vs := [aI x53, aI x66]) (ci := 9) (cX9_steps_ok n x40 x53 x66 p36.2) dX10_ring_67 cw_X10_236 rfl rfl rfl (by decide) (by decide) (Nat.le_of_ble_eq_true rfl) (fun p67 => ?_)
      refine sn_istore_n (L' := [some (aA a), some (aI v4.1), some (aI v4.2), some (aI p67.1)]) dX10_ring_70 (by decide) rfl ?_
      refine sn_iload_n dX10_ring_71 rfl ?_
      refine sn_iconst dX10_ring_72 ?_
      refine sn_icmp_eq (tgt := 92) dX10_ring_73 (by decide) ?_ ?_
      · refine sn_iinc (L' := [some (aA a), some (aI v4.1), some (aI (v4.2 + 1)), some (aI p67.1)]) dX10_ring_92 rfl (by decide) rfl ?_
        refine sn_goto (tgt := 4) dX10_ring_95 (by decide) ?_
        exact sn_mask (L' := [some (aA a), some (aI v4.1), some (aI (v4.2 + 1)), none]) [true, true, true, false] rfl (hnx4 (v4.1, (v4.2 + 1)) p67.2)
      · refine sn_iload_n dX10_ring_76 rfl ?_
        refine sn_iconst dX10_ring_77 ?_
        refine sn_icmp_eq (tgt := 88) dX10_ring_78 (by decide) ?_ ?_
        · refine sn_iload_n dX10_ring_88 rfl ?_
          refine sn_iconst dX10_ring_89 ?_
          refine sn_iadd dX10_ring_90 ?_
          refine sn_istore_n (L' := [some (aA a), some (aI (p67.1 + 1)), some (aI v4.2), some (aI p67.1)]) dX10_ring_91 (by decide) rfl ?_
          refine sn_iinc (L' := [some (aA a), some (aI (p67.1 + 1)), some (aI (v4.2 + 1)), some (aI p67.1)]) dX10_ring_92 rfl (by decide) rfl ?_
          refine sn_goto (tgt := 4) dX10_ring_95 (by decide) ?_
          exact sn_mask (L' := [some (aA a), some (aI (p67.1 + 1)), some (aI (v4.2 + 1)), none]) [true, true, true, false] rfl (hnx4 ((p67.1 + 1), (v4.2 + 1)) p67.2)
        · refine sn_iload_n dX10_ring_81 rfl ?_
          refine sn_iconst dX10_ring_82 ?_
          refine sn_iadd dX10_ring_83 ?_
          refine sn_iload_n dX10_ring_84 rfl ?_
          refine sn_icmp_ge (tgt := 92) dX10_ring_85 (by decide) ?_ ?_
          · refine sn_iinc (L' := [some (aA a), some (aI v4.1), some (aI (v4.2 + 1)), some (aI p67.1)]) dX10_ring_92 rfl (by decide) rfl ?_
            refine sn_goto (tgt := 4) dX10_ring_95 (by decide) ?_
            exact sn_mask (L' := [some (aA a), some (aI v4.1), some (aI (v4.2 + 1)), none]) [true, true, true, false] rfl (hnx4 (v4.1, (v4.2 + 1)) p67.2)
          · refine sn_iload_n dX10_ring_88 rfl ?_
            refine sn_iconst dX10_ring_89 ?_
            refine sn_iadd dX10_ring_90 ?_
            refine sn_istore_n (L' := [some (aA a), some (aI (p67.1 + 1)), some (aI v4.2), some (aI p67.1)]) dX10_ring_91 (by decide) rfl ?_
            refine sn_iinc (L' := [some (aA a), some (aI (p67.1 + 1)), some (aI (v4.2 + 1)), some (aI p67.1)]) dX10_ring_92 rfl (by decide) rfl ?_
            refine sn_goto (tgt := 4) dX10_ring_95 (by decide) ?_
            exact sn_mask (L' := [some (aA a), some (aI (p67.1 + 1)), some (aI (v4.2 + 1)), none]) [true, true, true, false] rfl (hnx4 ((p67.1 + 1), (v4.2 + 1)) p67.2)
