/-! layer 1: top3 -/
theorem dX10_rope_0 : decode cX10_rope 0 = .ok (.aload_n 0, 1) := by decide +kernel
theorem dX10_rope_1 : decode cX10_rope 1 = .ok (.getfield 19, 3) := by decide +kernel
theorem dX10_rope_4 : decode cX10_rope 4 = .ok (.iload_n 1, 1) := by decide +kernel
theorem dX10_rope_5 : decode cX10_rope 5 = .ok (.invokevirtual 131, 3) := by decide +kernel
theorem dX10_rope_8 : decode cX10_rope 8 = .ok (.ifCond .ne 6, 3) := by decide +kernel
theorem dX10_rope_11 : decode cX10_rope 11 = .ok (.bipush (-2), 2) := by decide +kernel
theorem dX10_rope_13 : decode cX10_rope 13 = .ok (.ireturn, 1) := by decide +kernel
theorem dX10_rope_14 : decode cX10_rope 14 = .ok (.iload_n 2, 1) := by decide +kernel
theorem dX10_rope_15 : decode cX10_rope 15 = .ok (.tableswitch 197 0 9 #[53, 65, 79, 89, 100, 113, 133, 155, 166, 179], 53) := by decide +kernel
theorem dX10_rope_68 : decode cX10_rope 68 = .ok (.aload_n 0, 1) := by decide +kernel
theorem dX10_rope_69 : decode cX10_rope 69 = .ok (.getfield 19, 3) := by decide +kernel
theorem dX10_rope_72 : decode cX10_rope 72 = .ok (.getfield 134, 3) := by decide +kernel
theorem dX10_rope_75 : decode cX10_rope 75 = .ok (.iconst 2, 1) := by decide +kernel
theorem dX10_rope_76 : decode cX10_rope 76 = .ok (.iload_n 1, 1) := by decide +kernel
theorem dX10_rope_77 : decode cX10_rope 77 = .ok (.imul, 1) := by decide +kernel
theorem dX10_rope_78 : decode cX10_rope 78 = .ok (.iaload, 1) := by decide +kernel
theorem dX10_rope_79 : decode cX10_rope 79 = .ok (.ireturn, 1) := by decide +kernel
theorem dX10_rope_80 : decode cX10_rope 80 = .ok (.aload_n 0, 1) := by decide +kernel
theorem dX10_rope_81 : decode cX10_rope 81 = .ok (.getfield 19, 3) := by decide +kernel
theorem dX10_rope_84 : decode cX10_rope 84 = .ok (.getfield 134, 3) := by decide +kernel
theorem dX10_rope_87 : decode cX10_rope 87 = .ok (.iconst 2, 1) := by decide +kernel
theorem dX10_rope_88 : decode cX10_rope 88 = .ok (.iload_n 1, 1) := by decide +kernel
theorem dX10_rope_89 : decode cX10_rope 89 = .ok (.imul, 1) := by decide +kernel
theorem dX10_rope_90 : decode cX10_rope 90 = .ok (.iconst 1, 1) := by decide +kernel
theorem dX10_rope_91 : decode cX10_rope 91 = .ok (.iadd, 1) := by decide +kernel
theorem dX10_rope_92 : decode cX10_rope 92 = .ok (.iaload, 1) := by decide +kernel
theorem dX10_rope_93 : decode cX10_rope 93 = .ok (.ireturn, 1) := by decide +kernel
theorem dX10_rope_94 : decode cX10_rope 94 = .ok (.aload_n 0, 1) := by decide +kernel
theorem dX10_rope_95 : decode cX10_rope 95 = .ok (.getfield 19, 3) := by decide +kernel
theorem dX10_rope_98 : decode cX10_rope 98 = .ok (.getfield 137, 3) := by decide +kernel
theorem dX10_rope_101 : decode cX10_rope 101 = .ok (.iload_n 1, 1) := by decide +kernel
theorem dX10_rope_102 : decode cX10_rope 102 = .ok (.iaload, 1) := by decide +kernel
theorem dX10_rope_103 : decode cX10_rope 103 = .ok (.ireturn, 1) := by decide +kernel
theorem dX10_rope_104 : decode cX10_rope 104 = .ok (.aload_n 0, 1) := by decide +kernel
theorem dX10_rope_105 : decode cX10_rope 105 = .ok (.getfield 19, 3) := by decide +kernel
theorem dX10_rope_108 : decode cX10_rope 108 = .ok (.iconst 2, 1) := by decide +kernel
theorem dX10_rope_109 : decode cX10_rope 109 = .ok (.iload_n 1, 1) := by decide +kernel
theorem dX10_rope_110 : decode cX10_rope 110 = .ok (.imul, 1) := by decide +kernel
theorem dX10_rope_111 : decode cX10_rope 111 = .ok (.invokevirtual 140, 3) := by decide +kernel
theorem dX10_rope_114 : decode cX10_rope 114 = .ok (.ireturn, 1) := by decide +kernel
theorem dX10_rope_115 : decode cX10_rope 115 = .ok (.aload_n 0, 1) := by decide +kernel
theorem dX10_rope_116 : decode cX10_rope 116 = .ok (.getfield 19, 3) := by decide +kernel
theorem dX10_rope_119 : decode cX10_rope 119 = .ok (.iconst 2, 1) := by decide +kernel
theorem dX10_rope_120 : decode cX10_rope 120 = .ok (.iload_n 1, 1) := by decide +kernel
theorem dX10_rope_121 : decode cX10_rope 121 = .ok (.imul, 1) := by decide +kernel
theorem dX10_rope_122 : decode cX10_rope 122 = .ok (.iconst 1, 1) := by decide +kernel
theorem dX10_rope_123 : decode cX10_rope 123 = .ok (.iadd, 1) := by decide +kernel
theorem dX10_rope_124 : decode cX10_rope 124 = .ok (.invokevirtual 140, 3) := by decide +kernel
theorem dX10_rope_127 : decode cX10_rope 127 = .ok (.ireturn, 1) := by decide +kernel
theorem dX10_rope_128 : decode cX10_rope 128 = .ok (.aload_n 0, 1) := by decide +kernel
theorem dX10_rope_129 : decode cX10_rope 129 = .ok (.getfield 19, 3) := by decide +kernel
theorem dX10_rope_132 : decode cX10_rope 132 = .ok (.getfield 143, 3) := by decide +kernel
theorem dX10_rope_135 : decode cX10_rope 135 = .ok (.iconst 2, 1) := by decide +kernel
theorem dX10_rope_136 : decode cX10_rope 136 = .ok (.iload_n 1, 1) := by decide +kernel
theorem dX10_rope_137 : decode cX10_rope 137 = .ok (.imul, 1) := by decide +kernel
theorem dX10_rope_138 : decode cX10_rope 138 = .ok (.baload, 1) := by decide +kernel
theorem dX10_rope_139 : decode cX10_rope 139 = .ok (.ifCond .eq 7, 3) := by decide +kernel
theorem dX10_rope_142 : decode cX10_rope 142 = .ok (.iconst 1, 1) := by decide +kernel
theorem dX10_rope_143 : decode cX10_rope 143 = .ok (.goto 4, 3) := by decide +kernel
theorem dX10_rope_146 : decode cX10_rope 146 = .ok (.iconst 0, 1) := by decide +kernel
theorem dX10_rope_147 : decode cX10_rope 147 = .ok (.ireturn, 1) := by decide +kernel
theorem dX10_rope_148 : decode cX10_rope 148 = .ok (.aload_n 0, 1) := by decide +kernel
theorem dX10_rope_149 : decode cX10_rope 149 = .ok (.getfield 19, 3) := by decide +kernel
theorem dX10_rope_152 : decode cX10_rope 152 = .ok (.getfield 143, 3) := by decide +kernel
theorem dX10_rope_155 : decode cX10_rope 155 = .ok (.iconst 2, 1) := by decide +kernel
theorem dX10_rope_156 : decode cX10_rope 156 = .ok (.iload_n 1, 1) := by decide +kernel
theorem dX10_rope_157 : decode cX10_rope 157 = .ok (.imul, 1) := by decide +kernel
theorem dX10_rope_158 : decode cX10_rope 158 = .ok (.iconst 1, 1) := by decide +kernel
theorem dX10_rope_159 : decode cX10_rope 159 = .ok (.iadd, 1) := by decide +kernel
theorem dX10_rope_160 : decode cX10_rope 160 = .ok (.baload, 1) := by decide +kernel
theorem dX10_rope_161 : decode cX10_rope 161 = .ok (.ifCond .eq 7, 3) := by decide +kernel
theorem dX10_rope_164 : decode cX10_rope 164 = .ok (.iconst 1, 1) := by decide +kernel
theorem dX10_rope_165 : decode cX10_rope 165 = .ok (.goto 4, 3) := by decide +kernel
theorem dX10_rope_168 : decode cX10_rope 168 = .ok (.iconst 0, 1) := by decide +kernel
theorem dX10_rope_169 : decode cX10_rope 169 = .ok (.ireturn, 1) := by decide +kernel
theorem dX10_rope_170 : decode cX10_rope 170 = .ok (.aload_n 0, 1) := by decide +kernel
theorem dX10_rope_171 : decode cX10_rope 171 = .ok (.getfield 19, 3) := by decide +kernel
theorem dX10_rope_174 : decode cX10_rope 174 = .ok (.iconst 2, 1) := by decide +kernel
theorem dX10_rope_175 : decode cX10_rope 175 = .ok (.iload_n 1, 1) := by decide +kernel
theorem dX10_rope_176 : decode cX10_rope 176 = .ok (.imul, 1) := by decide +kernel
theorem dX10_rope_177 : decode cX10_rope 177 = .ok (.invokevirtual 146, 3) := by decide +kernel
theorem dX10_rope_180 : decode cX10_rope 180 = .ok (.ireturn, 1) := by decide +kernel
theorem dX10_rope_181 : decode cX10_rope 181 = .ok (.aload_n 0, 1) := by decide +kernel
theorem dX10_rope_182 : decode cX10_rope 182 = .ok (.getfield 19, 3) := by decide +kernel
theorem dX10_rope_185 : decode cX10_rope 185 = .ok (.iconst 2, 1) := by decide +kernel
theorem dX10_rope_186 : decode cX10_rope 186 = .ok (.iload_n 1, 1) := by decide +kernel
theorem dX10_rope_187 : decode cX10_rope 187 = .ok (.imul, 1) := by decide +kernel
theorem dX10_rope_188 : decode cX10_rope 188 = .ok (.iconst 1, 1) := by decide +kernel
theorem dX10_rope_189 : decode cX10_rope 189 = .ok (.iadd, 1) := by decide +kernel
theorem dX10_rope_190 : decode cX10_rope 190 = .ok (.invokevirtual 146, 3) := by decide +kernel
theorem dX10_rope_193 : decode cX10_rope 193 = .ok (.ireturn, 1) := by decide +kernel
theorem dX10_rope_194 : decode cX10_rope 194 = .ok (.aload_n 0, 1) := by decide +kernel
theorem dX10_rope_195 : decode cX10_rope 195 = .ok (.getfield 19, 3) := by decide +kernel
theorem dX10_rope_198 : decode cX10_rope 198 = .ok (.getfield 149, 3) := by decide +kernel
theorem dX10_rope_201 : decode cX10_rope 201 = .ok (.iload_n 1, 1) := by decide +kernel
theorem dX10_rope_202 : decode cX10_rope 202 = .ok (.baload, 1) := by decide +kernel
theorem dX10_rope_203 : decode cX10_rope 203 = .ok (.ifCond .eq 7, 3) := by decide +kernel
theorem dX10_rope_206 : decode cX10_rope 206 = .ok (.iconst 1, 1) := by decide +kernel
theorem dX10_rope_207 : decode cX10_rope 207 = .ok (.goto 4, 3) := by decide +kernel
theorem dX10_rope_210 : decode cX10_rope 210 = .ok (.iconst 0, 1) := by decide +kernel
theorem dX10_rope_211 : decode cX10_rope 211 = .ok (.ireturn, 1) := by decide +kernel
theorem dX10_rope_212 : decode cX10_rope 212 = .ok (.bipush (-2), 2) := by decide +kernel
theorem dX10_rope_214 : decode cX10_rope 214 = .ok (.ireturn, 1) := by decide +kernel
def mX10_rope (n : Nat) (a : Nat) (b1 : Int) (b2 : Int) (μ : Mem) : Option (Int × Mem) :=
  (gA μ 11 a 1).bind fun x1 =>
  (inv μ 2 x1 (mX1_hasRope n x1 b1 μ)).bind fun p5 =>
  if eq32 p5.1 0 then
    some ((-2), p5.2)
  else
  if eq32 b2 0 then
    (gA p5.2 11 a 1).bind fun x69 =>
    (gA p5.2 2 x69 15).bind fun x72 =>
    (ldI p5.2 0 x72 (2 * b1)).bind fun x78 =>
    some (x78, p5.2)
  else
  if eq32 b2 1 then
    (gA p5.2 11 a 1).bind fun x81 =>
    (gA p5.2 2 x81 15).bind fun x84 =>
    (ldI p5.2 0 x84 ((2 * b1) + 1)).bind fun x92 =>
    some (x92, p5.2)
  else
  if eq32 b2 2 then
    (gA p5.2 11 a 1).bind fun x95 =>
    (gA p5.2 2 x95 12).bind fun x98 =>
    (ldI p5.2 0 x98 b1).bind fun x102 =>
    some (x102, p5.2)
  else
  if eq32 b2 3 then
    (gA p5.2 11 a 1).bind fun x105 =>
    (inv p5.2 2 x105 (mX1_depthOf n x105 (2 * b1) p5.2)).bind fun p111 =>
    some (p111.1, p111.2)
  else
  if eq32 b2 4 then
    (gA p5.2 11 a 1).bind fun x116 =>
    (inv p5.2 2 x116 (mX1_depthOf n x116 ((2 * b1) + 1) p5.2)).bind fun p124 =>
    some (p124.1, p124.2)
  else
  if eq32 b2 5 then
    (gA p5.2 11 a 1).bind fun x129 =>
    (gA p5.2 2 x129 17).bind fun x132 =>
    (ldI p5.2 2 x132 (2 * b1)).bind fun x138 =>
    if eq32 x138 0 then
      some (0, p5.2)
    else
    some (1, p5.2)
  else
  if eq32 b2 6 then
    (gA p5.2 11 a 1).bind fun x149 =>
    (gA p5.2 2 x149 17).bind fun x152 =>
    (ldI p5.2 2 x152 ((2 * b1) + 1)).bind fun x160 =>
    if eq32 x160 0 then
      some (0, p5.2)
    else
    some (1, p5.2)
  else
  if eq32 b2 7 then
    (gA p5.2 11 a 1).bind fun x171 =>
    (inv p5.2 2 x171 (mX1_weight n x171 (2 * b1) p5.2)).bind fun p177 =>
    some (p177.1, p177.2)
  else
  if eq32 b2 8 then
    (gA p5.2 11 a 1).bind fun x182 =>
    (inv p5.2 2 x182 (mX1_weight n x182 ((2 * b1) + 1) p5.2)).bind fun p190 =>
    some (p190.1, p190.2)
  else
  if eq32 b2 9 then
    (gA p5.2 11 a 1).bind fun x195 =>
    (gA p5.2 2 x195 14).bind fun x198 =>
    (ldI p5.2 2 x198 b1).bind fun x202 =>
    if eq32 x202 0 then
      some (0, p5.2)
    else
    some (1, p5.2)
  else
  some ((-2), p5.2)
set_option maxRecDepth 100000 in
set_option maxHeartbeats 4000000 in
theorem cX10_rope_ok (n : Nat) (a : Nat) (b1 : Int) (b2 : Int) (μ : Mem) : Mc yX10_rope cX10_rope 3 (some .int) 2 42 eI [aA a, aI b1, aI b2] μ (mX10_rope n a b1 b2 μ) := by
  refine mc_of (L0 := [some (aA a), some (aI b1), some (aI b2)]) (k := 0) (by decide) rfl rfl (fun X Γ => ?_)
  unfold mX10_rope
  refine sn_aload_n dX10_rope_0 rfl ?_
  refine sn_getA (ci := 10) (j := 1) dX10_rope_1 fl_X10_19 (by decide) (fun x1 => ?_)
  refine sn_iload_n dX10_rope_4 rfl ?_
  refine sn_callVI (vs := [aI b1]) (ci := 1) (cX1_hasRope_ok n x1 b1 μ) dX10_rope_5 cw_X10_131 rfl rfl rfl (by decide) (by decide) (Nat.le_of_ble_eq_true rfl) (fun p5 => ?_)
  refine sn_if_ne (tgt := 14) dX10_rope_8 (by decide) ?_ ?_
  · refine sn_iload_n dX10_rope_14 rfl ?_
    refine sn_ite (fun c15_0 => ?_) (fun c15_0 => ?_)
    · refine sn_swIn (k := 0) (off := 53) (tgt := 68) dX10_rope_15 c15_0 (by decide) (by decide) rfl (by decide) ?_
      refine sn_aload_n dX10_rope_68 rfl ?_
      refine sn_getA (ci := 10) (j := 1) dX10_rope_69 fl_X10_19 (by decide) (fun x69 => ?_)
      refine sn_getA (ci := 1) (j := 15) dX10_rope_72 fl_X10_134 (by decide) (fun x72 => ?_)
      refine sn_iconst dX10_rope_75 ?_
      refine sn_iload_n dX10_rope_76 rfl ?_
      refine sn_imul dX10_rope_77 ?_
      refine sn_iald dX10_rope_78 (fun x78 => ?_)
      exact sn_iret dX10_rope_79
    refine sn_ite (fun c15_1 => ?_) (fun c15_1 => ?_)
    · refine sn_swIn (k := 1) (off := 65) (tgt := 80) dX10_rope_15 c15_1 (by decide) (by decide) rfl (by decide) ?_
      refine sn_aload_n dX10_rope_80 rfl ?_
      refine sn_getA (ci := 10) (j := 1) dX10_rope_81 fl_X10_19 (by decide) (fun x81 => ?_)
      refine sn_getA (ci := 1) (j := 15) dX10_rope_84 fl_X10_134 (by decide) (fun x84 => ?_)
      refine sn_iconst dX10_rope_87 ?_
      refine sn_iload_n dX10_rope_88 rfl ?_
      refine sn_imul dX10_rope_89 ?_
      refine sn_iconst dX10_rope_90 ?_
      refine sn_iadd dX10_rope_91 ?_
      refine sn_iald dX10_rope_92 (fun x92 => ?_)
      exact sn_iret dX10_rope_93
    refine sn_ite (fun c15_2 => ?_) (fun c15_2 => ?_)
    · refine sn_swIn (k := 2) (off := 79) (tgt := 94) dX10_rope_15 c15_2 (by decide) (by decide) rfl (by decide) ?_
      refine sn_aload_n dX10_rope_94 rfl ?_
      refine sn_getA (ci := 10) (j := 1) dX10_rope_95 fl_X10_19 (by decide) (fun x95 => ?_)
      refine sn_getA (ci := 1) (j := 12) dX10_rope_98 fl_X10_137 (by decide) (fun x98 => ?_)
      refine sn_iload_n dX10_rope_101 rfl ?_
      refine sn_iald dX10_rope_102 (fun x102 => ?_)
      exact sn_iret dX10_rope_103
    refine sn_ite (fun c15_3 => ?_) (fun c15_3 => ?_)
    · refine sn_swIn (k := 3) (off := 89) (tgt := 104) dX10_rope_15 c15_3 (by decide) (by decide) rfl (by decide) ?_
      refine sn_aload_n dX10_rope_104 rfl ?_
      refine sn_getA (ci := 10) (j := 1) dX10_rope_105 fl_X10_19 (by decide) (fun x105 => ?_)
      refine sn_iconst dX10_rope_108 ?_
      refine sn_iload_n dX10_rope_109 rfl ?_
      refine sn_imul dX10_rope_110 ?_
      refine sn_callVI (vs := [aI (2 * b1)]) (ci := 1) (cX1_depthOf_ok n x105 (2 * b1) p5.2) dX10_rope_111 cw_X10_140 rfl rfl rfl (by decide) (by decide) (Nat.le_of_ble_eq_true rfl) (fun p111 => ?_)
      exact sn_iret dX10_rope_114
    refine sn_ite (fun c15_4 => ?_) (fun c15_4 => ?_)
    · refine sn_swIn (k := 4) (off := 100) (tgt := 115) dX10_rope_15 c15_4 (by decide) (by decide) rfl (by decide) ?_
      refine sn_aload_n dX10_rope_115 rfl ?_
      refine sn_getA (ci := 10) (j := 1) dX10_rope_116 fl_X10_19 (by decide) (fun x116 => ?_)
      refine sn_iconst dX10_rope_119 ?_
      refine sn_iload_n dX10_rope_120 rfl ?_
      refine sn_imul dX10_rope_121 ?_
      refine sn_iconst dX10_rope_122 ?_
      refine sn_iadd dX10_rope_123 ?_
      refine sn_callVI (vs := [aI ((2 * b1) + 1)]) (ci := 1) (cX1_depthOf_ok n x116 ((2 * b1) + 1) p5.2) dX10_rope_124 cw_X10_140 rfl rfl rfl (by decide) (by decide) (Nat.le_of_ble_eq_true rfl) (fun p124 => ?_)
      exact sn_iret dX10_rope_127
    refine sn_ite (fun c15_5 => ?_) (fun c15_5 => ?_)
    · refine sn_swIn (k := 5) (off := 113) (tgt := 128) dX10_rope_15 c15_5 (by decide) (by decide) rfl (by decide) ?_
      refine sn_aload_n dX10_rope_128 rfl ?_
      refine sn_getA (ci := 10) (j := 1) dX10_rope_129 fl_X10_19 (by decide) (fun x129 => ?_)
      refine sn_getA (ci := 1) (j := 17) dX10_rope_132 fl_X10_143 (by decide) (fun x132 => ?_)
      refine sn_iconst dX10_rope_135 ?_
      refine sn_iload_n dX10_rope_136 rfl ?_
      refine sn_imul dX10_rope_137 ?_
      refine sn_zald dX10_rope_138 (fun x138 => ?_)
      refine sn_if_eq (tgt := 146) dX10_rope_139 (by decide) ?_ ?_
      · refine sn_iconst dX10_rope_146 ?_
        exact sn_iret dX10_rope_147
      · refine sn_iconst dX10_rope_142 ?_
        refine sn_goto (tgt := 147) dX10_rope_143 (by decide) ?_
        exact sn_iret dX10_rope_147
    refine sn_ite (fun c15_6 => ?_) (fun c15_6 => ?_)
    · refine sn_swIn (k := 6) (off := 133) (tgt := 148) dX10_rope_15 c15_6 (by decide) (by decide) rfl (by decide) ?_
      refine sn_aload_n dX10_rope_148 rfl ?_
      refine sn_getA (ci := 10) (j := 1) dX10_rope_149 fl_X10_19 (by decide) (fun x149 => ?_)
      refine sn_getA (ci := 1) (j := 17) dX10_rope_152 fl_X10_143 (by decide) (fun x152 => ?_)
      refine sn_iconst dX10_rope_155 ?_
      refine sn_iload_n dX10_rope_156 rfl ?_
      refine sn_imul dX10_rope_157 ?_
      refine sn_iconst dX10_rope_158 ?_
      refine sn_iadd dX10_rope_159 ?_
      refine sn_zald dX10_rope_160 (fun x160 => ?_)
      refine sn_if_eq (tgt := 168) dX10_rope_161 (by decide) ?_ ?_
      · refine sn_iconst dX10_rope_168 ?_
        exact sn_iret dX10_rope_169
      · refine sn_iconst dX10_rope_164 ?_
        refine sn_goto (tgt := 169) dX10_rope_165 (by decide) ?_
        exact sn_iret dX10_rope_169
    refine sn_ite (fun c15_7 => ?_) (fun c15_7 => ?_)
    · refine sn_swIn (k := 7) (off := 155) (tgt := 170) dX10_rope_15 c15_7 (by decide) (by decide) rfl (by decide) ?_
      refine sn_aload_n dX10_rope_170 rfl ?_
      refine sn_getA (ci := 10) (j := 1) dX10_rope_171 fl_X10_19 (by decide) (fun x171 => ?_)
      refine sn_iconst dX10_rope_174 ?_
      refine sn_iload_n dX10_rope_175 rfl ?_
      refine sn_imul dX10_rope_176 ?_
      refine sn_callVI (vs := [aI (2 * b1)]) (ci := 1) (cX1_weight_ok n x171 (2 * b1) p5.2) dX10_rope_177 cw_X10_146 rfl rfl rfl (by decide) (by decide) (Nat.le_of_ble_eq_true rfl) (fun p177 => ?_)
      exact sn_iret dX10_rope_180
    refine sn_ite (fun c15_8 => ?_) (fun c15_8 => ?_)
    · refine sn_swIn (k := 8) (off := 166) (tgt := 181) dX10_rope_15 c15_8 (by decide) (by decide) rfl (by decide) ?_
      refine sn_aload_n dX10_rope_181 rfl ?_
      refine sn_getA (ci := 10) (j := 1) dX10_rope_182 fl_X10_19 (by decide) (fun x182 => ?_)
      refine sn_iconst dX10_rope_185 ?_
      refine sn_iload_n dX10_rope_186 rfl ?_
      refine sn_imul dX10_rope_187 ?_
      refine sn_iconst dX10_rope_188 ?_
      refine sn_iadd dX10_rope_189 ?_
      refine sn_callVI (vs := [aI ((2 * b1) + 1)]) (ci := 1) (cX1_weight_ok n x182 ((2 * b1) + 1) p5.2) dX10_rope_190 cw_X10_146 rfl rfl rfl (by decide) (by decide) (Nat.le_of_ble_eq_true rfl) (fun p190 => ?_)
      exact sn_iret dX10_rope_193
    refine sn_ite (fun c15_9 => ?_) (fun c15_9 => ?_)
    · refine sn_swIn (k := 9) (off := 179) (tgt := 194) dX10_rope_15 c15_9 (by decide) (by decide) rfl (by decide) ?_
      refine sn_aload_n dX10_rope_194 rfl ?_
      refine sn_getA (ci := 10) (j := 1) dX10_rope_195 fl_X10_19 (by decide) (fun x195 => ?_)
      refine sn_getA (ci := 1) (j := 14) dX10_rope_198 fl_X10_149 (by decide) (fun x198 => ?_)
      refine sn_iload_n dX10_rope_201 rfl ?_
      refine sn_zald dX10_rope_202 (fun x202 => ?_)
      refine sn_if_eq (tgt := 210) dX10_rope_203 (by decide) ?_ ?_
      · refine sn_iconst dX10_rope_210 ?_
        exact sn_iret dX10_rope_211
      · refine sn_iconst dX10_rope_206 ?_
        refine sn_goto (tgt := 211) dX10_rope_207 (by decide) ?_
        exact sn_iret dX10_rope_211
    refine sn_swOut (tgt := 212) dX10_rope_15 (by have e0 := sw_ne c15_0 (by decide); have e1 := sw_ne c15_1 (by decide); have e2 := sw_ne c15_2 (by decide); have e3 := sw_ne c15_3 (by decide); have e4 := sw_ne c15_4 (by decide); have e5 := sw_ne c15_5 (by decide); have e6 := sw_ne c15_6 (by decide); have e7 := sw_ne c15_7 (by decide); have e8 := sw_ne c15_8 (by decide); have e9 := sw_ne c15_9 (by decide); omega) (by decide) ?_
    refine sn_bipush dX10_rope_212 (by decide) ?_
    exact sn_iret dX10_rope_214
  · refine sn_bipush dX10_rope_11 (by decide) ?_
    exact sn_iret dX10_rope_13
theorem dX10_seen_0 : decode cX10_seen 0 = .ok (.aload_n 0, 1) := by decide +kernel
theorem dX10_seen_1 : decode cX10_seen 1 = .ok (.iload_n 1, 1) := by decide +kernel
theorem dX10_seen_2 : decode cX10_seen 2 = .ok (.invokevirtual 300, 3) := by decide +kernel
theorem dX10_seen_5 : decode cX10_seen 5 = .ok (.istore_n 2, 1) := by decide +kernel
theorem dX10_seen_6 : decode cX10_seen 6 = .ok (.iload_n 2, 1) := by decide +kernel
theorem dX10_seen_7 : decode cX10_seen 7 = .ok (.ifCond .eq 5, 3) := by decide +kernel
theorem dX10_seen_10 : decode cX10_seen 10 = .ok (.iload_n 2, 1) := by decide +kernel
theorem dX10_seen_11 : decode cX10_seen 11 = .ok (.ireturn, 1) := by decide +kernel
theorem dX10_seen_12 : decode cX10_seen 12 = .ok (.aload_n 0, 1) := by decide +kernel
theorem dX10_seen_13 : decode cX10_seen 13 = .ok (.getfield 71, 3) := by decide +kernel
theorem dX10_seen_16 : decode cX10_seen 16 = .ok (.aload_n 0, 1) := by decide +kernel
theorem dX10_seen_17 : decode cX10_seen 17 = .ok (.getfield 19, 3) := by decide +kernel
theorem dX10_seen_20 : decode cX10_seen 20 = .ok (.aload_n 0, 1) := by decide +kernel
theorem dX10_seen_21 : decode cX10_seen 21 = .ok (.getfield 36, 3) := by decide +kernel
theorem dX10_seen_24 : decode cX10_seen 24 = .ok (.iload_n 1, 1) := by decide +kernel
theorem dX10_seen_25 : decode cX10_seen 25 = .ok (.aaload, 1) := by decide +kernel
theorem dX10_seen_26 : decode cX10_seen 26 = .ok (.invokevirtual 303, 3) := by decide +kernel
theorem dX10_seen_29 : decode cX10_seen 29 = .ok (.aload_n 0, 1) := by decide +kernel
theorem dX10_seen_30 : decode cX10_seen 30 = .ok (.getfield 71, 3) := by decide +kernel
theorem dX10_seen_33 : decode cX10_seen 33 = .ok (.getfield 306, 3) := by decide +kernel
theorem dX10_seen_36 : decode cX10_seen 36 = .ok (.ireturn, 1) := by decide +kernel
def mX10_seen (n : Nat) (a : Nat) (b1 : Int) (μ : Mem) : Option (Int × Mem) :=
  (inv μ 11 a (mX10_sightRefusal n a b1 μ)).bind fun p2 =>
  if eq32 p2.1 0 then
    (gA p2.2 11 a 10).bind fun x13 =>
    (gA p2.2 11 a 1).bind fun x17 =>
    (gA p2.2 11 a 5).bind fun x21 =>
    (ldA p2.2 5 x21 b1).bind fun x25 =>
    (inv p2.2 6 x13 (mX5_watch n x13 x17 x25 p2.2)).bind fun p26 =>
    (gA p26.2 11 a 10).bind fun x30 =>
    (gI p26.2 6 x30 0).bind fun x33 =>
    some (x33, p26.2)
  else
  some (p2.1, p2.2)
set_option maxRecDepth 100000 in
set_option maxHeartbeats 4000000 in
theorem cX10_seen_ok (n : Nat) (a : Nat) (b1 : Int) (μ : Mem) : Mc yX10_seen cX10_seen 3 (some .int) 38 838 eI [aA a, aI b1] μ (mX10_seen n a b1 μ) := by
  refine mc_of (L0 := [some (aA a), some (aI b1), none]) (k := 1) (by decide) rfl rfl (fun X Γ => ?_)
  unfold mX10_seen
  refine sn_aload_n dX10_seen_0 rfl ?_
  refine sn_iload_n dX10_seen_1 rfl ?_
  refine sn_callVI (vs := [aI b1]) (ci := 10) (cX10_sightRefusal_ok n a b1 μ) dX10_seen_2 cw_X10_300 rfl rfl rfl (by decide) (by decide) (Nat.le_of_ble_eq_true rfl) (fun p2 => ?_)
  refine sn_istore_n (L' := [some (aA a), some (aI b1), some (aI p2.1)]) dX10_seen_5 (by decide) rfl ?_
  refine sn_iload_n dX10_seen_6 rfl ?_
  refine sn_if_eq (tgt := 12) dX10_seen_7 (by decide) ?_ ?_
  · refine sn_aload_n dX10_seen_12 rfl ?_
    refine sn_getA (ci := 10) (j := 10) dX10_seen_13 fl_X10_71 (by decide) (fun x13 => ?_)
    refine sn_aload_n dX10_seen_16 rfl ?_
    refine sn_getA (ci := 10) (j := 1) dX10_seen_17 fl_X10_19 (by decide) (fun x17 => ?_)
    refine sn_aload_n dX10_seen_20 rfl ?_
    refine sn_getA (ci := 10) (j := 5) dX10_seen_21 fl_X10_36 (by decide) (fun x21 => ?_)
    refine sn_iload_n dX10_seen_24 rfl ?_
    refine sn_aald5 dX10_seen_25 (fun x25 => ?_)
    refine sn_callVV (vs := [aA x17, aA x25]) (ci := 5) (cX5_watch_ok n x13 x17 x25 p2.2) dX10_seen_26 cw_X10_303 rfl rfl rfl (by decide) (by decide) (Nat.le_of_ble_eq_true rfl) (fun p26 => ?_)
    refine sn_aload_n dX10_seen_29 rfl ?_
    refine sn_getA (ci := 10) (j := 10) dX10_seen_30 fl_X10_71 (by decide) (fun x30 => ?_)
    refine sn_getI (ci := 5) (j := 0) dX10_seen_33 fl_X10_306 rfl (fun x33 => ?_)
    exact sn_iret dX10_seen_36
  · refine sn_iload_n dX10_seen_10 rfl ?_
    exact sn_iret dX10_seen_11
theorem dX10_severs_0 : decode cX10_severs 0 = .ok (.aload_n 0, 1) := by decide +kernel
theorem dX10_severs_1 : decode cX10_severs 1 = .ok (.getfield 19, 3) := by decide +kernel
theorem dX10_severs_4 : decode cX10_severs 4 = .ok (.iload_n 1, 1) := by decide +kernel
theorem dX10_severs_5 : decode cX10_severs 5 = .ok (.invokevirtual 131, 3) := by decide +kernel
theorem dX10_severs_8 : decode cX10_severs 8 = .ok (.ifCond .ne 6, 3) := by decide +kernel
theorem dX10_severs_11 : decode cX10_severs 11 = .ok (.bipush (-2), 2) := by decide +kernel
theorem dX10_severs_13 : decode cX10_severs 13 = .ok (.ireturn, 1) := by decide +kernel
theorem dX10_severs_14 : decode cX10_severs 14 = .ok (.aload_n 0, 1) := by decide +kernel
theorem dX10_severs_15 : decode cX10_severs 15 = .ok (.getfield 19, 3) := by decide +kernel
theorem dX10_severs_18 : decode cX10_severs 18 = .ok (.getfield 149, 3) := by decide +kernel
theorem dX10_severs_21 : decode cX10_severs 21 = .ok (.iload_n 1, 1) := by decide +kernel
theorem dX10_severs_22 : decode cX10_severs 22 = .ok (.baload, 1) := by decide +kernel
theorem dX10_severs_23 : decode cX10_severs 23 = .ok (.ifCond .eq 6, 3) := by decide +kernel
theorem dX10_severs_26 : decode cX10_severs 26 = .ok (.bipush (-5), 2) := by decide +kernel
theorem dX10_severs_28 : decode cX10_severs 28 = .ok (.ireturn, 1) := by decide +kernel
theorem dX10_severs_29 : decode cX10_severs 29 = .ok (.aload_n 0, 1) := by decide +kernel
theorem dX10_severs_30 : decode cX10_severs 30 = .ok (.getfield 50, 3) := by decide +kernel
theorem dX10_severs_33 : decode cX10_severs 33 = .ok (.aload_n 0, 1) := by decide +kernel
theorem dX10_severs_34 : decode cX10_severs 34 = .ok (.getfield 19, 3) := by decide +kernel
theorem dX10_severs_37 : decode cX10_severs 37 = .ok (.iload_n 1, 1) := by decide +kernel
theorem dX10_severs_38 : decode cX10_severs 38 = .ok (.invokevirtual 227, 3) := by decide +kernel
theorem dX10_severs_41 : decode cX10_severs 41 = .ok (.aload_n 0, 1) := by decide +kernel
theorem dX10_severs_42 : decode cX10_severs 42 = .ok (.getfield 50, 3) := by decide +kernel
theorem dX10_severs_45 : decode cX10_severs 45 = .ok (.aload_n 0, 1) := by decide +kernel
theorem dX10_severs_46 : decode cX10_severs 46 = .ok (.getfield 19, 3) := by decide +kernel
theorem dX10_severs_49 : decode cX10_severs 49 = .ok (.getfield 134, 3) := by decide +kernel
theorem dX10_severs_52 : decode cX10_severs 52 = .ok (.iconst 2, 1) := by decide +kernel
theorem dX10_severs_53 : decode cX10_severs 53 = .ok (.iload_n 1, 1) := by decide +kernel
theorem dX10_severs_54 : decode cX10_severs 54 = .ok (.imul, 1) := by decide +kernel
theorem dX10_severs_55 : decode cX10_severs 55 = .ok (.iaload, 1) := by decide +kernel
theorem dX10_severs_56 : decode cX10_severs 56 = .ok (.invokevirtual 240, 3) := by decide +kernel
theorem dX10_severs_59 : decode cX10_severs 59 = .ok (.istore_n 2, 1) := by decide +kernel
theorem dX10_severs_60 : decode cX10_severs 60 = .ok (.iload_n 2, 1) := by decide +kernel
theorem dX10_severs_61 : decode cX10_severs 61 = .ok (.aload_n 0, 1) := by decide +kernel
theorem dX10_severs_62 : decode cX10_severs 62 = .ok (.getfield 19, 3) := by decide +kernel
theorem dX10_severs_65 : decode cX10_severs 65 = .ok (.getfield 134, 3) := by decide +kernel
theorem dX10_severs_68 : decode cX10_severs 68 = .ok (.iconst 2, 1) := by decide +kernel
theorem dX10_severs_69 : decode cX10_severs 69 = .ok (.iload_n 1, 1) := by decide +kernel
theorem dX10_severs_70 : decode cX10_severs 70 = .ok (.imul, 1) := by decide +kernel
theorem dX10_severs_71 : decode cX10_severs 71 = .ok (.iconst 1, 1) := by decide +kernel
theorem dX10_severs_72 : decode cX10_severs 72 = .ok (.iadd, 1) := by decide +kernel
theorem dX10_severs_73 : decode cX10_severs 73 = .ok (.iaload, 1) := by decide +kernel
theorem dX10_severs_74 : decode cX10_severs 74 = .ok (.ishr, 1) := by decide +kernel
theorem dX10_severs_75 : decode cX10_severs 75 = .ok (.iconst 1, 1) := by decide +kernel
theorem dX10_severs_76 : decode cX10_severs 76 = .ok (.iand, 1) := by decide +kernel
theorem dX10_severs_77 : decode cX10_severs 77 = .ok (.iconst 1, 1) := by decide +kernel
theorem dX10_severs_78 : decode cX10_severs 78 = .ok (.if_icmp .ne 7, 3) := by decide +kernel
theorem dX10_severs_81 : decode cX10_severs 81 = .ok (.iconst 0, 1) := by decide +kernel
theorem dX10_severs_82 : decode cX10_severs 82 = .ok (.goto 4, 3) := by decide +kernel
theorem dX10_severs_85 : decode cX10_severs 85 = .ok (.iconst 1, 1) := by decide +kernel
theorem dX10_severs_86 : decode cX10_severs 86 = .ok (.ireturn, 1) := by decide +kernel
def mX10_severs (n : Nat) (a : Nat) (b1 : Int) (μ : Mem) : Option (Int × Mem) :=
  (gA μ 11 a 1).bind fun x1 =>
  (inv μ 2 x1 (mX1_hasRope n x1 b1 μ)).bind fun p5 =>
  if eq32 p5.1 0 then
    some ((-2), p5.2)
  else
  (gA p5.2 11 a 1).bind fun x15 =>
  (gA p5.2 2 x15 14).bind fun x18 =>
  (ldI p5.2 2 x18 b1).bind fun x22 =>
  if eq32 x22 0 then
    (gA p5.2 11 a 7).bind fun x30 =>
    (gA p5.2 11 a 1).bind fun x34 =>
    (inv p5.2 10 x30 (mX9_look n x30 x34 b1 p5.2)).bind fun p38 =>
    (gA p38.2 11 a 7).bind fun x42 =>
    (gA p38.2 11 a 1).bind fun x46 =>
    (gA p38.2 2 x46 15).bind fun x49 =>
    (ldI p38.2 0 x49 (2 * b1)).bind fun x55 =>
    (inv p38.2 10 x42 (mX9_part n x42 x55 p38.2)).bind fun p56 =>
    (gA p56.2 11 a 1).bind fun x62 =>
    (gA p56.2 2 x62 15).bind fun x65 =>
    (ldI p56.2 0 x65 ((2 * b1) + 1)).bind fun x73 =>
    if eq32 (oAnd (oShr p56.1 x73) 1) 1 then
      some (0, p56.2)
    else
    some (1, p56.2)
  else
  some ((-5), p5.2)
set_option maxRecDepth 100000 in
set_option maxHeartbeats 4000000 in
theorem cX10_severs_ok (n : Nat) (a : Nat) (b1 : Int) (μ : Mem) : Mc yX10_severs cX10_severs 3 (some .int) 2 48 eI [aA a, aI b1] μ (mX10_severs n a b1 μ) := by
  refine mc_of (L0 := [some (aA a), some (aI b1), none]) (k := 1) (by decide) rfl rfl (fun X Γ => ?_)
  unfold mX10_severs
  refine sn_aload_n dX10_severs_0 rfl ?_
  refine sn_getA (ci := 10) (j := 1) dX10_severs_1 fl_X10_19 (by decide) (fun x1 => ?_)
  refine sn_iload_n dX10_severs_4 rfl ?_
  refine sn_callVI (vs := [aI b1]) (ci := 1) (cX1_hasRope_ok n x1 b1 μ) dX10_severs_5 cw_X10_131 rfl rfl rfl (by decide) (by decide) (Nat.le_of_ble_eq_true rfl) (fun p5 => ?_)
  refine sn_if_ne (tgt := 14) dX10_severs_8 (by decide) ?_ ?_
  · refine sn_aload_n dX10_severs_14 rfl ?_
    refine sn_getA (ci := 10) (j := 1) dX10_severs_15 fl_X10_19 (by decide) (fun x15 => ?_)
    refine sn_getA (ci := 1) (j := 14) dX10_severs_18 fl_X10_149 (by decide) (fun x18 => ?_)
    refine sn_iload_n dX10_severs_21 rfl ?_
    refine sn_zald dX10_severs_22 (fun x22 => ?_)
    refine sn_if_eq (tgt := 29) dX10_severs_23 (by decide) ?_ ?_
    · refine sn_aload_n dX10_severs_29 rfl ?_
      refine sn_getA (ci := 10) (j := 7) dX10_severs_30 fl_X10_50 (by decide) (fun x30 => ?_)
      refine sn_aload_n dX10_severs_33 rfl ?_
      refine sn_getA (ci := 10) (j := 1) dX10_severs_34 fl_X10_19 (by decide) (fun x34 => ?_)
      refine sn_iload_n dX10_severs_37 rfl ?_
      refine sn_callVV (vs := [aA x34, aI b1]) (ci := 9) (cX9_look_ok n x30 x34 b1 p5.2) dX10_severs_38 cw_X10_227 rfl rfl rfl (by decide) (by decide) (Nat.le_of_ble_eq_true rfl) (fun p38 => ?_)
      refine sn_aload_n dX10_severs_41 rfl ?_
      refine sn_getA (ci := 10) (j := 7) dX10_severs_42 fl_X10_50 (by decide) (fun x42 => ?_)
      refine sn_aload_n dX10_severs_45 rfl ?_
      refine sn_getA (ci := 10) (j := 1) dX10_severs_46 fl_X10_19 (by decide) (fun x46 => ?_)
      refine sn_getA (ci := 1) (j := 15) dX10_severs_49 fl_X10_134 (by decide) (fun x49 => ?_)
      refine sn_iconst dX10_severs_52 ?_
      refine sn_iload_n dX10_severs_53 rfl ?_
      refine sn_imul dX10_severs_54 ?_
      refine sn_iald dX10_severs_55 (fun x55 => ?_)
      refine sn_callVI (vs := [aI x55]) (ci := 9) (cX9_part_ok n x42 x55 p38.2) dX10_severs_56 cw_X10_240 rfl rfl rfl (by decide) (by decide) (Nat.le_of_ble_eq_true rfl) (fun p56 => ?_)
      refine sn_istore_n (L' := [some (aA a), some (aI b1), some (aI p56.1)]) dX10_severs_59 (by decide) rfl ?_
      refine sn_iload_n dX10_severs_60 rfl ?_
      refine sn_aload_n dX10_severs_61 rfl ?_
      refine sn_getA (ci := 10) (j := 1) dX10_severs_62 fl_X10_19 (by decide) (fun x62 => ?_)
      refine sn_getA (ci := 1) (j := 15) dX10_severs_65 fl_X10_134 (by decide) (fun x65 => ?_)
      refine sn_iconst dX10_severs_68 ?_
      refine sn_iload_n dX10_severs_69 rfl ?_
      refine sn_imul dX10_severs_70 ?_
      refine sn_iconst dX10_severs_71 ?_
      refine sn_iadd dX10_severs_72 ?_
      refine sn_iald dX10_severs_73 (fun x73 => ?_)
      refine sn_ishr dX10_severs_74 ?_
      refine sn_iconst dX10_severs_75 ?_
      refine sn_iand dX10_severs_76 ?_
      refine sn_iconst dX10_severs_77 ?_
      refine sn_icmp_ne (tgt := 85) dX10_severs_78 (by decide) ?_ ?_
      · refine sn_iconst dX10_severs_85 ?_
        exact sn_iret dX10_severs_86
      · refine sn_iconst dX10_severs_81 ?_
        refine sn_goto (tgt := 86) dX10_severs_82 (by decide) ?_
        exact sn_iret dX10_severs_86
    · refine sn_bipush dX10_severs_26 (by decide) ?_
      exact sn_iret dX10_severs_28
  · refine sn_bipush dX10_severs_11 (by decide) ?_
    exact sn_iret dX10_severs_13
theorem dX10_soonest_0 : decode cX10_soonest 0 = .ok (.aload_n 0, 1) := by decide +kernel
theorem dX10_soonest_1 : decode cX10_soonest 1 = .ok (.getfield 19, 3) := by decide +kernel
theorem dX10_soonest_4 : decode cX10_soonest 4 = .ok (.iload_n 1, 1) := by decide +kernel
theorem dX10_soonest_5 : decode cX10_soonest 5 = .ok (.invokevirtual 101, 3) := by decide +kernel
theorem dX10_soonest_8 : decode cX10_soonest 8 = .ok (.ifCond .ne 6, 3) := by decide +kernel
theorem dX10_soonest_11 : decode cX10_soonest 11 = .ok (.bipush (-2), 2) := by decide +kernel
theorem dX10_soonest_13 : decode cX10_soonest 13 = .ok (.ireturn, 1) := by decide +kernel
theorem dX10_soonest_14 : decode cX10_soonest 14 = .ok (.iload_n 2, 1) := by decide +kernel
theorem dX10_soonest_15 : decode cX10_soonest 15 = .ok (.iconst 1, 1) := by decide +kernel
theorem dX10_soonest_16 : decode cX10_soonest 16 = .ok (.if_icmp .lt 8, 3) := by decide +kernel
theorem dX10_soonest_19 : decode cX10_soonest 19 = .ok (.iload_n 2, 1) := by decide +kernel
theorem dX10_soonest_20 : decode cX10_soonest 20 = .ok (.iconst 3, 1) := by decide +kernel
theorem dX10_soonest_21 : decode cX10_soonest 21 = .ok (.if_icmp .le 6, 3) := by decide +kernel
theorem dX10_soonest_24 : decode cX10_soonest 24 = .ok (.bipush (-3), 2) := by decide +kernel
theorem dX10_soonest_26 : decode cX10_soonest 26 = .ok (.ireturn, 1) := by decide +kernel
theorem dX10_soonest_27 : decode cX10_soonest 27 = .ok (.aload_n 0, 1) := by decide +kernel
theorem dX10_soonest_28 : decode cX10_soonest 28 = .ok (.invokevirtual 243, 3) := by decide +kernel
theorem dX10_soonest_31 : decode cX10_soonest 31 = .ok (.iload_n 1, 1) := by decide +kernel
theorem dX10_soonest_32 : decode cX10_soonest 32 = .ok (.iload_n 2, 1) := by decide +kernel
theorem dX10_soonest_33 : decode cX10_soonest 33 = .ok (.iconst (-1), 1) := by decide +kernel
theorem dX10_soonest_34 : decode cX10_soonest 34 = .ok (.invokevirtual 247, 3) := by decide +kernel
theorem dX10_soonest_37 : decode cX10_soonest 37 = .ok (.ireturn, 1) := by decide +kernel
def mX10_soonest (n : Nat) (a : Nat) (b1 : Int) (b2 : Int) (μ : Mem) : Option (Int × Mem) :=
  (gA μ 11 a 1).bind fun x1 =>
  (inv μ 2 x1 (mX1_hasHouse n x1 b1 μ)).bind fun p5 =>
  if eq32 p5.1 0 then
    some ((-2), p5.2)
  else
  if lt32 b2 1 then
    some ((-3), p5.2)
  else
  if lt32 3 b2 then
    some ((-3), p5.2)
  else
  (inv p5.2 11 a (mX10_searcher n a p5.2)).bind fun p28 =>
  (inv p28.2 5 p28.1 (mX4_fewestHours n p28.1 b1 b2 (-1) p28.2)).bind fun p34 =>
  some (p34.1, p34.2)
set_option maxRecDepth 100000 in
set_option maxHeartbeats 4000000 in
theorem cX10_soonest_ok (n : Nat) (a : Nat) (b1 : Int) (b2 : Int) (μ : Mem) : Mc yX10_soonest cX10_soonest 3 (some .int) 16 397 eI [aA a, aI b1, aI b2] μ (mX10_soonest n a b1 b2 μ) := by
  refine mc_of (L0 := [some (aA a), some (aI b1), some (aI b2)]) (k := 0) (by decide) rfl rfl (fun X Γ => ?_)
  unfold mX10_soonest
  refine sn_aload_n dX10_soonest_0 rfl ?_
  refine sn_getA (ci := 10) (j := 1) dX10_soonest_1 fl_X10_19 (by decide) (fun x1 => ?_)
  refine sn_iload_n dX10_soonest_4 rfl ?_
  refine sn_callVI (vs := [aI b1]) (ci := 1) (cX1_hasHouse_ok n x1 b1 μ) dX10_soonest_5 cw_X10_101 rfl rfl rfl (by decide) (by decide) (Nat.le_of_ble_eq_true rfl) (fun p5 => ?_)
  refine sn_if_ne (tgt := 14) dX10_soonest_8 (by decide) ?_ ?_
  · refine sn_iload_n dX10_soonest_14 rfl ?_
    refine sn_iconst dX10_soonest_15 ?_
    refine sn_icmp_lt (tgt := 24) dX10_soonest_16 (by decide) ?_ ?_
    · refine sn_bipush dX10_soonest_24 (by decide) ?_
      exact sn_iret dX10_soonest_26
    · refine sn_iload_n dX10_soonest_19 rfl ?_
      refine sn_iconst dX10_soonest_20 ?_
      refine sn_icmp_le (tgt := 27) dX10_soonest_21 (by decide) ?_ ?_
      · refine sn_aload_n dX10_soonest_27 rfl ?_
        refine sn_callVA (vs := []) (ci := 10) (cX10_searcher_ok n a p5.2) dX10_soonest_28 cw_X10_243 rfl rfl rfl (by decide) (by decide) (Nat.le_of_ble_eq_true rfl) (fun p28 => ?_)
        refine sn_iload_n dX10_soonest_31 rfl ?_
        refine sn_iload_n dX10_soonest_32 rfl ?_
        refine sn_iconst dX10_soonest_33 ?_
        refine sn_callVI (vs := [aI b1, aI b2, aI (-1)]) (ci := 4) (cX4_fewestHours_ok n p28.1 b1 b2 (-1) p28.2) dX10_soonest_34 cw_X10_247 rfl rfl rfl (by decide) (by decide) (Nat.le_of_ble_eq_true rfl) (fun p34 => ?_)
        exact sn_iret dX10_soonest_37
      · refine sn_bipush dX10_soonest_24 (by decide) ?_
        exact sn_iret dX10_soonest_26
  · refine sn_bipush dX10_soonest_11 (by decide) ?_
    exact sn_iret dX10_soonest_13
theorem dX10_stones_0 : decode cX10_stones 0 = .ok (.aload_n 0, 1) := by decide +kernel
theorem dX10_stones_1 : decode cX10_stones 1 = .ok (.getfield 19, 3) := by decide +kernel
theorem dX10_stones_4 : decode cX10_stones 4 = .ok (.iload_n 1, 1) := by decide +kernel
theorem dX10_stones_5 : decode cX10_stones 5 = .ok (.invokevirtual 131, 3) := by decide +kernel
theorem dX10_stones_8 : decode cX10_stones 8 = .ok (.ifCond .ne 6, 3) := by decide +kernel
theorem dX10_stones_11 : decode cX10_stones 11 = .ok (.bipush (-2), 2) := by decide +kernel
theorem dX10_stones_13 : decode cX10_stones 13 = .ok (.ireturn, 1) := by decide +kernel
theorem dX10_stones_14 : decode cX10_stones 14 = .ok (.iload_n 3, 1) := by decide +kernel
theorem dX10_stones_15 : decode cX10_stones 15 = .ok (.ifCond .lt 9, 3) := by decide +kernel
theorem dX10_stones_18 : decode cX10_stones 18 = .ok (.iload_n 3, 1) := by decide +kernel
theorem dX10_stones_19 : decode cX10_stones 19 = .ok (.bipush 9, 2) := by decide +kernel
theorem dX10_stones_21 : decode cX10_stones 21 = .ok (.if_icmp .le 6, 3) := by decide +kernel
theorem dX10_stones_24 : decode cX10_stones 24 = .ok (.bipush (-3), 2) := by decide +kernel
theorem dX10_stones_26 : decode cX10_stones 26 = .ok (.ireturn, 1) := by decide +kernel
theorem dX10_stones_27 : decode cX10_stones 27 = .ok (.iload_n 2, 1) := by decide +kernel
theorem dX10_stones_28 : decode cX10_stones 28 = .ok (.ifCond .eq 11, 3) := by decide +kernel
theorem dX10_stones_31 : decode cX10_stones 31 = .ok (.iconst 2, 1) := by decide +kernel
theorem dX10_stones_32 : decode cX10_stones 32 = .ok (.iload_n 1, 1) := by decide +kernel
theorem dX10_stones_33 : decode cX10_stones 33 = .ok (.imul, 1) := by decide +kernel
theorem dX10_stones_34 : decode cX10_stones 34 = .ok (.iconst 1, 1) := by decide +kernel
theorem dX10_stones_35 : decode cX10_stones 35 = .ok (.iadd, 1) := by decide +kernel
theorem dX10_stones_36 : decode cX10_stones 36 = .ok (.goto 6, 3) := by decide +kernel
theorem dX10_stones_39 : decode cX10_stones 39 = .ok (.iconst 2, 1) := by decide +kernel
theorem dX10_stones_40 : decode cX10_stones 40 = .ok (.iload_n 1, 1) := by decide +kernel
theorem dX10_stones_41 : decode cX10_stones 41 = .ok (.imul, 1) := by decide +kernel
theorem dX10_stones_42 : decode cX10_stones 42 = .ok (.istore 4, 2) := by decide +kernel
theorem dX10_stones_44 : decode cX10_stones 44 = .ok (.aload_n 0, 1) := by decide +kernel
theorem dX10_stones_45 : decode cX10_stones 45 = .ok (.getfield 19, 3) := by decide +kernel
theorem dX10_stones_48 : decode cX10_stones 48 = .ok (.getfield 206, 3) := by decide +kernel
theorem dX10_stones_51 : decode cX10_stones 51 = .ok (.iload 4, 2) := by decide +kernel
theorem dX10_stones_53 : decode cX10_stones 53 = .ok (.iload_n 3, 1) := by decide +kernel
theorem dX10_stones_54 : decode cX10_stones 54 = .ok (.iastore, 1) := by decide +kernel
theorem dX10_stones_55 : decode cX10_stones 55 = .ok (.aload_n 0, 1) := by decide +kernel
theorem dX10_stones_56 : decode cX10_stones 56 = .ok (.getfield 19, 3) := by decide +kernel
theorem dX10_stones_59 : decode cX10_stones 59 = .ok (.iload 4, 2) := by decide +kernel
theorem dX10_stones_61 : decode cX10_stones 61 = .ok (.invokevirtual 146, 3) := by decide +kernel
theorem dX10_stones_64 : decode cX10_stones 64 = .ok (.ireturn, 1) := by decide +kernel
def mX10_stones (n : Nat) (a : Nat) (b1 : Int) (b2 : Int) (b3 : Int) (μ : Mem) : Option (Int × Mem) :=
  (gA μ 11 a 1).bind fun x1 =>
  (inv μ 2 x1 (mX1_hasRope n x1 b1 μ)).bind fun p5 =>
  if eq32 p5.1 0 then
    some ((-2), p5.2)
  else
  if lt32 b3 0 then
    some ((-3), p5.2)
  else
  if lt32 9 b3 then
    some ((-3), p5.2)
  else
  jn (fun (v42 : Int) (μ42 : Mem) =>
  (gA μ42 11 a 1).bind fun x45 =>
  (gA μ42 2 x45 16).bind fun x48 =>
  (stI μ42 0 x48 v42 b3).bind fun μ54 =>
  (gA μ54 11 a 1).bind fun x56 =>
  (inv μ54 2 x56 (mX1_weight n x56 v42 μ54)).bind fun p61 =>
  some (p61.1, p61.2)) (fun j42 =>
  if eq32 b2 0 then
    j42 (2 * b1) p5.2
  else
  j42 ((2 * b1) + 1) p5.2)
set_option maxRecDepth 100000 in
set_option maxHeartbeats 4000000 in
theorem cX10_stones_ok (n : Nat) (a : Nat) (b1 : Int) (b2 : Int) (b3 : Int) (μ : Mem) : Mc yX10_stones cX10_stones 5 (some .int) 2 42 eI [aA a, aI b1, aI b2, aI b3] μ (mX10_stones n a b1 b2 b3 μ) := by
  refine mc_of (L0 := [some (aA a), some (aI b1), some (aI b2), some (aI b3), none]) (k := 1) (by decide) rfl rfl (fun X Γ => ?_)
  unfold mX10_stones
  refine sn_aload_n dX10_stones_0 rfl ?_
  refine sn_getA (ci := 10) (j := 1) dX10_stones_1 fl_X10_19 (by decide) (fun x1 => ?_)
  refine sn_iload_n dX10_stones_4 rfl ?_
  refine sn_callVI (vs := [aI b1]) (ci := 1) (cX1_hasRope_ok n x1 b1 μ) dX10_stones_5 cw_X10_131 rfl rfl rfl (by decide) (by decide) (Nat.le_of_ble_eq_true rfl) (fun p5 => ?_)
  refine sn_if_ne (tgt := 14) dX10_stones_8 (by decide) ?_ ?_
  · refine sn_iload_n dX10_stones_14 rfl ?_
    refine sn_if_lt (tgt := 24) dX10_stones_15 (by decide) ?_ ?_
    · refine sn_bipush dX10_stones_24 (by decide) ?_
      exact sn_iret dX10_stones_26
    · refine sn_iload_n dX10_stones_18 rfl ?_
      refine sn_bipush dX10_stones_19 (by decide) ?_
      refine sn_icmp_le (tgt := 27) dX10_stones_21 (by decide) ?_ ?_
      · refine sn_iload_n dX10_stones_27 rfl ?_
        refine sn_jn (pcj := 42) (La := fun v42 : Int => [some (aA a), none, none, some (aI b3), none]) (Sa := fun v42 : Int => [aI v42]) ?_ ?_
        · intro v42 μ42
          refine sn_istore (L' := [some (aA a), none, none, some (aI b3), some (aI v42)]) dX10_stones_42 (by decide) rfl ?_
          refine sn_aload_n dX10_stones_44 rfl ?_
          refine sn_getA (ci := 10) (j := 1) dX10_stones_45 fl_X10_19 (by decide) (fun x45 => ?_)
          refine sn_getA (ci := 1) (j := 16) dX10_stones_48 fl_X10_206 (by decide) (fun x48 => ?_)
          refine sn_iload dX10_stones_51 rfl ?_
          refine sn_iload_n dX10_stones_53 rfl ?_
          refine sn_iast dX10_stones_54 (fun μ54 => ?_)
          refine sn_aload_n dX10_stones_55 rfl ?_
          refine sn_getA (ci := 10) (j := 1) dX10_stones_56 fl_X10_19 (by decide) (fun x56 => ?_)
          refine sn_iload dX10_stones_59 rfl ?_
          refine sn_callVI (vs := [aI v42]) (ci := 1) (cX1_weight_ok n x56 v42 μ54) dX10_stones_61 cw_X10_146 rfl rfl rfl (by decide) (by decide) (Nat.le_of_ble_eq_true rfl) (fun p61 => ?_)
          exact sn_iret dX10_stones_64
        intro j42 hj42
        refine sn_if_eq (tgt := 39) dX10_stones_28 (by decide) ?_ ?_
        · refine sn_iconst dX10_stones_39 ?_
          refine sn_iload_n dX10_stones_40 rfl ?_
          refine sn_imul dX10_stones_41 ?_
          exact sn_mask (L' := [some (aA a), none, none, some (aI b3), none]) [true, false, false, true, false] rfl (hj42 (2 * b1) p5.2)
        · refine sn_iconst dX10_stones_31 ?_
          refine sn_iload_n dX10_stones_32 rfl ?_
          refine sn_imul dX10_stones_33 ?_
          refine sn_iconst dX10_stones_34 ?_
          refine sn_iadd dX10_stones_35 ?_
          refine sn_goto (tgt := 42) dX10_stones_36 (by decide) ?_
          exact sn_mask (L' := [some (aA a), none, none, some (aI b3), none]) [true, false, false, true, false] rfl (hj42 ((2 * b1) + 1) p5.2)
      · refine sn_bipush dX10_stones_24 (by decide) ?_
        exact sn_iret dX10_stones_26
  · refine sn_bipush dX10_stones_11 (by decide) ?_
    exact sn_iret dX10_stones_13
theorem dX10_together_0 : decode cX10_together 0 = .ok (.aload_n 0, 1) := by decide +kernel
theorem dX10_together_1 : decode cX10_together 1 = .ok (.getfield 50, 3) := by decide +kernel
theorem dX10_together_4 : decode cX10_together 4 = .ok (.aload_n 0, 1) := by decide +kernel
theorem dX10_together_5 : decode cX10_together 5 = .ok (.getfield 19, 3) := by decide +kernel
theorem dX10_together_8 : decode cX10_together 8 = .ok (.iconst (-1), 1) := by decide +kernel
theorem dX10_together_9 : decode cX10_together 9 = .ok (.invokevirtual 227, 3) := by decide +kernel
theorem dX10_together_12 : decode cX10_together 12 = .ok (.aload_n 0, 1) := by decide +kernel
theorem dX10_together_13 : decode cX10_together 13 = .ok (.getfield 50, 3) := by decide +kernel
theorem dX10_together_16 : decode cX10_together 16 = .ok (.invokevirtual 230, 3) := by decide +kernel
theorem dX10_together_19 : decode cX10_together 19 = .ok (.ireturn, 1) := by decide +kernel
def mX10_together (n : Nat) (a : Nat) (μ : Mem) : Option (Int × Mem) :=
  (gA μ 11 a 7).bind fun x1 =>
  (gA μ 11 a 1).bind fun x5 =>
  (inv μ 10 x1 (mX9_look n x1 x5 (-1) μ)).bind fun p9 =>
  (gA p9.2 11 a 7).bind fun x13 =>
  (inv p9.2 10 x13 (mX9_greatestLoose n x13 p9.2)).bind fun p16 =>
  some (p16.1, p16.2)
set_option maxRecDepth 100000 in
set_option maxHeartbeats 4000000 in
theorem cX10_together_ok (n : Nat) (a : Nat) (μ : Mem) : Mc yX10_together cX10_together 1 (some .int) 2 48 eI [aA a] μ (mX10_together n a μ) := by
  refine mc_of (L0 := [some (aA a)]) (k := 0) (by decide) rfl rfl (fun X Γ => ?_)
  unfold mX10_together
  refine sn_aload_n dX10_together_0 rfl ?_
  refine sn_getA (ci := 10) (j := 7) dX10_together_1 fl_X10_50 (by decide) (fun x1 => ?_)
  refine sn_aload_n dX10_together_4 rfl ?_
  refine sn_getA (ci := 10) (j := 1) dX10_together_5 fl_X10_19 (by decide) (fun x5 => ?_)
  refine sn_iconst dX10_together_8 ?_
  refine sn_callVV (vs := [aA x5, aI (-1)]) (ci := 9) (cX9_look_ok n x1 x5 (-1) μ) dX10_together_9 cw_X10_227 rfl rfl rfl (by decide) (by decide) (Nat.le_of_ble_eq_true rfl) (fun p9 => ?_)
  refine sn_aload_n dX10_together_12 rfl ?_
  refine sn_getA (ci := 10) (j := 7) dX10_together_13 fl_X10_50 (by decide) (fun x13 => ?_)
  refine sn_callVI (vs := []) (ci := 9) (cX9_greatestLoose_ok n x13 p9.2) dX10_together_16 cw_X10_230 rfl rfl rfl (by decide) (by decide) (Nat.le_of_ble_eq_true rfl) (fun p16 => ?_)
  exact sn_iret dX10_together_19
theorem dX10_write_0 : decode cX10_write 0 = .ok (.iload_n 1, 1) := by decide +kernel
theorem dX10_write_1 : decode cX10_write 1 = .ok (.invokestatic 166, 3) := by decide +kernel
theorem dX10_write_4 : decode cX10_write 4 = .ok (.ifCond .ne 7, 3) := by decide +kernel
theorem dX10_write_7 : decode cX10_write 7 = .ok (.ldc2_w 319, 3) := by decide +kernel
theorem dX10_write_10 : decode cX10_write 10 = .ok (.lreturn, 1) := by decide +kernel
theorem dX10_write_11 : decode cX10_write 11 = .ok (.aload_n 0, 1) := by decide +kernel
theorem dX10_write_12 : decode cX10_write 12 = .ok (.getfield 36, 3) := by decide +kernel
theorem dX10_write_15 : decode cX10_write 15 = .ok (.iload_n 1, 1) := by decide +kernel
theorem dX10_write_16 : decode cX10_write 16 = .ok (.aaload, 1) := by decide +kernel
theorem dX10_write_17 : decode cX10_write 17 = .ok (.invokevirtual 169, 3) := by decide +kernel
theorem dX10_write_20 : decode cX10_write 20 = .ok (.ifCond .eq 7, 3) := by decide +kernel
theorem dX10_write_23 : decode cX10_write 23 = .ok (.ldc2_w 321, 3) := by decide +kernel
theorem dX10_write_26 : decode cX10_write 26 = .ok (.lreturn, 1) := by decide +kernel
theorem dX10_write_27 : decode cX10_write 27 = .ok (.iload_n 2, 1) := by decide +kernel
theorem dX10_write_28 : decode cX10_write 28 = .ok (.ifCond .lt 16, 3) := by decide +kernel
theorem dX10_write_31 : decode cX10_write 31 = .ok (.iload_n 2, 1) := by decide +kernel
theorem dX10_write_32 : decode cX10_write 32 = .ok (.aload_n 0, 1) := by decide +kernel
theorem dX10_write_33 : decode cX10_write 33 = .ok (.getfield 36, 3) := by decide +kernel
theorem dX10_write_36 : decode cX10_write 36 = .ok (.iload_n 1, 1) := by decide +kernel
theorem dX10_write_37 : decode cX10_write 37 = .ok (.aaload, 1) := by decide +kernel
theorem dX10_write_38 : decode cX10_write 38 = .ok (.getfield 312, 3) := by decide +kernel
theorem dX10_write_41 : decode cX10_write 41 = .ok (.if_icmp .lt 7, 3) := by decide +kernel
theorem dX10_write_44 : decode cX10_write 44 = .ok (.ldc2_w 323, 3) := by decide +kernel
theorem dX10_write_47 : decode cX10_write 47 = .ok (.lreturn, 1) := by decide +kernel
theorem dX10_write_48 : decode cX10_write 48 = .ok (.aload_n 0, 1) := by decide +kernel
theorem dX10_write_49 : decode cX10_write 49 = .ok (.getfield 36, 3) := by decide +kernel
theorem dX10_write_52 : decode cX10_write 52 = .ok (.iload_n 1, 1) := by decide +kernel
theorem dX10_write_53 : decode cX10_write 53 = .ok (.aaload, 1) := by decide +kernel
theorem dX10_write_54 : decode cX10_write 54 = .ok (.iload_n 2, 1) := by decide +kernel
theorem dX10_write_55 : decode cX10_write 55 = .ok (.lload_n 3, 1) := by decide +kernel
theorem dX10_write_56 : decode cX10_write 56 = .ok (.invokevirtual 325, 3) := by decide +kernel
theorem dX10_write_59 : decode cX10_write 59 = .ok (.lreturn, 1) := by decide +kernel
def mX10_write (n : Nat) (a : Nat) (b1 : Int) (b2 : Int) (b3 : Int) (μ : Mem) : Option (Int × Mem) :=
  (mX10_isRow n b1 μ).bind fun p1 =>
  if eq32 p1.1 0 then
    some ((-2), p1.2)
  else
  (gA p1.2 11 a 5).bind fun x12 =>
  (ldA p1.2 5 x12 b1).bind fun x16 =>
  (inv p1.2 4 x16 (mX3_isMissing n x16 p1.2)).bind fun p17 =>
  if eq32 p17.1 0 then
    jn (fun (v44 : Unit) (μ44 : Mem) =>
    some ((-7), μ44)) (fun j44 =>
    if lt32 b2 0 then
      j44 () p17.2
    else
    (gA p17.2 11 a 5).bind fun x33 =>
    (ldA p17.2 5 x33 b1).bind fun x37 =>
    (gI p17.2 4 x37 0).bind fun x38 =>
    if lt32 b2 x38 then
      (gA p17.2 11 a 5).bind fun x49 =>
      (ldA p17.2 5 x49 b1).bind fun x53 =>
      (inv p17.2 4 x53 (mX3_put n x53 b2 b3 p17.2)).bind fun p56 =>
      some (p56.1, p56.2)
    else
    j44 () p17.2)
  else
  some ((-6), p17.2)
set_option maxRecDepth 100000 in
set_option maxHeartbeats 4000000 in
theorem cX10_write_ok (n : Nat) (a : Nat) (b1 : Int) (b2 : Int) (b3 : Int) (μ : Mem) : Mc yX10_write cX10_write 5 (some .long) 2 45 eJ [aA a, aI b1, aI b2, aJ b3] μ (mX10_write n a b1 b2 b3 μ) := by
  refine mc_of (L0 := [some (aA a), some (aI b1), some (aI b2), some (aJ b3), none]) (k := 0) (by decide) rfl rfl (fun X Γ => ?_)
  unfold mX10_write
  refine sn_iload_n dX10_write_0 rfl ?_
  refine sn_callSI (vs := [aI b1]) (cX10_isRow_ok n b1 μ) dX10_write_1 cw_X10_166 rfl (by decide) (by decide) (Nat.le_of_ble_eq_true rfl) (fun p1 => ?_)
  refine sn_if_ne (tgt := 11) dX10_write_4 (by decide) ?_ ?_
  · refine sn_aload_n dX10_write_11 rfl ?_
    refine sn_getA (ci := 10) (j := 5) dX10_write_12 fl_X10_36 (by decide) (fun x12 => ?_)
    refine sn_iload_n dX10_write_15 rfl ?_
    refine sn_aald5 dX10_write_16 (fun x16 => ?_)
    refine sn_callVI (vs := []) (ci := 3) (cX3_isMissing_ok n x16 p1.2) dX10_write_17 cw_X10_169 rfl rfl rfl (by decide) (by decide) (Nat.le_of_ble_eq_true rfl) (fun p17 => ?_)
    refine sn_if_eq (tgt := 27) dX10_write_20 (by decide) ?_ ?_
    · refine sn_iload_n dX10_write_27 rfl ?_
      refine sn_jn (pcj := 44) (La := fun v44 : Unit => [none, none, none, none, none]) (Sa := fun v44 : Unit => []) ?_ ?_
      · intro v44 μ44
        refine sn_ldc2 (v := (-7)) dX10_write_44 k_X10_323 (by decide) ?_
        exact sn_lret dX10_write_47
      intro j44 hj44
      refine sn_if_lt (tgt := 44) dX10_write_28 (by decide) ?_ ?_
      · exact sn_mask (L' := [none, none, none, none, none]) [false, false, false, false, false] rfl (hj44 () p17.2)
      · refine sn_iload_n dX10_write_31 rfl ?_
        refine sn_aload_n dX10_write_32 rfl ?_
        refine sn_getA (ci := 10) (j := 5) dX10_write_33 fl_X10_36 (by decide) (fun x33 => ?_)
        refine sn_iload_n dX10_write_36 rfl ?_
        refine sn_aald5 dX10_write_37 (fun x37 => ?_)
        refine sn_getI (ci := 3) (j := 0) dX10_write_38 fl_X10_312 rfl (fun x38 => ?_)
        refine sn_icmp_lt (tgt := 48) dX10_write_41 (by decide) ?_ ?_
        · refine sn_aload_n dX10_write_48 rfl ?_
          refine sn_getA (ci := 10) (j := 5) dX10_write_49 fl_X10_36 (by decide) (fun x49 => ?_)
          refine sn_iload_n dX10_write_52 rfl ?_
          refine sn_aald5 dX10_write_53 (fun x53 => ?_)
          refine sn_iload_n dX10_write_54 rfl ?_
          refine sn_lload_n dX10_write_55 rfl ?_
          refine sn_callVJ (vs := [aI b2, aJ b3]) (ci := 3) (cX3_put_ok n x53 b2 b3 p17.2) dX10_write_56 cw_X10_325 rfl rfl rfl (by decide) (by decide) (Nat.le_of_ble_eq_true rfl) (fun p56 => ?_)
          exact sn_lret dX10_write_59
        · exact sn_mask (L' := [none, none, none, none, none]) [false, false, false, false, false] rfl (hj44 () p17.2)
    · refine sn_ldc2 (v := (-6)) dX10_write_23 k_X10_321 (by decide) ?_
      exact sn_lret dX10_write_26
  · refine sn_ldc2 (v := (-2)) dX10_write_7 k_X10_319 (by decide) ?_
    exact sn_lret dX10_write_10
