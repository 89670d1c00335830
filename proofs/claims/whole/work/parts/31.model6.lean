/-! layer 1: model6 -/
theorem dX11_readRope_0 : decode cX11_readRope 0 = .ok (.aload_n 0, 1) := by decide +kernel
theorem dX11_readRope_1 : decode cX11_readRope 1 = .ok (.getfield 24, 3) := by decide +kernel
theorem dX11_readRope_4 : decode cX11_readRope 4 = .ok (.iconst 1, 1) := by decide +kernel
theorem dX11_readRope_5 : decode cX11_readRope 5 = .ok (.iaload, 1) := by decide +kernel
theorem dX11_readRope_6 : decode cX11_readRope 6 = .ok (.istore_n 1, 1) := by decide +kernel
theorem dX11_readRope_7 : decode cX11_readRope 7 = .ok (.iload_n 1, 1) := by decide +kernel
theorem dX11_readRope_8 : decode cX11_readRope 8 = .ok (.bipush 16, 2) := by decide +kernel
theorem dX11_readRope_10 : decode cX11_readRope 10 = .ok (.if_icmp .ne 8, 3) := by decide +kernel
theorem dX11_readRope_13 : decode cX11_readRope 13 = .ok (.aload_n 0, 1) := by decide +kernel
theorem dX11_readRope_14 : decode cX11_readRope 14 = .ok (.iconst 4, 1) := by decide +kernel
theorem dX11_readRope_15 : decode cX11_readRope 15 = .ok (.invokevirtual 142, 3) := by decide +kernel
theorem dX11_readRope_18 : decode cX11_readRope 18 = .ok (.aload_n 0, 1) := by decide +kernel
theorem dX11_readRope_19 : decode cX11_readRope 19 = .ok (.getfield 130, 3) := by decide +kernel
theorem dX11_readRope_22 : decode cX11_readRope 22 = .ok (.ifCond .eq 4, 3) := by decide +kernel
theorem dX11_readRope_25 : decode cX11_readRope 25 = .ok (.return_, 1) := by decide +kernel
theorem dX11_readRope_26 : decode cX11_readRope 26 = .ok (.aload_n 0, 1) := by decide +kernel
theorem dX11_readRope_27 : decode cX11_readRope 27 = .ok (.invokevirtual 139, 3) := by decide +kernel
theorem dX11_readRope_30 : decode cX11_readRope 30 = .ok (.aload_n 0, 1) := by decide +kernel
theorem dX11_readRope_31 : decode cX11_readRope 31 = .ok (.iconst 0, 1) := by decide +kernel
theorem dX11_readRope_32 : decode cX11_readRope 32 = .ok (.aload_n 0, 1) := by decide +kernel
theorem dX11_readRope_33 : decode cX11_readRope 33 = .ok (.getfield 24, 3) := by decide +kernel
theorem dX11_readRope_36 : decode cX11_readRope 36 = .ok (.iconst 0, 1) := by decide +kernel
theorem dX11_readRope_37 : decode cX11_readRope 37 = .ok (.iaload, 1) := by decide +kernel
theorem dX11_readRope_38 : decode cX11_readRope 38 = .ok (.iconst 1, 1) := by decide +kernel
theorem dX11_readRope_39 : decode cX11_readRope 39 = .ok (.isub, 1) := by decide +kernel
theorem dX11_readRope_40 : decode cX11_readRope 40 = .ok (.invokevirtual 150, 3) := by decide +kernel
theorem dX11_readRope_43 : decode cX11_readRope 43 = .ok (.istore_n 2, 1) := by decide +kernel
theorem dX11_readRope_44 : decode cX11_readRope 44 = .ok (.aload_n 0, 1) := by decide +kernel
theorem dX11_readRope_45 : decode cX11_readRope 45 = .ok (.bipush 11, 2) := by decide +kernel
theorem dX11_readRope_47 : decode cX11_readRope 47 = .ok (.invokevirtual 136, 3) := by decide +kernel
theorem dX11_readRope_50 : decode cX11_readRope 50 = .ok (.ifCond .eq 16, 3) := by decide +kernel
theorem dX11_readRope_53 : decode cX11_readRope 53 = .ok (.aload_n 0, 1) := by decide +kernel
theorem dX11_readRope_54 : decode cX11_readRope 54 = .ok (.getfield 127, 3) := by decide +kernel
theorem dX11_readRope_57 : decode cX11_readRope 57 = .ok (.iload_n 2, 1) := by decide +kernel
theorem dX11_readRope_58 : decode cX11_readRope 58 = .ok (.if_icmp .ne 8, 3) := by decide +kernel
theorem dX11_readRope_61 : decode cX11_readRope 61 = .ok (.aload_n 0, 1) := by decide +kernel
theorem dX11_readRope_62 : decode cX11_readRope 62 = .ok (.iconst 3, 1) := by decide +kernel
theorem dX11_readRope_63 : decode cX11_readRope 63 = .ok (.invokevirtual 142, 3) := by decide +kernel
theorem dX11_readRope_66 : decode cX11_readRope 66 = .ok (.aload_n 0, 1) := by decide +kernel
theorem dX11_readRope_67 : decode cX11_readRope 67 = .ok (.iconst 0, 1) := by decide +kernel
theorem dX11_readRope_68 : decode cX11_readRope 68 = .ok (.aload_n 0, 1) := by decide +kernel
theorem dX11_readRope_69 : decode cX11_readRope 69 = .ok (.getfield 24, 3) := by decide +kernel
theorem dX11_readRope_72 : decode cX11_readRope 72 = .ok (.iconst 0, 1) := by decide +kernel
theorem dX11_readRope_73 : decode cX11_readRope 73 = .ok (.iaload, 1) := by decide +kernel
theorem dX11_readRope_74 : decode cX11_readRope 74 = .ok (.iconst 1, 1) := by decide +kernel
theorem dX11_readRope_75 : decode cX11_readRope 75 = .ok (.isub, 1) := by decide +kernel
theorem dX11_readRope_76 : decode cX11_readRope 76 = .ok (.invokevirtual 150, 3) := by decide +kernel
theorem dX11_readRope_79 : decode cX11_readRope 79 = .ok (.istore_n 3, 1) := by decide +kernel
theorem dX11_readRope_80 : decode cX11_readRope 80 = .ok (.aload_n 0, 1) := by decide +kernel
theorem dX11_readRope_81 : decode cX11_readRope 81 = .ok (.iconst 5, 1) := by decide +kernel
theorem dX11_readRope_82 : decode cX11_readRope 82 = .ok (.invokevirtual 154, 3) := by decide +kernel
theorem dX11_readRope_85 : decode cX11_readRope 85 = .ok (.ifCond .ne 8, 3) := by decide +kernel
theorem dX11_readRope_88 : decode cX11_readRope 88 = .ok (.aload_n 0, 1) := by decide +kernel
theorem dX11_readRope_89 : decode cX11_readRope 89 = .ok (.iconst 2, 1) := by decide +kernel
theorem dX11_readRope_90 : decode cX11_readRope 90 = .ok (.invokevirtual 142, 3) := by decide +kernel
theorem dX11_readRope_93 : decode cX11_readRope 93 = .ok (.aload_n 0, 1) := by decide +kernel
theorem dX11_readRope_94 : decode cX11_readRope 94 = .ok (.iconst 2, 1) := by decide +kernel
theorem dX11_readRope_95 : decode cX11_readRope 95 = .ok (.bipush 9, 2) := by decide +kernel
theorem dX11_readRope_97 : decode cX11_readRope 97 = .ok (.invokevirtual 150, 3) := by decide +kernel
theorem dX11_readRope_100 : decode cX11_readRope 100 = .ok (.istore 4, 2) := by decide +kernel
theorem dX11_readRope_102 : decode cX11_readRope 102 = .ok (.aload_n 0, 1) := by decide +kernel
theorem dX11_readRope_103 : decode cX11_readRope 103 = .ok (.bipush 6, 2) := by decide +kernel
theorem dX11_readRope_105 : decode cX11_readRope 105 = .ok (.invokevirtual 154, 3) := by decide +kernel
theorem dX11_readRope_108 : decode cX11_readRope 108 = .ok (.ifCond .eq 13, 3) := by decide +kernel
theorem dX11_readRope_111 : decode cX11_readRope 111 = .ok (.aload_n 0, 1) := by decide +kernel
theorem dX11_readRope_112 : decode cX11_readRope 112 = .ok (.iconst 0, 1) := by decide +kernel
theorem dX11_readRope_113 : decode cX11_readRope 113 = .ok (.iload 4, 2) := by decide +kernel
theorem dX11_readRope_115 : decode cX11_readRope 115 = .ok (.invokevirtual 150, 3) := by decide +kernel
theorem dX11_readRope_118 : decode cX11_readRope 118 = .ok (.goto 4, 3) := by decide +kernel
theorem dX11_readRope_121 : decode cX11_readRope 121 = .ok (.iconst 0, 1) := by decide +kernel
theorem dX11_readRope_122 : decode cX11_readRope 122 = .ok (.istore 5, 2) := by decide +kernel
theorem dX11_readRope_124 : decode cX11_readRope 124 = .ok (.aload_n 0, 1) := by decide +kernel
theorem dX11_readRope_125 : decode cX11_readRope 125 = .ok (.bipush 7, 2) := by decide +kernel
theorem dX11_readRope_127 : decode cX11_readRope 127 = .ok (.invokevirtual 154, 3) := by decide +kernel
theorem dX11_readRope_130 : decode cX11_readRope 130 = .ok (.istore 6, 2) := by decide +kernel
theorem dX11_readRope_132 : decode cX11_readRope 132 = .ok (.iload 6, 2) := by decide +kernel
theorem dX11_readRope_134 : decode cX11_readRope 134 = .ok (.ifCond .eq 13, 3) := by decide +kernel
theorem dX11_readRope_137 : decode cX11_readRope 137 = .ok (.aload_n 0, 1) := by decide +kernel
theorem dX11_readRope_138 : decode cX11_readRope 138 = .ok (.iconst 0, 1) := by decide +kernel
theorem dX11_readRope_139 : decode cX11_readRope 139 = .ok (.bipush 9, 2) := by decide +kernel
theorem dX11_readRope_141 : decode cX11_readRope 141 = .ok (.invokevirtual 150, 3) := by decide +kernel
theorem dX11_readRope_144 : decode cX11_readRope 144 = .ok (.goto 4, 3) := by decide +kernel
theorem dX11_readRope_147 : decode cX11_readRope 147 = .ok (.iconst 0, 1) := by decide +kernel
theorem dX11_readRope_148 : decode cX11_readRope 148 = .ok (.istore 7, 2) := by decide +kernel
theorem dX11_readRope_150 : decode cX11_readRope 150 = .ok (.iload 6, 2) := by decide +kernel
theorem dX11_readRope_152 : decode cX11_readRope 152 = .ok (.ifCond .eq 13, 3) := by decide +kernel
theorem dX11_readRope_155 : decode cX11_readRope 155 = .ok (.aload_n 0, 1) := by decide +kernel
theorem dX11_readRope_156 : decode cX11_readRope 156 = .ok (.iconst 0, 1) := by decide +kernel
theorem dX11_readRope_157 : decode cX11_readRope 157 = .ok (.bipush 9, 2) := by decide +kernel
theorem dX11_readRope_159 : decode cX11_readRope 159 = .ok (.invokevirtual 150, 3) := by decide +kernel
theorem dX11_readRope_162 : decode cX11_readRope 162 = .ok (.goto 4, 3) := by decide +kernel
theorem dX11_readRope_165 : decode cX11_readRope 165 = .ok (.iconst 0, 1) := by decide +kernel
theorem dX11_readRope_166 : decode cX11_readRope 166 = .ok (.istore 8, 2) := by decide +kernel
theorem dX11_readRope_168 : decode cX11_readRope 168 = .ok (.aload_n 0, 1) := by decide +kernel
theorem dX11_readRope_169 : decode cX11_readRope 169 = .ok (.getfield 130, 3) := by decide +kernel
theorem dX11_readRope_172 : decode cX11_readRope 172 = .ok (.ifCond .eq 4, 3) := by decide +kernel
theorem dX11_readRope_175 : decode cX11_readRope 175 = .ok (.return_, 1) := by decide +kernel
theorem dX11_readRope_176 : decode cX11_readRope 176 = .ok (.aload_n 0, 1) := by decide +kernel
theorem dX11_readRope_177 : decode cX11_readRope 177 = .ok (.getfield 24, 3) := by decide +kernel
theorem dX11_readRope_180 : decode cX11_readRope 180 = .ok (.bipush 76, 2) := by decide +kernel
theorem dX11_readRope_182 : decode cX11_readRope 182 = .ok (.iload_n 1, 1) := by decide +kernel
theorem dX11_readRope_183 : decode cX11_readRope 183 = .ok (.iadd, 1) := by decide +kernel
theorem dX11_readRope_184 : decode cX11_readRope 184 = .ok (.iload_n 2, 1) := by decide +kernel
theorem dX11_readRope_185 : decode cX11_readRope 185 = .ok (.iastore, 1) := by decide +kernel
theorem dX11_readRope_186 : decode cX11_readRope 186 = .ok (.aload_n 0, 1) := by decide +kernel
theorem dX11_readRope_187 : decode cX11_readRope 187 = .ok (.getfield 24, 3) := by decide +kernel
theorem dX11_readRope_190 : decode cX11_readRope 190 = .ok (.bipush 92, 2) := by decide +kernel
theorem dX11_readRope_192 : decode cX11_readRope 192 = .ok (.iload_n 1, 1) := by decide +kernel
theorem dX11_readRope_193 : decode cX11_readRope 193 = .ok (.iadd, 1) := by decide +kernel
theorem dX11_readRope_194 : decode cX11_readRope 194 = .ok (.iload_n 3, 1) := by decide +kernel
theorem dX11_readRope_195 : decode cX11_readRope 195 = .ok (.iastore, 1) := by decide +kernel
theorem dX11_readRope_196 : decode cX11_readRope 196 = .ok (.aload_n 0, 1) := by decide +kernel
theorem dX11_readRope_197 : decode cX11_readRope 197 = .ok (.getfield 24, 3) := by decide +kernel
theorem dX11_readRope_200 : decode cX11_readRope 200 = .ok (.bipush 108, 2) := by decide +kernel
theorem dX11_readRope_202 : decode cX11_readRope 202 = .ok (.iload_n 1, 1) := by decide +kernel
theorem dX11_readRope_203 : decode cX11_readRope 203 = .ok (.iadd, 1) := by decide +kernel
theorem dX11_readRope_204 : decode cX11_readRope 204 = .ok (.iload 4, 2) := by decide +kernel
theorem dX11_readRope_206 : decode cX11_readRope 206 = .ok (.iastore, 1) := by decide +kernel
theorem dX11_readRope_207 : decode cX11_readRope 207 = .ok (.aload_n 0, 1) := by decide +kernel
theorem dX11_readRope_208 : decode cX11_readRope 208 = .ok (.getfield 24, 3) := by decide +kernel
theorem dX11_readRope_211 : decode cX11_readRope 211 = .ok (.bipush 124, 2) := by decide +kernel
theorem dX11_readRope_213 : decode cX11_readRope 213 = .ok (.iload_n 1, 1) := by decide +kernel
theorem dX11_readRope_214 : decode cX11_readRope 214 = .ok (.iadd, 1) := by decide +kernel
theorem dX11_readRope_215 : decode cX11_readRope 215 = .ok (.iload 5, 2) := by decide +kernel
theorem dX11_readRope_217 : decode cX11_readRope 217 = .ok (.iastore, 1) := by decide +kernel
theorem dX11_readRope_218 : decode cX11_readRope 218 = .ok (.aload_n 0, 1) := by decide +kernel
theorem dX11_readRope_219 : decode cX11_readRope 219 = .ok (.getfield 24, 3) := by decide +kernel
theorem dX11_readRope_222 : decode cX11_readRope 222 = .ok (.sipush 140, 3) := by decide +kernel
theorem dX11_readRope_225 : decode cX11_readRope 225 = .ok (.iload_n 1, 1) := by decide +kernel
theorem dX11_readRope_226 : decode cX11_readRope 226 = .ok (.iadd, 1) := by decide +kernel
theorem dX11_readRope_227 : decode cX11_readRope 227 = .ok (.iload 7, 2) := by decide +kernel
theorem dX11_readRope_229 : decode cX11_readRope 229 = .ok (.iastore, 1) := by decide +kernel
theorem dX11_readRope_230 : decode cX11_readRope 230 = .ok (.aload_n 0, 1) := by decide +kernel
theorem dX11_readRope_231 : decode cX11_readRope 231 = .ok (.getfield 24, 3) := by decide +kernel
theorem dX11_readRope_234 : decode cX11_readRope 234 = .ok (.sipush 156, 3) := by decide +kernel
theorem dX11_readRope_237 : decode cX11_readRope 237 = .ok (.iload_n 1, 1) := by decide +kernel
theorem dX11_readRope_238 : decode cX11_readRope 238 = .ok (.iadd, 1) := by decide +kernel
theorem dX11_readRope_239 : decode cX11_readRope 239 = .ok (.iload 8, 2) := by decide +kernel
theorem dX11_readRope_241 : decode cX11_readRope 241 = .ok (.iastore, 1) := by decide +kernel
theorem dX11_readRope_242 : decode cX11_readRope 242 = .ok (.aload_n 0, 1) := by decide +kernel
theorem dX11_readRope_243 : decode cX11_readRope 243 = .ok (.getfield 24, 3) := by decide +kernel
theorem dX11_readRope_246 : decode cX11_readRope 246 = .ok (.iconst 1, 1) := by decide +kernel
theorem dX11_readRope_247 : decode cX11_readRope 247 = .ok (.dup2, 1) := by decide +kernel
theorem dX11_readRope_248 : decode cX11_readRope 248 = .ok (.iaload, 1) := by decide +kernel
theorem dX11_readRope_249 : decode cX11_readRope 249 = .ok (.iconst 1, 1) := by decide +kernel
theorem dX11_readRope_250 : decode cX11_readRope 250 = .ok (.iadd, 1) := by decide +kernel
theorem dX11_readRope_251 : decode cX11_readRope 251 = .ok (.iastore, 1) := by decide +kernel
theorem dX11_readRope_252 : decode cX11_readRope 252 = .ok (.return_, 1) := by decide +kernel
def mX11_readRope (n : Nat) (a : Nat) (μ : Mem) : Option (Unit × Mem) :=
  (gA μ 12 a 4).bind fun x1 =>
  (ldI μ 0 x1 1).bind fun x5 =>
  jn (fun (v18 : Unit) (μ18 : Mem) =>
  (gI μ18 12 a 11).bind fun x19 =>
  if eq32 x19 0 then
    (inv μ18 12 a (mX11_next n a μ18)).bind fun p27 =>
    (gA p27.2 12 a 4).bind fun x33 =>
    (ldI p27.2 0 x33 0).bind fun x37 =>
    (inv p27.2 12 a (mX11_takes n a 0 (x37 - 1) p27.2)).bind fun p40 =>
    (inv p40.2 12 a (mX11_is n a 11 p40.2)).bind fun p47 =>
    jn (fun (v66 : Unit) (μ66 : Mem) =>
    (gA μ66 12 a 4).bind fun x69 =>
    (ldI μ66 0 x69 0).bind fun x73 =>
    (inv μ66 12 a (mX11_takes n a 0 (x73 - 1) μ66)).bind fun p76 =>
    (inv p76.2 12 a (mX11_eats n a 5 p76.2)).bind fun p82 =>
    jn (fun (v93 : Unit) (μ93 : Mem) =>
    (inv μ93 12 a (mX11_takes n a 2 9 μ93)).bind fun p97 =>
    (inv p97.2 12 a (mX11_eats n a 6 p97.2)).bind fun p105 =>
    jn (fun (v122 : Int) (μ122 : Mem) =>
    (inv μ122 12 a (mX11_eats n a 7 μ122)).bind fun p127 =>
    jn (fun (v148 : Int) (μ148 : Mem) =>
    jn (fun (v166 : Int) (μ166 : Mem) =>
    (gI μ166 12 a 11).bind fun x169 =>
    if eq32 x169 0 then
      (gA μ166 12 a 4).bind fun x177 =>
      (stI μ166 0 x177 (76 + x5) p40.1).bind fun μ185 =>
      (gA μ185 12 a 4).bind fun x187 =>
      (stI μ185 0 x187 (92 + x5) p76.1).bind fun μ195 =>
      (gA μ195 12 a 4).bind fun x197 =>
      (stI μ195 0 x197 (108 + x5) p97.1).bind fun μ206 =>
      (gA μ206 12 a 4).bind fun x208 =>
      (stI μ206 0 x208 (124 + x5) v122).bind fun μ217 =>
      (gA μ217 12 a 4).bind fun x219 =>
      (stI μ217 0 x219 (140 + x5) v148).bind fun μ229 =>
      (gA μ229 12 a 4).bind fun x231 =>
      (stI μ229 0 x231 (156 + x5) v166).bind fun μ241 =>
      (gA μ241 12 a 4).bind fun x243 =>
      (ldI μ241 0 x243 1).bind fun x248 =>
      (stI μ241 0 x243 1 (x248 + 1)).bind fun μ251 =>
      some ((), μ251)
    else
    some ((), μ166)) (fun j166 =>
    if eq32 p127.1 0 then
      j166 0 μ148
    else
    (inv μ148 12 a (mX11_takes n a 0 9 μ148)).bind fun p159 =>
    j166 p159.1 p159.2)) (fun j148 =>
    if eq32 p127.1 0 then
      j148 0 p127.2
    else
    (inv p127.2 12 a (mX11_takes n a 0 9 p127.2)).bind fun p141 =>
    j148 p141.1 p141.2)) (fun j122 =>
    if eq32 p105.1 0 then
      j122 0 p105.2
    else
    (inv p105.2 12 a (mX11_takes n a 0 p97.1 p105.2)).bind fun p115 =>
    j122 p115.1 p115.2)) (fun j93 =>
    if eq32 p82.1 0 then
      (inv p82.2 12 a (mX11_fails n a 2 p82.2)).bind fun p90 =>
      j93 () p90.2
    else
    j93 () p82.2)) (fun j66 =>
    if eq32 p47.1 0 then
      j66 () p47.2
    else
    (gI p47.2 12 a 10).bind fun x54 =>
    if eq32 x54 p40.1 then
      (inv p47.2 12 a (mX11_fails n a 3 p47.2)).bind fun p63 =>
      j66 () p63.2
    else
    j66 () p47.2)
  else
  some ((), μ18)) (fun j18 =>
  if eq32 x5 16 then
    (inv μ 12 a (mX11_fails n a 4 μ)).bind fun p15 =>
    j18 () p15.2
  else
  j18 () μ)
set_option maxRecDepth 100000 in
set_option maxHeartbeats 4000000 in
theorem cX11_readRope_ok (n : Nat) (a : Nat) (μ : Mem) : Mc yX11_readRope cX11_readRope 9 none 7 151 eV [aA a] μ (mX11_readRope n a μ) := by
  refine mc_of (L0 := [some (aA a), none, none, none, none, none, none, none, none]) (k := 8) (by decide) rfl rfl (fun X Γ => ?_)
  unfold mX11_readRope
  refine sn_aload_n dX11_readRope_0 rfl ?_
  refine sn_getA (ci := 11) (j := 4) dX11_readRope_1 fl_X11_24 (by decide) (fun x1 => ?_)
  refine sn_iconst dX11_readRope_4 ?_
  refine sn_iald dX11_readRope_5 (fun x5 => ?_)
  refine sn_istore_n (L' := [some (aA a), some (aI x5), none, none, none, none, none, none, none]) dX11_readRope_6 (by decide) rfl ?_
  refine sn_iload_n dX11_readRope_7 rfl ?_
  refine sn_bipush dX11_readRope_8 (by decide) ?_
  refine sn_jn (pcj := 18) (La := fun v18 : Unit => [some (aA a), some (aI x5), none, none, none, none, none, none, none]) (Sa := fun v18 : Unit => []) ?_ ?_
  · intro v18 μ18
    refine sn_aload_n dX11_readRope_18 rfl ?_
    refine sn_getI (ci := 11) (j := 11) dX11_readRope_19 fl_X11_130 rfl (fun x19 => ?_)
    refine sn_if_eq (tgt := 26) dX11_readRope_22 (by decide) ?_ ?_
    · refine sn_aload_n dX11_readRope_26 rfl ?_
      refine sn_callVV (vs := []) (ci := 11) (cX11_next_ok n a μ18) dX11_readRope_27 cw_X11_139 rfl rfl rfl (by decide) (by decide) (Nat.le_of_ble_eq_true rfl) (fun p27 => ?_)
      refine sn_aload_n dX11_readRope_30 rfl ?_
      refine sn_iconst dX11_readRope_31 ?_
      refine sn_aload_n dX11_readRope_32 rfl ?_
      refine sn_getA (ci := 11) (j := 4) dX11_readRope_33 fl_X11_24 (by decide) (fun x33 => ?_)
      refine sn_iconst dX11_readRope_36 ?_
      refine sn_iald dX11_readRope_37 (fun x37 => ?_)
      refine sn_iconst dX11_readRope_38 ?_
      refine sn_isub dX11_readRope_39 ?_
      refine sn_callVI (vs := [aI 0, aI (x37 - 1)]) (ci := 11) (cX11_takes_ok n a 0 (x37 - 1) p27.2) dX11_readRope_40 cw_X11_150 rfl rfl rfl (by decide) (by decide) (Nat.le_of_ble_eq_true rfl) (fun p40 => ?_)
      refine sn_istore_n (L' := [some (aA a), some (aI x5), some (aI p40.1), none, none, none, none, none, none]) dX11_readRope_43 (by decide) rfl ?_
      refine sn_aload_n dX11_readRope_44 rfl ?_
      refine sn_bipush dX11_readRope_45 (by decide) ?_
      refine sn_callVI (vs := [aI 11]) (ci := 11) (cX11_is_ok n a 11 p40.2) dX11_readRope_47 cw_X11_136 rfl rfl rfl (by decide) (by decide) (Nat.le_of_ble_eq_true rfl) (fun p47 => ?_)
      refine sn_jn (pcj := 66) (La := fun v66 : Unit => [some (aA a), some (aI x5), some (aI p40.1), none, none, none, none, none, none]) (Sa := fun v66 : Unit => []) ?_ ?_
      · intro v66 μ66
        refine sn_aload_n dX11_readRope_66 rfl ?_
        refine sn_iconst dX11_readRope_67 ?_
        refine sn_aload_n dX11_readRope_68 rfl ?_
        refine sn_getA (ci := 11) (j := 4) dX11_readRope_69 fl_X11_24 (by decide) (fun x69 => ?_)
        refine sn_iconst dX11_readRope_72 ?_
        refine sn_iald dX11_readRope_73 (fun x73 => ?_)
        refine sn_iconst dX11_readRope_74 ?_
        refine sn_isub dX11_readRope_75 ?_
        refine sn_callVI (vs := [aI 0, aI (x73 - 1)]) (ci := 11) (cX11_takes_ok n a 0 (x73 - 1) μ66) dX11_readRope_76 cw_X11_150 rfl rfl rfl (by decide) (by decide) (Nat.le_of_ble_eq_true rfl) (fun p76 => ?_)
        refine sn_istore_n (L' := [some (aA a), some (aI x5), some (aI p40.1), some (aI p76.1), none, none, none, none, none]) dX11_readRope_79 (by decide) rfl ?_
        refine sn_aload_n dX11_readRope_80 rfl ?_
        refine sn_iconst dX11_readRope_81 ?_
        refine sn_callVI (vs := [aI 5]) (ci := 11) (cX11_eats_ok n a 5 p76.2) dX11_readRope_82 cw_X11_154 rfl rfl rfl (by decide) (by decide) (Nat.le_of_ble_eq_true rfl) (fun p82 => ?_)
        refine sn_jn (pcj := 93) (La := fun v93 : Unit => [some (aA a), some (aI x5), some (aI p40.1), some (aI p76.1), none, none, none, none, none]) (Sa := fun v93 : Unit => []) ?_ ?_
        · intro v93 μ93
          refine sn_aload_n dX11_readRope_93 rfl ?_
          refine sn_iconst dX11_readRope_94 ?_
          refine sn_bipush dX11_readRope_95 (by decide) ?_
          refine sn_callVI (vs := [aI 2, aI 9]) (ci := 11) (cX11_takes_ok n a 2 9 μ93) dX11_readRope_97 cw_X11_150 rfl rfl rfl (by decide) (by decide) (Nat.le_of_ble_eq_true rfl) (fun p97 => ?_)
          refine sn_istore (L' := [some (aA a), some (aI x5), some (aI p40.1), some (aI p76.1), some (aI p97.1), none, none, none, none]) dX11_readRope_100 (by decide) rfl ?_
          refine sn_aload_n dX11_readRope_102 rfl ?_
          refine sn_bipush dX11_readRope_103 (by decide) ?_
          refine sn_callVI (vs := [aI 6]) (ci := 11) (cX11_eats_ok n a 6 p97.2) dX11_readRope_105 cw_X11_154 rfl rfl rfl (by decide) (by decide) (Nat.le_of_ble_eq_true rfl) (fun p105 => ?_)
          refine sn_jn (pcj := 122) (La := fun v122 : Int => [some (aA a), some (aI x5), some (aI p40.1), some (aI p76.1), some (aI p97.1), none, none, none, none]) (Sa := fun v122 : Int => [aI v122]) ?_ ?_
          · intro v122 μ122
            refine sn_istore (L' := [some (aA a), some (aI x5), some (aI p40.1), some (aI p76.1), some (aI p97.1), some (aI v122), none, none, none]) dX11_readRope_122 (by decide) rfl ?_
            refine sn_aload_n dX11_readRope_124 rfl ?_
            refine sn_bipush dX11_readRope_125 (by decide) ?_
            refine sn_callVI (vs := [aI 7]) (ci := 11) (cX11_eats_ok n a 7 μ122) dX11_readRope_127 cw_X11_154 rfl rfl rfl (by decide) (by decide) (Nat.le_of_ble_eq_true rfl) (fun p127 => ?_)
            refine sn_istore (L' := [some (aA a), some (aI x5), some (aI p40.1), some (aI p76.1), some (aI p97.1), some (aI v122), some (aI p127.1), none, none]) dX11_readRope_130 (by decide) rfl ?_
            refine sn_iload dX11_readRope_132 rfl ?_
            refine sn_jn (pcj := 148) (La := fun v148 : Int => [some (aA a), some (aI x5), some (aI p40.1), some (aI p76.1), some (aI p97.1), some (aI v122), some (aI p127.1), none, none]) (Sa := fun v148 : Int => [aI v148]) ?_ ?_
            · intro v148 μ148
              refine sn_istore (L' := [some (aA a), some (aI x5), some (aI p40.1), some (aI p76.1), some (aI p97.1), some (aI v122), some (aI p127.1), some (aI v148), none]) dX11_readRope_148 (by decide) rfl ?_
              refine sn_iload dX11_readRope_150 rfl ?_
              refine sn_jn (pcj := 166) (La := fun v166 : Int => [some (aA a), some (aI x5), some (aI p40.1), some (aI p76.1), some (aI p97.1), some (aI v122), none, some (aI v148), none]) (Sa := fun v166 : Int => [aI v166]) ?_ ?_
              · intro v166 μ166
                refine sn_istore (L' := [some (aA a), some (aI x5), some (aI p40.1), some (aI p76.1), some (aI p97.1), some (aI v122), none, some (aI v148), some (aI v166)]) dX11_readRope_166 (by decide) rfl ?_
                refine sn_aload_n dX11_readRope_168 rfl ?_
                refine sn_getI (ci := 11) (j := 11) dX11_readRope_169 fl_X11_130 rfl (fun x169 => ?_)
                refine sn_if_eq (tgt := 176) dX11_readRope_172 (by decide) ?_ ?_
                · refine sn_aload_n dX11_readRope_176 rfl ?_
                  refine sn_getA (ci := 11) (j := 4) dX11_readRope_177 fl_X11_24 (by decide) (fun x177 => ?_)
                  refine sn_bipush dX11_readRope_180 (by decide) ?_
                  refine sn_iload_n dX11_readRope_182 rfl ?_
                  refine sn_iadd dX11_readRope_183 ?_
                  refine sn_iload_n dX11_readRope_184 rfl ?_
                  refine sn_iast dX11_readRope_185 (fun μ185 => ?_)
                  refine sn_aload_n dX11_readRope_186 rfl ?_
                  refine sn_getA (ci := 11) (j := 4) dX11_readRope_187 fl_X11_24 (by decide) (fun x187 => ?_)
                  refine sn_bipush dX11_readRope_190 (by decide) ?_
                  refine sn_iload_n dX11_readRope_192 rfl ?_
                  refine sn_iadd dX11_readRope_193 ?_
                  refine sn_iload_n dX11_readRope_194 rfl ?_
                  refine sn_iast dX11_readRope_195 (fun μ195 => ?_)
                  refine sn_aload_n dX11_readRope_196 rfl ?_
                  refine sn_getA (ci := 11) (j := 4) dX11_readRope_197 fl_X11_24 (by decide) (fun x197 => ?_)
                  refine sn_bipush dX11_readRope_200 (by decide) ?_
                  refine sn_iload_n dX11_readRope_202 rfl ?_
                  refine sn_iadd dX11_readRope_203 ?_
                  refine sn_iload dX11_readRope_204 rfl ?_
                  refine sn_iast dX11_readRope_206 (fun μ206 => ?_)
                  refine sn_aload_n dX11_readRope_207 rfl ?_
                  refine sn_getA (ci := 11) (j := 4) dX11_readRope_208 fl_X11_24 (by decide) (fun x208 => ?_)
                  refine sn_bipush dX11_readRope_211 (by decide) ?_
                  refine sn_iload_n dX11_readRope_213 rfl ?_
                  refine sn_iadd dX11_readRope_214 ?_
                  refine sn_iload dX11_readRope_215 rfl ?_
                  refine sn_iast dX11_readRope_217 (fun μ217 => ?_)
                  refine sn_aload_n dX11_readRope_218 rfl ?_
                  refine sn_getA (ci := 11) (j := 4) dX11_readRope_219 fl_X11_24 (by decide) (fun x219 => ?_)
                  refine sn_sipush dX11_readRope_222 (by decide) ?_
                  refine sn_iload_n dX11_readRope_225 rfl ?_
                  refine sn_iadd dX11_readRope_226 ?_
                  refine sn_iload dX11_readRope_227 rfl ?_
                  refine sn_iast dX11_readRope_229 (fun μ229 => ?_)
                  refine sn_aload_n dX11_readRope_230 rfl ?_
                  refine sn_getA (ci := 11) (j := 4) dX11_readRope_231 fl_X11_24 (by decide) (fun x231 => ?_)
                  refine sn_sipush dX11_readRope_234 (by decide) ?_
                  refine sn_iload_n dX11_readRope_237 rfl ?_
                  refine sn_iadd dX11_readRope_238 ?_
                  refine sn_iload dX11_readRope_239 rfl ?_
                  refine sn_iast dX11_readRope_241 (fun μ241 => ?_)
                  refine sn_aload_n dX11_readRope_242 rfl ?_
                  refine sn_getA (ci := 11) (j := 4) dX11_readRope_243 fl_X11_24 (by decide) (fun x243 => ?_)
                  refine sn_iconst dX11_readRope_246 ?_
                  refine sn_dup2 dX11_readRope_247 rfl rfl ?_
                  refine sn_iald dX11_readRope_248 (fun x248 => ?_)
                  refine sn_iconst dX11_readRope_249 ?_
                  refine sn_iadd dX11_readRope_250 ?_
                  refine sn_iast dX11_readRope_251 (fun μ251 => ?_)
                  exact sn_vret dX11_readRope_252
                · exact sn_vret dX11_readRope_175
              intro j166 hj166
              refine sn_if_eq (tgt := 165) dX11_readRope_152 (by decide) ?_ ?_
              · refine sn_iconst dX11_readRope_165 ?_
                exact sn_mask (L' := [some (aA a), some (aI x5), some (aI p40.1), some (aI p76.1), some (aI p97.1), some (aI v122), none, some (aI v148), none]) [true, true, true, true, true, true, false, true, false] rfl (hj166 0 μ148)
              · refine sn_aload_n dX11_readRope_155 rfl ?_
                refine sn_iconst dX11_readRope_156 ?_
                refine sn_bipush dX11_readRope_157 (by decide) ?_
                refine sn_callVI (vs := [aI 0, aI 9]) (ci := 11) (cX11_takes_ok n a 0 9 μ148) dX11_readRope_159 cw_X11_150 rfl rfl rfl (by decide) (by decide) (Nat.le_of_ble_eq_true rfl) (fun p159 => ?_)
                refine sn_goto (tgt := 166) dX11_readRope_162 (by decide) ?_
                exact sn_mask (L' := [some (aA a), some (aI x5), some (aI p40.1), some (aI p76.1), some (aI p97.1), some (aI v122), none, some (aI v148), none]) [true, true, true, true, true, true, false, true, false] rfl (hj166 p159.1 p159.2)
            intro j148 hj148
            refine sn_if_eq (tgt := 147) dX11_readRope_134 (by decide) ?_ ?_
            · refine sn_iconst dX11_readRope_147 ?_
              exact hj148 0 p127.2
            · refine sn_aload_n dX11_readRope_137 rfl ?_
              refine sn_iconst dX11_readRope_138 ?_
              refine sn_bipush dX11_readRope_139 (by decide) ?_
              refine sn_callVI (vs := [aI 0, aI 9]) (ci := 11) (cX11_takes_ok n a 0 9 p127.2) dX11_readRope_141 cw_X11_150 rfl rfl rfl (by decide) (by decide) (Nat.le_of_ble_eq_true rfl) (fun p141 => ?_)
              refine sn_goto (tgt := 148) dX11_readRope_144 (by decide) ?_
              exact hj148 p141.1 p141.2
          intro j122 hj122
          refine sn_if_eq (tgt := 121) dX11_readRope_108 (by decide) ?_ ?_
          · refine sn_iconst dX11_readRope_121 ?_
            exact hj122 0 p105.2
          · refine sn_aload_n dX11_readRope_111 rfl ?_
            refine sn_iconst dX11_readRope_112 ?_
            refine sn_iload dX11_readRope_113 rfl ?_
            refine sn_callVI (vs := [aI 0, aI p97.1]) (ci := 11) (cX11_takes_ok n a 0 p97.1 p105.2) dX11_readRope_115 cw_X11_150 rfl rfl rfl (by decide) (by decide) (Nat.le_of_ble_eq_true rfl) (fun p115 => ?_)
            refine sn_goto (tgt := 122) dX11_readRope_118 (by decide) ?_
            exact hj122 p115.1 p115.2
        intro j93 hj93
        refine sn_if_ne (tgt := 93) dX11_readRope_85 (by decide) ?_ ?_
        · exact hj93 () p82.2
        · refine sn_aload_n dX11_readRope_88 rfl ?_
          refine sn_iconst dX11_readRope_89 ?_
          refine sn_callVV (vs := [aI 2]) (ci := 11) (cX11_fails_ok n a 2 p82.2) dX11_readRope_90 cw_X11_142 rfl rfl rfl (by decide) (by decide) (Nat.le_of_ble_eq_true rfl) (fun p90 => ?_)
          exact hj93 () p90.2
      intro j66 hj66
      refine sn_if_eq (tgt := 66) dX11_readRope_50 (by decide) ?_ ?_
      · exact hj66 () p47.2
      · refine sn_aload_n dX11_readRope_53 rfl ?_
        refine sn_getI (ci := 11) (j := 10) dX11_readRope_54 fl_X11_127 rfl (fun x54 => ?_)
        refine sn_iload_n dX11_readRope_57 rfl ?_
        refine sn_icmp_ne (tgt := 66) dX11_readRope_58 (by decide) ?_ ?_
        · exact hj66 () p47.2
        · refine sn_aload_n dX11_readRope_61 rfl ?_
          refine sn_iconst dX11_readRope_62 ?_
          refine sn_callVV (vs := [aI 3]) (ci := 11) (cX11_fails_ok n a 3 p47.2) dX11_readRope_63 cw_X11_142 rfl rfl rfl (by decide) (by decide) (Nat.le_of_ble_eq_true rfl) (fun p63 => ?_)
          exact hj66 () p63.2
    · exact sn_vret dX11_readRope_25
  intro j18 hj18
  refine sn_icmp_ne (tgt := 18) dX11_readRope_10 (by decide) ?_ ?_
  · exact hj18 () μ
  · refine sn_aload_n dX11_readRope_13 rfl ?_
    refine sn_iconst dX11_readRope_14 ?_
    refine sn_callVV (vs := [aI 4]) (ci := 11) (cX11_fails_ok n a 4 μ) dX11_readRope_15 cw_X11_142 rfl rfl rfl (by decide) (by decide) (Nat.le_of_ble_eq_true rfl) (fun p15 => ?_)
    exact hj18 () p15.2
theorem dX11_land_0 : decode cX11_land 0 = .ok (.aload_n 0, 1) := by decide +kernel
theorem dX11_land_1 : decode cX11_land 1 = .ok (.iconst 0, 1) := by decide +kernel
theorem dX11_land_2 : decode cX11_land 2 = .ok (.putfield 1, 3) := by decide +kernel
theorem dX11_land_5 : decode cX11_land 5 = .ok (.iload_n 1, 1) := by decide +kernel
theorem dX11_land_6 : decode cX11_land 6 = .ok (.i2l, 1) := by decide +kernel
theorem dX11_land_7 : decode cX11_land 7 = .ok (.lconst 0, 1) := by decide +kernel
theorem dX11_land_8 : decode cX11_land 8 = .ok (.aload_n 0, 1) := by decide +kernel
theorem dX11_land_9 : decode cX11_land 9 = .ok (.getfield 86, 3) := by decide +kernel
theorem dX11_land_12 : decode cX11_land 12 = .ok (.i2l, 1) := by decide +kernel
theorem dX11_land_13 : decode cX11_land 13 = .ok (.invokestatic 146, 3) := by decide +kernel
theorem dX11_land_16 : decode cX11_land 16 = .ok (.ifCond .ne 6, 3) := by decide +kernel
theorem dX11_land_19 : decode cX11_land 19 = .ok (.bipush (-3), 2) := by decide +kernel
theorem dX11_land_21 : decode cX11_land 21 = .ok (.ireturn, 1) := by decide +kernel
theorem dX11_land_22 : decode cX11_land 22 = .ok (.aload_n 0, 1) := by decide +kernel
theorem dX11_land_23 : decode cX11_land 23 = .ok (.iload_n 1, 1) := by decide +kernel
theorem dX11_land_24 : decode cX11_land 24 = .ok (.putfield 89, 3) := by decide +kernel
theorem dX11_land_27 : decode cX11_land 27 = .ok (.aload_n 0, 1) := by decide +kernel
theorem dX11_land_28 : decode cX11_land 28 = .ok (.iconst 0, 1) := by decide +kernel
theorem dX11_land_29 : decode cX11_land 29 = .ok (.putfield 86, 3) := by decide +kernel
theorem dX11_land_32 : decode cX11_land 32 = .ok (.aload_n 0, 1) := by decide +kernel
theorem dX11_land_33 : decode cX11_land 33 = .ok (.iconst 0, 1) := by decide +kernel
theorem dX11_land_34 : decode cX11_land 34 = .ok (.putfield 107, 3) := by decide +kernel
theorem dX11_land_37 : decode cX11_land 37 = .ok (.aload_n 0, 1) := by decide +kernel
theorem dX11_land_38 : decode cX11_land 38 = .ok (.iconst 0, 1) := by decide +kernel
theorem dX11_land_39 : decode cX11_land 39 = .ok (.putfield 130, 3) := by decide +kernel
theorem dX11_land_42 : decode cX11_land 42 = .ok (.aload_n 0, 1) := by decide +kernel
theorem dX11_land_43 : decode cX11_land 43 = .ok (.getfield 24, 3) := by decide +kernel
theorem dX11_land_46 : decode cX11_land 46 = .ok (.invokestatic 82, 3) := by decide +kernel
theorem dX11_land_49 : decode cX11_land 49 = .ok (.aload_n 0, 1) := by decide +kernel
theorem dX11_land_50 : decode cX11_land 50 = .ok (.invokevirtual 139, 3) := by decide +kernel
theorem dX11_land_53 : decode cX11_land 53 = .ok (.aload_n 0, 1) := by decide +kernel
theorem dX11_land_54 : decode cX11_land 54 = .ok (.getfield 130, 3) := by decide +kernel
theorem dX11_land_57 : decode cX11_land 57 = .ok (.ifCond .ne 124, 3) := by decide +kernel
theorem dX11_land_60 : decode cX11_land 60 = .ok (.aload_n 0, 1) := by decide +kernel
theorem dX11_land_61 : decode cX11_land 61 = .ok (.getfield 114, 3) := by decide +kernel
theorem dX11_land_64 : decode cX11_land 64 = .ok (.bipush 13, 2) := by decide +kernel
theorem dX11_land_66 : decode cX11_land 66 = .ok (.if_icmp .eq 115, 3) := by decide +kernel
theorem dX11_land_69 : decode cX11_land 69 = .ok (.aload_n 0, 1) := by decide +kernel
theorem dX11_land_70 : decode cX11_land 70 = .ok (.iconst 0, 1) := by decide +kernel
theorem dX11_land_71 : decode cX11_land 71 = .ok (.invokevirtual 136, 3) := by decide +kernel
theorem dX11_land_74 : decode cX11_land 74 = .ok (.ifCond .eq 10, 3) := by decide +kernel
theorem dX11_land_77 : decode cX11_land 77 = .ok (.aload_n 0, 1) := by decide +kernel
theorem dX11_land_78 : decode cX11_land 78 = .ok (.invokevirtual 157, 3) := by decide +kernel
theorem dX11_land_81 : decode cX11_land 81 = .ok (.goto 73, 3) := by decide +kernel
theorem dX11_land_84 : decode cX11_land 84 = .ok (.aload_n 0, 1) := by decide +kernel
theorem dX11_land_85 : decode cX11_land 85 = .ok (.iconst 4, 1) := by decide +kernel
theorem dX11_land_86 : decode cX11_land 86 = .ok (.invokevirtual 136, 3) := by decide +kernel
theorem dX11_land_89 : decode cX11_land 89 = .ok (.ifCond .eq 10, 3) := by decide +kernel
theorem dX11_land_92 : decode cX11_land 92 = .ok (.aload_n 0, 1) := by decide +kernel
theorem dX11_land_93 : decode cX11_land 93 = .ok (.invokevirtual 160, 3) := by decide +kernel
theorem dX11_land_96 : decode cX11_land 96 = .ok (.goto 58, 3) := by decide +kernel
theorem dX11_land_99 : decode cX11_land 99 = .ok (.aload_n 0, 1) := by decide +kernel
theorem dX11_land_100 : decode cX11_land 100 = .ok (.bipush 8, 2) := by decide +kernel
theorem dX11_land_102 : decode cX11_land 102 = .ok (.invokevirtual 154, 3) := by decide +kernel
theorem dX11_land_105 : decode cX11_land 105 = .ok (.ifCond .eq 19, 3) := by decide +kernel
theorem dX11_land_108 : decode cX11_land 108 = .ok (.aload_n 0, 1) := by decide +kernel
theorem dX11_land_109 : decode cX11_land 109 = .ok (.getfield 24, 3) := by decide +kernel
theorem dX11_land_112 : decode cX11_land 112 = .ok (.iconst 3, 1) := by decide +kernel
theorem dX11_land_113 : decode cX11_land 113 = .ok (.aload_n 0, 1) := by decide +kernel
theorem dX11_land_114 : decode cX11_land 114 = .ok (.iconst 1, 1) := by decide +kernel
theorem dX11_land_115 : decode cX11_land 115 = .ok (.bipush 9, 2) := by decide +kernel
theorem dX11_land_117 : decode cX11_land 117 = .ok (.invokevirtual 150, 3) := by decide +kernel
theorem dX11_land_120 : decode cX11_land 120 = .ok (.iastore, 1) := by decide +kernel
theorem dX11_land_121 : decode cX11_land 121 = .ok (.goto 33, 3) := by decide +kernel
theorem dX11_land_124 : decode cX11_land 124 = .ok (.aload_n 0, 1) := by decide +kernel
theorem dX11_land_125 : decode cX11_land 125 = .ok (.bipush 9, 2) := by decide +kernel
theorem dX11_land_127 : decode cX11_land 127 = .ok (.invokevirtual 154, 3) := by decide +kernel
theorem dX11_land_130 : decode cX11_land 130 = .ok (.ifCond .eq 19, 3) := by decide +kernel
theorem dX11_land_133 : decode cX11_land 133 = .ok (.aload_n 0, 1) := by decide +kernel
theorem dX11_land_134 : decode cX11_land 134 = .ok (.getfield 24, 3) := by decide +kernel
theorem dX11_land_137 : decode cX11_land 137 = .ok (.iconst 4, 1) := by decide +kernel
theorem dX11_land_138 : decode cX11_land 138 = .ok (.aload_n 0, 1) := by decide +kernel
theorem dX11_land_139 : decode cX11_land 139 = .ok (.iconst 1, 1) := by decide +kernel
theorem dX11_land_140 : decode cX11_land 140 = .ok (.bipush 40, 2) := by decide +kernel
theorem dX11_land_142 : decode cX11_land 142 = .ok (.invokevirtual 150, 3) := by decide +kernel
theorem dX11_land_145 : decode cX11_land 145 = .ok (.iastore, 1) := by decide +kernel
theorem dX11_land_146 : decode cX11_land 146 = .ok (.goto 8, 3) := by decide +kernel
theorem dX11_land_149 : decode cX11_land 149 = .ok (.aload_n 0, 1) := by decide +kernel
theorem dX11_land_150 : decode cX11_land 150 = .ok (.iconst 2, 1) := by decide +kernel
theorem dX11_land_151 : decode cX11_land 151 = .ok (.invokevirtual 142, 3) := by decide +kernel
theorem dX11_land_154 : decode cX11_land 154 = .ok (.aload_n 0, 1) := by decide +kernel
theorem dX11_land_155 : decode cX11_land 155 = .ok (.bipush 12, 2) := by decide +kernel
theorem dX11_land_157 : decode cX11_land 157 = .ok (.invokevirtual 154, 3) := by decide +kernel
theorem dX11_land_160 : decode cX11_land 160 = .ok (.ifCond .ne 8, 3) := by decide +kernel
theorem dX11_land_163 : decode cX11_land 163 = .ok (.aload_n 0, 1) := by decide +kernel
theorem dX11_land_164 : decode cX11_land 164 = .ok (.iconst 2, 1) := by decide +kernel
theorem dX11_land_165 : decode cX11_land 165 = .ok (.invokevirtual 142, 3) := by decide +kernel
theorem dX11_land_168 : decode cX11_land 168 = .ok (.aload_n 0, 1) := by decide +kernel
theorem dX11_land_169 : decode cX11_land 169 = .ok (.getfield 24, 3) := by decide +kernel
theorem dX11_land_172 : decode cX11_land 172 = .ok (.iconst 5, 1) := by decide +kernel
theorem dX11_land_173 : decode cX11_land 173 = .ok (.dup2, 1) := by decide +kernel
theorem dX11_land_174 : decode cX11_land 174 = .ok (.iaload, 1) := by decide +kernel
theorem dX11_land_175 : decode cX11_land 175 = .ok (.iconst 1, 1) := by decide +kernel
theorem dX11_land_176 : decode cX11_land 176 = .ok (.iadd, 1) := by decide +kernel
theorem dX11_land_177 : decode cX11_land 177 = .ok (.iastore, 1) := by decide +kernel
theorem dX11_land_178 : decode cX11_land 178 = .ok (.goto (-125), 3) := by decide +kernel
theorem dX11_land_181 : decode cX11_land 181 = .ok (.aload_n 0, 1) := by decide +kernel
theorem dX11_land_182 : decode cX11_land 182 = .ok (.aload_n 0, 1) := by decide +kernel
theorem dX11_land_183 : decode cX11_land 183 = .ok (.getfield 130, 3) := by decide +kernel
theorem dX11_land_186 : decode cX11_land 186 = .ok (.putfield 163, 3) := by decide +kernel
theorem dX11_land_189 : decode cX11_land 189 = .ok (.aload_n 0, 1) := by decide +kernel
theorem dX11_land_190 : decode cX11_land 190 = .ok (.aload_n 0, 1) := by decide +kernel
theorem dX11_land_191 : decode cX11_land 191 = .ok (.getfield 130, 3) := by decide +kernel
theorem dX11_land_194 : decode cX11_land 194 = .ok (.ifCond .ne 7, 3) := by decide +kernel
theorem dX11_land_197 : decode cX11_land 197 = .ok (.iconst (-1), 1) := by decide +kernel
theorem dX11_land_198 : decode cX11_land 198 = .ok (.goto 7, 3) := by decide +kernel
theorem dX11_land_201 : decode cX11_land 201 = .ok (.aload_n 0, 1) := by decide +kernel
theorem dX11_land_202 : decode cX11_land 202 = .ok (.getfield 133, 3) := by decide +kernel
theorem dX11_land_205 : decode cX11_land 205 = .ok (.putfield 27, 3) := by decide +kernel
theorem dX11_land_208 : decode cX11_land 208 = .ok (.aload_n 0, 1) := by decide +kernel
theorem dX11_land_209 : decode cX11_land 209 = .ok (.getfield 130, 3) := by decide +kernel
theorem dX11_land_212 : decode cX11_land 212 = .ok (.ifCond .eq 11, 3) := by decide +kernel
theorem dX11_land_215 : decode cX11_land 215 = .ok (.bipush (-30), 2) := by decide +kernel
theorem dX11_land_217 : decode cX11_land 217 = .ok (.aload_n 0, 1) := by decide +kernel
theorem dX11_land_218 : decode cX11_land 218 = .ok (.getfield 130, 3) := by decide +kernel
theorem dX11_land_221 : decode cX11_land 221 = .ok (.isub, 1) := by decide +kernel
theorem dX11_land_222 : decode cX11_land 222 = .ok (.ireturn, 1) := by decide +kernel
theorem dX11_land_223 : decode cX11_land 223 = .ok (.iconst 0, 1) := by decide +kernel
theorem dX11_land_224 : decode cX11_land 224 = .ok (.istore_n 2, 1) := by decide +kernel
theorem dX11_land_225 : decode cX11_land 225 = .ok (.iload_n 2, 1) := by decide +kernel
theorem dX11_land_226 : decode cX11_land 226 = .ok (.sipush 220, 3) := by decide +kernel
theorem dX11_land_229 : decode cX11_land 229 = .ok (.if_icmp .ge 21, 3) := by decide +kernel
theorem dX11_land_232 : decode cX11_land 232 = .ok (.aload_n 0, 1) := by decide +kernel
theorem dX11_land_233 : decode cX11_land 233 = .ok (.getfield 13, 3) := by decide +kernel
theorem dX11_land_236 : decode cX11_land 236 = .ok (.iload_n 2, 1) := by decide +kernel
theorem dX11_land_237 : decode cX11_land 237 = .ok (.aload_n 0, 1) := by decide +kernel
theorem dX11_land_238 : decode cX11_land 238 = .ok (.getfield 24, 3) := by decide +kernel
theorem dX11_land_241 : decode cX11_land 241 = .ok (.iload_n 2, 1) := by decide +kernel
theorem dX11_land_242 : decode cX11_land 242 = .ok (.iaload, 1) := by decide +kernel
theorem dX11_land_243 : decode cX11_land 243 = .ok (.iastore, 1) := by decide +kernel
theorem dX11_land_244 : decode cX11_land 244 = .ok (.iinc 2 1, 3) := by decide +kernel
theorem dX11_land_247 : decode cX11_land 247 = .ok (.goto (-22), 3) := by decide +kernel
theorem dX11_land_250 : decode cX11_land 250 = .ok (.aload_n 0, 1) := by decide +kernel
theorem dX11_land_251 : decode cX11_land 251 = .ok (.getfield 13, 3) := by decide +kernel
theorem dX11_land_254 : decode cX11_land 254 = .ok (.iconst 5, 1) := by decide +kernel
theorem dX11_land_255 : decode cX11_land 255 = .ok (.iaload, 1) := by decide +kernel
theorem dX11_land_256 : decode cX11_land 256 = .ok (.ireturn, 1) := by decide +kernel
def mX11_land (n : Nat) (a : Nat) (b1 : Int) (μ : Mem) : Option (Int × Mem) :=
  (pI μ 12 a 0 0).bind fun μ2 =>
  (gI μ2 12 a 5).bind fun x9 =>
  (mX11_within n (oI2l b1) 0 (oI2l x9) μ2).bind fun p13 =>
  if eq32 p13.1 0 then
    some ((-3), p13.2)
  else
  (pI p13.2 12 a 8 b1).bind fun μ24 =>
  (pI μ24 12 a 5 0).bind fun μ29 =>
  (pI μ29 12 a 7 0).bind fun μ34 =>
  (pI μ34 12 a 11 0).bind fun μ39 =>
  (gA μ39 12 a 4).bind fun x43 =>
  (mX11_plain n x43 μ39).bind fun p46 =>
  (inv p46.2 12 a (mX11_next n a p46.2)).bind fun p50 =>
  lp (fun nx53 (v53 : Unit) (μ53 : Mem) =>
  (gI μ53 12 a 11).bind fun x54 =>
  jn (fun (v181 : Unit) (μ181 : Mem) =>
  (gI μ181 12 a 11).bind fun x183 =>
  (pI μ181 12 a 13 x183).bind fun μ186 =>
  (gI μ186 12 a 11).bind fun x191 =>
  jn (fun (v205 : Int) (μ205 : Mem) =>
  (pI μ205 12 a 14 v205).bind fun μ205 =>
  (gI μ205 12 a 11).bind fun x209 =>
  if eq32 x209 0 then
    lp (fun nx225 (v225 : Int) (μ225 : Mem) =>
    if lt32 v225 220 then
      (gA μ225 12 a 1).bind fun x233 =>
      (gA μ225 12 a 4).bind fun x238 =>
      (ldI μ225 0 x238 v225).bind fun x242 =>
      (stI μ225 0 x233 v225 x242).bind fun μ243 =>
      nx225 (v225 + 1) μ243
    else
    (gA μ225 12 a 1).bind fun x251 =>
    (ldI μ225 0 x251 5).bind fun x255 =>
    some (x255, μ225)) n 0 μ205
  else
  (gI μ205 12 a 11).bind fun x218 =>
  some (((-30) - x218), μ205)) (fun j205 =>
  if eq32 x191 0 then
    j205 (-1) μ186
  else
  (gI μ186 12 a 12).bind fun x202 =>
  j205 x202 μ186)) (fun j181 =>
  if eq32 x54 0 then
    (gI μ53 12 a 9).bind fun x61 =>
    if eq32 x61 13 then
      j181 () μ53
    else
    (inv μ53 12 a (mX11_is n a 0 μ53)).bind fun p71 =>
    jn (fun (v154 : Unit) (μ154 : Mem) =>
    (inv μ154 12 a (mX11_eats n a 12 μ154)).bind fun p157 =>
    jn (fun (v168 : Unit) (μ168 : Mem) =>
    (gA μ168 12 a 4).bind fun x169 =>
    (ldI μ168 0 x169 5).bind fun x174 =>
    (stI μ168 0 x169 5 (x174 + 1)).bind fun μ177 =>
    nx53 () μ177) (fun j168 =>
    if eq32 p157.1 0 then
      (inv p157.2 12 a (mX11_fails n a 2 p157.2)).bind fun p165 =>
      j168 () p165.2
    else
    j168 () p157.2)) (fun j154 =>
    if eq32 p71.1 0 then
      (inv p71.2 12 a (mX11_is n a 4 p71.2)).bind fun p86 =>
      if eq32 p86.1 0 then
        (inv p86.2 12 a (mX11_eats n a 8 p86.2)).bind fun p102 =>
        if eq32 p102.1 0 then
          (inv p102.2 12 a (mX11_eats n a 9 p102.2)).bind fun p127 =>
          if eq32 p127.1 0 then
            (inv p127.2 12 a (mX11_fails n a 2 p127.2)).bind fun p151 =>
            j154 () p151.2
          else
          (gA p127.2 12 a 4).bind fun x134 =>
          (inv p127.2 12 a (mX11_takes n a 1 40 p127.2)).bind fun p142 =>
          (stI p142.2 0 x134 4 p142.1).bind fun μ145 =>
          j154 () μ145
        else
        (gA p102.2 12 a 4).bind fun x109 =>
        (inv p102.2 12 a (mX11_takes n a 1 9 p102.2)).bind fun p117 =>
        (stI p117.2 0 x109 3 p117.1).bind fun μ120 =>
        j154 () μ120
      else
      (inv p86.2 12 a (mX11_readRope n a p86.2)).bind fun p93 =>
      j154 () p93.2
    else
    (inv p71.2 12 a (mX11_readHouse n a p71.2)).bind fun p78 =>
    j154 () p78.2)
  else
  j181 () μ53)) n () p50.2
set_option maxRecDepth 100000 in
set_option maxHeartbeats 4000000 in
theorem cX11_land_ok (n : Nat) (a : Nat) (b1 : Int) (μ : Mem) : Mc yX11_land cX11_land 3 (some .int) 8 179 eI [aA a, aI b1] μ (mX11_land n a b1 μ) := by
  refine mc_of (L0 := [some (aA a), some (aI b1), none]) (k := 1) (by decide) rfl rfl (fun X Γ => ?_)
  unfold mX11_land
  refine sn_aload_n dX11_land_0 rfl ?_
  refine sn_iconst dX11_land_1 ?_
  refine sn_putI (ci := 11) (j := 0) dX11_land_2 fl_X11_1 rfl (fun q h => by cases h; rfl) (fun μ2 => ?_)
  refine sn_iload_n dX11_land_5 rfl ?_
  refine sn_i2l dX11_land_6 ?_
  refine sn_lconst (v := 0) dX11_land_7 (by decide) ?_
  refine sn_aload_n dX11_land_8 rfl ?_
  refine sn_getI (ci := 11) (j := 5) dX11_land_9 fl_X11_86 rfl (fun x9 => ?_)
  refine sn_i2l dX11_land_12 ?_
  refine sn_callSI (vs := [aJ (oI2l b1), aJ 0, aJ (oI2l x9)]) (cX11_within_ok n (oI2l b1) 0 (oI2l x9) μ2) dX11_land_13 cw_X11_146 rfl (by decide) (by decide) (Nat.le_of_ble_eq_true rfl) (fun p13 => ?_)
  refine sn_if_ne (tgt := 22) dX11_land_16 (by decide) ?_ ?_
  · refine sn_aload_n dX11_land_22 rfl ?_
    refine sn_iload_n dX11_land_23 rfl ?_
    refine sn_putI (ci := 11) (j := 8) dX11_land_24 fl_X11_89 rfl (fun q h => by cases h; rfl) (fun μ24 => ?_)
    refine sn_aload_n dX11_land_27 rfl ?_
    refine sn_iconst dX11_land_28 ?_
    refine sn_putI (ci := 11) (j := 5) dX11_land_29 fl_X11_86 rfl (fun q h => by cases h; rfl) (fun μ29 => ?_)
    refine sn_aload_n dX11_land_32 rfl ?_
    refine sn_iconst dX11_land_33 ?_
    refine sn_putI (ci := 11) (j := 7) dX11_land_34 fl_X11_107 rfl (fun q h => by cases h; rfl) (fun μ34 => ?_)
    refine sn_aload_n dX11_land_37 rfl ?_
    refine sn_iconst dX11_land_38 ?_
    refine sn_putI (ci := 11) (j := 11) dX11_land_39 fl_X11_130 rfl (fun q h => by cases h; rfl) (fun μ39 => ?_)
    refine sn_aload_n dX11_land_42 rfl ?_
    refine sn_getA (ci := 11) (j := 4) dX11_land_43 fl_X11_24 (by decide) (fun x43 => ?_)
    refine sn_callSV (vs := [aA x43]) (cX11_plain_ok n x43 μ39) dX11_land_46 cw_X11_82 rfl (by decide) (by decide) (Nat.le_of_ble_eq_true rfl) (fun p46 => ?_)
    refine sn_aload_n dX11_land_49 rfl ?_
    refine sn_callVV (vs := []) (ci := 11) (cX11_next_ok n a p46.2) dX11_land_50 cw_X11_139 rfl rfl rfl (by decide) (by decide) (Nat.le_of_ble_eq_true rfl) (fun p50 => ?_)
    refine sn_mask (L' := [some (aA a), none, none]) [true, false, false] rfl ?_
    refine sn_lp (La := fun v53 : Unit => [some (aA a), none, none]) ?_ n () p50.2
    intro nx53 hnx53 v53 μ53
    refine sn_aload_n dX11_land_53 rfl ?_
    refine sn_getI (ci := 11) (j := 11) dX11_land_54 fl_X11_130 rfl (fun x54 => ?_)
    refine sn_jn (pcj := 181) (La := fun v181 : Unit => [some (aA a), none, none]) (Sa := fun v181 : Unit => []) ?_ ?_
    · intro v181 μ181
      refine sn_aload_n dX11_land_181 rfl ?_
      refine sn_aload_n dX11_land_182 rfl ?_
      refine sn_getI (ci := 11) (j := 11) dX11_land_183 fl_X11_130 rfl (fun x183 => ?_)
      refine sn_putI (ci := 11) (j := 13) dX11_land_186 fl_X11_163 rfl (fun q h => by cases h; rfl) (fun μ186 => ?_)
      refine sn_aload_n dX11_land_189 rfl ?_
      refine sn_aload_n dX11_land_190 rfl ?_
      refine sn_getI (ci := 11) (j := 11) dX11_land_191 fl_X11_130 rfl (fun x191 => ?_)
      refine sn_jn (pcj := 205) (La := fun v205 : Int => [some (aA a), none, none]) (Sa := fun v205 : Int => [aI v205, aA a]) ?_ ?_
      · intro v205 μ205
        refine sn_putI (ci := 11) (j := 14) dX11_land_205 fl_X11_27 rfl (fun q h => by cases h; rfl) (fun μ205 => ?_)
        refine sn_aload_n dX11_land_208 rfl ?_
        refine sn_getI (ci := 11) (j := 11) dX11_land_209 fl_X11_130 rfl (fun x209 => ?_)
        refine sn_if_eq (tgt := 223) dX11_land_212 (by decide) ?_ ?_
        · refine sn_iconst dX11_land_223 ?_
          refine sn_istore_n (L' := [some (aA a), none, some (aI 0)]) dX11_land_224 (by decide) rfl ?_
          refine sn_lp (La := fun v225 : Int => [some (aA a), none, some (aI v225)]) ?_ n 0 μ205
          intro nx225 hnx225 v225 μ225
          refine sn_iload_n dX11_land_225 rfl ?_
          refine sn_sipush dX11_land_226 (by decide) ?_
          refine sn_icmp_ge (tgt := 250) dX11_land_229 (by decide) ?_ ?_
          · refine sn_aload_n dX11_land_250 rfl ?_
            refine sn_getA (ci := 11) (j := 1) dX11_land_251 fl_X11_13 (by decide) (fun x251 => ?_)
            refine sn_iconst dX11_land_254 ?_
            refine sn_iald dX11_land_255 (fun x255 => ?_)
            exact sn_iret dX11_land_256
          · refine sn_aload_n dX11_land_232 rfl ?_
            refine sn_getA (ci := 11) (j := 1) dX11_land_233 fl_X11_13 (by decide) (fun x233 => ?_)
            refine sn_iload_n dX11_land_236 rfl ?_
            refine sn_aload_n dX11_land_237 rfl ?_
            refine sn_getA (ci := 11) (j := 4) dX11_land_238 fl_X11_24 (by decide) (fun x238 => ?_)
            refine sn_iload_n dX11_land_241 rfl ?_
            refine sn_iald dX11_land_242 (fun x242 => ?_)
            refine sn_iast dX11_land_243 (fun μ243 => ?_)
            refine sn_iinc (L' := [some (aA a), none, some (aI (v225 + 1))]) dX11_land_244 rfl (by decide) rfl ?_
            refine sn_goto (tgt := 225) dX11_land_247 (by decide) ?_
            exact hnx225 (v225 + 1) μ243
        · refine sn_bipush dX11_land_215 (by decide) ?_
          refine sn_aload_n dX11_land_217 rfl ?_
          refine sn_getI (ci := 11) (j := 11) dX11_land_218 fl_X11_130 rfl (fun x218 => ?_)
          refine sn_isub dX11_land_221 ?_
          exact sn_iret dX11_land_222
      intro j205 hj205
      refine sn_if_ne (tgt := 201) dX11_land_194 (by decide) ?_ ?_
      · refine sn_aload_n dX11_land_201 rfl ?_
        refine sn_getI (ci := 11) (j := 12) dX11_land_202 fl_X11_133 rfl (fun x202 => ?_)
        exact hj205 x202 μ186
      · refine sn_iconst dX11_land_197 ?_
        refine sn_goto (tgt := 205) dX11_land_198 (by decide) ?_
        exact hj205 (-1) μ186
    intro j181 hj181
    refine sn_if_ne (tgt := 181) dX11_land_57 (by decide) ?_ ?_
    · exact hj181 () μ53
    · refine sn_aload_n dX11_land_60 rfl ?_
      refine sn_getI (ci := 11) (j := 9) dX11_land_61 fl_X11_114 rfl (fun x61 => ?_)
      refine sn_bipush dX11_land_64 (by decide) ?_
      refine sn_icmp_eq (tgt := 181) dX11_land_66 (by decide) ?_ ?_
      · exact hj181 () μ53
      · refine sn_aload_n dX11_land_69 rfl ?_
        refine sn_iconst dX11_land_70 ?_
        refine sn_callVI (vs := [aI 0]) (ci := 11) (cX11_is_ok n a 0 μ53) dX11_land_71 cw_X11_136 rfl rfl rfl (by decide) (by decide) (Nat.le_of_ble_eq_true rfl) (fun p71 => ?_)
        refine sn_jn (pcj := 154) (La := fun v154 : Unit => [some (aA a), none, none]) (Sa := fun v154 : Unit => []) ?_ ?_
        · intro v154 μ154
          refine sn_aload_n dX11_land_154 rfl ?_
          refine sn_bipush dX11_land_155 (by decide) ?_
          refine sn_callVI (vs := [aI 12]) (ci := 11) (cX11_eats_ok n a 12 μ154) dX11_land_157 cw_X11_154 rfl rfl rfl (by decide) (by decide) (Nat.le_of_ble_eq_true rfl) (fun p157 => ?_)
          refine sn_jn (pcj := 168) (La := fun v168 : Unit => [some (aA a), none, none]) (Sa := fun v168 : Unit => []) ?_ ?_
          · intro v168 μ168
            refine sn_aload_n dX11_land_168 rfl ?_
            refine sn_getA (ci := 11) (j := 4) dX11_land_169 fl_X11_24 (by decide) (fun x169 => ?_)
            refine sn_iconst dX11_land_172 ?_
            refine sn_dup2 dX11_land_173 rfl rfl ?_
            refine sn_iald dX11_land_174 (fun x174 => ?_)
            refine sn_iconst dX11_land_175 ?_
            refine sn_iadd dX11_land_176 ?_
            refine sn_iast dX11_land_177 (fun μ177 => ?_)
            refine sn_goto (tgt := 53) dX11_land_178 (by decide) ?_
            exact hnx53 () μ177
          intro j168 hj168
          refine sn_if_ne (tgt := 168) dX11_land_160 (by decide) ?_ ?_
          · exact hj168 () p157.2
          · refine sn_aload_n dX11_land_163 rfl ?_
            refine sn_iconst dX11_land_164 ?_
            refine sn_callVV (vs := [aI 2]) (ci := 11) (cX11_fails_ok n a 2 p157.2) dX11_land_165 cw_X11_142 rfl rfl rfl (by decide) (by decide) (Nat.le_of_ble_eq_true rfl) (fun p165 => ?_)
            exact hj168 () p165.2
        intro j154 hj154
        refine sn_if_eq (tgt := 84) dX11_land_74 (by decide) ?_ ?_
        · refine sn_aload_n dX11_land_84 rfl ?_
          refine sn_iconst dX11_land_85 ?_
          refine sn_callVI (vs := [aI 4]) (ci := 11) (cX11_is_ok n a 4 p71.2) dX11_land_86 cw_X11_136 rfl rfl rfl (by decide) (by decide) (Nat.le_of_ble_eq_true rfl) (fun p86 => ?_)
          refine sn_if_eq (tgt := 99) dX11_land_89 (by decide) ?_ ?_
          · refine sn_aload_n dX11_land_99 rfl ?_
            refine sn_bipush dX11_land_100 (by decide) ?_
            refine sn_callVI (vs := [aI 8]) (ci := 11) (cX11_eats_ok n a 8 p86.2) dX11_land_102 cw_X11_154 rfl rfl rfl (by decide) (by decide) (Nat.le_of_ble_eq_true rfl) (fun p102 => ?_)
            refine sn_if_eq (tgt := 124) dX11_land_105 (by decide) ?_ ?_
            · refine sn_aload_n dX11_land_124 rfl ?_
              refine sn_bipush dX11_land_125 (by decide) ?_
              refine sn_callVI (vs := [aI 9]) (ci := 11) (cX11_eats_ok n a 9 p102.2) dX11_land_127 cw_X11_154 rfl rfl rfl (by decide) (by decide) (Nat.le_of_ble_eq_true rfl) (fun p127 => ?_)
              refine sn_if_eq (tgt := 149) dX11_land_130 (by decide) ?_ ?_
              · refine sn_aload_n dX11_land_149 rfl ?_
                refine sn_iconst dX11_land_150 ?_
                refine sn_callVV (vs := [aI 2]) (ci := 11) (cX11_fails_ok n a 2 p127.2) dX11_land_151 cw_X11_142 rfl rfl rfl (by decide) (by decide) (Nat.le_of_ble_eq_true rfl) (fun p151 => ?_)
                exact hj154 () p151.2
              · refine sn_aload_n dX11_land_133 rfl ?_
                refine sn_getA (ci := 11) (j := 4) dX11_land_134 fl_X11_24 (by decide) (fun x134 => ?_)
                refine sn_iconst dX11_land_137 ?_
                refine sn_aload_n dX11_land_138 rfl ?_
                refine sn_iconst dX11_land_139 ?_
                refine sn_bipush dX11_land_140 (by decide) ?_
                refine sn_callVI (vs := [aI 1, aI 40]) (ci := 11) (cX11_takes_ok n a 1 40 p127.2) dX11_land_142 cw_X11_150 rfl rfl rfl (by decide) (by decide) (Nat.le_of_ble_eq_true rfl) (fun p142 => ?_)
                refine sn_iast dX11_land_145 (fun μ145 => ?_)
                refine sn_goto (tgt := 154) dX11_land_146 (by decide) ?_
                exact hj154 () μ145
            · refine sn_aload_n dX11_land_108 rfl ?_
              refine sn_getA (ci := 11) (j := 4) dX11_land_109 fl_X11_24 (by decide) (fun x109 => ?_)
              refine sn_iconst dX11_land_112 ?_
              refine sn_aload_n dX11_land_113 rfl ?_
              refine sn_iconst dX11_land_114 ?_
              refine sn_bipush dX11_land_115 (by decide) ?_
              refine sn_callVI (vs := [aI 1, aI 9]) (ci := 11) (cX11_takes_ok n a 1 9 p102.2) dX11_land_117 cw_X11_150 rfl rfl rfl (by decide) (by decide) (Nat.le_of_ble_eq_true rfl) (fun p117 => ?_)
              refine sn_iast dX11_land_120 (fun μ120 => ?_)
              refine sn_goto (tgt := 154) dX11_land_121 (by decide) ?_
              exact hj154 () μ120
          · refine sn_aload_n dX11_land_92 rfl ?_
            refine sn_callVV (vs := []) (ci := 11) (cX11_readRope_ok n a p86.2) dX11_land_93 cw_X11_160 rfl rfl rfl (by decide) (by decide) (Nat.le_of_ble_eq_true rfl) (fun p93 => ?_)
            refine sn_goto (tgt := 154) dX11_land_96 (by decide) ?_
            exact hj154 () p93.2
        · refine sn_aload_n dX11_land_77 rfl ?_
          refine sn_callVV (vs := []) (ci := 11) (cX11_readHouse_ok n a p71.2) dX11_land_78 cw_X11_157 rfl rfl rfl (by decide) (by decide) (Nat.le_of_ble_eq_true rfl) (fun p78 => ?_)
          refine sn_goto (tgt := 154) dX11_land_81 (by decide) ?_
          exact hj154 () p78.2
  · refine sn_bipush dX11_land_19 (by decide) ?_
    exact sn_iret dX11_land_21
theorem dX11_waysFrom_0 : decode cX11_waysFrom 0 = .ok (.iload_n 1, 1) := by decide +kernel
theorem dX11_waysFrom_1 : decode cX11_waysFrom 1 = .ok (.aload_n 0, 1) := by decide +kernel
theorem dX11_waysFrom_2 : decode cX11_waysFrom 2 = .ok (.getfield 13, 3) := by decide +kernel
theorem dX11_waysFrom_5 : decode cX11_waysFrom 5 = .ok (.iconst 0, 1) := by decide +kernel
theorem dX11_waysFrom_6 : decode cX11_waysFrom 6 = .ok (.iaload, 1) := by decide +kernel
theorem dX11_waysFrom_7 : decode cX11_waysFrom 7 = .ok (.if_icmp .ne 104, 3) := by decide +kernel
theorem dX11_waysFrom_10 : decode cX11_waysFrom 10 = .ok (.iconst 0, 1) := by decide +kernel
theorem dX11_waysFrom_11 : decode cX11_waysFrom 11 = .ok (.istore_n 3, 1) := by decide +kernel
theorem dX11_waysFrom_12 : decode cX11_waysFrom 12 = .ok (.iconst 0, 1) := by decide +kernel
theorem dX11_waysFrom_13 : decode cX11_waysFrom 13 = .ok (.istore 4, 2) := by decide +kernel
theorem dX11_waysFrom_15 : decode cX11_waysFrom 15 = .ok (.iload 4, 2) := by decide +kernel
theorem dX11_waysFrom_17 : decode cX11_waysFrom 17 = .ok (.aload_n 0, 1) := by decide +kernel
theorem dX11_waysFrom_18 : decode cX11_waysFrom 18 = .ok (.getfield 13, 3) := by decide +kernel
theorem dX11_waysFrom_21 : decode cX11_waysFrom 21 = .ok (.iconst 0, 1) := by decide +kernel
theorem dX11_waysFrom_22 : decode cX11_waysFrom 22 = .ok (.iaload, 1) := by decide +kernel
theorem dX11_waysFrom_23 : decode cX11_waysFrom 23 = .ok (.if_icmp .ge 31, 3) := by decide +kernel
theorem dX11_waysFrom_26 : decode cX11_waysFrom 26 = .ok (.iload_n 3, 1) := by decide +kernel
theorem dX11_waysFrom_27 : decode cX11_waysFrom 27 = .ok (.aload_n 0, 1) := by decide +kernel
theorem dX11_waysFrom_28 : decode cX11_waysFrom 28 = .ok (.getfield 30, 3) := by decide +kernel
theorem dX11_waysFrom_31 : decode cX11_waysFrom 31 = .ok (.iload 4, 2) := by decide +kernel
theorem dX11_waysFrom_33 : decode cX11_waysFrom 33 = .ok (.iaload, 1) := by decide +kernel
theorem dX11_waysFrom_34 : decode cX11_waysFrom 34 = .ok (.iconst (-1), 1) := by decide +kernel
theorem dX11_waysFrom_35 : decode cX11_waysFrom 35 = .ok (.if_icmp .ne 7, 3) := by decide +kernel
theorem dX11_waysFrom_38 : decode cX11_waysFrom 38 = .ok (.iconst 0, 1) := by decide +kernel
theorem dX11_waysFrom_39 : decode cX11_waysFrom 39 = .ok (.goto 7, 3) := by decide +kernel
theorem dX11_waysFrom_42 : decode cX11_waysFrom 42 = .ok (.iconst 1, 1) := by decide +kernel
theorem dX11_waysFrom_43 : decode cX11_waysFrom 43 = .ok (.iload 4, 2) := by decide +kernel
theorem dX11_waysFrom_45 : decode cX11_waysFrom 45 = .ok (.ishl, 1) := by decide +kernel
theorem dX11_waysFrom_46 : decode cX11_waysFrom 46 = .ok (.ior, 1) := by decide +kernel
theorem dX11_waysFrom_47 : decode cX11_waysFrom 47 = .ok (.istore_n 3, 1) := by decide +kernel
theorem dX11_waysFrom_48 : decode cX11_waysFrom 48 = .ok (.iinc 4 1, 3) := by decide +kernel
theorem dX11_waysFrom_51 : decode cX11_waysFrom 51 = .ok (.goto (-36), 3) := by decide +kernel
theorem dX11_waysFrom_54 : decode cX11_waysFrom 54 = .ok (.iconst 0, 1) := by decide +kernel
theorem dX11_waysFrom_55 : decode cX11_waysFrom 55 = .ok (.istore 4, 2) := by decide +kernel
theorem dX11_waysFrom_57 : decode cX11_waysFrom 57 = .ok (.iload 4, 2) := by decide +kernel
theorem dX11_waysFrom_59 : decode cX11_waysFrom 59 = .ok (.aload_n 0, 1) := by decide +kernel
theorem dX11_waysFrom_60 : decode cX11_waysFrom 60 = .ok (.getfield 13, 3) := by decide +kernel
theorem dX11_waysFrom_63 : decode cX11_waysFrom 63 = .ok (.iconst 1, 1) := by decide +kernel
theorem dX11_waysFrom_64 : decode cX11_waysFrom 64 = .ok (.iaload, 1) := by decide +kernel
theorem dX11_waysFrom_65 : decode cX11_waysFrom 65 = .ok (.if_icmp .ge 34, 3) := by decide +kernel
theorem dX11_waysFrom_68 : decode cX11_waysFrom 68 = .ok (.aload_n 0, 1) := by decide +kernel
theorem dX11_waysFrom_69 : decode cX11_waysFrom 69 = .ok (.iload 4, 2) := by decide +kernel
theorem dX11_waysFrom_71 : decode cX11_waysFrom 71 = .ok (.invokevirtual 194, 3) := by decide +kernel
theorem dX11_waysFrom_74 : decode cX11_waysFrom 74 = .ok (.i2l, 1) := by decide +kernel
theorem dX11_waysFrom_75 : decode cX11_waysFrom 75 = .ok (.aload_n 0, 1) := by decide +kernel
theorem dX11_waysFrom_76 : decode cX11_waysFrom 76 = .ok (.getfield 79, 3) := by decide +kernel
theorem dX11_waysFrom_79 : decode cX11_waysFrom 79 = .ok (.bipush 60, 2) := by decide +kernel
theorem dX11_waysFrom_81 : decode cX11_waysFrom 81 = .ok (.iload_n 2, 1) := by decide +kernel
theorem dX11_waysFrom_82 : decode cX11_waysFrom 82 = .ok (.imul, 1) := by decide +kernel
theorem dX11_waysFrom_83 : decode cX11_waysFrom 83 = .ok (.iload 4, 2) := by decide +kernel
theorem dX11_waysFrom_85 : decode cX11_waysFrom 85 = .ok (.iadd, 1) := by decide +kernel
theorem dX11_waysFrom_86 : decode cX11_waysFrom 86 = .ok (.laload, 1) := by decide +kernel
theorem dX11_waysFrom_87 : decode cX11_waysFrom 87 = .ok (.lcmp, 1) := by decide +kernel
theorem dX11_waysFrom_88 : decode cX11_waysFrom 88 = .ok (.ifCond .eq 5, 3) := by decide +kernel
theorem dX11_waysFrom_91 : decode cX11_waysFrom 91 = .ok (.iconst 0, 1) := by decide +kernel
theorem dX11_waysFrom_92 : decode cX11_waysFrom 92 = .ok (.ireturn, 1) := by decide +kernel
theorem dX11_waysFrom_93 : decode cX11_waysFrom 93 = .ok (.iinc 4 1, 3) := by decide +kernel
theorem dX11_waysFrom_96 : decode cX11_waysFrom 96 = .ok (.goto (-39), 3) := by decide +kernel
theorem dX11_waysFrom_99 : decode cX11_waysFrom 99 = .ok (.aload_n 0, 1) := by decide +kernel
theorem dX11_waysFrom_100 : decode cX11_waysFrom 100 = .ok (.dup, 1) := by decide +kernel
theorem dX11_waysFrom_101 : decode cX11_waysFrom 101 = .ok (.getfield 361, 3) := by decide +kernel
theorem dX11_waysFrom_104 : decode cX11_waysFrom 104 = .ok (.iload_n 3, 1) := by decide +kernel
theorem dX11_waysFrom_105 : decode cX11_waysFrom 105 = .ok (.iand, 1) := by decide +kernel
theorem dX11_waysFrom_106 : decode cX11_waysFrom 106 = .ok (.putfield 361, 3) := by decide +kernel
theorem dX11_waysFrom_109 : decode cX11_waysFrom 109 = .ok (.iconst 1, 1) := by decide +kernel
theorem dX11_waysFrom_110 : decode cX11_waysFrom 110 = .ok (.ireturn, 1) := by decide +kernel
theorem dX11_waysFrom_111 : decode cX11_waysFrom 111 = .ok (.iconst 0, 1) := by decide +kernel
theorem dX11_waysFrom_112 : decode cX11_waysFrom 112 = .ok (.istore_n 3, 1) := by decide +kernel
theorem dX11_waysFrom_113 : decode cX11_waysFrom 113 = .ok (.iconst (-1), 1) := by decide +kernel
theorem dX11_waysFrom_114 : decode cX11_waysFrom 114 = .ok (.istore 4, 2) := by decide +kernel
theorem dX11_waysFrom_116 : decode cX11_waysFrom 116 = .ok (.iload 4, 2) := by decide +kernel
theorem dX11_waysFrom_118 : decode cX11_waysFrom 118 = .ok (.aload_n 0, 1) := by decide +kernel
theorem dX11_waysFrom_119 : decode cX11_waysFrom 119 = .ok (.getfield 13, 3) := by decide +kernel
theorem dX11_waysFrom_122 : decode cX11_waysFrom 122 = .ok (.iconst 1, 1) := by decide +kernel
theorem dX11_waysFrom_123 : decode cX11_waysFrom 123 = .ok (.iaload, 1) := by decide +kernel
theorem dX11_waysFrom_124 : decode cX11_waysFrom 124 = .ok (.if_icmp .ge 56, 3) := by decide +kernel
theorem dX11_waysFrom_127 : decode cX11_waysFrom 127 = .ok (.iload 4, 2) := by decide +kernel
theorem dX11_waysFrom_129 : decode cX11_waysFrom 129 = .ok (.iconst (-1), 1) := by decide +kernel
theorem dX11_waysFrom_130 : decode cX11_waysFrom 130 = .ok (.if_icmp .eq 25, 3) := by decide +kernel
theorem dX11_waysFrom_133 : decode cX11_waysFrom 133 = .ok (.aload_n 0, 1) := by decide +kernel
theorem dX11_waysFrom_134 : decode cX11_waysFrom 134 = .ok (.iload_n 1, 1) := by decide +kernel
theorem dX11_waysFrom_135 : decode cX11_waysFrom 135 = .ok (.iload 4, 2) := by decide +kernel
theorem dX11_waysFrom_137 : decode cX11_waysFrom 137 = .ok (.invokevirtual 166, 3) := by decide +kernel
theorem dX11_waysFrom_140 : decode cX11_waysFrom 140 = .ok (.ifCond .eq 34, 3) := by decide +kernel
theorem dX11_waysFrom_143 : decode cX11_waysFrom 143 = .ok (.aload_n 0, 1) := by decide +kernel
theorem dX11_waysFrom_144 : decode cX11_waysFrom 144 = .ok (.iload 4, 2) := by decide +kernel
theorem dX11_waysFrom_146 : decode cX11_waysFrom 146 = .ok (.invokevirtual 191, 3) := by decide +kernel
theorem dX11_waysFrom_149 : decode cX11_waysFrom 149 = .ok (.ifCond .ne 6, 3) := by decide +kernel
theorem dX11_waysFrom_152 : decode cX11_waysFrom 152 = .ok (.goto 22, 3) := by decide +kernel
theorem dX11_waysFrom_155 : decode cX11_waysFrom 155 = .ok (.aload_n 0, 1) := by decide +kernel
theorem dX11_waysFrom_156 : decode cX11_waysFrom 156 = .ok (.getfield 30, 3) := by decide +kernel
theorem dX11_waysFrom_159 : decode cX11_waysFrom 159 = .ok (.iload_n 1, 1) := by decide +kernel
theorem dX11_waysFrom_160 : decode cX11_waysFrom 160 = .ok (.iload 4, 2) := by decide +kernel
theorem dX11_waysFrom_162 : decode cX11_waysFrom 162 = .ok (.iastore, 1) := by decide +kernel
theorem dX11_waysFrom_163 : decode cX11_waysFrom 163 = .ok (.iload_n 3, 1) := by decide +kernel
theorem dX11_waysFrom_164 : decode cX11_waysFrom 164 = .ok (.aload_n 0, 1) := by decide +kernel
theorem dX11_waysFrom_165 : decode cX11_waysFrom 165 = .ok (.iload_n 1, 1) := by decide +kernel
theorem dX11_waysFrom_166 : decode cX11_waysFrom 166 = .ok (.iconst 1, 1) := by decide +kernel
theorem dX11_waysFrom_167 : decode cX11_waysFrom 167 = .ok (.iadd, 1) := by decide +kernel
theorem dX11_waysFrom_168 : decode cX11_waysFrom 168 = .ok (.iload_n 2, 1) := by decide +kernel
theorem dX11_waysFrom_169 : decode cX11_waysFrom 169 = .ok (.invokevirtual 364, 3) := by decide +kernel
theorem dX11_waysFrom_172 : decode cX11_waysFrom 172 = .ok (.iadd, 1) := by decide +kernel
theorem dX11_waysFrom_173 : decode cX11_waysFrom 173 = .ok (.istore_n 3, 1) := by decide +kernel
theorem dX11_waysFrom_174 : decode cX11_waysFrom 174 = .ok (.iinc 4 1, 3) := by decide +kernel
theorem dX11_waysFrom_177 : decode cX11_waysFrom 177 = .ok (.goto (-61), 3) := by decide +kernel
theorem dX11_waysFrom_180 : decode cX11_waysFrom 180 = .ok (.iload_n 3, 1) := by decide +kernel
theorem dX11_waysFrom_181 : decode cX11_waysFrom 181 = .ok (.ireturn, 1) := by decide +kernel
def bX11_waysFrom (n : Nat) (self : Nat × Int × Int → Mem → Option (Int × Mem)) (v : Nat × Int × Int) (μ : Mem) : Option (Int × Mem) :=
  (gA μ 12 v.1 1).bind fun x2 =>
  (ldI μ 0 x2 0).bind fun x6 =>
  if eq32 v.2.1 x6 then
    lp (fun nx15 (v15 : Int × Int) (μ15 : Mem) =>
    (gA μ15 12 v.1 1).bind fun x18 =>
    (ldI μ15 0 x18 0).bind fun x22 =>
    if lt32 v15.2 x22 then
      (gA μ15 12 v.1 15).bind fun x28 =>
      (ldI μ15 0 x28 v15.2).bind fun x33 =>
      jn (fun (v46 : Int) (μ46 : Mem) =>
      nx15 ((oOr v15.1 v46), (v15.2 + 1)) μ46) (fun j46 =>
      if eq32 x33 (-1) then
        j46 0 μ15
      else
      j46 (oShl 1 v15.2) μ15)
    else
    lp (fun nx57 (v57 : Int) (μ57 : Mem) =>
    (gA μ57 12 v.1 1).bind fun x60 =>
    (ldI μ57 0 x60 1).bind fun x64 =>
    if lt32 v57 x64 then
      (inv μ57 12 v.1 (mX11_depthThen n v.1 v57 μ57)).bind fun p71 =>
      (gA p71.2 12 v.1 43).bind fun x76 =>
      (ldI p71.2 3 x76 ((60 * v.2.2) + v57)).bind fun x86 =>
      if eq32 (oLcmp (oI2l p71.1) x86) 0 then
        nx57 (v57 + 1) p71.2
      else
      some (0, p71.2)
    else
    (gI μ57 12 v.1 40).bind fun x101 =>
    (pI μ57 12 v.1 40 (oAnd x101 v15.1)).bind fun μ106 =>
    some (1, μ106)) n 0 μ15) n (0, 0) μ
  else
  lp (fun nx116 (v116 : Int × Int) (μ116 : Mem) =>
  (gA μ116 12 v.1 1).bind fun x119 =>
  (ldI μ116 0 x119 1).bind fun x123 =>
  if lt32 v116.2 x123 then
    jn (fun (v155 : Int) (μ155 : Mem) =>
    (gA μ155 12 v.1 15).bind fun x156 =>
    (stI μ155 0 x156 v.2.1 v155).bind fun μ162 =>
    (inv μ162 12 v.1 (self (v.1, (v.2.1 + 1), v.2.2) μ162)).bind fun p169 =>
    nx116 ((v116.1 + p169.1), (v155 + 1)) p169.2) (fun j155 =>
    if eq32 v116.2 (-1) then
      j155 v116.2 μ116
    else
    (inv μ116 12 v.1 (mX11_isEnd n v.1 v.2.1 v116.2 μ116)).bind fun p137 =>
    if eq32 p137.1 0 then
      nx116 (v116.1, (v116.2 + 1)) p137.2
    else
    (inv p137.2 12 v.1 (mX11_hangs n v.1 v116.2 p137.2)).bind fun p146 =>
    if eq32 p146.1 0 then
      nx116 (v116.1, (v116.2 + 1)) p146.2
    else
    j155 v116.2 p146.2)
  else
  some (v116.1, μ116)) n (0, (-1)) μ
set_option maxRecDepth 100000 in
set_option maxHeartbeats 4000000 in
theorem bX11_waysFrom_ok (n : Nat) (self : Nat × Int × Int → Mem → Option (Int × Mem)) (fs ls : Nat) (hs : ∀ (v : Nat × Int × Int) (μ : Mem), Mc yX11_waysFrom cX11_waysFrom 5 (some .int) fs ls eI [aA v.1, aI v.2.1, aI v.2.2] μ (self v μ)) (v : Nat × Int × Int) (μ : Mem) : Mc yX11_waysFrom cX11_waysFrom 5 (some .int) (fs + 2) (ls + 48) eI [aA v.1, aI v.2.1, aI v.2.2] μ (bX11_waysFrom n self v μ) := by
  refine mc_of (L0 := [some (aA v.1), some (aI v.2.1), some (aI v.2.2), none, none]) (k := 2) (by decide) rfl rfl (fun X Γ => ?_)
  unfold bX11_waysFrom
  refine sn_iload_n dX11_waysFrom_0 rfl ?_
  refine sn_aload_n dX11_waysFrom_1 rfl ?_
  refine sn_getA (ci := 11) (j := 1) dX11_waysFrom_2 fl_X11_13 (by decide) (fun x2 => ?_)
  refine sn_iconst dX11_waysFrom_5 ?_
  refine sn_iald dX11_waysFrom_6 (fun x6 => ?_)
  refine sn_icmp_ne (tgt := 111) dX11_waysFrom_7 (by decide) ?_ ?_
  · refine sn_iconst dX11_waysFrom_111 ?_
    refine sn_istore_n (L' := [some (aA v.1), some (aI v.2.1), some (aI v.2.2), some (aI 0), none]) dX11_waysFrom_112 (by decide) rfl ?_
    refine sn_iconst dX11_waysFrom_113 ?_
    refine sn_istore (L' := [some (aA v.1), some (aI v.2.1), some (aI v.2.2), some (aI 0), some (aI (-1))]) dX11_waysFrom_114 (by decide) rfl ?_
    refine sn_lp (La := fun v116 : Int × Int => [some (aA v.1), some (aI v.2.1), some (aI v.2.2), some (aI v116.1), some (aI v116.2)]) ?_ n (0, (-1)) μ
    intro nx116 hnx116 v116 μ116
    refine sn_iload dX11_waysFrom_116 rfl ?_
    refine sn_aload_n dX11_waysFrom_118 rfl ?_
    refine sn_getA (ci := 11) (j := 1) dX11_waysFrom_119 fl_X11_13 (by decide) (fun x119 => ?_)
    refine sn_iconst dX11_waysFrom_122 ?_
    refine sn_iald dX11_waysFrom_123 (fun x123 => ?_)
    refine sn_icmp_ge (tgt := 180) dX11_waysFrom_124 (by decide) ?_ ?_
    · refine sn_iload_n dX11_waysFrom_180 rfl ?_
      exact sn_iret dX11_waysFrom_181
    · refine sn_iload dX11_waysFrom_127 rfl ?_
      refine sn_iconst dX11_waysFrom_129 ?_
      refine sn_jn (pcj := 155) (La := fun v155 : Int => [some (aA v.1), some (aI v.2.1), some (aI v.2.2), some (aI v116.1), some (aI v155)]) (Sa := fun v155 : Int => []) ?_ ?_
      · intro v155 μ155
        refine sn_aload_n dX11_waysFrom_155 rfl ?_
        refine sn_getA (ci := 11) (j := 15) dX11_waysFrom_156 fl_X11_30 (by decide) (fun x156 => ?_)
        refine sn_iload_n dX11_waysFrom_159 rfl ?_
        refine sn_iload dX11_waysFrom_160 rfl ?_
        refine sn_iast dX11_waysFrom_162 (fun μ162 => ?_)
        refine sn_iload_n dX11_waysFrom_163 rfl ?_
        refine sn_aload_n dX11_waysFrom_164 rfl ?_
        refine sn_iload_n dX11_waysFrom_165 rfl ?_
        refine sn_iconst dX11_waysFrom_166 ?_
        refine sn_iadd dX11_waysFrom_167 ?_
        refine sn_iload_n dX11_waysFrom_168 rfl ?_
        refine sn_callVI (vs := [aI (v.2.1 + 1), aI v.2.2]) (ci := 11) (hs (v.1, (v.2.1 + 1), v.2.2) μ162) dX11_waysFrom_169 cw_X11_364 rfl rfl rfl (by omega) (by omega) (Nat.le_of_ble_eq_true rfl) (fun p169 => ?_)
        refine sn_iadd dX11_waysFrom_172 ?_
        refine sn_istore_n (L' := [some (aA v.1), some (aI v.2.1), some (aI v.2.2), some (aI (v116.1 + p169.1)), some (aI v155)]) dX11_waysFrom_173 (by decide) rfl ?_
        refine sn_iinc (L' := [some (aA v.1), some (aI v.2.1), some (aI v.2.2), some (aI (v116.1 + p169.1)), some (aI (v155 + 1))]) dX11_waysFrom_174 rfl (by decide) rfl ?_
        refine sn_goto (tgt := 116) dX11_waysFrom_177 (by decide) ?_
        exact hnx116 ((v116.1 + p169.1), (v155 + 1)) p169.2
      intro j155 hj155
      refine sn_icmp_eq (tgt := 155) dX11_waysFrom_130 (by decide) ?_ ?_
      · exact hj155 v116.2 μ116
      · refine sn_aload_n dX11_waysFrom_133 rfl ?_
        refine sn_iload_n dX11_waysFrom_134 rfl ?_
        refine sn_iload dX11_waysFrom_135 rfl ?_
        refine sn_callVI (vs := [aI v.2.1, aI v116.2]) (ci := 11) (cX11_isEnd_ok n v.1 v.2.1 v116.2 μ116) dX11_waysFrom_137 cw_X11_166 rfl rfl rfl (by omega) (by omega) (Nat.le_of_ble_eq_true rfl) (fun p137 => ?_)
        refine sn_if_eq (tgt := 174) dX11_waysFrom_140 (by decide) ?_ ?_
        · refine sn_iinc (L' := [some (aA v.1), some (aI v.2.1), some (aI v.2.2), some (aI v116.1), some (aI (v116.2 + 1))]) dX11_waysFrom_174 rfl (by decide) rfl ?_
          refine sn_goto (tgt := 116) dX11_waysFrom_177 (by decide) ?_
          exact hnx116 (v116.1, (v116.2 + 1)) p137.2
        · refine sn_aload_n dX11_waysFrom_143 rfl ?_
          refine sn_iload dX11_waysFrom_144 rfl ?_
          refine sn_callVI (vs := [aI v116.2]) (ci := 11) (cX11_hangs_ok n v.1 v116.2 p137.2) dX11_waysFrom_146 cw_X11_191 rfl rfl rfl (by omega) (by omega) (Nat.le_of_ble_eq_true rfl) (fun p146 => ?_)
          refine sn_if_ne (tgt := 155) dX11_waysFrom_149 (by decide) ?_ ?_
          · exact hj155 v116.2 p146.2
          · refine sn_goto (tgt := 174) dX11_waysFrom_152 (by decide) ?_
            refine sn_iinc (L' := [some (aA v.1), some (aI v.2.1), some (aI v.2.2), some (aI v116.1), some (aI (v116.2 + 1))]) dX11_waysFrom_174 rfl (by decide) rfl ?_
            refine sn_goto (tgt := 116) dX11_waysFrom_177 (by decide) ?_
            exact hnx116 (v116.1, (v116.2 + 1)) p146.2
  · refine sn_iconst dX11_waysFrom_10 ?_
    refine sn_istore_n (L' := [some (aA v.1), some (aI v.2.1), some (aI v.2.2), some (aI 0), none]) dX11_waysFrom_11 (by decide) rfl ?_
    refine sn_iconst dX11_waysFrom_12 ?_
    refine sn_istore (L' := [some (aA v.1), some (aI v.2.1), some (aI v.2.2), some (aI 0), some (aI 0)]) dX11_waysFrom_13 (by decide) rfl ?_
    refine sn_mask (L' := [some (aA v.1), none, some (aI v.2.2), some (aI 0), some (aI 0)]) [true, false, true, true, true] rfl ?_
    refine sn_lp (La := fun v15 : Int × Int => [some (aA v.1), none, some (aI v.2.2), some (aI v15.1), some (aI v15.2)]) ?_ n (0, 0) μ
    intro nx15 hnx15 v15 μ15
    refine sn_iload dX11_waysFrom_15 rfl ?_
    refine sn_aload_n dX11_waysFrom_17 rfl ?_
    refine sn_getA (ci := 11) (j := 1) dX11_waysFrom_18 fl_X11_13 (by decide) (fun x18 => ?_)
    refine sn_iconst dX11_waysFrom_21 ?_
    refine sn_iald dX11_waysFrom_22 (fun x22 => ?_)
    refine sn_icmp_ge (tgt := 54) dX11_waysFrom_23 (by decide) ?_ ?_
    · refine sn_iconst dX11_waysFrom_54 ?_
      refine sn_istore (L' := [some (aA v.1), none, some (aI v.2.2), some (aI v15.1), some (aI 0)]) dX11_waysFrom_55 (by decide) rfl ?_
      refine sn_lp (La := fun v57 : Int => [some (aA v.1), none, some (aI v.2.2), some (aI v15.1), some (aI v57)]) ?_ n 0 μ15
      intro nx57 hnx57 v57 μ57
      refine sn_iload dX11_waysFrom_57 rfl ?_
      refine sn_aload_n dX11_waysFrom_59 rfl ?_
      refine sn_getA (ci := 11) (j := 1) dX11_waysFrom_60 fl_X11_13 (by decide) (fun x60 => ?_)
      refine sn_iconst dX11_waysFrom_63 ?_
      refine sn_iald dX11_waysFrom_64 (fun x64 => ?_)
      refine sn_icmp_ge (tgt := 99) dX11_waysFrom_65 (by decide) ?_ ?_
      · refine sn_aload_n dX11_waysFrom_99 rfl ?_
        refine sn_dup dX11_waysFrom_100 rfl ?_
        refine sn_getI (ci := 11) (j := 40) dX11_waysFrom_101 fl_X11_361 rfl (fun x101 => ?_)
        refine sn_iload_n dX11_waysFrom_104 rfl ?_
        refine sn_iand dX11_waysFrom_105 ?_
        refine sn_putI (ci := 11) (j := 40) dX11_waysFrom_106 fl_X11_361 rfl (fun q h => by cases h; rfl) (fun μ106 => ?_)
        refine sn_iconst dX11_waysFrom_109 ?_
        exact sn_iret dX11_waysFrom_110
      · refine sn_aload_n dX11_waysFrom_68 rfl ?_
        refine sn_iload dX11_waysFrom_69 rfl ?_
        refine sn_callVI (vs := [aI v57]) (ci := 11) (cX11_depthThen_ok n v.1 v57 μ57) dX11_waysFrom_71 cw_X11_194 rfl rfl rfl (by omega) (by omega) (Nat.le_of_ble_eq_true rfl) (fun p71 => ?_)
        refine sn_i2l dX11_waysFrom_74 ?_
        refine sn_aload_n dX11_waysFrom_75 rfl ?_
        refine sn_getA (ci := 11) (j := 43) dX11_waysFrom_76 fl_X11_79 (by decide) (fun x76 => ?_)
        refine sn_bipush dX11_waysFrom_79 (by decide) ?_
        refine sn_iload_n dX11_waysFrom_81 rfl ?_
        refine sn_imul dX11_waysFrom_82 ?_
        refine sn_iload dX11_waysFrom_83 rfl ?_
        refine sn_iadd dX11_waysFrom_85 ?_
        refine sn_lald dX11_waysFrom_86 (fun x86 => ?_)
        refine sn_lcmp dX11_waysFrom_87 ?_
        refine sn_if_eq (tgt := 93) dX11_waysFrom_88 (by decide) ?_ ?_
        · refine sn_iinc (L' := [some (aA v.1), none, some (aI v.2.2), some (aI v15.1), some (aI (v57 + 1))]) dX11_waysFrom_93 rfl (by decide) rfl ?_
          refine sn_goto (tgt := 57) dX11_waysFrom_96 (by decide) ?_
          exact hnx57 (v57 + 1) p71.2
        · refine sn_iconst dX11_waysFrom_91 ?_
          exact sn_iret dX11_waysFrom_92
    · refine sn_iload_n dX11_waysFrom_26 rfl ?_
      refine sn_aload_n dX11_waysFrom_27 rfl ?_
      refine sn_getA (ci := 11) (j := 15) dX11_waysFrom_28 fl_X11_30 (by decide) (fun x28 => ?_)
      refine sn_iload dX11_waysFrom_31 rfl ?_
      refine sn_iald dX11_waysFrom_33 (fun x33 => ?_)
      refine sn_iconst dX11_waysFrom_34 ?_
      refine sn_jn (pcj := 46) (La := fun v46 : Int => [some (aA v.1), none, some (aI v.2.2), none, some (aI v15.2)]) (Sa := fun v46 : Int => [aI v46, aI v15.1]) ?_ ?_
      · intro v46 μ46
        refine sn_ior dX11_waysFrom_46 ?_
        refine sn_istore_n (L' := [some (aA v.1), none, some (aI v.2.2), some (aI (oOr v15.1 v46)), some (aI v15.2)]) dX11_waysFrom_47 (by decide) rfl ?_
        refine sn_iinc (L' := [some (aA v.1), none, some (aI v.2.2), some (aI (oOr v15.1 v46)), some (aI (v15.2 + 1))]) dX11_waysFrom_48 rfl (by decide) rfl ?_
        refine sn_goto (tgt := 15) dX11_waysFrom_51 (by decide) ?_
        exact hnx15 ((oOr v15.1 v46), (v15.2 + 1)) μ46
      intro j46 hj46
      refine sn_icmp_ne (tgt := 42) dX11_waysFrom_35 (by decide) ?_ ?_
      · refine sn_iconst dX11_waysFrom_42 ?_
        refine sn_iload dX11_waysFrom_43 rfl ?_
        refine sn_ishl dX11_waysFrom_45 ?_
        exact sn_mask (L' := [some (aA v.1), none, some (aI v.2.2), none, some (aI v15.2)]) [true, false, true, false, true] rfl (hj46 (oShl 1 v15.2) μ15)
      · refine sn_iconst dX11_waysFrom_38 ?_
        refine sn_goto (tgt := 46) dX11_waysFrom_39 (by decide) ?_
        exact sn_mask (L' := [some (aA v.1), none, some (aI v.2.2), none, some (aI v15.2)]) [true, false, true, false, true] rfl (hj46 0 μ15)
def rX11_waysFrom (n : Nat) : Nat → Nat × Int × Int → Mem → Option (Int × Mem) := lp (bX11_waysFrom n)
theorem rX11_waysFrom_ok (n : Nat) : ∀ (d : Nat) (v : Nat × Int × Int) (μ : Mem), Mc yX11_waysFrom cX11_waysFrom 5 (some .int) (2 * d) (48 * d) eI [aA v.1, aI v.2.1, aI v.2.2] μ (rX11_waysFrom n d v μ)
  | 0, v, μ => fun r μ' h => by cases h
  | d + 1, v, μ => bX11_waysFrom_ok n (rX11_waysFrom n d) (2 * d) (48 * d) (rX11_waysFrom_ok n d) v μ
def mX11_waysFrom (n : Nat) (a : Nat) (b1 : Int) (b2 : Int) (μ : Mem) : Option (Int × Mem) := rX11_waysFrom n 12 (a, b1, b2) μ
theorem cX11_waysFrom_ok (n : Nat) (a : Nat) (b1 : Int) (b2 : Int) (μ : Mem) : Mc yX11_waysFrom cX11_waysFrom 5 (some .int) 24 576 eI [aA a, aI b1, aI b2] μ (mX11_waysFrom n a b1 b2 μ) := rX11_waysFrom_ok n 12 (a, b1, b2) μ
theorem dX11_laysSeen_0 : decode cX11_laysSeen 0 = .ok (.aload_n 0, 1) := by decide +kernel
theorem dX11_laysSeen_1 : decode cX11_laysSeen 1 = .ok (.invokevirtual 200, 3) := by decide +kernel
theorem dX11_laysSeen_4 : decode cX11_laysSeen 4 = .ok (.aload_n 0, 1) := by decide +kernel
theorem dX11_laysSeen_5 : decode cX11_laysSeen 5 = .ok (.iconst 1, 1) := by decide +kernel
theorem dX11_laysSeen_6 : decode cX11_laysSeen 6 = .ok (.aload_n 0, 1) := by decide +kernel
theorem dX11_laysSeen_7 : decode cX11_laysSeen 7 = .ok (.getfield 13, 3) := by decide +kernel
theorem dX11_laysSeen_10 : decode cX11_laysSeen 10 = .ok (.iconst 0, 1) := by decide +kernel
theorem dX11_laysSeen_11 : decode cX11_laysSeen 11 = .ok (.iaload, 1) := by decide +kernel
theorem dX11_laysSeen_12 : decode cX11_laysSeen 12 = .ok (.ishl, 1) := by decide +kernel
theorem dX11_laysSeen_13 : decode cX11_laysSeen 13 = .ok (.iconst 1, 1) := by decide +kernel
theorem dX11_laysSeen_14 : decode cX11_laysSeen 14 = .ok (.isub, 1) := by decide +kernel
theorem dX11_laysSeen_15 : decode cX11_laysSeen 15 = .ok (.putfield 361, 3) := by decide +kernel
theorem dX11_laysSeen_18 : decode cX11_laysSeen 18 = .ok (.aload_n 0, 1) := by decide +kernel
theorem dX11_laysSeen_19 : decode cX11_laysSeen 19 = .ok (.iconst 0, 1) := by decide +kernel
theorem dX11_laysSeen_20 : decode cX11_laysSeen 20 = .ok (.iload_n 1, 1) := by decide +kernel
theorem dX11_laysSeen_21 : decode cX11_laysSeen 21 = .ok (.invokevirtual 364, 3) := by decide +kernel
theorem dX11_laysSeen_24 : decode cX11_laysSeen 24 = .ok (.ireturn, 1) := by decide +kernel
def mX11_laysSeen (n : Nat) (a : Nat) (b1 : Int) (μ : Mem) : Option (Int × Mem) :=
  (inv μ 12 a (mX11_nobody n a μ)).bind fun p1 =>
  (gA p1.2 12 a 1).bind fun x7 =>
  (ldI p1.2 0 x7 0).bind fun x11 =>
  (pI p1.2 12 a 40 ((oShl 1 x11) - 1)).bind fun μ15 =>
  (inv μ15 12 a (mX11_waysFrom n a 0 b1 μ15)).bind fun p21 =>
  some (p21.1, p21.2)
set_option maxRecDepth 100000 in
set_option maxHeartbeats 4000000 in
theorem cX11_laysSeen_ok (n : Nat) (a : Nat) (b1 : Int) (μ : Mem) : Mc yX11_laysSeen cX11_laysSeen 2 (some .int) 25 600 eI [aA a, aI b1] μ (mX11_laysSeen n a b1 μ) := by
  refine mc_of (L0 := [some (aA a), some (aI b1)]) (k := 0) (by decide) rfl rfl (fun X Γ => ?_)
  unfold mX11_laysSeen
  refine sn_aload_n dX11_laysSeen_0 rfl ?_
  refine sn_callVV (vs := []) (ci := 11) (cX11_nobody_ok n a μ) dX11_laysSeen_1 cw_X11_200 rfl rfl rfl (by decide) (by decide) (Nat.le_of_ble_eq_true rfl) (fun p1 => ?_)
  refine sn_aload_n dX11_laysSeen_4 rfl ?_
  refine sn_iconst dX11_laysSeen_5 ?_
  refine sn_aload_n dX11_laysSeen_6 rfl ?_
  refine sn_getA (ci := 11) (j := 1) dX11_laysSeen_7 fl_X11_13 (by decide) (fun x7 => ?_)
  refine sn_iconst dX11_laysSeen_10 ?_
  refine sn_iald dX11_laysSeen_11 (fun x11 => ?_)
  refine sn_ishl dX11_laysSeen_12 ?_
  refine sn_iconst dX11_laysSeen_13 ?_
  refine sn_isub dX11_laysSeen_14 ?_
  refine sn_putI (ci := 11) (j := 40) dX11_laysSeen_15 fl_X11_361 rfl (fun q h => by cases h; rfl) (fun μ15 => ?_)
  refine sn_aload_n dX11_laysSeen_18 rfl ?_
  refine sn_iconst dX11_laysSeen_19 ?_
  refine sn_iload_n dX11_laysSeen_20 rfl ?_
  refine sn_callVI (vs := [aI 0, aI b1]) (ci := 11) (cX11_waysFrom_ok n a 0 b1 μ15) dX11_laysSeen_21 cw_X11_364 rfl rfl rfl (by decide) (by decide) (Nat.le_of_ble_eq_true rfl) (fun p21 => ?_)
  exact sn_iret dX11_laysSeen_24
theorem dX11_lifts_0 : decode cX11_lifts 0 = .ok (.aload_n 0, 1) := by decide +kernel
theorem dX11_lifts_1 : decode cX11_lifts 1 = .ok (.iconst 0, 1) := by decide +kernel
theorem dX11_lifts_2 : decode cX11_lifts 2 = .ok (.putfield 1, 3) := by decide +kernel
theorem dX11_lifts_5 : decode cX11_lifts 5 = .ok (.aload_n 0, 1) := by decide +kernel
theorem dX11_lifts_6 : decode cX11_lifts 6 = .ok (.iload_n 1, 1) := by decide +kernel
theorem dX11_lifts_7 : decode cX11_lifts 7 = .ok (.i2l, 1) := by decide +kernel
theorem dX11_lifts_8 : decode cX11_lifts 8 = .ok (.invokevirtual 170, 3) := by decide +kernel
theorem dX11_lifts_11 : decode cX11_lifts 11 = .ok (.ifCond .eq 21, 3) := by decide +kernel
theorem dX11_lifts_14 : decode cX11_lifts 14 = .ok (.aload_n 0, 1) := by decide +kernel
theorem dX11_lifts_15 : decode cX11_lifts 15 = .ok (.iload_n 2, 1) := by decide +kernel
theorem dX11_lifts_16 : decode cX11_lifts 16 = .ok (.i2l, 1) := by decide +kernel
theorem dX11_lifts_17 : decode cX11_lifts 17 = .ok (.invokevirtual 179, 3) := by decide +kernel
theorem dX11_lifts_20 : decode cX11_lifts 20 = .ok (.ifCond .eq 12, 3) := by decide +kernel
theorem dX11_lifts_23 : decode cX11_lifts 23 = .ok (.aload_n 0, 1) := by decide +kernel
theorem dX11_lifts_24 : decode cX11_lifts 24 = .ok (.iload_n 1, 1) := by decide +kernel
theorem dX11_lifts_25 : decode cX11_lifts 25 = .ok (.iload_n 2, 1) := by decide +kernel
theorem dX11_lifts_26 : decode cX11_lifts 26 = .ok (.invokevirtual 166, 3) := by decide +kernel
theorem dX11_lifts_29 : decode cX11_lifts 29 = .ok (.ifCond .ne 6, 3) := by decide +kernel
theorem dX11_lifts_32 : decode cX11_lifts 32 = .ok (.bipush (-2), 2) := by decide +kernel
theorem dX11_lifts_34 : decode cX11_lifts 34 = .ok (.ireturn, 1) := by decide +kernel
theorem dX11_lifts_35 : decode cX11_lifts 35 = .ok (.aload_n 0, 1) := by decide +kernel
theorem dX11_lifts_36 : decode cX11_lifts 36 = .ok (.iload_n 2, 1) := by decide +kernel
theorem dX11_lifts_37 : decode cX11_lifts 37 = .ok (.invokevirtual 191, 3) := by decide +kernel
theorem dX11_lifts_40 : decode cX11_lifts 40 = .ok (.ifCond .ne 6, 3) := by decide +kernel
theorem dX11_lifts_43 : decode cX11_lifts 43 = .ok (.bipush (-5), 2) := by decide +kernel
theorem dX11_lifts_45 : decode cX11_lifts 45 = .ok (.ireturn, 1) := by decide +kernel
theorem dX11_lifts_46 : decode cX11_lifts 46 = .ok (.aload_n 0, 1) := by decide +kernel
theorem dX11_lifts_47 : decode cX11_lifts 47 = .ok (.getfield 13, 3) := by decide +kernel
theorem dX11_lifts_50 : decode cX11_lifts 50 = .ok (.bipush 76, 2) := by decide +kernel
theorem dX11_lifts_52 : decode cX11_lifts 52 = .ok (.iload_n 2, 1) := by decide +kernel
theorem dX11_lifts_53 : decode cX11_lifts 53 = .ok (.iadd, 1) := by decide +kernel
theorem dX11_lifts_54 : decode cX11_lifts 54 = .ok (.iaload, 1) := by decide +kernel
theorem dX11_lifts_55 : decode cX11_lifts 55 = .ok (.iload_n 1, 1) := by decide +kernel
theorem dX11_lifts_56 : decode cX11_lifts 56 = .ok (.if_icmp .ne 7, 3) := by decide +kernel
theorem dX11_lifts_59 : decode cX11_lifts 59 = .ok (.iconst 0, 1) := by decide +kernel
theorem dX11_lifts_60 : decode cX11_lifts 60 = .ok (.goto 4, 3) := by decide +kernel
theorem dX11_lifts_63 : decode cX11_lifts 63 = .ok (.iconst 1, 1) := by decide +kernel
theorem dX11_lifts_64 : decode cX11_lifts 64 = .ok (.istore_n 3, 1) := by decide +kernel
theorem dX11_lifts_65 : decode cX11_lifts 65 = .ok (.aload_n 0, 1) := by decide +kernel
theorem dX11_lifts_66 : decode cX11_lifts 66 = .ok (.iload_n 2, 1) := by decide +kernel
theorem dX11_lifts_67 : decode cX11_lifts 67 = .ok (.iload_n 3, 1) := by decide +kernel
theorem dX11_lifts_68 : decode cX11_lifts 68 = .ok (.invokevirtual 182, 3) := by decide +kernel
theorem dX11_lifts_71 : decode cX11_lifts 71 = .ok (.ifCond .le 34, 3) := by decide +kernel
theorem dX11_lifts_74 : decode cX11_lifts 74 = .ok (.aload_n 0, 1) := by decide +kernel
theorem dX11_lifts_75 : decode cX11_lifts 75 = .ok (.iload_n 2, 1) := by decide +kernel
theorem dX11_lifts_76 : decode cX11_lifts 76 = .ok (.iconst 1, 1) := by decide +kernel
theorem dX11_lifts_77 : decode cX11_lifts 77 = .ok (.iload_n 3, 1) := by decide +kernel
theorem dX11_lifts_78 : decode cX11_lifts 78 = .ok (.isub, 1) := by decide +kernel
theorem dX11_lifts_79 : decode cX11_lifts 79 = .ok (.invokevirtual 185, 3) := by decide +kernel
theorem dX11_lifts_82 : decode cX11_lifts 82 = .ok (.aload_n 0, 1) := by decide +kernel
theorem dX11_lifts_83 : decode cX11_lifts 83 = .ok (.getfield 13, 3) := by decide +kernel
theorem dX11_lifts_86 : decode cX11_lifts 86 = .ok (.bipush 6, 2) := by decide +kernel
theorem dX11_lifts_88 : decode cX11_lifts 88 = .ok (.iload_n 1, 1) := by decide +kernel
theorem dX11_lifts_89 : decode cX11_lifts 89 = .ok (.iadd, 1) := by decide +kernel
theorem dX11_lifts_90 : decode cX11_lifts 90 = .ok (.iaload, 1) := by decide +kernel
theorem dX11_lifts_91 : decode cX11_lifts 91 = .ok (.iadd, 1) := by decide +kernel
theorem dX11_lifts_92 : decode cX11_lifts 92 = .ok (.aload_n 0, 1) := by decide +kernel
theorem dX11_lifts_93 : decode cX11_lifts 93 = .ok (.iload_n 2, 1) := by decide +kernel
theorem dX11_lifts_94 : decode cX11_lifts 94 = .ok (.iload_n 3, 1) := by decide +kernel
theorem dX11_lifts_95 : decode cX11_lifts 95 = .ok (.invokevirtual 185, 3) := by decide +kernel
theorem dX11_lifts_98 : decode cX11_lifts 98 = .ok (.if_icmp .le 7, 3) := by decide +kernel
theorem dX11_lifts_101 : decode cX11_lifts 101 = .ok (.iconst 1, 1) := by decide +kernel
theorem dX11_lifts_102 : decode cX11_lifts 102 = .ok (.goto 4, 3) := by decide +kernel
theorem dX11_lifts_105 : decode cX11_lifts 105 = .ok (.iconst 0, 1) := by decide +kernel
theorem dX11_lifts_106 : decode cX11_lifts 106 = .ok (.ireturn, 1) := by decide +kernel
def mX11_lifts (n : Nat) (a : Nat) (b1 : Int) (b2 : Int) (μ : Mem) : Option (Int × Mem) :=
  (pI μ 12 a 0 0).bind fun μ2 =>
  (inv μ2 12 a (mX11_isHouse n a (oI2l b1) μ2)).bind fun p8 =>
  if eq32 p8.1 0 then
    some ((-2), p8.2)
  else
  (inv p8.2 12 a (mX11_isRope n a (oI2l b2) p8.2)).bind fun p17 =>
  if eq32 p17.1 0 then
    some ((-2), p17.2)
  else
  (inv p17.2 12 a (mX11_isEnd n a b1 b2 p17.2)).bind fun p26 =>
  if eq32 p26.1 0 then
    some ((-2), p26.2)
  else
  (inv p26.2 12 a (mX11_hangs n a b2 p26.2)).bind fun p37 =>
  if eq32 p37.1 0 then
    some ((-5), p37.2)
  else
  (gA p37.2 12 a 1).bind fun x47 =>
  (ldI p37.2 0 x47 (76 + b2)).bind fun x54 =>
  jn (fun (v64 : Int) (μ64 : Mem) =>
  (inv μ64 12 a (mX11_depth n a b2 v64 μ64)).bind fun p68 =>
  if lt32 0 p68.1 then
    (inv p68.2 12 a (mX11_weight n a b2 (1 - v64) p68.2)).bind fun p79 =>
    (gA p79.2 12 a 1).bind fun x83 =>
    (ldI p79.2 0 x83 (6 + b1)).bind fun x90 =>
    (inv p79.2 12 a (mX11_weight n a b2 v64 p79.2)).bind fun p95 =>
    if lt32 p95.1 (p79.1 + x90) then
      some (1, p95.2)
    else
    some (0, p95.2)
  else
  some (0, p68.2)) (fun j64 =>
  if eq32 x54 b1 then
    j64 0 p37.2
  else
  j64 1 p37.2)
set_option maxRecDepth 100000 in
set_option maxHeartbeats 4000000 in
theorem cX11_lifts_ok (n : Nat) (a : Nat) (b1 : Int) (b2 : Int) (μ : Mem) : Mc yX11_lifts cX11_lifts 4 (some .int) 2 47 eI [aA a, aI b1, aI b2] μ (mX11_lifts n a b1 b2 μ) := by
  refine mc_of (L0 := [some (aA a), some (aI b1), some (aI b2), none]) (k := 1) (by decide) rfl rfl (fun X Γ => ?_)
  unfold mX11_lifts
  refine sn_aload_n dX11_lifts_0 rfl ?_
  refine sn_iconst dX11_lifts_1 ?_
  refine sn_putI (ci := 11) (j := 0) dX11_lifts_2 fl_X11_1 rfl (fun q h => by cases h; rfl) (fun μ2 => ?_)
  refine sn_aload_n dX11_lifts_5 rfl ?_
  refine sn_iload_n dX11_lifts_6 rfl ?_
  refine sn_i2l dX11_lifts_7 ?_
  refine sn_callVI (vs := [aJ (oI2l b1)]) (ci := 11) (cX11_isHouse_ok n a (oI2l b1) μ2) dX11_lifts_8 cw_X11_170 rfl rfl rfl (by decide) (by decide) (Nat.le_of_ble_eq_true rfl) (fun p8 => ?_)
  refine sn_if_eq (tgt := 32) dX11_lifts_11 (by decide) ?_ ?_
  · refine sn_bipush dX11_lifts_32 (by decide) ?_
    exact sn_iret dX11_lifts_34
  · refine sn_aload_n dX11_lifts_14 rfl ?_
    refine sn_iload_n dX11_lifts_15 rfl ?_
    refine sn_i2l dX11_lifts_16 ?_
    refine sn_callVI (vs := [aJ (oI2l b2)]) (ci := 11) (cX11_isRope_ok n a (oI2l b2) p8.2) dX11_lifts_17 cw_X11_179 rfl rfl rfl (by decide) (by decide) (Nat.le_of_ble_eq_true rfl) (fun p17 => ?_)
    refine sn_if_eq (tgt := 32) dX11_lifts_20 (by decide) ?_ ?_
    · refine sn_bipush dX11_lifts_32 (by decide) ?_
      exact sn_iret dX11_lifts_34
    · refine sn_aload_n dX11_lifts_23 rfl ?_
      refine sn_iload_n dX11_lifts_24 rfl ?_
      refine sn_iload_n dX11_lifts_25 rfl ?_
      refine sn_callVI (vs := [aI b1, aI b2]) (ci := 11) (cX11_isEnd_ok n a b1 b2 p17.2) dX11_lifts_26 cw_X11_166 rfl rfl rfl (by decide) (by decide) (Nat.le_of_ble_eq_true rfl) (fun p26 => ?_)
      refine sn_if_ne (tgt := 35) dX11_lifts_29 (by decide) ?_ ?_
      · refine sn_aload_n dX11_lifts_35 rfl ?_
        refine sn_iload_n dX11_lifts_36 rfl ?_
        refine sn_callVI (vs := [aI b2]) (ci := 11) (cX11_hangs_ok n a b2 p26.2) dX11_lifts_37 cw_X11_191 rfl rfl rfl (by decide) (by decide) (Nat.le_of_ble_eq_true rfl) (fun p37 => ?_)
        refine sn_if_ne (tgt := 46) dX11_lifts_40 (by decide) ?_ ?_
        · refine sn_aload_n dX11_lifts_46 rfl ?_
          refine sn_getA (ci := 11) (j := 1) dX11_lifts_47 fl_X11_13 (by decide) (fun x47 => ?_)
          refine sn_bipush dX11_lifts_50 (by decide) ?_
          refine sn_iload_n dX11_lifts_52 rfl ?_
          refine sn_iadd dX11_lifts_53 ?_
          refine sn_iald dX11_lifts_54 (fun x54 => ?_)
          refine sn_iload_n dX11_lifts_55 rfl ?_
          refine sn_jn (pcj := 64) (La := fun v64 : Int => [some (aA a), some (aI b1), some (aI b2), none]) (Sa := fun v64 : Int => [aI v64]) ?_ ?_
          · intro v64 μ64
            refine sn_istore_n (L' := [some (aA a), some (aI b1), some (aI b2), some (aI v64)]) dX11_lifts_64 (by decide) rfl ?_
            refine sn_aload_n dX11_lifts_65 rfl ?_
            refine sn_iload_n dX11_lifts_66 rfl ?_
            refine sn_iload_n dX11_lifts_67 rfl ?_
            refine sn_callVI (vs := [aI b2, aI v64]) (ci := 11) (cX11_depth_ok n a b2 v64 μ64) dX11_lifts_68 cw_X11_182 rfl rfl rfl (by decide) (by decide) (Nat.le_of_ble_eq_true rfl) (fun p68 => ?_)
            refine sn_if_le (tgt := 105) dX11_lifts_71 (by decide) ?_ ?_
            · refine sn_iconst dX11_lifts_105 ?_
              exact sn_iret dX11_lifts_106
            · refine sn_aload_n dX11_lifts_74 rfl ?_
              refine sn_iload_n dX11_lifts_75 rfl ?_
              refine sn_iconst dX11_lifts_76 ?_
              refine sn_iload_n dX11_lifts_77 rfl ?_
              refine sn_isub dX11_lifts_78 ?_
              refine sn_callVI (vs := [aI b2, aI (1 - v64)]) (ci := 11) (cX11_weight_ok n a b2 (1 - v64) p68.2) dX11_lifts_79 cw_X11_185 rfl rfl rfl (by decide) (by decide) (Nat.le_of_ble_eq_true rfl) (fun p79 => ?_)
              refine sn_aload_n dX11_lifts_82 rfl ?_
              refine sn_getA (ci := 11) (j := 1) dX11_lifts_83 fl_X11_13 (by decide) (fun x83 => ?_)
              refine sn_bipush dX11_lifts_86 (by decide) ?_
              refine sn_iload_n dX11_lifts_88 rfl ?_
              refine sn_iadd dX11_lifts_89 ?_
              refine sn_iald dX11_lifts_90 (fun x90 => ?_)
              refine sn_iadd dX11_lifts_91 ?_
              refine sn_aload_n dX11_lifts_92 rfl ?_
              refine sn_iload_n dX11_lifts_93 rfl ?_
              refine sn_iload_n dX11_lifts_94 rfl ?_
              refine sn_callVI (vs := [aI b2, aI v64]) (ci := 11) (cX11_weight_ok n a b2 v64 p79.2) dX11_lifts_95 cw_X11_185 rfl rfl rfl (by decide) (by decide) (Nat.le_of_ble_eq_true rfl) (fun p95 => ?_)
              refine sn_icmp_le (tgt := 105) dX11_lifts_98 (by decide) ?_ ?_
              · refine sn_iconst dX11_lifts_105 ?_
                exact sn_iret dX11_lifts_106
              · refine sn_iconst dX11_lifts_101 ?_
                refine sn_goto (tgt := 106) dX11_lifts_102 (by decide) ?_
                exact sn_iret dX11_lifts_106
          intro j64 hj64
          refine sn_icmp_ne (tgt := 63) dX11_lifts_56 (by decide) ?_ ?_
          · refine sn_iconst dX11_lifts_63 ?_
            exact hj64 1 p37.2
          · refine sn_iconst dX11_lifts_59 ?_
            refine sn_goto (tgt := 64) dX11_lifts_60 (by decide) ?_
            exact hj64 0 p37.2
        · refine sn_bipush dX11_lifts_43 (by decide) ?_
          exact sn_iret dX11_lifts_45
      · refine sn_bipush dX11_lifts_32 (by decide) ?_
        exact sn_iret dX11_lifts_34
theorem dX11_live_0 : decode cX11_live 0 = .ok (.aload_n 0, 1) := by decide +kernel
theorem dX11_live_1 : decode cX11_live 1 = .ok (.iconst 0, 1) := by decide +kernel
theorem dX11_live_2 : decode cX11_live 2 = .ok (.putfield 1, 3) := by decide +kernel
theorem dX11_live_5 : decode cX11_live 5 = .ok (.iload_n 1, 1) := by decide +kernel
theorem dX11_live_6 : decode cX11_live 6 = .ok (.i2l, 1) := by decide +kernel
theorem dX11_live_7 : decode cX11_live 7 = .ok (.lconst 1, 1) := by decide +kernel
theorem dX11_live_8 : decode cX11_live 8 = .ok (.ldc2_w 247, 3) := by decide +kernel
theorem dX11_live_11 : decode cX11_live 11 = .ok (.invokestatic 146, 3) := by decide +kernel
theorem dX11_live_14 : decode cX11_live 14 = .ok (.ifCond .ne 6, 3) := by decide +kernel
theorem dX11_live_17 : decode cX11_live 17 = .ok (.bipush (-3), 2) := by decide +kernel
theorem dX11_live_19 : decode cX11_live 19 = .ok (.ireturn, 1) := by decide +kernel
theorem dX11_live_20 : decode cX11_live 20 = .ok (.aload_n 0, 1) := by decide +kernel
theorem dX11_live_21 : decode cX11_live 21 = .ok (.getfield 13, 3) := by decide +kernel
theorem dX11_live_24 : decode cX11_live 24 = .ok (.iconst 2, 1) := by decide +kernel
theorem dX11_live_25 : decode cX11_live 25 = .ok (.iaload, 1) := by decide +kernel
theorem dX11_live_26 : decode cX11_live 26 = .ok (.iload_n 1, 1) := by decide +kernel
theorem dX11_live_27 : decode cX11_live 27 = .ok (.iadd, 1) := by decide +kernel
theorem dX11_live_28 : decode cX11_live 28 = .ok (.sipush 9999, 3) := by decide +kernel
theorem dX11_live_31 : decode cX11_live 31 = .ok (.if_icmp .le 8, 3) := by decide +kernel
theorem dX11_live_34 : decode cX11_live 34 = .ok (.bipush (-5), 2) := by decide +kernel
theorem dX11_live_36 : decode cX11_live 36 = .ok (.goto 8, 3) := by decide +kernel
theorem dX11_live_39 : decode cX11_live 39 = .ok (.aload_n 0, 1) := by decide +kernel
theorem dX11_live_40 : decode cX11_live 40 = .ok (.iload_n 1, 1) := by decide +kernel
theorem dX11_live_41 : decode cX11_live 41 = .ok (.invokevirtual 252, 3) := by decide +kernel
theorem dX11_live_44 : decode cX11_live 44 = .ok (.ireturn, 1) := by decide +kernel
def mX11_live (n : Nat) (a : Nat) (b1 : Int) (μ : Mem) : Option (Int × Mem) :=
  (pI μ 12 a 0 0).bind fun μ2 =>
  (mX11_within n (oI2l b1) 1 99 μ2).bind fun p11 =>
  if eq32 p11.1 0 then
    some ((-3), p11.2)
  else
  (gA p11.2 12 a 1).bind fun x21 =>
  (ldI p11.2 0 x21 2).bind fun x25 =>
  if lt32 9999 (x25 + b1) then
    some ((-5), p11.2)
  else
  (inv p11.2 12 a (mX11_lives n a b1 p11.2)).bind fun p41 =>
  some (p41.1, p41.2)
set_option maxRecDepth 100000 in
set_option maxHeartbeats 4000000 in
theorem cX11_live_ok (n : Nat) (a : Nat) (b1 : Int) (μ : Mem) : Mc yX11_live cX11_live 2 (some .int) 4 95 eI [aA a, aI b1] μ (mX11_live n a b1 μ) := by
  refine mc_of (L0 := [some (aA a), some (aI b1)]) (k := 0) (by decide) rfl rfl (fun X Γ => ?_)
  unfold mX11_live
  refine sn_aload_n dX11_live_0 rfl ?_
  refine sn_iconst dX11_live_1 ?_
  refine sn_putI (ci := 11) (j := 0) dX11_live_2 fl_X11_1 rfl (fun q h => by cases h; rfl) (fun μ2 => ?_)
  refine sn_iload_n dX11_live_5 rfl ?_
  refine sn_i2l dX11_live_6 ?_
  refine sn_lconst (v := 1) dX11_live_7 (by decide) ?_
  refine sn_ldc2 (v := 99) dX11_live_8 k_X11_247 (by decide) ?_
  refine sn_callSI (vs := [aJ (oI2l b1), aJ 1, aJ 99]) (cX11_within_ok n (oI2l b1) 1 99 μ2) dX11_live_11 cw_X11_146 rfl (by decide) (by decide) (Nat.le_of_ble_eq_true rfl) (fun p11 => ?_)
  refine sn_if_ne (tgt := 20) dX11_live_14 (by decide) ?_ ?_
  · refine sn_aload_n dX11_live_20 rfl ?_
    refine sn_getA (ci := 11) (j := 1) dX11_live_21 fl_X11_13 (by decide) (fun x21 => ?_)
    refine sn_iconst dX11_live_24 ?_
    refine sn_iald dX11_live_25 (fun x25 => ?_)
    refine sn_iload_n dX11_live_26 rfl ?_
    refine sn_iadd dX11_live_27 ?_
    refine sn_sipush dX11_live_28 (by decide) ?_
    refine sn_icmp_le (tgt := 39) dX11_live_31 (by decide) ?_ ?_
    · refine sn_aload_n dX11_live_39 rfl ?_
      refine sn_iload_n dX11_live_40 rfl ?_
      refine sn_callVI (vs := [aI b1]) (ci := 11) (cX11_lives_ok n a b1 p11.2) dX11_live_41 cw_X11_252 rfl rfl rfl (by decide) (by decide) (Nat.le_of_ble_eq_true rfl) (fun p41 => ?_)
      exact sn_iret dX11_live_44
    · refine sn_bipush dX11_live_34 (by decide) ?_
      refine sn_goto (tgt := 44) dX11_live_36 (by decide) ?_
      exact sn_iret dX11_live_44
  · refine sn_bipush dX11_live_17 (by decide) ?_
    exact sn_iret dX11_live_19
theorem dX11_meets_0 : decode cX11_meets 0 = .ok (.lload_n 1, 1) := by decide +kernel
theorem dX11_meets_1 : decode cX11_meets 1 = .ok (.ldc2_w 291, 3) := by decide +kernel
theorem dX11_meets_4 : decode cX11_meets 4 = .ok (.lrem, 1) := by decide +kernel
theorem dX11_meets_5 : decode cX11_meets 5 = .ok (.l2i, 1) := by decide +kernel
theorem dX11_meets_6 : decode cX11_meets 6 = .ok (.istore_n 3, 1) := by decide +kernel
theorem dX11_meets_7 : decode cX11_meets 7 = .ok (.aload_n 0, 1) := by decide +kernel
theorem dX11_meets_8 : decode cX11_meets 8 = .ok (.getfield 43, 3) := by decide +kernel
theorem dX11_meets_11 : decode cX11_meets 11 = .ok (.iload_n 3, 1) := by decide +kernel
theorem dX11_meets_12 : decode cX11_meets 12 = .ok (.iaload, 1) := by decide +kernel
theorem dX11_meets_13 : decode cX11_meets 13 = .ok (.ifCond .le 33, 3) := by decide +kernel
theorem dX11_meets_16 : decode cX11_meets 16 = .ok (.aload_n 0, 1) := by decide +kernel
theorem dX11_meets_17 : decode cX11_meets 17 = .ok (.getfield 39, 3) := by decide +kernel
theorem dX11_meets_20 : decode cX11_meets 20 = .ok (.aload_n 0, 1) := by decide +kernel
theorem dX11_meets_21 : decode cX11_meets 21 = .ok (.getfield 43, 3) := by decide +kernel
theorem dX11_meets_24 : decode cX11_meets 24 = .ok (.iload_n 3, 1) := by decide +kernel
theorem dX11_meets_25 : decode cX11_meets 25 = .ok (.iaload, 1) := by decide +kernel
theorem dX11_meets_26 : decode cX11_meets 26 = .ok (.iconst 1, 1) := by decide +kernel
theorem dX11_meets_27 : decode cX11_meets 27 = .ok (.isub, 1) := by decide +kernel
theorem dX11_meets_28 : decode cX11_meets 28 = .ok (.laload, 1) := by decide +kernel
theorem dX11_meets_29 : decode cX11_meets 29 = .ok (.lload_n 1, 1) := by decide +kernel
theorem dX11_meets_30 : decode cX11_meets 30 = .ok (.lcmp, 1) := by decide +kernel
theorem dX11_meets_31 : decode cX11_meets 31 = .ok (.ifCond .ne 4, 3) := by decide +kernel
theorem dX11_meets_34 : decode cX11_meets 34 = .ok (.return_, 1) := by decide +kernel
theorem dX11_meets_35 : decode cX11_meets 35 = .ok (.iload_n 3, 1) := by decide +kernel
theorem dX11_meets_36 : decode cX11_meets 36 = .ok (.iconst 1, 1) := by decide +kernel
theorem dX11_meets_37 : decode cX11_meets 37 = .ok (.iadd, 1) := by decide +kernel
theorem dX11_meets_38 : decode cX11_meets 38 = .ok (.sipush 8192, 3) := by decide +kernel
theorem dX11_meets_41 : decode cX11_meets 41 = .ok (.irem, 1) := by decide +kernel
theorem dX11_meets_42 : decode cX11_meets 42 = .ok (.istore_n 3, 1) := by decide +kernel
theorem dX11_meets_43 : decode cX11_meets 43 = .ok (.goto (-36), 3) := by decide +kernel
theorem dX11_meets_46 : decode cX11_meets 46 = .ok (.aload_n 0, 1) := by decide +kernel
theorem dX11_meets_47 : decode cX11_meets 47 = .ok (.getfield 293, 3) := by decide +kernel
theorem dX11_meets_50 : decode cX11_meets 50 = .ok (.sipush 3001, 3) := by decide +kernel
theorem dX11_meets_53 : decode cX11_meets 53 = .ok (.if_icmp .ne 4, 3) := by decide +kernel
theorem dX11_meets_56 : decode cX11_meets 56 = .ok (.return_, 1) := by decide +kernel
theorem dX11_meets_57 : decode cX11_meets 57 = .ok (.aload_n 0, 1) := by decide +kernel
theorem dX11_meets_58 : decode cX11_meets 58 = .ok (.getfield 39, 3) := by decide +kernel
theorem dX11_meets_61 : decode cX11_meets 61 = .ok (.aload_n 0, 1) := by decide +kernel
theorem dX11_meets_62 : decode cX11_meets 62 = .ok (.getfield 293, 3) := by decide +kernel
theorem dX11_meets_65 : decode cX11_meets 65 = .ok (.lload_n 1, 1) := by decide +kernel
theorem dX11_meets_66 : decode cX11_meets 66 = .ok (.lastore, 1) := by decide +kernel
theorem dX11_meets_67 : decode cX11_meets 67 = .ok (.aload_n 0, 1) := by decide +kernel
theorem dX11_meets_68 : decode cX11_meets 68 = .ok (.dup, 1) := by decide +kernel
theorem dX11_meets_69 : decode cX11_meets 69 = .ok (.getfield 293, 3) := by decide +kernel
theorem dX11_meets_72 : decode cX11_meets 72 = .ok (.iconst 1, 1) := by decide +kernel
theorem dX11_meets_73 : decode cX11_meets 73 = .ok (.iadd, 1) := by decide +kernel
theorem dX11_meets_74 : decode cX11_meets 74 = .ok (.putfield 293, 3) := by decide +kernel
theorem dX11_meets_77 : decode cX11_meets 77 = .ok (.aload_n 0, 1) := by decide +kernel
theorem dX11_meets_78 : decode cX11_meets 78 = .ok (.getfield 43, 3) := by decide +kernel
theorem dX11_meets_81 : decode cX11_meets 81 = .ok (.iload_n 3, 1) := by decide +kernel
theorem dX11_meets_82 : decode cX11_meets 82 = .ok (.aload_n 0, 1) := by decide +kernel
theorem dX11_meets_83 : decode cX11_meets 83 = .ok (.getfield 293, 3) := by decide +kernel
theorem dX11_meets_86 : decode cX11_meets 86 = .ok (.iastore, 1) := by decide +kernel
theorem dX11_meets_87 : decode cX11_meets 87 = .ok (.return_, 1) := by decide +kernel
def mX11_meets (n : Nat) (a : Nat) (b1 : Int) (μ : Mem) : Option (Unit × Mem) :=
  lp (fun nx7 (v7 : Int) (μ7 : Mem) =>
  (gA μ7 12 a 24).bind fun x8 =>
  (ldI μ7 0 x8 v7).bind fun x12 =>
  if lt32 0 x12 then
    (gA μ7 12 a 23).bind fun x17 =>
    (gA μ7 12 a 24).bind fun x21 =>
    (ldI μ7 0 x21 v7).bind fun x25 =>
    (ldI μ7 3 x17 (x25 - 1)).bind fun x28 =>
    if eq32 (oLcmp x28 b1) 0 then
      some ((), μ7)
    else
    nx7 (oRem (v7 + 1) 8192) μ7
  else
  (gI μ7 12 a 26).bind fun x47 =>
  if eq32 x47 3001 then
    some ((), μ7)
  else
  (gA μ7 12 a 23).bind fun x58 =>
  (gI μ7 12 a 26).bind fun x62 =>
  (stI μ7 3 x58 x62 b1).bind fun μ66 =>
  (gI μ66 12 a 26).bind fun x69 =>
  (pI μ66 12 a 26 (x69 + 1)).bind fun μ74 =>
  (gA μ74 12 a 24).bind fun x78 =>
  (gI μ74 12 a 26).bind fun x83 =>
  (stI μ74 0 x78 v7 x83).bind fun μ86 =>
  some ((), μ86)) n (lRem b1 8191) μ
set_option maxRecDepth 100000 in
set_option maxHeartbeats 4000000 in
theorem cX11_meets_ok (n : Nat) (a : Nat) (b1 : Int) (μ : Mem) : Mc yX11_meets cX11_meets 4 none 0 0 eV [aA a, aJ b1] μ (mX11_meets n a b1 μ) := by
  refine mc_of (L0 := [some (aA a), some (aJ b1), none, none]) (k := 1) (by decide) rfl rfl (fun X Γ => ?_)
  unfold mX11_meets
  refine sn_lload_n dX11_meets_0 rfl ?_
  refine sn_ldc2 (v := 8191) dX11_meets_1 k_X11_291 (by decide) ?_
  refine sn_lremK dX11_meets_4 (by decide) ?_
  refine sn_l2i dX11_meets_5 ?_
  refine sn_istore_n (L' := [some (aA a), some (aJ b1), none, some (aI (lRem b1 8191))]) dX11_meets_6 (by decide) rfl ?_
  refine sn_lp (La := fun v7 : Int => [some (aA a), some (aJ b1), none, some (aI v7)]) ?_ n (lRem b1 8191) μ
  intro nx7 hnx7 v7 μ7
  refine sn_aload_n dX11_meets_7 rfl ?_
  refine sn_getA (ci := 11) (j := 24) dX11_meets_8 fl_X11_43 (by decide) (fun x8 => ?_)
  refine sn_iload_n dX11_meets_11 rfl ?_
  refine sn_iald dX11_meets_12 (fun x12 => ?_)
  refine sn_if_le (tgt := 46) dX11_meets_13 (by decide) ?_ ?_
  · refine sn_aload_n dX11_meets_46 rfl ?_
    refine sn_getI (ci := 11) (j := 26) dX11_meets_47 fl_X11_293 rfl (fun x47 => ?_)
    refine sn_sipush dX11_meets_50 (by decide) ?_
    refine sn_icmp_ne (tgt := 57) dX11_meets_53 (by decide) ?_ ?_
    · refine sn_aload_n dX11_meets_57 rfl ?_
      refine sn_getA (ci := 11) (j := 23) dX11_meets_58 fl_X11_39 (by decide) (fun x58 => ?_)
      refine sn_aload_n dX11_meets_61 rfl ?_
      refine sn_getI (ci := 11) (j := 26) dX11_meets_62 fl_X11_293 rfl (fun x62 => ?_)
      refine sn_lload_n dX11_meets_65 rfl ?_
      refine sn_last dX11_meets_66 (fun μ66 => ?_)
      refine sn_aload_n dX11_meets_67 rfl ?_
      refine sn_dup dX11_meets_68 rfl ?_
      refine sn_getI (ci := 11) (j := 26) dX11_meets_69 fl_X11_293 rfl (fun x69 => ?_)
      refine sn_iconst dX11_meets_72 ?_
      refine sn_iadd dX11_meets_73 ?_
      refine sn_putI (ci := 11) (j := 26) dX11_meets_74 fl_X11_293 rfl (fun q h => by cases h; rfl) (fun μ74 => ?_)
      refine sn_aload_n dX11_meets_77 rfl ?_
      refine sn_getA (ci := 11) (j := 24) dX11_meets_78 fl_X11_43 (by decide) (fun x78 => ?_)
      refine sn_iload_n dX11_meets_81 rfl ?_
      refine sn_aload_n dX11_meets_82 rfl ?_
      refine sn_getI (ci := 11) (j := 26) dX11_meets_83 fl_X11_293 rfl (fun x83 => ?_)
      refine sn_iast dX11_meets_86 (fun μ86 => ?_)
      exact sn_vret dX11_meets_87
    · exact sn_vret dX11_meets_56
  · refine sn_aload_n dX11_meets_16 rfl ?_
    refine sn_getA (ci := 11) (j := 23) dX11_meets_17 fl_X11_39 (by decide) (fun x17 => ?_)
    refine sn_aload_n dX11_meets_20 rfl ?_
    refine sn_getA (ci := 11) (j := 24) dX11_meets_21 fl_X11_43 (by decide) (fun x21 => ?_)
    refine sn_iload_n dX11_meets_24 rfl ?_
    refine sn_iald dX11_meets_25 (fun x25 => ?_)
    refine sn_iconst dX11_meets_26 ?_
    refine sn_isub dX11_meets_27 ?_
    refine sn_lald dX11_meets_28 (fun x28 => ?_)
    refine sn_lload_n dX11_meets_29 rfl ?_
    refine sn_lcmp dX11_meets_30 ?_
    refine sn_if_ne (tgt := 35) dX11_meets_31 (by decide) ?_ ?_
    · refine sn_iload_n dX11_meets_35 rfl ?_
      refine sn_iconst dX11_meets_36 ?_
      refine sn_iadd dX11_meets_37 ?_
      refine sn_sipush dX11_meets_38 (by decide) ?_
      refine sn_iremK dX11_meets_41 (by decide) ?_
      refine sn_istore_n (L' := [some (aA a), some (aJ b1), none, some (aI (oRem (v7 + 1) 8192))]) dX11_meets_42 (by decide) rfl ?_
      refine sn_goto (tgt := 7) dX11_meets_43 (by decide) ?_
      exact hnx7 (oRem (v7 + 1) 8192) μ7
    · exact sn_vret dX11_meets_34
theorem dX11_pullsAll_0 : decode cX11_pullsAll 0 = .ok (.iload_n 1, 1) := by decide +kernel
theorem dX11_pullsAll_1 : decode cX11_pullsAll 1 = .ok (.aload_n 0, 1) := by decide +kernel
theorem dX11_pullsAll_2 : decode cX11_pullsAll 2 = .ok (.getfield 13, 3) := by decide +kernel
theorem dX11_pullsAll_5 : decode cX11_pullsAll 5 = .ok (.iconst 0, 1) := by decide +kernel
theorem dX11_pullsAll_6 : decode cX11_pullsAll 6 = .ok (.iaload, 1) := by decide +kernel
theorem dX11_pullsAll_7 : decode cX11_pullsAll 7 = .ok (.if_icmp .ne 51, 3) := by decide +kernel
theorem dX11_pullsAll_10 : decode cX11_pullsAll 10 = .ok (.aload_n 0, 1) := by decide +kernel
theorem dX11_pullsAll_11 : decode cX11_pullsAll 11 = .ok (.lload_n 2, 1) := by decide +kernel
theorem dX11_pullsAll_12 : decode cX11_pullsAll 12 = .ok (.iload 4, 2) := by decide +kernel
theorem dX11_pullsAll_14 : decode cX11_pullsAll 14 = .ok (.iload 5, 2) := by decide +kernel
theorem dX11_pullsAll_16 : decode cX11_pullsAll 16 = .ok (.invokevirtual 296, 3) := by decide +kernel
theorem dX11_pullsAll_19 : decode cX11_pullsAll 19 = .ok (.aload_n 0, 1) := by decide +kernel
theorem dX11_pullsAll_20 : decode cX11_pullsAll 20 = .ok (.invokevirtual 203, 3) := by decide +kernel
theorem dX11_pullsAll_23 : decode cX11_pullsAll 23 = .ok (.pop, 1) := by decide +kernel
theorem dX11_pullsAll_24 : decode cX11_pullsAll 24 = .ok (.aload_n 0, 1) := by decide +kernel
theorem dX11_pullsAll_25 : decode cX11_pullsAll 25 = .ok (.getfield 13, 3) := by decide +kernel
theorem dX11_pullsAll_28 : decode cX11_pullsAll 28 = .ok (.bipush 46, 2) := by decide +kernel
theorem dX11_pullsAll_30 : decode cX11_pullsAll 30 = .ok (.iload 4, 2) := by decide +kernel
theorem dX11_pullsAll_32 : decode cX11_pullsAll 32 = .ok (.iadd, 1) := by decide +kernel
theorem dX11_pullsAll_33 : decode cX11_pullsAll 33 = .ok (.iaload, 1) := by decide +kernel
theorem dX11_pullsAll_34 : decode cX11_pullsAll 34 = .ok (.iload 5, 2) := by decide +kernel
theorem dX11_pullsAll_36 : decode cX11_pullsAll 36 = .ok (.isub, 1) := by decide +kernel
theorem dX11_pullsAll_37 : decode cX11_pullsAll 37 = .ok (.iload 6, 2) := by decide +kernel
theorem dX11_pullsAll_39 : decode cX11_pullsAll 39 = .ok (.if_icmp .lt 5, 3) := by decide +kernel
theorem dX11_pullsAll_42 : decode cX11_pullsAll 42 = .ok (.iconst 1, 1) := by decide +kernel
theorem dX11_pullsAll_43 : decode cX11_pullsAll 43 = .ok (.ireturn, 1) := by decide +kernel
theorem dX11_pullsAll_44 : decode cX11_pullsAll 44 = .ok (.aload_n 0, 1) := by decide +kernel
theorem dX11_pullsAll_45 : decode cX11_pullsAll 45 = .ok (.aload_n 0, 1) := by decide +kernel
theorem dX11_pullsAll_46 : decode cX11_pullsAll 46 = .ok (.iload 4, 2) := by decide +kernel
theorem dX11_pullsAll_48 : decode cX11_pullsAll 48 = .ok (.iload 5, 2) := by decide +kernel
theorem dX11_pullsAll_50 : decode cX11_pullsAll 50 = .ok (.invokevirtual 300, 3) := by decide +kernel
theorem dX11_pullsAll_53 : decode cX11_pullsAll 53 = .ok (.invokevirtual 304, 3) := by decide +kernel
theorem dX11_pullsAll_56 : decode cX11_pullsAll 56 = .ok (.iconst 0, 1) := by decide +kernel
theorem dX11_pullsAll_57 : decode cX11_pullsAll 57 = .ok (.ireturn, 1) := by decide +kernel
theorem dX11_pullsAll_58 : decode cX11_pullsAll 58 = .ok (.iconst 0, 1) := by decide +kernel
theorem dX11_pullsAll_59 : decode cX11_pullsAll 59 = .ok (.istore 7, 2) := by decide +kernel
theorem dX11_pullsAll_61 : decode cX11_pullsAll 61 = .ok (.iload 7, 2) := by decide +kernel
theorem dX11_pullsAll_63 : decode cX11_pullsAll 63 = .ok (.aload_n 0, 1) := by decide +kernel
theorem dX11_pullsAll_64 : decode cX11_pullsAll 64 = .ok (.getfield 282, 3) := by decide +kernel
theorem dX11_pullsAll_67 : decode cX11_pullsAll 67 = .ok (.if_icmp .gt 77, 3) := by decide +kernel
theorem dX11_pullsAll_70 : decode cX11_pullsAll 70 = .ok (.iload 7, 2) := by decide +kernel
theorem dX11_pullsAll_72 : decode cX11_pullsAll 72 = .ok (.ifCond .le 23, 3) := by decide +kernel
theorem dX11_pullsAll_75 : decode cX11_pullsAll 75 = .ok (.aload_n 0, 1) := by decide +kernel
theorem dX11_pullsAll_76 : decode cX11_pullsAll 76 = .ok (.iload_n 1, 1) := by decide +kernel
theorem dX11_pullsAll_77 : decode cX11_pullsAll 77 = .ok (.aload_n 0, 1) := by decide +kernel
theorem dX11_pullsAll_78 : decode cX11_pullsAll 78 = .ok (.getfield 46, 3) := by decide +kernel
theorem dX11_pullsAll_81 : decode cX11_pullsAll 81 = .ok (.iload 7, 2) := by decide +kernel
theorem dX11_pullsAll_83 : decode cX11_pullsAll 83 = .ok (.iconst 1, 1) := by decide +kernel
theorem dX11_pullsAll_84 : decode cX11_pullsAll 84 = .ok (.isub, 1) := by decide +kernel
theorem dX11_pullsAll_85 : decode cX11_pullsAll 85 = .ok (.iaload, 1) := by decide +kernel
theorem dX11_pullsAll_86 : decode cX11_pullsAll 86 = .ok (.invokevirtual 166, 3) := by decide +kernel
theorem dX11_pullsAll_89 : decode cX11_pullsAll 89 = .ok (.ifCond .ne 6, 3) := by decide +kernel
theorem dX11_pullsAll_92 : decode cX11_pullsAll 92 = .ok (.goto 46, 3) := by decide +kernel
theorem dX11_pullsAll_95 : decode cX11_pullsAll 95 = .ok (.aload_n 0, 1) := by decide +kernel
theorem dX11_pullsAll_96 : decode cX11_pullsAll 96 = .ok (.getfield 30, 3) := by decide +kernel
theorem dX11_pullsAll_99 : decode cX11_pullsAll 99 = .ok (.iload_n 1, 1) := by decide +kernel
theorem dX11_pullsAll_100 : decode cX11_pullsAll 100 = .ok (.iload 7, 2) := by decide +kernel
theorem dX11_pullsAll_102 : decode cX11_pullsAll 102 = .ok (.ifCond .ne 7, 3) := by decide +kernel
theorem dX11_pullsAll_105 : decode cX11_pullsAll 105 = .ok (.iconst (-1), 1) := by decide +kernel
theorem dX11_pullsAll_106 : decode cX11_pullsAll 106 = .ok (.goto 12, 3) := by decide +kernel
theorem dX11_pullsAll_109 : decode cX11_pullsAll 109 = .ok (.aload_n 0, 1) := by decide +kernel
theorem dX11_pullsAll_110 : decode cX11_pullsAll 110 = .ok (.getfield 46, 3) := by decide +kernel
theorem dX11_pullsAll_113 : decode cX11_pullsAll 113 = .ok (.iload 7, 2) := by decide +kernel
theorem dX11_pullsAll_115 : decode cX11_pullsAll 115 = .ok (.iconst 1, 1) := by decide +kernel
theorem dX11_pullsAll_116 : decode cX11_pullsAll 116 = .ok (.isub, 1) := by decide +kernel
theorem dX11_pullsAll_117 : decode cX11_pullsAll 117 = .ok (.iaload, 1) := by decide +kernel
theorem dX11_pullsAll_118 : decode cX11_pullsAll 118 = .ok (.iastore, 1) := by decide +kernel
theorem dX11_pullsAll_119 : decode cX11_pullsAll 119 = .ok (.aload_n 0, 1) := by decide +kernel
theorem dX11_pullsAll_120 : decode cX11_pullsAll 120 = .ok (.iload_n 1, 1) := by decide +kernel
theorem dX11_pullsAll_121 : decode cX11_pullsAll 121 = .ok (.iconst 1, 1) := by decide +kernel
theorem dX11_pullsAll_122 : decode cX11_pullsAll 122 = .ok (.iadd, 1) := by decide +kernel
theorem dX11_pullsAll_123 : decode cX11_pullsAll 123 = .ok (.lload_n 2, 1) := by decide +kernel
theorem dX11_pullsAll_124 : decode cX11_pullsAll 124 = .ok (.iload 4, 2) := by decide +kernel
theorem dX11_pullsAll_126 : decode cX11_pullsAll 126 = .ok (.iload 5, 2) := by decide +kernel
theorem dX11_pullsAll_128 : decode cX11_pullsAll 128 = .ok (.iload 6, 2) := by decide +kernel
theorem dX11_pullsAll_130 : decode cX11_pullsAll 130 = .ok (.invokevirtual 308, 3) := by decide +kernel
theorem dX11_pullsAll_133 : decode cX11_pullsAll 133 = .ok (.ifCond .eq 5, 3) := by decide +kernel
theorem dX11_pullsAll_136 : decode cX11_pullsAll 136 = .ok (.iconst 1, 1) := by decide +kernel
theorem dX11_pullsAll_137 : decode cX11_pullsAll 137 = .ok (.ireturn, 1) := by decide +kernel
theorem dX11_pullsAll_138 : decode cX11_pullsAll 138 = .ok (.iinc 7 1, 3) := by decide +kernel
theorem dX11_pullsAll_141 : decode cX11_pullsAll 141 = .ok (.goto (-80), 3) := by decide +kernel
theorem dX11_pullsAll_144 : decode cX11_pullsAll 144 = .ok (.iconst 0, 1) := by decide +kernel
theorem dX11_pullsAll_145 : decode cX11_pullsAll 145 = .ok (.ireturn, 1) := by decide +kernel
def bX11_pullsAll (n : Nat) (self : Nat × Int × Int × Int × Int × Int → Mem → Option (Int × Mem)) (v : Nat × Int × Int × Int × Int × Int) (μ : Mem) : Option (Int × Mem) :=
  (gA μ 12 v.1 1).bind fun x2 =>
  (ldI μ 0 x2 0).bind fun x6 =>
  if eq32 v.2.1 x6 then
    (inv μ 12 v.1 (mX11_becomes n v.1 v.2.2.1 v.2.2.2.1 v.2.2.2.2.1 μ)).bind fun p16 =>
    (inv p16.2 12 v.1 (mX11_goes n v.1 p16.2)).bind fun p20 =>
    (gA p20.2 12 v.1 1).bind fun x25 =>
    (ldI p20.2 0 x25 (46 + v.2.2.2.1)).bind fun x33 =>
    if lt32 (x33 - v.2.2.2.2.1) v.2.2.2.2.2 then
      (inv p20.2 12 v.1 (mX11_state n v.1 v.2.2.2.1 v.2.2.2.2.1 p20.2)).bind fun p50 =>
      (inv p50.2 12 v.1 (mX11_meets n v.1 p50.1 p50.2)).bind fun p53 =>
      retZ 0 p53.2
    else
    retZ 1 p20.2
  else
  lp (fun nx61 (v61 : Int) (μ61 : Mem) =>
  (gI μ61 12 v.1 27).bind fun x64 =>
  if lt32 x64 v61 then
    retZ 0 μ61
  else
  jn (fun (v95 : Int) (μ95 : Mem) =>
  (gA μ95 12 v.1 15).bind fun x96 =>
  jn (fun (v118 : Int) (μ118 : Mem) =>
  (stI μ118 0 x96 v.2.1 v118).bind fun μ118 =>
  (inv μ118 12 v.1 (self (v.1, (v.2.1 + 1), v.2.2.1, v.2.2.2.1, v.2.2.2.2.1, v.2.2.2.2.2) μ118)).bind fun p130 =>
  if eq32 p130.1 0 then
    nx61 (v95 + 1) p130.2
  else
  retZ 1 p130.2) (fun j118 =>
  if eq32 v95 0 then
    j118 (-1) μ95
  else
  (gA μ95 12 v.1 25).bind fun x110 =>
  (ldI μ95 0 x110 (v95 - 1)).bind fun x117 =>
  j118 x117 μ95)) (fun j95 =>
  if lt32 0 v61 then
    (gA μ61 12 v.1 25).bind fun x78 =>
    (ldI μ61 0 x78 (v61 - 1)).bind fun x85 =>
    (inv μ61 12 v.1 (mX11_isEnd n v.1 v.2.1 x85 μ61)).bind fun p86 =>
    if eq32 p86.1 0 then
      nx61 (v61 + 1) p86.2
    else
    j95 v61 p86.2
  else
  j95 v61 μ61)) n 0 μ
set_option maxRecDepth 100000 in
set_option maxHeartbeats 4000000 in
theorem bX11_pullsAll_ok (n : Nat) (self : Nat × Int × Int × Int × Int × Int → Mem → Option (Int × Mem)) (fs ls : Nat) (hs : ∀ (v : Nat × Int × Int × Int × Int × Int) (μ : Mem), Mc yX11_pullsAll cX11_pullsAll 8 (some .boolean) fs ls eI [aA v.1, aI v.2.1, aJ v.2.2.1, aI v.2.2.2.1, aI v.2.2.2.2.1, aI v.2.2.2.2.2] μ (self v μ)) (v : Nat × Int × Int × Int × Int × Int) (μ : Mem) : Mc yX11_pullsAll cX11_pullsAll 8 (some .boolean) (fs + 3) (ls + 72) eI [aA v.1, aI v.2.1, aJ v.2.2.1, aI v.2.2.2.1, aI v.2.2.2.2.1, aI v.2.2.2.2.2] μ (bX11_pullsAll n self v μ) := by
  refine mc_of (L0 := [some (aA v.1), some (aI v.2.1), some (aJ v.2.2.1), none, some (aI v.2.2.2.1), some (aI v.2.2.2.2.1), some (aI v.2.2.2.2.2), none]) (k := 1) (by decide) rfl rfl (fun X Γ => ?_)
  unfold bX11_pullsAll
  refine sn_iload_n dX11_pullsAll_0 rfl ?_
  refine sn_aload_n dX11_pullsAll_1 rfl ?_
  refine sn_getA (ci := 11) (j := 1) dX11_pullsAll_2 fl_X11_13 (by decide) (fun x2 => ?_)
  refine sn_iconst dX11_pullsAll_5 ?_
  refine sn_iald dX11_pullsAll_6 (fun x6 => ?_)
  refine sn_icmp_ne (tgt := 58) dX11_pullsAll_7 (by decide) ?_ ?_
  · refine sn_iconst dX11_pullsAll_58 ?_
    refine sn_istore (L' := [some (aA v.1), some (aI v.2.1), some (aJ v.2.2.1), none, some (aI v.2.2.2.1), some (aI v.2.2.2.2.1), some (aI v.2.2.2.2.2), some (aI 0)]) dX11_pullsAll_59 (by decide) rfl ?_
    refine sn_lp (La := fun v61 : Int => [some (aA v.1), some (aI v.2.1), some (aJ v.2.2.1), none, some (aI v.2.2.2.1), some (aI v.2.2.2.2.1), some (aI v.2.2.2.2.2), some (aI v61)]) ?_ n 0 μ
    intro nx61 hnx61 v61 μ61
    refine sn_iload dX11_pullsAll_61 rfl ?_
    refine sn_aload_n dX11_pullsAll_63 rfl ?_
    refine sn_getI (ci := 11) (j := 27) dX11_pullsAll_64 fl_X11_282 rfl (fun x64 => ?_)
    refine sn_icmp_gt (tgt := 144) dX11_pullsAll_67 (by decide) ?_ ?_
    · refine sn_iconst dX11_pullsAll_144 ?_
      exact sn_zret dX11_pullsAll_145
    · refine sn_iload dX11_pullsAll_70 rfl ?_
      refine sn_jn (pcj := 95) (La := fun v95 : Int => [some (aA v.1), some (aI v.2.1), some (aJ v.2.2.1), none, some (aI v.2.2.2.1), some (aI v.2.2.2.2.1), some (aI v.2.2.2.2.2), some (aI v95)]) (Sa := fun v95 : Int => []) ?_ ?_
      · intro v95 μ95
        refine sn_aload_n dX11_pullsAll_95 rfl ?_
        refine sn_getA (ci := 11) (j := 15) dX11_pullsAll_96 fl_X11_30 (by decide) (fun x96 => ?_)
        refine sn_iload_n dX11_pullsAll_99 rfl ?_
        refine sn_iload dX11_pullsAll_100 rfl ?_
        refine sn_jn (pcj := 118) (La := fun v118 : Int => [some (aA v.1), some (aI v.2.1), some (aJ v.2.2.1), none, some (aI v.2.2.2.1), some (aI v.2.2.2.2.1), some (aI v.2.2.2.2.2), some (aI v95)]) (Sa := fun v118 : Int => [aI v118, aI v.2.1, aA x96]) ?_ ?_
        · intro v118 μ118
          refine sn_iast dX11_pullsAll_118 (fun μ118 => ?_)
          refine sn_aload_n dX11_pullsAll_119 rfl ?_
          refine sn_iload_n dX11_pullsAll_120 rfl ?_
          refine sn_iconst dX11_pullsAll_121 ?_
          refine sn_iadd dX11_pullsAll_122 ?_
          refine sn_lload_n dX11_pullsAll_123 rfl ?_
          refine sn_iload dX11_pullsAll_124 rfl ?_
          refine sn_iload dX11_pullsAll_126 rfl ?_
          refine sn_iload dX11_pullsAll_128 rfl ?_
          refine sn_callVI (vs := [aI (v.2.1 + 1), aJ v.2.2.1, aI v.2.2.2.1, aI v.2.2.2.2.1, aI v.2.2.2.2.2]) (ci := 11) (hs (v.1, (v.2.1 + 1), v.2.2.1, v.2.2.2.1, v.2.2.2.2.1, v.2.2.2.2.2) μ118) dX11_pullsAll_130 cw_X11_308 rfl rfl rfl (by omega) (by omega) (Nat.le_of_ble_eq_true rfl) (fun p130 => ?_)
          refine sn_if_eq (tgt := 138) dX11_pullsAll_133 (by decide) ?_ ?_
          · refine sn_iinc (L' := [some (aA v.1), some (aI v.2.1), some (aJ v.2.2.1), none, some (aI v.2.2.2.1), some (aI v.2.2.2.2.1), some (aI v.2.2.2.2.2), some (aI (v95 + 1))]) dX11_pullsAll_138 rfl (by decide) rfl ?_
            refine sn_goto (tgt := 61) dX11_pullsAll_141 (by decide) ?_
            exact hnx61 (v95 + 1) p130.2
          · refine sn_iconst dX11_pullsAll_136 ?_
            exact sn_zret dX11_pullsAll_137
        intro j118 hj118
        refine sn_if_ne (tgt := 109) dX11_pullsAll_102 (by decide) ?_ ?_
        · refine sn_aload_n dX11_pullsAll_109 rfl ?_
          refine sn_getA (ci := 11) (j := 25) dX11_pullsAll_110 fl_X11_46 (by decide) (fun x110 => ?_)
          refine sn_iload dX11_pullsAll_113 rfl ?_
          refine sn_iconst dX11_pullsAll_115 ?_
          refine sn_isub dX11_pullsAll_116 ?_
          refine sn_iald dX11_pullsAll_117 (fun x117 => ?_)
          exact hj118 x117 μ95
        · refine sn_iconst dX11_pullsAll_105 ?_
          refine sn_goto (tgt := 118) dX11_pullsAll_106 (by decide) ?_
          exact hj118 (-1) μ95
      intro j95 hj95
      refine sn_if_le (tgt := 95) dX11_pullsAll_72 (by decide) ?_ ?_
      · exact hj95 v61 μ61
      · refine sn_aload_n dX11_pullsAll_75 rfl ?_
        refine sn_iload_n dX11_pullsAll_76 rfl ?_
        refine sn_aload_n dX11_pullsAll_77 rfl ?_
        refine sn_getA (ci := 11) (j := 25) dX11_pullsAll_78 fl_X11_46 (by decide) (fun x78 => ?_)
        refine sn_iload dX11_pullsAll_81 rfl ?_
        refine sn_iconst dX11_pullsAll_83 ?_
        refine sn_isub dX11_pullsAll_84 ?_
        refine sn_iald dX11_pullsAll_85 (fun x85 => ?_)
        refine sn_callVI (vs := [aI v.2.1, aI x85]) (ci := 11) (cX11_isEnd_ok n v.1 v.2.1 x85 μ61) dX11_pullsAll_86 cw_X11_166 rfl rfl rfl (by omega) (by omega) (Nat.le_of_ble_eq_true rfl) (fun p86 => ?_)
        refine sn_if_ne (tgt := 95) dX11_pullsAll_89 (by decide) ?_ ?_
        · exact hj95 v61 p86.2
        · refine sn_goto (tgt := 138) dX11_pullsAll_92 (by decide) ?_
          refine sn_iinc (L' := [some (aA v.1), some (aI v.2.1), some (aJ v.2.2.1), none, some (aI v.2.2.2.1), some (aI v.2.2.2.2.1), some (aI v.2.2.2.2.2), some (aI (v61 + 1))]) dX11_pullsAll_138 rfl (by decide) rfl ?_
          refine sn_goto (tgt := 61) dX11_pullsAll_141 (by decide) ?_
          exact hnx61 (v61 + 1) p86.2
  · refine sn_aload_n dX11_pullsAll_10 rfl ?_
    refine sn_lload_n dX11_pullsAll_11 rfl ?_
    refine sn_iload dX11_pullsAll_12 rfl ?_
    refine sn_iload dX11_pullsAll_14 rfl ?_
    refine sn_callVV (vs := [aJ v.2.2.1, aI v.2.2.2.1, aI v.2.2.2.2.1]) (ci := 11) (cX11_becomes_ok n v.1 v.2.2.1 v.2.2.2.1 v.2.2.2.2.1 μ) dX11_pullsAll_16 cw_X11_296 rfl rfl rfl (by omega) (by omega) (Nat.le_of_ble_eq_true rfl) (fun p16 => ?_)
    refine sn_aload_n dX11_pullsAll_19 rfl ?_
    refine sn_callVI (vs := []) (ci := 11) (cX11_goes_ok n v.1 p16.2) dX11_pullsAll_20 cw_X11_203 rfl rfl rfl (by omega) (by omega) (Nat.le_of_ble_eq_true rfl) (fun p20 => ?_)
    refine sn_pop dX11_pullsAll_23 rfl ?_
    refine sn_aload_n dX11_pullsAll_24 rfl ?_
    refine sn_getA (ci := 11) (j := 1) dX11_pullsAll_25 fl_X11_13 (by decide) (fun x25 => ?_)
    refine sn_bipush dX11_pullsAll_28 (by decide) ?_
    refine sn_iload dX11_pullsAll_30 rfl ?_
    refine sn_iadd dX11_pullsAll_32 ?_
    refine sn_iald dX11_pullsAll_33 (fun x33 => ?_)
    refine sn_iload dX11_pullsAll_34 rfl ?_
    refine sn_isub dX11_pullsAll_36 ?_
    refine sn_iload dX11_pullsAll_37 rfl ?_
    refine sn_icmp_lt (tgt := 44) dX11_pullsAll_39 (by decide) ?_ ?_
    · refine sn_aload_n dX11_pullsAll_44 rfl ?_
      refine sn_aload_n dX11_pullsAll_45 rfl ?_
      refine sn_iload dX11_pullsAll_46 rfl ?_
      refine sn_iload dX11_pullsAll_48 rfl ?_
      refine sn_callVJ (vs := [aI v.2.2.2.1, aI v.2.2.2.2.1]) (ci := 11) (cX11_state_ok n v.1 v.2.2.2.1 v.2.2.2.2.1 p20.2) dX11_pullsAll_50 cw_X11_300 rfl rfl rfl (by omega) (by omega) (Nat.le_of_ble_eq_true rfl) (fun p50 => ?_)
      refine sn_callVV (vs := [aJ p50.1]) (ci := 11) (cX11_meets_ok n v.1 p50.1 p50.2) dX11_pullsAll_53 cw_X11_304 rfl rfl rfl (by omega) (by omega) (Nat.le_of_ble_eq_true rfl) (fun p53 => ?_)
      refine sn_iconst dX11_pullsAll_56 ?_
      exact sn_zret dX11_pullsAll_57
    · refine sn_iconst dX11_pullsAll_42 ?_
      exact sn_zret dX11_pullsAll_43
def rX11_pullsAll (n : Nat) : Nat → Nat × Int × Int × Int × Int × Int → Mem → Option (Int × Mem) := lp (bX11_pullsAll n)
theorem rX11_pullsAll_ok (n : Nat) : ∀ (d : Nat) (v : Nat × Int × Int × Int × Int × Int) (μ : Mem), Mc yX11_pullsAll cX11_pullsAll 8 (some .boolean) (3 * d) (72 * d) eI [aA v.1, aI v.2.1, aJ v.2.2.1, aI v.2.2.2.1, aI v.2.2.2.2.1, aI v.2.2.2.2.2] μ (rX11_pullsAll n d v μ)
  | 0, v, μ => fun r μ' h => by cases h
  | d + 1, v, μ => bX11_pullsAll_ok n (rX11_pullsAll n d) (3 * d) (72 * d) (rX11_pullsAll_ok n d) v μ
def mX11_pullsAll (n : Nat) (a : Nat) (b1 : Int) (b2 : Int) (b3 : Int) (b4 : Int) (b5 : Int) (μ : Mem) : Option (Int × Mem) := rX11_pullsAll n 12 (a, b1, b2, b3, b4, b5) μ
theorem cX11_pullsAll_ok (n : Nat) (a : Nat) (b1 : Int) (b2 : Int) (b3 : Int) (b4 : Int) (b5 : Int) (μ : Mem) : Mc yX11_pullsAll cX11_pullsAll 8 (some .boolean) 36 864 eI [aA a, aI b1, aJ b2, aI b3, aI b4, aI b5] μ (mX11_pullsAll n a b1 b2 b3 b4 b5 μ) := rX11_pullsAll_ok n 12 (a, b1, b2, b3, b4, b5) μ
