set_option maxRecDepth 20000 in
theorem dX7_init_0 : decode cX7_init 0 = .ok (.aload_n 0, 1) := by decide +kernel
set_option maxRecDepth 20000 in
theorem dX7_init_1 : decode cX7_init 1 = .ok (.invokespecial 1, 3) := by decide +kernel
set_option maxRecDepth 20000 in
theorem dX7_init_4 : decode cX7_init 4 = .ok (.aload_n 0, 1) := by decide +kernel
set_option maxRecDepth 20000 in
theorem dX7_init_5 : decode cX7_init 5 = .ok (.iconst (-1), 1) := by decide +kernel
set_option maxRecDepth 20000 in
theorem dX7_init_6 : decode cX7_init 6 = .ok (.putfield 7, 3) := by decide +kernel
set_option maxRecDepth 20000 in
theorem dX7_init_9 : decode cX7_init 9 = .ok (.aload_n 0, 1) := by decide +kernel
set_option maxRecDepth 20000 in
theorem dX7_init_10 : decode cX7_init 10 = .ok (.bipush 22, 2) := by decide +kernel
set_option maxRecDepth 20000 in
theorem dX7_init_12 : decode cX7_init 12 = .ok (.newarray .int, 2) := by decide +kernel
set_option maxRecDepth 20000 in
theorem dX7_init_14 : decode cX7_init 14 = .ok (.putfield 13, 3) := by decide +kernel
set_option maxRecDepth 20000 in
theorem dX7_init_17 : decode cX7_init 17 = .ok (.aload_n 0, 1) := by decide +kernel
set_option maxRecDepth 20000 in
theorem dX7_init_18 : decode cX7_init 18 = .ok (.bipush 22, 2) := by decide +kernel
set_option maxRecDepth 20000 in
theorem dX7_init_20 : decode cX7_init 20 = .ok (.newarray .int, 2) := by decide +kernel
set_option maxRecDepth 20000 in
theorem dX7_init_22 : decode cX7_init 22 = .ok (.putfield 17, 3) := by decide +kernel
set_option maxRecDepth 20000 in
theorem dX7_init_25 : decode cX7_init 25 = .ok (.aload_n 0, 1) := by decide +kernel
set_option maxRecDepth 20000 in
theorem dX7_init_26 : decode cX7_init 26 = .ok (.bipush 22, 2) := by decide +kernel
set_option maxRecDepth 20000 in
theorem dX7_init_28 : decode cX7_init 28 = .ok (.newarray .boolean, 2) := by decide +kernel
set_option maxRecDepth 20000 in
theorem dX7_init_30 : decode cX7_init 30 = .ok (.putfield 20, 3) := by decide +kernel
set_option maxRecDepth 20000 in
theorem dX7_init_33 : decode cX7_init 33 = .ok (.aload_n 0, 1) := by decide +kernel
set_option maxRecDepth 20000 in
theorem dX7_init_34 : decode cX7_init 34 = .ok (.sipush 264, 3) := by decide +kernel
set_option maxRecDepth 20000 in
theorem dX7_init_37 : decode cX7_init 37 = .ok (.newarray .int, 2) := by decide +kernel
set_option maxRecDepth 20000 in
theorem dX7_init_39 : decode cX7_init 39 = .ok (.putfield 24, 3) := by decide +kernel
set_option maxRecDepth 20000 in
theorem dX7_init_42 : decode cX7_init 42 = .ok (.aload_n 0, 1) := by decide +kernel
set_option maxRecDepth 20000 in
theorem dX7_init_43 : decode cX7_init 43 = .ok (.bipush 12, 2) := by decide +kernel
set_option maxRecDepth 20000 in
theorem dX7_init_45 : decode cX7_init 45 = .ok (.newarray .int, 2) := by decide +kernel
set_option maxRecDepth 20000 in
theorem dX7_init_47 : decode cX7_init 47 = .ok (.putfield 27, 3) := by decide +kernel
set_option maxRecDepth 20000 in
theorem dX7_init_50 : decode cX7_init 50 = .ok (.aload_n 0, 1) := by decide +kernel
set_option maxRecDepth 20000 in
theorem dX7_init_51 : decode cX7_init 51 = .ok (.bipush 22, 2) := by decide +kernel
set_option maxRecDepth 20000 in
theorem dX7_init_53 : decode cX7_init 53 = .ok (.newarray .int, 2) := by decide +kernel
set_option maxRecDepth 20000 in
theorem dX7_init_55 : decode cX7_init 55 = .ok (.putfield 30, 3) := by decide +kernel
set_option maxRecDepth 20000 in
theorem dX7_init_58 : decode cX7_init 58 = .ok (.aload_n 0, 1) := by decide +kernel
set_option maxRecDepth 20000 in
theorem dX7_init_59 : decode cX7_init 59 = .ok (.bipush 12, 2) := by decide +kernel
set_option maxRecDepth 20000 in
theorem dX7_init_61 : decode cX7_init 61 = .ok (.newarray .int, 2) := by decide +kernel
set_option maxRecDepth 20000 in
theorem dX7_init_63 : decode cX7_init 63 = .ok (.putfield 33, 3) := by decide +kernel
set_option maxRecDepth 20000 in
theorem dX7_init_66 : decode cX7_init 66 = .ok (.aload_n 0, 1) := by decide +kernel
set_option maxRecDepth 20000 in
theorem dX7_init_67 : decode cX7_init 67 = .ok (.bipush 22, 2) := by decide +kernel
set_option maxRecDepth 20000 in
theorem dX7_init_69 : decode cX7_init 69 = .ok (.newarray .int, 2) := by decide +kernel
set_option maxRecDepth 20000 in
theorem dX7_init_71 : decode cX7_init 71 = .ok (.putfield 36, 3) := by decide +kernel
set_option maxRecDepth 20000 in
theorem dX7_init_74 : decode cX7_init 74 = .ok (.aload_n 0, 1) := by decide +kernel
set_option maxRecDepth 20000 in
theorem dX7_init_75 : decode cX7_init 75 = .ok (.bipush 22, 2) := by decide +kernel
set_option maxRecDepth 20000 in
theorem dX7_init_77 : decode cX7_init 77 = .ok (.newarray .int, 2) := by decide +kernel
set_option maxRecDepth 20000 in
theorem dX7_init_79 : decode cX7_init 79 = .ok (.putfield 39, 3) := by decide +kernel
set_option maxRecDepth 20000 in
theorem dX7_init_82 : decode cX7_init 82 = .ok (.aload_n 0, 1) := by decide +kernel
set_option maxRecDepth 20000 in
theorem dX7_init_83 : decode cX7_init 83 = .ok (.sipush 264, 3) := by decide +kernel
set_option maxRecDepth 20000 in
theorem dX7_init_86 : decode cX7_init 86 = .ok (.newarray .int, 2) := by decide +kernel
set_option maxRecDepth 20000 in
theorem dX7_init_88 : decode cX7_init 88 = .ok (.putfield 42, 3) := by decide +kernel
set_option maxRecDepth 20000 in
theorem dX7_init_91 : decode cX7_init 91 = .ok (.aload_n 0, 1) := by decide +kernel
set_option maxRecDepth 20000 in
theorem dX7_init_92 : decode cX7_init 92 = .ok (.bipush 12, 2) := by decide +kernel
set_option maxRecDepth 20000 in
theorem dX7_init_94 : decode cX7_init 94 = .ok (.newarray .int, 2) := by decide +kernel
set_option maxRecDepth 20000 in
theorem dX7_init_96 : decode cX7_init 96 = .ok (.putfield 45, 3) := by decide +kernel
set_option maxRecDepth 20000 in
theorem dX7_init_99 : decode cX7_init 99 = .ok (.aload_n 0, 1) := by decide +kernel
set_option maxRecDepth 20000 in
theorem dX7_init_100 : decode cX7_init 100 = .ok (.bipush 22, 2) := by decide +kernel
set_option maxRecDepth 20000 in
theorem dX7_init_102 : decode cX7_init 102 = .ok (.newarray .int, 2) := by decide +kernel
set_option maxRecDepth 20000 in
theorem dX7_init_104 : decode cX7_init 104 = .ok (.putfield 48, 3) := by decide +kernel
set_option maxRecDepth 20000 in
theorem dX7_init_107 : decode cX7_init 107 = .ok (.aload_n 0, 1) := by decide +kernel
set_option maxRecDepth 20000 in
theorem dX7_init_108 : decode cX7_init 108 = .ok (.bipush 12, 2) := by decide +kernel
set_option maxRecDepth 20000 in
theorem dX7_init_110 : decode cX7_init 110 = .ok (.newarray .int, 2) := by decide +kernel
set_option maxRecDepth 20000 in
theorem dX7_init_112 : decode cX7_init 112 = .ok (.putfield 51, 3) := by decide +kernel
set_option maxRecDepth 20000 in
theorem dX7_init_115 : decode cX7_init 115 = .ok (.aload_n 0, 1) := by decide +kernel
set_option maxRecDepth 20000 in
theorem dX7_init_116 : decode cX7_init 116 = .ok (.bipush 22, 2) := by decide +kernel
set_option maxRecDepth 20000 in
theorem dX7_init_118 : decode cX7_init 118 = .ok (.newarray .boolean, 2) := by decide +kernel
set_option maxRecDepth 20000 in
theorem dX7_init_120 : decode cX7_init 120 = .ok (.putfield 54, 3) := by decide +kernel
set_option maxRecDepth 20000 in
theorem dX7_init_123 : decode cX7_init 123 = .ok (.aload_n 0, 1) := by decide +kernel
set_option maxRecDepth 20000 in
theorem dX7_init_124 : decode cX7_init 124 = .ok (.bipush 21, 2) := by decide +kernel
set_option maxRecDepth 20000 in
theorem dX7_init_126 : decode cX7_init 126 = .ok (.newarray .int, 2) := by decide +kernel
set_option maxRecDepth 20000 in
theorem dX7_init_128 : decode cX7_init 128 = .ok (.putfield 57, 3) := by decide +kernel
set_option maxRecDepth 20000 in
theorem dX7_init_131 : decode cX7_init 131 = .ok (.aload_n 0, 1) := by decide +kernel
set_option maxRecDepth 20000 in
theorem dX7_init_132 : decode cX7_init 132 = .ok (.bipush 21, 2) := by decide +kernel
set_option maxRecDepth 20000 in
theorem dX7_init_134 : decode cX7_init 134 = .ok (.newarray .int, 2) := by decide +kernel
set_option maxRecDepth 20000 in
theorem dX7_init_136 : decode cX7_init 136 = .ok (.putfield 60, 3) := by decide +kernel
set_option maxRecDepth 20000 in
theorem dX7_init_139 : decode cX7_init 139 = .ok (.aload_n 0, 1) := by decide +kernel
set_option maxRecDepth 20000 in
theorem dX7_init_140 : decode cX7_init 140 = .ok (.bipush 21, 2) := by decide +kernel
set_option maxRecDepth 20000 in
theorem dX7_init_142 : decode cX7_init 142 = .ok (.newarray .int, 2) := by decide +kernel
set_option maxRecDepth 20000 in
theorem dX7_init_144 : decode cX7_init 144 = .ok (.putfield 63, 3) := by decide +kernel
set_option maxRecDepth 20000 in
theorem dX7_init_147 : decode cX7_init 147 = .ok (.aload_n 0, 1) := by decide +kernel
set_option maxRecDepth 20000 in
theorem dX7_init_148 : decode cX7_init 148 = .ok (.bipush 44, 2) := by decide +kernel
set_option maxRecDepth 20000 in
theorem dX7_init_150 : decode cX7_init 150 = .ok (.newarray .int, 2) := by decide +kernel
set_option maxRecDepth 20000 in
theorem dX7_init_152 : decode cX7_init 152 = .ok (.putfield 66, 3) := by decide +kernel
set_option maxRecDepth 20000 in
theorem dX7_init_155 : decode cX7_init 155 = .ok (.aload_n 0, 1) := by decide +kernel
set_option maxRecDepth 20000 in
theorem dX7_init_156 : decode cX7_init 156 = .ok (.sipush 144, 3) := by decide +kernel
set_option maxRecDepth 20000 in
theorem dX7_init_159 : decode cX7_init 159 = .ok (.newarray .long, 2) := by decide +kernel
set_option maxRecDepth 20000 in
theorem dX7_init_161 : decode cX7_init 161 = .ok (.putfield 69, 3) := by decide +kernel
set_option maxRecDepth 20000 in
theorem dX7_init_164 : decode cX7_init 164 = .ok (.aload_n 0, 1) := by decide +kernel
set_option maxRecDepth 20000 in
theorem dX7_init_165 : decode cX7_init 165 = .ok (.bipush 12, 2) := by decide +kernel
set_option maxRecDepth 20000 in
theorem dX7_init_167 : decode cX7_init 167 = .ok (.newarray .int, 2) := by decide +kernel
set_option maxRecDepth 20000 in
theorem dX7_init_169 : decode cX7_init 169 = .ok (.putfield 73, 3) := by decide +kernel
set_option maxRecDepth 20000 in
theorem dX7_init_172 : decode cX7_init 172 = .ok (.aload_n 0, 1) := by decide +kernel
set_option maxRecDepth 20000 in
theorem dX7_init_173 : decode cX7_init 173 = .ok (.bipush 22, 2) := by decide +kernel
set_option maxRecDepth 20000 in
theorem dX7_init_175 : decode cX7_init 175 = .ok (.newarray .int, 2) := by decide +kernel
set_option maxRecDepth 20000 in
theorem dX7_init_177 : decode cX7_init 177 = .ok (.putfield 76, 3) := by decide +kernel
set_option maxRecDepth 20000 in
theorem dX7_init_180 : decode cX7_init 180 = .ok (.aload_n 0, 1) := by decide +kernel
set_option maxRecDepth 20000 in
theorem dX7_init_181 : decode cX7_init 181 = .ok (.bipush 24, 2) := by decide +kernel
set_option maxRecDepth 20000 in
theorem dX7_init_183 : decode cX7_init 183 = .ok (.newarray .int, 2) := by decide +kernel
set_option maxRecDepth 20000 in
theorem dX7_init_185 : decode cX7_init 185 = .ok (.putfield 79, 3) := by decide +kernel
set_option maxRecDepth 20000 in
theorem dX7_init_188 : decode cX7_init 188 = .ok (.aload_n 0, 1) := by decide +kernel
set_option maxRecDepth 20000 in
theorem dX7_init_189 : decode cX7_init 189 = .ok (.sipush 264, 3) := by decide +kernel
set_option maxRecDepth 20000 in
theorem dX7_init_192 : decode cX7_init 192 = .ok (.newarray .int, 2) := by decide +kernel
set_option maxRecDepth 20000 in
theorem dX7_init_194 : decode cX7_init 194 = .ok (.putfield 82, 3) := by decide +kernel
set_option maxRecDepth 20000 in
theorem dX7_init_197 : decode cX7_init 197 = .ok (.aload_n 0, 1) := by decide +kernel
set_option maxRecDepth 20000 in
theorem dX7_init_198 : decode cX7_init 198 = .ok (.bipush 24, 2) := by decide +kernel
set_option maxRecDepth 20000 in
theorem dX7_init_200 : decode cX7_init 200 = .ok (.newarray .int, 2) := by decide +kernel
set_option maxRecDepth 20000 in
theorem dX7_init_202 : decode cX7_init 202 = .ok (.putfield 85, 3) := by decide +kernel
set_option maxRecDepth 20000 in
theorem dX7_init_205 : decode cX7_init 205 = .ok (.aload_n 0, 1) := by decide +kernel
set_option maxRecDepth 20000 in
theorem dX7_init_206 : decode cX7_init 206 = .ok (.bipush 42, 2) := by decide +kernel
set_option maxRecDepth 20000 in
theorem dX7_init_208 : decode cX7_init 208 = .ok (.newarray .int, 2) := by decide +kernel
set_option maxRecDepth 20000 in
theorem dX7_init_210 : decode cX7_init 210 = .ok (.putfield 88, 3) := by decide +kernel
set_option maxRecDepth 20000 in
theorem dX7_init_213 : decode cX7_init 213 = .ok (.aload_n 0, 1) := by decide +kernel
set_option maxRecDepth 20000 in
theorem dX7_init_214 : decode cX7_init 214 = .ok (.bipush 42, 2) := by decide +kernel
set_option maxRecDepth 20000 in
theorem dX7_init_216 : decode cX7_init 216 = .ok (.newarray .int, 2) := by decide +kernel
set_option maxRecDepth 20000 in
theorem dX7_init_218 : decode cX7_init 218 = .ok (.putfield 91, 3) := by decide +kernel
set_option maxRecDepth 20000 in
theorem dX7_init_221 : decode cX7_init 221 = .ok (.aload_n 0, 1) := by decide +kernel
set_option maxRecDepth 20000 in
theorem dX7_init_222 : decode cX7_init 222 = .ok (.bipush 42, 2) := by decide +kernel
set_option maxRecDepth 20000 in
theorem dX7_init_224 : decode cX7_init 224 = .ok (.newarray .int, 2) := by decide +kernel
set_option maxRecDepth 20000 in
theorem dX7_init_226 : decode cX7_init 226 = .ok (.putfield 94, 3) := by decide +kernel
set_option maxRecDepth 20000 in
theorem dX7_init_229 : decode cX7_init 229 = .ok (.return_, 1) := by decide +kernel
set_option maxRecDepth 20000 in
theorem dX7_in_0 : decode cX7_in 0 = .ok (.iload_n 0, 1) := by decide +kernel
set_option maxRecDepth 20000 in
theorem dX7_in_1 : decode cX7_in 1 = .ok (.iload_n 1, 1) := by decide +kernel
set_option maxRecDepth 20000 in
theorem dX7_in_2 : decode cX7_in 2 = .ok (.if_icmp .lt 12, 3) := by decide +kernel
set_option maxRecDepth 20000 in
theorem dX7_in_5 : decode cX7_in 5 = .ok (.iload_n 0, 1) := by decide +kernel
set_option maxRecDepth 20000 in
theorem dX7_in_6 : decode cX7_in 6 = .ok (.iload_n 2, 1) := by decide +kernel
set_option maxRecDepth 20000 in
theorem dX7_in_7 : decode cX7_in 7 = .ok (.if_icmp .gt 7, 3) := by decide +kernel
set_option maxRecDepth 20000 in
theorem dX7_in_10 : decode cX7_in 10 = .ok (.iconst 1, 1) := by decide +kernel
set_option maxRecDepth 20000 in
theorem dX7_in_11 : decode cX7_in 11 = .ok (.goto 4, 3) := by decide +kernel
set_option maxRecDepth 20000 in
theorem dX7_in_14 : decode cX7_in 14 = .ok (.iconst 0, 1) := by decide +kernel
set_option maxRecDepth 20000 in
theorem dX7_in_15 : decode cX7_in 15 = .ok (.ireturn, 1) := by decide +kernel
set_option maxRecDepth 20000 in
theorem dX7_isKnot_0 : decode cX7_isKnot 0 = .ok (.iload_n 1, 1) := by decide +kernel
set_option maxRecDepth 20000 in
theorem dX7_isKnot_1 : decode cX7_isKnot 1 = .ok (.iconst 0, 1) := by decide +kernel
set_option maxRecDepth 20000 in
theorem dX7_isKnot_2 : decode cX7_isKnot 2 = .ok (.aload_n 0, 1) := by decide +kernel
set_option maxRecDepth 20000 in
theorem dX7_isKnot_3 : decode cX7_isKnot 3 = .ok (.getfield 97, 3) := by decide +kernel
set_option maxRecDepth 20000 in
theorem dX7_isKnot_6 : decode cX7_isKnot 6 = .ok (.iconst 1, 1) := by decide +kernel
set_option maxRecDepth 20000 in
theorem dX7_isKnot_7 : decode cX7_isKnot 7 = .ok (.isub, 1) := by decide +kernel
set_option maxRecDepth 20000 in
theorem dX7_isKnot_8 : decode cX7_isKnot 8 = .ok (.invokestatic 100, 3) := by decide +kernel
set_option maxRecDepth 20000 in
theorem dX7_isKnot_11 : decode cX7_isKnot 11 = .ok (.ireturn, 1) := by decide +kernel
set_option maxRecDepth 20000 in
theorem dX7_isWire_0 : decode cX7_isWire 0 = .ok (.iload_n 1, 1) := by decide +kernel
set_option maxRecDepth 20000 in
theorem dX7_isWire_1 : decode cX7_isWire 1 = .ok (.iconst 0, 1) := by decide +kernel
set_option maxRecDepth 20000 in
theorem dX7_isWire_2 : decode cX7_isWire 2 = .ok (.aload_n 0, 1) := by decide +kernel
set_option maxRecDepth 20000 in
theorem dX7_isWire_3 : decode cX7_isWire 3 = .ok (.getfield 104, 3) := by decide +kernel
set_option maxRecDepth 20000 in
theorem dX7_isWire_6 : decode cX7_isWire 6 = .ok (.iconst 1, 1) := by decide +kernel
set_option maxRecDepth 20000 in
theorem dX7_isWire_7 : decode cX7_isWire 7 = .ok (.isub, 1) := by decide +kernel
set_option maxRecDepth 20000 in
theorem dX7_isWire_8 : decode cX7_isWire 8 = .ok (.invokestatic 100, 3) := by decide +kernel
set_option maxRecDepth 20000 in
theorem dX7_isWire_11 : decode cX7_isWire 11 = .ok (.ireturn, 1) := by decide +kernel
set_option maxRecDepth 20000 in
theorem dX7_isPlain_0 : decode cX7_isPlain 0 = .ok (.iload_n 1, 1) := by decide +kernel
set_option maxRecDepth 20000 in
theorem dX7_isPlain_1 : decode cX7_isPlain 1 = .ok (.aload_n 0, 1) := by decide +kernel
set_option maxRecDepth 20000 in
theorem dX7_isPlain_2 : decode cX7_isPlain 2 = .ok (.getfield 7, 3) := by decide +kernel
set_option maxRecDepth 20000 in
theorem dX7_isPlain_5 : decode cX7_isPlain 5 = .ok (.if_icmp .eq 16, 3) := by decide +kernel
set_option maxRecDepth 20000 in
theorem dX7_isPlain_8 : decode cX7_isPlain 8 = .ok (.aload_n 0, 1) := by decide +kernel
set_option maxRecDepth 20000 in
theorem dX7_isPlain_9 : decode cX7_isPlain 9 = .ok (.getfield 20, 3) := by decide +kernel
set_option maxRecDepth 20000 in
theorem dX7_isPlain_12 : decode cX7_isPlain 12 = .ok (.iload_n 1, 1) := by decide +kernel
set_option maxRecDepth 20000 in
theorem dX7_isPlain_13 : decode cX7_isPlain 13 = .ok (.baload, 1) := by decide +kernel
set_option maxRecDepth 20000 in
theorem dX7_isPlain_14 : decode cX7_isPlain 14 = .ok (.ifCond .ne 7, 3) := by decide +kernel
set_option maxRecDepth 20000 in
theorem dX7_isPlain_17 : decode cX7_isPlain 17 = .ok (.iconst 1, 1) := by decide +kernel
set_option maxRecDepth 20000 in
theorem dX7_isPlain_18 : decode cX7_isPlain 18 = .ok (.goto 4, 3) := by decide +kernel
set_option maxRecDepth 20000 in
theorem dX7_isPlain_21 : decode cX7_isPlain 21 = .ok (.iconst 0, 1) := by decide +kernel
set_option maxRecDepth 20000 in
theorem dX7_isPlain_22 : decode cX7_isPlain 22 = .ok (.ireturn, 1) := by decide +kernel
set_option maxRecDepth 20000 in
theorem dX7_knot_0 : decode cX7_knot 0 = .ok (.aload_n 0, 1) := by decide +kernel
set_option maxRecDepth 20000 in
theorem dX7_knot_1 : decode cX7_knot 1 = .ok (.getfield 97, 3) := by decide +kernel
set_option maxRecDepth 20000 in
theorem dX7_knot_4 : decode cX7_knot 4 = .ok (.bipush 12, 2) := by decide +kernel
set_option maxRecDepth 20000 in
theorem dX7_knot_6 : decode cX7_knot 6 = .ok (.if_icmp .ne 6, 3) := by decide +kernel
set_option maxRecDepth 20000 in
theorem dX7_knot_9 : decode cX7_knot 9 = .ok (.ldc 107, 2) := by decide +kernel
set_option maxRecDepth 20000 in
theorem dX7_knot_11 : decode cX7_knot 11 = .ok (.ireturn, 1) := by decide +kernel
set_option maxRecDepth 20000 in
theorem dX7_knot_12 : decode cX7_knot 12 = .ok (.aload_n 0, 1) := by decide +kernel
set_option maxRecDepth 20000 in
theorem dX7_knot_13 : decode cX7_knot 13 = .ok (.getfield 27, 3) := by decide +kernel
set_option maxRecDepth 20000 in
theorem dX7_knot_16 : decode cX7_knot 16 = .ok (.aload_n 0, 1) := by decide +kernel
set_option maxRecDepth 20000 in
theorem dX7_knot_17 : decode cX7_knot 17 = .ok (.getfield 97, 3) := by decide +kernel
set_option maxRecDepth 20000 in
theorem dX7_knot_20 : decode cX7_knot 20 = .ok (.iconst 0, 1) := by decide +kernel
set_option maxRecDepth 20000 in
theorem dX7_knot_21 : decode cX7_knot 21 = .ok (.iastore, 1) := by decide +kernel
set_option maxRecDepth 20000 in
theorem dX7_knot_22 : decode cX7_knot 22 = .ok (.aload_n 0, 1) := by decide +kernel
set_option maxRecDepth 20000 in
theorem dX7_knot_23 : decode cX7_knot 23 = .ok (.getfield 33, 3) := by decide +kernel
set_option maxRecDepth 20000 in
theorem dX7_knot_26 : decode cX7_knot 26 = .ok (.aload_n 0, 1) := by decide +kernel
set_option maxRecDepth 20000 in
theorem dX7_knot_27 : decode cX7_knot 27 = .ok (.getfield 97, 3) := by decide +kernel
set_option maxRecDepth 20000 in
theorem dX7_knot_30 : decode cX7_knot 30 = .ok (.iconst 0, 1) := by decide +kernel
set_option maxRecDepth 20000 in
theorem dX7_knot_31 : decode cX7_knot 31 = .ok (.iastore, 1) := by decide +kernel
set_option maxRecDepth 20000 in
theorem dX7_knot_32 : decode cX7_knot 32 = .ok (.aload_n 0, 1) := by decide +kernel
set_option maxRecDepth 20000 in
theorem dX7_knot_33 : decode cX7_knot 33 = .ok (.dup, 1) := by decide +kernel
set_option maxRecDepth 20000 in
theorem dX7_knot_34 : decode cX7_knot 34 = .ok (.getfield 97, 3) := by decide +kernel
set_option maxRecDepth 20000 in
theorem dX7_knot_37 : decode cX7_knot 37 = .ok (.iconst 1, 1) := by decide +kernel
set_option maxRecDepth 20000 in
theorem dX7_knot_38 : decode cX7_knot 38 = .ok (.iadd, 1) := by decide +kernel
set_option maxRecDepth 20000 in
theorem dX7_knot_39 : decode cX7_knot 39 = .ok (.putfield 97, 3) := by decide +kernel
set_option maxRecDepth 20000 in
theorem dX7_knot_42 : decode cX7_knot 42 = .ok (.aload_n 0, 1) := by decide +kernel
set_option maxRecDepth 20000 in
theorem dX7_knot_43 : decode cX7_knot 43 = .ok (.getfield 97, 3) := by decide +kernel
set_option maxRecDepth 20000 in
theorem dX7_knot_46 : decode cX7_knot 46 = .ok (.iconst 1, 1) := by decide +kernel
set_option maxRecDepth 20000 in
theorem dX7_knot_47 : decode cX7_knot 47 = .ok (.isub, 1) := by decide +kernel
set_option maxRecDepth 20000 in
theorem dX7_knot_48 : decode cX7_knot 48 = .ok (.ireturn, 1) := by decide +kernel
set_option maxRecDepth 20000 in
theorem dX7_wire_0 : decode cX7_wire 0 = .ok (.aload_n 0, 1) := by decide +kernel
set_option maxRecDepth 20000 in
theorem dX7_wire_1 : decode cX7_wire 1 = .ok (.iload_n 1, 1) := by decide +kernel
set_option maxRecDepth 20000 in
theorem dX7_wire_2 : decode cX7_wire 2 = .ok (.invokevirtual 108, 3) := by decide +kernel
set_option maxRecDepth 20000 in
theorem dX7_wire_5 : decode cX7_wire 5 = .ok (.ifCond .eq 25, 3) := by decide +kernel
set_option maxRecDepth 20000 in
theorem dX7_wire_8 : decode cX7_wire 8 = .ok (.aload_n 0, 1) := by decide +kernel
set_option maxRecDepth 20000 in
theorem dX7_wire_9 : decode cX7_wire 9 = .ok (.iload_n 2, 1) := by decide +kernel
set_option maxRecDepth 20000 in
theorem dX7_wire_10 : decode cX7_wire 10 = .ok (.invokevirtual 108, 3) := by decide +kernel
set_option maxRecDepth 20000 in
theorem dX7_wire_13 : decode cX7_wire 13 = .ok (.ifCond .eq 17, 3) := by decide +kernel
set_option maxRecDepth 20000 in
theorem dX7_wire_16 : decode cX7_wire 16 = .ok (.iload_n 1, 1) := by decide +kernel
set_option maxRecDepth 20000 in
theorem dX7_wire_17 : decode cX7_wire 17 = .ok (.iload_n 2, 1) := by decide +kernel
set_option maxRecDepth 20000 in
theorem dX7_wire_18 : decode cX7_wire 18 = .ok (.if_icmp .eq 12, 3) := by decide +kernel
set_option maxRecDepth 20000 in
theorem dX7_wire_21 : decode cX7_wire 21 = .ok (.aload_n 0, 1) := by decide +kernel
set_option maxRecDepth 20000 in
theorem dX7_wire_22 : decode cX7_wire 22 = .ok (.getfield 104, 3) := by decide +kernel
set_option maxRecDepth 20000 in
theorem dX7_wire_25 : decode cX7_wire 25 = .ok (.bipush 22, 2) := by decide +kernel
set_option maxRecDepth 20000 in
theorem dX7_wire_27 : decode cX7_wire 27 = .ok (.if_icmp .ne 6, 3) := by decide +kernel
set_option maxRecDepth 20000 in
theorem dX7_wire_30 : decode cX7_wire 30 = .ok (.ldc 107, 2) := by decide +kernel
set_option maxRecDepth 20000 in
theorem dX7_wire_32 : decode cX7_wire 32 = .ok (.ireturn, 1) := by decide +kernel
set_option maxRecDepth 20000 in
theorem dX7_wire_33 : decode cX7_wire 33 = .ok (.aload_n 0, 1) := by decide +kernel
set_option maxRecDepth 20000 in
theorem dX7_wire_34 : decode cX7_wire 34 = .ok (.getfield 13, 3) := by decide +kernel
set_option maxRecDepth 20000 in
theorem dX7_wire_37 : decode cX7_wire 37 = .ok (.aload_n 0, 1) := by decide +kernel
set_option maxRecDepth 20000 in
theorem dX7_wire_38 : decode cX7_wire 38 = .ok (.getfield 104, 3) := by decide +kernel
set_option maxRecDepth 20000 in
theorem dX7_wire_41 : decode cX7_wire 41 = .ok (.iload_n 1, 1) := by decide +kernel
set_option maxRecDepth 20000 in
theorem dX7_wire_42 : decode cX7_wire 42 = .ok (.iastore, 1) := by decide +kernel
set_option maxRecDepth 20000 in
theorem dX7_wire_43 : decode cX7_wire 43 = .ok (.aload_n 0, 1) := by decide +kernel
set_option maxRecDepth 20000 in
theorem dX7_wire_44 : decode cX7_wire 44 = .ok (.getfield 17, 3) := by decide +kernel
set_option maxRecDepth 20000 in
theorem dX7_wire_47 : decode cX7_wire 47 = .ok (.aload_n 0, 1) := by decide +kernel
set_option maxRecDepth 20000 in
theorem dX7_wire_48 : decode cX7_wire 48 = .ok (.getfield 104, 3) := by decide +kernel
set_option maxRecDepth 20000 in
theorem dX7_wire_51 : decode cX7_wire 51 = .ok (.iload_n 2, 1) := by decide +kernel
set_option maxRecDepth 20000 in
theorem dX7_wire_52 : decode cX7_wire 52 = .ok (.iastore, 1) := by decide +kernel
set_option maxRecDepth 20000 in
theorem dX7_wire_53 : decode cX7_wire 53 = .ok (.aload_n 0, 1) := by decide +kernel
set_option maxRecDepth 20000 in
theorem dX7_wire_54 : decode cX7_wire 54 = .ok (.getfield 20, 3) := by decide +kernel
set_option maxRecDepth 20000 in
theorem dX7_wire_57 : decode cX7_wire 57 = .ok (.aload_n 0, 1) := by decide +kernel
set_option maxRecDepth 20000 in
theorem dX7_wire_58 : decode cX7_wire 58 = .ok (.getfield 104, 3) := by decide +kernel
set_option maxRecDepth 20000 in
theorem dX7_wire_61 : decode cX7_wire 61 = .ok (.iconst 0, 1) := by decide +kernel
set_option maxRecDepth 20000 in
theorem dX7_wire_62 : decode cX7_wire 62 = .ok (.bastore, 1) := by decide +kernel
set_option maxRecDepth 20000 in
theorem dX7_wire_63 : decode cX7_wire 63 = .ok (.aload_n 0, 1) := by decide +kernel
set_option maxRecDepth 20000 in
theorem dX7_wire_64 : decode cX7_wire 64 = .ok (.getfield 30, 3) := by decide +kernel
set_option maxRecDepth 20000 in
theorem dX7_wire_67 : decode cX7_wire 67 = .ok (.aload_n 0, 1) := by decide +kernel
set_option maxRecDepth 20000 in
theorem dX7_wire_68 : decode cX7_wire 68 = .ok (.getfield 104, 3) := by decide +kernel
set_option maxRecDepth 20000 in
theorem dX7_wire_71 : decode cX7_wire 71 = .ok (.iconst 0, 1) := by decide +kernel
set_option maxRecDepth 20000 in
theorem dX7_wire_72 : decode cX7_wire 72 = .ok (.iastore, 1) := by decide +kernel
set_option maxRecDepth 20000 in
theorem dX7_wire_73 : decode cX7_wire 73 = .ok (.aload_n 0, 1) := by decide +kernel
set_option maxRecDepth 20000 in
theorem dX7_wire_74 : decode cX7_wire 74 = .ok (.dup, 1) := by decide +kernel
set_option maxRecDepth 20000 in
theorem dX7_wire_75 : decode cX7_wire 75 = .ok (.getfield 104, 3) := by decide +kernel
set_option maxRecDepth 20000 in
theorem dX7_wire_78 : decode cX7_wire 78 = .ok (.iconst 1, 1) := by decide +kernel
set_option maxRecDepth 20000 in
theorem dX7_wire_79 : decode cX7_wire 79 = .ok (.iadd, 1) := by decide +kernel
set_option maxRecDepth 20000 in
theorem dX7_wire_80 : decode cX7_wire 80 = .ok (.putfield 104, 3) := by decide +kernel
set_option maxRecDepth 20000 in
theorem dX7_wire_83 : decode cX7_wire 83 = .ok (.aload_n 0, 1) := by decide +kernel
set_option maxRecDepth 20000 in
theorem dX7_wire_84 : decode cX7_wire 84 = .ok (.getfield 104, 3) := by decide +kernel
set_option maxRecDepth 20000 in
theorem dX7_wire_87 : decode cX7_wire 87 = .ok (.iconst 1, 1) := by decide +kernel
set_option maxRecDepth 20000 in
theorem dX7_wire_88 : decode cX7_wire 88 = .ok (.isub, 1) := by decide +kernel
set_option maxRecDepth 20000 in
theorem dX7_wire_89 : decode cX7_wire 89 = .ok (.ireturn, 1) := by decide +kernel
set_option maxRecDepth 20000 in
theorem dX7_battery_0 : decode cX7_battery 0 = .ok (.iload_n 1, 1) := by decide +kernel
set_option maxRecDepth 20000 in
theorem dX7_battery_1 : decode cX7_battery 1 = .ok (.iconst (-1), 1) := by decide +kernel
set_option maxRecDepth 20000 in
theorem dX7_battery_2 : decode cX7_battery 2 = .ok (.if_icmp .eq 14, 3) := by decide +kernel
set_option maxRecDepth 20000 in
theorem dX7_battery_5 : decode cX7_battery 5 = .ok (.aload_n 0, 1) := by decide +kernel
set_option maxRecDepth 20000 in
theorem dX7_battery_6 : decode cX7_battery 6 = .ok (.iload_n 1, 1) := by decide +kernel
set_option maxRecDepth 20000 in
theorem dX7_battery_7 : decode cX7_battery 7 = .ok (.invokevirtual 112, 3) := by decide +kernel
set_option maxRecDepth 20000 in
theorem dX7_battery_10 : decode cX7_battery 10 = .ok (.ifCond .ne 6, 3) := by decide +kernel
set_option maxRecDepth 20000 in
theorem dX7_battery_13 : decode cX7_battery 13 = .ok (.ldc 107, 2) := by decide +kernel
set_option maxRecDepth 20000 in
theorem dX7_battery_15 : decode cX7_battery 15 = .ok (.ireturn, 1) := by decide +kernel
set_option maxRecDepth 20000 in
theorem dX7_battery_16 : decode cX7_battery 16 = .ok (.aload_n 0, 1) := by decide +kernel
set_option maxRecDepth 20000 in
theorem dX7_battery_17 : decode cX7_battery 17 = .ok (.getfield 7, 3) := by decide +kernel
set_option maxRecDepth 20000 in
theorem dX7_battery_20 : decode cX7_battery 20 = .ok (.istore_n 2, 1) := by decide +kernel
set_option maxRecDepth 20000 in
theorem dX7_battery_21 : decode cX7_battery 21 = .ok (.aload_n 0, 1) := by decide +kernel
set_option maxRecDepth 20000 in
theorem dX7_battery_22 : decode cX7_battery 22 = .ok (.iload_n 1, 1) := by decide +kernel
set_option maxRecDepth 20000 in
theorem dX7_battery_23 : decode cX7_battery 23 = .ok (.putfield 7, 3) := by decide +kernel
set_option maxRecDepth 20000 in
theorem dX7_battery_26 : decode cX7_battery 26 = .ok (.iload_n 1, 1) := by decide +kernel
set_option maxRecDepth 20000 in
theorem dX7_battery_27 : decode cX7_battery 27 = .ok (.ifCond .lt 10, 3) := by decide +kernel
set_option maxRecDepth 20000 in
theorem dX7_battery_30 : decode cX7_battery 30 = .ok (.aload_n 0, 1) := by decide +kernel
set_option maxRecDepth 20000 in
theorem dX7_battery_31 : decode cX7_battery 31 = .ok (.getfield 20, 3) := by decide +kernel
set_option maxRecDepth 20000 in
theorem dX7_battery_34 : decode cX7_battery 34 = .ok (.iload_n 1, 1) := by decide +kernel
set_option maxRecDepth 20000 in
theorem dX7_battery_35 : decode cX7_battery 35 = .ok (.iconst 0, 1) := by decide +kernel
set_option maxRecDepth 20000 in
theorem dX7_battery_36 : decode cX7_battery 36 = .ok (.bastore, 1) := by decide +kernel
set_option maxRecDepth 20000 in
theorem dX7_battery_37 : decode cX7_battery 37 = .ok (.iload_n 2, 1) := by decide +kernel
set_option maxRecDepth 20000 in
theorem dX7_battery_38 : decode cX7_battery 38 = .ok (.ireturn, 1) := by decide +kernel
set_option maxRecDepth 20000 in
theorem dX7_cut_0 : decode cX7_cut 0 = .ok (.aload_n 0, 1) := by decide +kernel
set_option maxRecDepth 20000 in
theorem dX7_cut_1 : decode cX7_cut 1 = .ok (.iload_n 1, 1) := by decide +kernel
set_option maxRecDepth 20000 in
theorem dX7_cut_2 : decode cX7_cut 2 = .ok (.invokevirtual 112, 3) := by decide +kernel
set_option maxRecDepth 20000 in
theorem dX7_cut_5 : decode cX7_cut 5 = .ok (.ifCond .eq 11, 3) := by decide +kernel
set_option maxRecDepth 20000 in
theorem dX7_cut_8 : decode cX7_cut 8 = .ok (.iload_n 1, 1) := by decide +kernel
set_option maxRecDepth 20000 in
theorem dX7_cut_9 : decode cX7_cut 9 = .ok (.aload_n 0, 1) := by decide +kernel
set_option maxRecDepth 20000 in
theorem dX7_cut_10 : decode cX7_cut 10 = .ok (.getfield 7, 3) := by decide +kernel
set_option maxRecDepth 20000 in
theorem dX7_cut_13 : decode cX7_cut 13 = .ok (.if_icmp .ne 6, 3) := by decide +kernel
set_option maxRecDepth 20000 in
theorem dX7_cut_16 : decode cX7_cut 16 = .ok (.ldc 107, 2) := by decide +kernel
set_option maxRecDepth 20000 in
theorem dX7_cut_18 : decode cX7_cut 18 = .ok (.ireturn, 1) := by decide +kernel
set_option maxRecDepth 20000 in
theorem dX7_cut_19 : decode cX7_cut 19 = .ok (.aload_n 0, 1) := by decide +kernel
set_option maxRecDepth 20000 in
theorem dX7_cut_20 : decode cX7_cut 20 = .ok (.getfield 20, 3) := by decide +kernel
set_option maxRecDepth 20000 in
theorem dX7_cut_23 : decode cX7_cut 23 = .ok (.iload_n 1, 1) := by decide +kernel
set_option maxRecDepth 20000 in
theorem dX7_cut_24 : decode cX7_cut 24 = .ok (.baload, 1) := by decide +kernel
set_option maxRecDepth 20000 in
theorem dX7_cut_25 : decode cX7_cut 25 = .ok (.istore_n 3, 1) := by decide +kernel
set_option maxRecDepth 20000 in
theorem dX7_cut_26 : decode cX7_cut 26 = .ok (.aload_n 0, 1) := by decide +kernel
set_option maxRecDepth 20000 in
theorem dX7_cut_27 : decode cX7_cut 27 = .ok (.getfield 20, 3) := by decide +kernel
set_option maxRecDepth 20000 in
theorem dX7_cut_30 : decode cX7_cut 30 = .ok (.iload_n 1, 1) := by decide +kernel
set_option maxRecDepth 20000 in
theorem dX7_cut_31 : decode cX7_cut 31 = .ok (.iload_n 2, 1) := by decide +kernel
set_option maxRecDepth 20000 in
theorem dX7_cut_32 : decode cX7_cut 32 = .ok (.bastore, 1) := by decide +kernel
set_option maxRecDepth 20000 in
theorem dX7_cut_33 : decode cX7_cut 33 = .ok (.iload_n 3, 1) := by decide +kernel
set_option maxRecDepth 20000 in
theorem dX7_cut_34 : decode cX7_cut 34 = .ok (.ifCond .eq 7, 3) := by decide +kernel
set_option maxRecDepth 20000 in
theorem dX7_cut_37 : decode cX7_cut 37 = .ok (.iconst 1, 1) := by decide +kernel
set_option maxRecDepth 20000 in
theorem dX7_cut_38 : decode cX7_cut 38 = .ok (.goto 4, 3) := by decide +kernel
set_option maxRecDepth 20000 in
theorem dX7_cut_41 : decode cX7_cut 41 = .ok (.iconst 0, 1) := by decide +kernel
set_option maxRecDepth 20000 in
theorem dX7_cut_42 : decode cX7_cut 42 = .ok (.ireturn, 1) := by decide +kernel
set_option maxRecDepth 20000 in
theorem dX7_placeIn_0 : decode cX7_placeIn 0 = .ok (.iconst 0, 1) := by decide +kernel
set_option maxRecDepth 20000 in
theorem dX7_placeIn_1 : decode cX7_placeIn 1 = .ok (.istore_n 3, 1) := by decide +kernel
set_option maxRecDepth 20000 in
theorem dX7_placeIn_2 : decode cX7_placeIn 2 = .ok (.iload_n 3, 1) := by decide +kernel
set_option maxRecDepth 20000 in
theorem dX7_placeIn_3 : decode cX7_placeIn 3 = .ok (.aload_n 0, 1) := by decide +kernel
set_option maxRecDepth 20000 in
theorem dX7_placeIn_4 : decode cX7_placeIn 4 = .ok (.getfield 27, 3) := by decide +kernel
set_option maxRecDepth 20000 in
theorem dX7_placeIn_7 : decode cX7_placeIn 7 = .ok (.iload_n 1, 1) := by decide +kernel
set_option maxRecDepth 20000 in
theorem dX7_placeIn_8 : decode cX7_placeIn 8 = .ok (.iaload, 1) := by decide +kernel
set_option maxRecDepth 20000 in
theorem dX7_placeIn_9 : decode cX7_placeIn 9 = .ok (.if_icmp .ge 26, 3) := by decide +kernel
set_option maxRecDepth 20000 in
theorem dX7_placeIn_12 : decode cX7_placeIn 12 = .ok (.aload_n 0, 1) := by decide +kernel
set_option maxRecDepth 20000 in
theorem dX7_placeIn_13 : decode cX7_placeIn 13 = .ok (.getfield 24, 3) := by decide +kernel
set_option maxRecDepth 20000 in
theorem dX7_placeIn_16 : decode cX7_placeIn 16 = .ok (.bipush 22, 2) := by decide +kernel
set_option maxRecDepth 20000 in
theorem dX7_placeIn_18 : decode cX7_placeIn 18 = .ok (.iload_n 1, 1) := by decide +kernel
set_option maxRecDepth 20000 in
theorem dX7_placeIn_19 : decode cX7_placeIn 19 = .ok (.imul, 1) := by decide +kernel
set_option maxRecDepth 20000 in
theorem dX7_placeIn_20 : decode cX7_placeIn 20 = .ok (.iload_n 3, 1) := by decide +kernel
set_option maxRecDepth 20000 in
theorem dX7_placeIn_21 : decode cX7_placeIn 21 = .ok (.iadd, 1) := by decide +kernel
set_option maxRecDepth 20000 in
theorem dX7_placeIn_22 : decode cX7_placeIn 22 = .ok (.iaload, 1) := by decide +kernel
set_option maxRecDepth 20000 in
theorem dX7_placeIn_23 : decode cX7_placeIn 23 = .ok (.iload_n 2, 1) := by decide +kernel
set_option maxRecDepth 20000 in
theorem dX7_placeIn_24 : decode cX7_placeIn 24 = .ok (.if_icmp .ne 5, 3) := by decide +kernel
set_option maxRecDepth 20000 in
theorem dX7_placeIn_27 : decode cX7_placeIn 27 = .ok (.iload_n 3, 1) := by decide +kernel
set_option maxRecDepth 20000 in
theorem dX7_placeIn_28 : decode cX7_placeIn 28 = .ok (.ireturn, 1) := by decide +kernel
set_option maxRecDepth 20000 in
theorem dX7_placeIn_29 : decode cX7_placeIn 29 = .ok (.iinc 3 1, 3) := by decide +kernel
set_option maxRecDepth 20000 in
theorem dX7_placeIn_32 : decode cX7_placeIn 32 = .ok (.goto (-30), 3) := by decide +kernel
set_option maxRecDepth 20000 in
theorem dX7_placeIn_35 : decode cX7_placeIn 35 = .ok (.iconst (-1), 1) := by decide +kernel
set_option maxRecDepth 20000 in
theorem dX7_placeIn_36 : decode cX7_placeIn 36 = .ok (.ireturn, 1) := by decide +kernel
set_option maxRecDepth 20000 in
theorem dX7_lay_0 : decode cX7_lay 0 = .ok (.aload_n 0, 1) := by decide +kernel
set_option maxRecDepth 20000 in
theorem dX7_lay_1 : decode cX7_lay 1 = .ok (.iload_n 1, 1) := by decide +kernel
set_option maxRecDepth 20000 in
theorem dX7_lay_2 : decode cX7_lay 2 = .ok (.invokevirtual 108, 3) := by decide +kernel
set_option maxRecDepth 20000 in
theorem dX7_lay_5 : decode cX7_lay 5 = .ok (.ifCond .eq 40, 3) := by decide +kernel
set_option maxRecDepth 20000 in
theorem dX7_lay_8 : decode cX7_lay 8 = .ok (.aload_n 0, 1) := by decide +kernel
set_option maxRecDepth 20000 in
theorem dX7_lay_9 : decode cX7_lay 9 = .ok (.iload_n 2, 1) := by decide +kernel
set_option maxRecDepth 20000 in
theorem dX7_lay_10 : decode cX7_lay 10 = .ok (.invokevirtual 112, 3) := by decide +kernel
set_option maxRecDepth 20000 in
theorem dX7_lay_13 : decode cX7_lay 13 = .ok (.ifCond .eq 32, 3) := by decide +kernel
set_option maxRecDepth 20000 in
theorem dX7_lay_16 : decode cX7_lay 16 = .ok (.aload_n 0, 1) := by decide +kernel
set_option maxRecDepth 20000 in
theorem dX7_lay_17 : decode cX7_lay 17 = .ok (.getfield 13, 3) := by decide +kernel
set_option maxRecDepth 20000 in
theorem dX7_lay_20 : decode cX7_lay 20 = .ok (.iload_n 2, 1) := by decide +kernel
set_option maxRecDepth 20000 in
theorem dX7_lay_21 : decode cX7_lay 21 = .ok (.iaload, 1) := by decide +kernel
set_option maxRecDepth 20000 in
theorem dX7_lay_22 : decode cX7_lay 22 = .ok (.iload_n 1, 1) := by decide +kernel
set_option maxRecDepth 20000 in
theorem dX7_lay_23 : decode cX7_lay 23 = .ok (.if_icmp .eq 13, 3) := by decide +kernel
set_option maxRecDepth 20000 in
theorem dX7_lay_26 : decode cX7_lay 26 = .ok (.aload_n 0, 1) := by decide +kernel
set_option maxRecDepth 20000 in
theorem dX7_lay_27 : decode cX7_lay 27 = .ok (.getfield 17, 3) := by decide +kernel
set_option maxRecDepth 20000 in
theorem dX7_lay_30 : decode cX7_lay 30 = .ok (.iload_n 2, 1) := by decide +kernel
set_option maxRecDepth 20000 in
theorem dX7_lay_31 : decode cX7_lay 31 = .ok (.iaload, 1) := by decide +kernel
set_option maxRecDepth 20000 in
theorem dX7_lay_32 : decode cX7_lay 32 = .ok (.iload_n 1, 1) := by decide +kernel
set_option maxRecDepth 20000 in
theorem dX7_lay_33 : decode cX7_lay 33 = .ok (.if_icmp .ne 12, 3) := by decide +kernel
set_option maxRecDepth 20000 in
theorem dX7_lay_36 : decode cX7_lay 36 = .ok (.aload_n 0, 1) := by decide +kernel
set_option maxRecDepth 20000 in
theorem dX7_lay_37 : decode cX7_lay 37 = .ok (.iload_n 1, 1) := by decide +kernel
set_option maxRecDepth 20000 in
theorem dX7_lay_38 : decode cX7_lay 38 = .ok (.iload_n 2, 1) := by decide +kernel
set_option maxRecDepth 20000 in
theorem dX7_lay_39 : decode cX7_lay 39 = .ok (.invokevirtual 115, 3) := by decide +kernel
set_option maxRecDepth 20000 in
theorem dX7_lay_42 : decode cX7_lay 42 = .ok (.ifCond .lt 6, 3) := by decide +kernel
set_option maxRecDepth 20000 in
theorem dX7_lay_45 : decode cX7_lay 45 = .ok (.ldc 107, 2) := by decide +kernel
set_option maxRecDepth 20000 in
theorem dX7_lay_47 : decode cX7_lay 47 = .ok (.ireturn, 1) := by decide +kernel
set_option maxRecDepth 20000 in
theorem dX7_lay_48 : decode cX7_lay 48 = .ok (.aload_n 0, 1) := by decide +kernel
set_option maxRecDepth 20000 in
theorem dX7_lay_49 : decode cX7_lay 49 = .ok (.getfield 24, 3) := by decide +kernel
set_option maxRecDepth 20000 in
theorem dX7_lay_52 : decode cX7_lay 52 = .ok (.bipush 22, 2) := by decide +kernel
set_option maxRecDepth 20000 in
theorem dX7_lay_54 : decode cX7_lay 54 = .ok (.iload_n 1, 1) := by decide +kernel
set_option maxRecDepth 20000 in
theorem dX7_lay_55 : decode cX7_lay 55 = .ok (.imul, 1) := by decide +kernel
set_option maxRecDepth 20000 in
theorem dX7_lay_56 : decode cX7_lay 56 = .ok (.aload_n 0, 1) := by decide +kernel
set_option maxRecDepth 20000 in
theorem dX7_lay_57 : decode cX7_lay 57 = .ok (.getfield 27, 3) := by decide +kernel
set_option maxRecDepth 20000 in
theorem dX7_lay_60 : decode cX7_lay 60 = .ok (.iload_n 1, 1) := by decide +kernel
set_option maxRecDepth 20000 in
theorem dX7_lay_61 : decode cX7_lay 61 = .ok (.iaload, 1) := by decide +kernel
set_option maxRecDepth 20000 in
theorem dX7_lay_62 : decode cX7_lay 62 = .ok (.iadd, 1) := by decide +kernel
set_option maxRecDepth 20000 in
theorem dX7_lay_63 : decode cX7_lay 63 = .ok (.iload_n 2, 1) := by decide +kernel
set_option maxRecDepth 20000 in
theorem dX7_lay_64 : decode cX7_lay 64 = .ok (.iastore, 1) := by decide +kernel
set_option maxRecDepth 20000 in
theorem dX7_lay_65 : decode cX7_lay 65 = .ok (.aload_n 0, 1) := by decide +kernel
set_option maxRecDepth 20000 in
theorem dX7_lay_66 : decode cX7_lay 66 = .ok (.getfield 27, 3) := by decide +kernel
set_option maxRecDepth 20000 in
theorem dX7_lay_69 : decode cX7_lay 69 = .ok (.iload_n 1, 1) := by decide +kernel
set_option maxRecDepth 20000 in
theorem dX7_lay_70 : decode cX7_lay 70 = .ok (.dup2, 1) := by decide +kernel
set_option maxRecDepth 20000 in
theorem dX7_lay_71 : decode cX7_lay 71 = .ok (.iaload, 1) := by decide +kernel
set_option maxRecDepth 20000 in
theorem dX7_lay_72 : decode cX7_lay 72 = .ok (.iconst 1, 1) := by decide +kernel
set_option maxRecDepth 20000 in
theorem dX7_lay_73 : decode cX7_lay 73 = .ok (.iadd, 1) := by decide +kernel
set_option maxRecDepth 20000 in
theorem dX7_lay_74 : decode cX7_lay 74 = .ok (.iastore, 1) := by decide +kernel
set_option maxRecDepth 20000 in
theorem dX7_lay_75 : decode cX7_lay 75 = .ok (.aload_n 0, 1) := by decide +kernel
set_option maxRecDepth 20000 in
theorem dX7_lay_76 : decode cX7_lay 76 = .ok (.getfield 27, 3) := by decide +kernel
set_option maxRecDepth 20000 in
theorem dX7_lay_79 : decode cX7_lay 79 = .ok (.iload_n 1, 1) := by decide +kernel
set_option maxRecDepth 20000 in
theorem dX7_lay_80 : decode cX7_lay 80 = .ok (.iaload, 1) := by decide +kernel
set_option maxRecDepth 20000 in
theorem dX7_lay_81 : decode cX7_lay 81 = .ok (.ireturn, 1) := by decide +kernel
set_option maxRecDepth 20000 in
theorem dX7_bare_0 : decode cX7_bare 0 = .ok (.aload_n 0, 1) := by decide +kernel
set_option maxRecDepth 20000 in
theorem dX7_bare_1 : decode cX7_bare 1 = .ok (.iload_n 1, 1) := by decide +kernel
set_option maxRecDepth 20000 in
theorem dX7_bare_2 : decode cX7_bare 2 = .ok (.invokevirtual 108, 3) := by decide +kernel
set_option maxRecDepth 20000 in
theorem dX7_bare_5 : decode cX7_bare 5 = .ok (.ifCond .ne 6, 3) := by decide +kernel
set_option maxRecDepth 20000 in
theorem dX7_bare_8 : decode cX7_bare 8 = .ok (.ldc 107, 2) := by decide +kernel
set_option maxRecDepth 20000 in
theorem dX7_bare_10 : decode cX7_bare 10 = .ok (.ireturn, 1) := by decide +kernel
set_option maxRecDepth 20000 in
theorem dX7_bare_11 : decode cX7_bare 11 = .ok (.aload_n 0, 1) := by decide +kernel
set_option maxRecDepth 20000 in
theorem dX7_bare_12 : decode cX7_bare 12 = .ok (.getfield 27, 3) := by decide +kernel
set_option maxRecDepth 20000 in
theorem dX7_bare_15 : decode cX7_bare 15 = .ok (.iload_n 1, 1) := by decide +kernel
set_option maxRecDepth 20000 in
theorem dX7_bare_16 : decode cX7_bare 16 = .ok (.iaload, 1) := by decide +kernel
set_option maxRecDepth 20000 in
theorem dX7_bare_17 : decode cX7_bare 17 = .ok (.istore_n 2, 1) := by decide +kernel
set_option maxRecDepth 20000 in
theorem dX7_bare_18 : decode cX7_bare 18 = .ok (.aload_n 0, 1) := by decide +kernel
set_option maxRecDepth 20000 in
theorem dX7_bare_19 : decode cX7_bare 19 = .ok (.getfield 27, 3) := by decide +kernel
set_option maxRecDepth 20000 in
theorem dX7_bare_22 : decode cX7_bare 22 = .ok (.iload_n 1, 1) := by decide +kernel
set_option maxRecDepth 20000 in
theorem dX7_bare_23 : decode cX7_bare 23 = .ok (.iconst 0, 1) := by decide +kernel
set_option maxRecDepth 20000 in
theorem dX7_bare_24 : decode cX7_bare 24 = .ok (.iastore, 1) := by decide +kernel
set_option maxRecDepth 20000 in
theorem dX7_bare_25 : decode cX7_bare 25 = .ok (.iload_n 2, 1) := by decide +kernel
set_option maxRecDepth 20000 in
theorem dX7_bare_26 : decode cX7_bare 26 = .ok (.ireturn, 1) := by decide +kernel
set_option maxRecDepth 20000 in
theorem dX7_mirror_0 : decode cX7_mirror 0 = .ok (.iconst 0, 1) := by decide +kernel
set_option maxRecDepth 20000 in
theorem dX7_mirror_1 : decode cX7_mirror 1 = .ok (.istore_n 1, 1) := by decide +kernel
set_option maxRecDepth 20000 in
theorem dX7_mirror_2 : decode cX7_mirror 2 = .ok (.iload_n 1, 1) := by decide +kernel
set_option maxRecDepth 20000 in
theorem dX7_mirror_3 : decode cX7_mirror 3 = .ok (.aload_n 0, 1) := by decide +kernel
set_option maxRecDepth 20000 in
theorem dX7_mirror_4 : decode cX7_mirror 4 = .ok (.getfield 97, 3) := by decide +kernel
set_option maxRecDepth 20000 in
theorem dX7_mirror_7 : decode cX7_mirror 7 = .ok (.if_icmp .ge 90, 3) := by decide +kernel
set_option maxRecDepth 20000 in
theorem dX7_mirror_10 : decode cX7_mirror 10 = .ok (.iconst 0, 1) := by decide +kernel
set_option maxRecDepth 20000 in
theorem dX7_mirror_11 : decode cX7_mirror 11 = .ok (.istore_n 2, 1) := by decide +kernel
set_option maxRecDepth 20000 in
theorem dX7_mirror_12 : decode cX7_mirror 12 = .ok (.iconst 2, 1) := by decide +kernel
set_option maxRecDepth 20000 in
theorem dX7_mirror_13 : decode cX7_mirror 13 = .ok (.iload_n 2, 1) := by decide +kernel
set_option maxRecDepth 20000 in
theorem dX7_mirror_14 : decode cX7_mirror 14 = .ok (.imul, 1) := by decide +kernel
set_option maxRecDepth 20000 in
theorem dX7_mirror_15 : decode cX7_mirror 15 = .ok (.aload_n 0, 1) := by decide +kernel
set_option maxRecDepth 20000 in
theorem dX7_mirror_16 : decode cX7_mirror 16 = .ok (.getfield 27, 3) := by decide +kernel
set_option maxRecDepth 20000 in
theorem dX7_mirror_19 : decode cX7_mirror 19 = .ok (.iload_n 1, 1) := by decide +kernel
set_option maxRecDepth 20000 in
theorem dX7_mirror_20 : decode cX7_mirror 20 = .ok (.iaload, 1) := by decide +kernel
set_option maxRecDepth 20000 in
theorem dX7_mirror_21 : decode cX7_mirror 21 = .ok (.iconst 1, 1) := by decide +kernel
set_option maxRecDepth 20000 in
theorem dX7_mirror_22 : decode cX7_mirror 22 = .ok (.isub, 1) := by decide +kernel
set_option maxRecDepth 20000 in
theorem dX7_mirror_23 : decode cX7_mirror 23 = .ok (.if_icmp .ge 68, 3) := by decide +kernel
set_option maxRecDepth 20000 in
theorem dX7_mirror_26 : decode cX7_mirror 26 = .ok (.aload_n 0, 1) := by decide +kernel
set_option maxRecDepth 20000 in
theorem dX7_mirror_27 : decode cX7_mirror 27 = .ok (.getfield 27, 3) := by decide +kernel
set_option maxRecDepth 20000 in
theorem dX7_mirror_30 : decode cX7_mirror 30 = .ok (.iload_n 1, 1) := by decide +kernel
set_option maxRecDepth 20000 in
theorem dX7_mirror_31 : decode cX7_mirror 31 = .ok (.iaload, 1) := by decide +kernel
set_option maxRecDepth 20000 in
theorem dX7_mirror_32 : decode cX7_mirror 32 = .ok (.iconst 1, 1) := by decide +kernel
set_option maxRecDepth 20000 in
theorem dX7_mirror_33 : decode cX7_mirror 33 = .ok (.isub, 1) := by decide +kernel
set_option maxRecDepth 20000 in
theorem dX7_mirror_34 : decode cX7_mirror 34 = .ok (.iload_n 2, 1) := by decide +kernel
set_option maxRecDepth 20000 in
theorem dX7_mirror_35 : decode cX7_mirror 35 = .ok (.isub, 1) := by decide +kernel
set_option maxRecDepth 20000 in
theorem dX7_mirror_36 : decode cX7_mirror 36 = .ok (.istore_n 3, 1) := by decide +kernel
set_option maxRecDepth 20000 in
theorem dX7_mirror_37 : decode cX7_mirror 37 = .ok (.aload_n 0, 1) := by decide +kernel
set_option maxRecDepth 20000 in
theorem dX7_mirror_38 : decode cX7_mirror 38 = .ok (.getfield 24, 3) := by decide +kernel
set_option maxRecDepth 20000 in
theorem dX7_mirror_41 : decode cX7_mirror 41 = .ok (.bipush 22, 2) := by decide +kernel
set_option maxRecDepth 20000 in
theorem dX7_mirror_43 : decode cX7_mirror 43 = .ok (.iload_n 1, 1) := by decide +kernel
set_option maxRecDepth 20000 in
theorem dX7_mirror_44 : decode cX7_mirror 44 = .ok (.imul, 1) := by decide +kernel
set_option maxRecDepth 20000 in
theorem dX7_mirror_45 : decode cX7_mirror 45 = .ok (.iload_n 2, 1) := by decide +kernel
set_option maxRecDepth 20000 in
theorem dX7_mirror_46 : decode cX7_mirror 46 = .ok (.iadd, 1) := by decide +kernel
set_option maxRecDepth 20000 in
theorem dX7_mirror_47 : decode cX7_mirror 47 = .ok (.iaload, 1) := by decide +kernel
set_option maxRecDepth 20000 in
theorem dX7_mirror_48 : decode cX7_mirror 48 = .ok (.istore 4, 2) := by decide +kernel
set_option maxRecDepth 20000 in
theorem dX7_mirror_50 : decode cX7_mirror 50 = .ok (.aload_n 0, 1) := by decide +kernel
set_option maxRecDepth 20000 in
theorem dX7_mirror_51 : decode cX7_mirror 51 = .ok (.getfield 24, 3) := by decide +kernel
set_option maxRecDepth 20000 in
theorem dX7_mirror_54 : decode cX7_mirror 54 = .ok (.bipush 22, 2) := by decide +kernel
set_option maxRecDepth 20000 in
theorem dX7_mirror_56 : decode cX7_mirror 56 = .ok (.iload_n 1, 1) := by decide +kernel
set_option maxRecDepth 20000 in
theorem dX7_mirror_57 : decode cX7_mirror 57 = .ok (.imul, 1) := by decide +kernel
set_option maxRecDepth 20000 in
theorem dX7_mirror_58 : decode cX7_mirror 58 = .ok (.iload_n 2, 1) := by decide +kernel
set_option maxRecDepth 20000 in
theorem dX7_mirror_59 : decode cX7_mirror 59 = .ok (.iadd, 1) := by decide +kernel
set_option maxRecDepth 20000 in
theorem dX7_mirror_60 : decode cX7_mirror 60 = .ok (.aload_n 0, 1) := by decide +kernel
set_option maxRecDepth 20000 in
theorem dX7_mirror_61 : decode cX7_mirror 61 = .ok (.getfield 24, 3) := by decide +kernel
set_option maxRecDepth 20000 in
theorem dX7_mirror_64 : decode cX7_mirror 64 = .ok (.bipush 22, 2) := by decide +kernel
set_option maxRecDepth 20000 in
theorem dX7_mirror_66 : decode cX7_mirror 66 = .ok (.iload_n 1, 1) := by decide +kernel
set_option maxRecDepth 20000 in
theorem dX7_mirror_67 : decode cX7_mirror 67 = .ok (.imul, 1) := by decide +kernel
set_option maxRecDepth 20000 in
theorem dX7_mirror_68 : decode cX7_mirror 68 = .ok (.iload_n 3, 1) := by decide +kernel
set_option maxRecDepth 20000 in
theorem dX7_mirror_69 : decode cX7_mirror 69 = .ok (.iadd, 1) := by decide +kernel
set_option maxRecDepth 20000 in
theorem dX7_mirror_70 : decode cX7_mirror 70 = .ok (.iaload, 1) := by decide +kernel
set_option maxRecDepth 20000 in
theorem dX7_mirror_71 : decode cX7_mirror 71 = .ok (.iastore, 1) := by decide +kernel
set_option maxRecDepth 20000 in
theorem dX7_mirror_72 : decode cX7_mirror 72 = .ok (.aload_n 0, 1) := by decide +kernel
set_option maxRecDepth 20000 in
theorem dX7_mirror_73 : decode cX7_mirror 73 = .ok (.getfield 24, 3) := by decide +kernel
set_option maxRecDepth 20000 in
theorem dX7_mirror_76 : decode cX7_mirror 76 = .ok (.bipush 22, 2) := by decide +kernel
set_option maxRecDepth 20000 in
theorem dX7_mirror_78 : decode cX7_mirror 78 = .ok (.iload_n 1, 1) := by decide +kernel
set_option maxRecDepth 20000 in
theorem dX7_mirror_79 : decode cX7_mirror 79 = .ok (.imul, 1) := by decide +kernel
set_option maxRecDepth 20000 in
theorem dX7_mirror_80 : decode cX7_mirror 80 = .ok (.iload_n 3, 1) := by decide +kernel
set_option maxRecDepth 20000 in
theorem dX7_mirror_81 : decode cX7_mirror 81 = .ok (.iadd, 1) := by decide +kernel
set_option maxRecDepth 20000 in
theorem dX7_mirror_82 : decode cX7_mirror 82 = .ok (.iload 4, 2) := by decide +kernel
set_option maxRecDepth 20000 in
theorem dX7_mirror_84 : decode cX7_mirror 84 = .ok (.iastore, 1) := by decide +kernel
set_option maxRecDepth 20000 in
theorem dX7_mirror_85 : decode cX7_mirror 85 = .ok (.iinc 2 1, 3) := by decide +kernel
set_option maxRecDepth 20000 in
theorem dX7_mirror_88 : decode cX7_mirror 88 = .ok (.goto (-76), 3) := by decide +kernel
set_option maxRecDepth 20000 in
theorem dX7_mirror_91 : decode cX7_mirror 91 = .ok (.iinc 1 1, 3) := by decide +kernel
set_option maxRecDepth 20000 in
theorem dX7_mirror_94 : decode cX7_mirror 94 = .ok (.goto (-92), 3) := by decide +kernel
set_option maxRecDepth 20000 in
theorem dX7_mirror_97 : decode cX7_mirror 97 = .ok (.aload_n 0, 1) := by decide +kernel
set_option maxRecDepth 20000 in
theorem dX7_mirror_98 : decode cX7_mirror 98 = .ok (.getfield 97, 3) := by decide +kernel
set_option maxRecDepth 20000 in
theorem dX7_mirror_101 : decode cX7_mirror 101 = .ok (.ireturn, 1) := by decide +kernel
set_option maxRecDepth 20000 in
theorem dX7_clear_0 : decode cX7_clear 0 = .ok (.aload_n 0, 1) := by decide +kernel
set_option maxRecDepth 20000 in
theorem dX7_clear_1 : decode cX7_clear 1 = .ok (.getfield 104, 3) := by decide +kernel
set_option maxRecDepth 20000 in
theorem dX7_clear_4 : decode cX7_clear 4 = .ok (.istore_n 1, 1) := by decide +kernel
set_option maxRecDepth 20000 in
theorem dX7_clear_5 : decode cX7_clear 5 = .ok (.aload_n 0, 1) := by decide +kernel
set_option maxRecDepth 20000 in
theorem dX7_clear_6 : decode cX7_clear 6 = .ok (.iconst 0, 1) := by decide +kernel
set_option maxRecDepth 20000 in
theorem dX7_clear_7 : decode cX7_clear 7 = .ok (.putfield 97, 3) := by decide +kernel
set_option maxRecDepth 20000 in
theorem dX7_clear_10 : decode cX7_clear 10 = .ok (.aload_n 0, 1) := by decide +kernel
set_option maxRecDepth 20000 in
theorem dX7_clear_11 : decode cX7_clear 11 = .ok (.iconst 0, 1) := by decide +kernel
set_option maxRecDepth 20000 in
theorem dX7_clear_12 : decode cX7_clear 12 = .ok (.putfield 104, 3) := by decide +kernel
set_option maxRecDepth 20000 in
theorem dX7_clear_15 : decode cX7_clear 15 = .ok (.aload_n 0, 1) := by decide +kernel
set_option maxRecDepth 20000 in
theorem dX7_clear_16 : decode cX7_clear 16 = .ok (.iconst (-1), 1) := by decide +kernel
set_option maxRecDepth 20000 in
theorem dX7_clear_17 : decode cX7_clear 17 = .ok (.putfield 7, 3) := by decide +kernel
set_option maxRecDepth 20000 in
theorem dX7_clear_20 : decode cX7_clear 20 = .ok (.iload_n 1, 1) := by decide +kernel
set_option maxRecDepth 20000 in
theorem dX7_clear_21 : decode cX7_clear 21 = .ok (.ireturn, 1) := by decide +kernel
set_option maxRecDepth 20000 in
theorem dX7_keep_0 : decode cX7_keep 0 = .ok (.aload_n 0, 1) := by decide +kernel
set_option maxRecDepth 20000 in
theorem dX7_keep_1 : decode cX7_keep 1 = .ok (.iconst 1, 1) := by decide +kernel
set_option maxRecDepth 20000 in
theorem dX7_keep_2 : decode cX7_keep 2 = .ok (.putfield 119, 3) := by decide +kernel
set_option maxRecDepth 20000 in
theorem dX7_keep_5 : decode cX7_keep 5 = .ok (.aload_n 0, 1) := by decide +kernel
set_option maxRecDepth 20000 in
theorem dX7_keep_6 : decode cX7_keep 6 = .ok (.aload_n 0, 1) := by decide +kernel
set_option maxRecDepth 20000 in
theorem dX7_keep_7 : decode cX7_keep 7 = .ok (.getfield 97, 3) := by decide +kernel
set_option maxRecDepth 20000 in
theorem dX7_keep_10 : decode cX7_keep 10 = .ok (.putfield 123, 3) := by decide +kernel
set_option maxRecDepth 20000 in
theorem dX7_keep_13 : decode cX7_keep 13 = .ok (.aload_n 0, 1) := by decide +kernel
set_option maxRecDepth 20000 in
theorem dX7_keep_14 : decode cX7_keep 14 = .ok (.aload_n 0, 1) := by decide +kernel
set_option maxRecDepth 20000 in
theorem dX7_keep_15 : decode cX7_keep 15 = .ok (.getfield 104, 3) := by decide +kernel
set_option maxRecDepth 20000 in
theorem dX7_keep_18 : decode cX7_keep 18 = .ok (.putfield 126, 3) := by decide +kernel
set_option maxRecDepth 20000 in
theorem dX7_keep_21 : decode cX7_keep 21 = .ok (.aload_n 0, 1) := by decide +kernel
set_option maxRecDepth 20000 in
theorem dX7_keep_22 : decode cX7_keep 22 = .ok (.aload_n 0, 1) := by decide +kernel
set_option maxRecDepth 20000 in
theorem dX7_keep_23 : decode cX7_keep 23 = .ok (.getfield 7, 3) := by decide +kernel
set_option maxRecDepth 20000 in
theorem dX7_keep_26 : decode cX7_keep 26 = .ok (.putfield 129, 3) := by decide +kernel
set_option maxRecDepth 20000 in
theorem dX7_keep_29 : decode cX7_keep 29 = .ok (.iconst 0, 1) := by decide +kernel
set_option maxRecDepth 20000 in
theorem dX7_keep_30 : decode cX7_keep 30 = .ok (.istore_n 1, 1) := by decide +kernel
set_option maxRecDepth 20000 in
theorem dX7_keep_31 : decode cX7_keep 31 = .ok (.iload_n 1, 1) := by decide +kernel
set_option maxRecDepth 20000 in
theorem dX7_keep_32 : decode cX7_keep 32 = .ok (.bipush 22, 2) := by decide +kernel
set_option maxRecDepth 20000 in
theorem dX7_keep_34 : decode cX7_keep 34 = .ok (.if_icmp .ge 57, 3) := by decide +kernel
set_option maxRecDepth 20000 in
theorem dX7_keep_37 : decode cX7_keep 37 = .ok (.aload_n 0, 1) := by decide +kernel
set_option maxRecDepth 20000 in
theorem dX7_keep_38 : decode cX7_keep 38 = .ok (.getfield 36, 3) := by decide +kernel
set_option maxRecDepth 20000 in
theorem dX7_keep_41 : decode cX7_keep 41 = .ok (.iload_n 1, 1) := by decide +kernel
set_option maxRecDepth 20000 in
theorem dX7_keep_42 : decode cX7_keep 42 = .ok (.aload_n 0, 1) := by decide +kernel
set_option maxRecDepth 20000 in
theorem dX7_keep_43 : decode cX7_keep 43 = .ok (.getfield 13, 3) := by decide +kernel
set_option maxRecDepth 20000 in
theorem dX7_keep_46 : decode cX7_keep 46 = .ok (.iload_n 1, 1) := by decide +kernel
set_option maxRecDepth 20000 in
theorem dX7_keep_47 : decode cX7_keep 47 = .ok (.iaload, 1) := by decide +kernel
set_option maxRecDepth 20000 in
theorem dX7_keep_48 : decode cX7_keep 48 = .ok (.iastore, 1) := by decide +kernel
set_option maxRecDepth 20000 in
theorem dX7_keep_49 : decode cX7_keep 49 = .ok (.aload_n 0, 1) := by decide +kernel
set_option maxRecDepth 20000 in
theorem dX7_keep_50 : decode cX7_keep 50 = .ok (.getfield 39, 3) := by decide +kernel
set_option maxRecDepth 20000 in
theorem dX7_keep_53 : decode cX7_keep 53 = .ok (.iload_n 1, 1) := by decide +kernel
set_option maxRecDepth 20000 in
theorem dX7_keep_54 : decode cX7_keep 54 = .ok (.aload_n 0, 1) := by decide +kernel
set_option maxRecDepth 20000 in
theorem dX7_keep_55 : decode cX7_keep 55 = .ok (.getfield 17, 3) := by decide +kernel
set_option maxRecDepth 20000 in
theorem dX7_keep_58 : decode cX7_keep 58 = .ok (.iload_n 1, 1) := by decide +kernel
set_option maxRecDepth 20000 in
theorem dX7_keep_59 : decode cX7_keep 59 = .ok (.iaload, 1) := by decide +kernel
set_option maxRecDepth 20000 in
theorem dX7_keep_60 : decode cX7_keep 60 = .ok (.iastore, 1) := by decide +kernel
set_option maxRecDepth 20000 in
theorem dX7_keep_61 : decode cX7_keep 61 = .ok (.aload_n 0, 1) := by decide +kernel
set_option maxRecDepth 20000 in
theorem dX7_keep_62 : decode cX7_keep 62 = .ok (.getfield 54, 3) := by decide +kernel
set_option maxRecDepth 20000 in
theorem dX7_keep_65 : decode cX7_keep 65 = .ok (.iload_n 1, 1) := by decide +kernel
set_option maxRecDepth 20000 in
theorem dX7_keep_66 : decode cX7_keep 66 = .ok (.aload_n 0, 1) := by decide +kernel
set_option maxRecDepth 20000 in
theorem dX7_keep_67 : decode cX7_keep 67 = .ok (.getfield 20, 3) := by decide +kernel
set_option maxRecDepth 20000 in
theorem dX7_keep_70 : decode cX7_keep 70 = .ok (.iload_n 1, 1) := by decide +kernel
set_option maxRecDepth 20000 in
theorem dX7_keep_71 : decode cX7_keep 71 = .ok (.baload, 1) := by decide +kernel
set_option maxRecDepth 20000 in
theorem dX7_keep_72 : decode cX7_keep 72 = .ok (.bastore, 1) := by decide +kernel
set_option maxRecDepth 20000 in
theorem dX7_keep_73 : decode cX7_keep 73 = .ok (.aload_n 0, 1) := by decide +kernel
set_option maxRecDepth 20000 in
theorem dX7_keep_74 : decode cX7_keep 74 = .ok (.getfield 48, 3) := by decide +kernel
set_option maxRecDepth 20000 in
theorem dX7_keep_77 : decode cX7_keep 77 = .ok (.iload_n 1, 1) := by decide +kernel
set_option maxRecDepth 20000 in
theorem dX7_keep_78 : decode cX7_keep 78 = .ok (.aload_n 0, 1) := by decide +kernel
set_option maxRecDepth 20000 in
theorem dX7_keep_79 : decode cX7_keep 79 = .ok (.getfield 30, 3) := by decide +kernel
set_option maxRecDepth 20000 in
theorem dX7_keep_82 : decode cX7_keep 82 = .ok (.iload_n 1, 1) := by decide +kernel
set_option maxRecDepth 20000 in
theorem dX7_keep_83 : decode cX7_keep 83 = .ok (.iaload, 1) := by decide +kernel
set_option maxRecDepth 20000 in
theorem dX7_keep_84 : decode cX7_keep 84 = .ok (.iastore, 1) := by decide +kernel
set_option maxRecDepth 20000 in
theorem dX7_keep_85 : decode cX7_keep 85 = .ok (.iinc 1 1, 3) := by decide +kernel
set_option maxRecDepth 20000 in
theorem dX7_keep_88 : decode cX7_keep 88 = .ok (.goto (-57), 3) := by decide +kernel
set_option maxRecDepth 20000 in
theorem dX7_keep_91 : decode cX7_keep 91 = .ok (.iconst 0, 1) := by decide +kernel
set_option maxRecDepth 20000 in
theorem dX7_keep_92 : decode cX7_keep 92 = .ok (.istore_n 1, 1) := by decide +kernel
set_option maxRecDepth 20000 in
theorem dX7_keep_93 : decode cX7_keep 93 = .ok (.iload_n 1, 1) := by decide +kernel
set_option maxRecDepth 20000 in
theorem dX7_keep_94 : decode cX7_keep 94 = .ok (.bipush 12, 2) := by decide +kernel
set_option maxRecDepth 20000 in
theorem dX7_keep_96 : decode cX7_keep 96 = .ok (.if_icmp .ge 33, 3) := by decide +kernel
set_option maxRecDepth 20000 in
theorem dX7_keep_99 : decode cX7_keep 99 = .ok (.aload_n 0, 1) := by decide +kernel
set_option maxRecDepth 20000 in
theorem dX7_keep_100 : decode cX7_keep 100 = .ok (.getfield 45, 3) := by decide +kernel
set_option maxRecDepth 20000 in
theorem dX7_keep_103 : decode cX7_keep 103 = .ok (.iload_n 1, 1) := by decide +kernel
set_option maxRecDepth 20000 in
theorem dX7_keep_104 : decode cX7_keep 104 = .ok (.aload_n 0, 1) := by decide +kernel
set_option maxRecDepth 20000 in
theorem dX7_keep_105 : decode cX7_keep 105 = .ok (.getfield 27, 3) := by decide +kernel
set_option maxRecDepth 20000 in
theorem dX7_keep_108 : decode cX7_keep 108 = .ok (.iload_n 1, 1) := by decide +kernel
set_option maxRecDepth 20000 in
theorem dX7_keep_109 : decode cX7_keep 109 = .ok (.iaload, 1) := by decide +kernel
set_option maxRecDepth 20000 in
theorem dX7_keep_110 : decode cX7_keep 110 = .ok (.iastore, 1) := by decide +kernel
set_option maxRecDepth 20000 in
theorem dX7_keep_111 : decode cX7_keep 111 = .ok (.aload_n 0, 1) := by decide +kernel
set_option maxRecDepth 20000 in
theorem dX7_keep_112 : decode cX7_keep 112 = .ok (.getfield 51, 3) := by decide +kernel
set_option maxRecDepth 20000 in
theorem dX7_keep_115 : decode cX7_keep 115 = .ok (.iload_n 1, 1) := by decide +kernel
set_option maxRecDepth 20000 in
theorem dX7_keep_116 : decode cX7_keep 116 = .ok (.aload_n 0, 1) := by decide +kernel
set_option maxRecDepth 20000 in
theorem dX7_keep_117 : decode cX7_keep 117 = .ok (.getfield 33, 3) := by decide +kernel
set_option maxRecDepth 20000 in
theorem dX7_keep_120 : decode cX7_keep 120 = .ok (.iload_n 1, 1) := by decide +kernel
set_option maxRecDepth 20000 in
theorem dX7_keep_121 : decode cX7_keep 121 = .ok (.iaload, 1) := by decide +kernel
set_option maxRecDepth 20000 in
theorem dX7_keep_122 : decode cX7_keep 122 = .ok (.iastore, 1) := by decide +kernel
set_option maxRecDepth 20000 in
theorem dX7_keep_123 : decode cX7_keep 123 = .ok (.iinc 1 1, 3) := by decide +kernel
set_option maxRecDepth 20000 in
theorem dX7_keep_126 : decode cX7_keep 126 = .ok (.goto (-33), 3) := by decide +kernel
set_option maxRecDepth 20000 in
theorem dX7_keep_129 : decode cX7_keep 129 = .ok (.iconst 0, 1) := by decide +kernel
set_option maxRecDepth 20000 in
theorem dX7_keep_130 : decode cX7_keep 130 = .ok (.istore_n 1, 1) := by decide +kernel
set_option maxRecDepth 20000 in
theorem dX7_keep_131 : decode cX7_keep 131 = .ok (.iload_n 1, 1) := by decide +kernel
set_option maxRecDepth 20000 in
theorem dX7_keep_132 : decode cX7_keep 132 = .ok (.sipush 264, 3) := by decide +kernel
set_option maxRecDepth 20000 in
theorem dX7_keep_135 : decode cX7_keep 135 = .ok (.if_icmp .ge 21, 3) := by decide +kernel
set_option maxRecDepth 20000 in
theorem dX7_keep_138 : decode cX7_keep 138 = .ok (.aload_n 0, 1) := by decide +kernel
set_option maxRecDepth 20000 in
theorem dX7_keep_139 : decode cX7_keep 139 = .ok (.getfield 42, 3) := by decide +kernel
set_option maxRecDepth 20000 in
theorem dX7_keep_142 : decode cX7_keep 142 = .ok (.iload_n 1, 1) := by decide +kernel
set_option maxRecDepth 20000 in
theorem dX7_keep_143 : decode cX7_keep 143 = .ok (.aload_n 0, 1) := by decide +kernel
set_option maxRecDepth 20000 in
theorem dX7_keep_144 : decode cX7_keep 144 = .ok (.getfield 24, 3) := by decide +kernel
set_option maxRecDepth 20000 in
theorem dX7_keep_147 : decode cX7_keep 147 = .ok (.iload_n 1, 1) := by decide +kernel
set_option maxRecDepth 20000 in
theorem dX7_keep_148 : decode cX7_keep 148 = .ok (.iaload, 1) := by decide +kernel
set_option maxRecDepth 20000 in
theorem dX7_keep_149 : decode cX7_keep 149 = .ok (.iastore, 1) := by decide +kernel
set_option maxRecDepth 20000 in
theorem dX7_keep_150 : decode cX7_keep 150 = .ok (.iinc 1 1, 3) := by decide +kernel
set_option maxRecDepth 20000 in
theorem dX7_keep_153 : decode cX7_keep 153 = .ok (.goto (-22), 3) := by decide +kernel
set_option maxRecDepth 20000 in
theorem dX7_keep_156 : decode cX7_keep 156 = .ok (.aload_n 0, 1) := by decide +kernel
set_option maxRecDepth 20000 in
theorem dX7_keep_157 : decode cX7_keep 157 = .ok (.getfield 104, 3) := by decide +kernel
set_option maxRecDepth 20000 in
theorem dX7_keep_160 : decode cX7_keep 160 = .ok (.ireturn, 1) := by decide +kernel
set_option maxRecDepth 20000 in
theorem dX7_back_0 : decode cX7_back 0 = .ok (.aload_n 0, 1) := by decide +kernel
set_option maxRecDepth 20000 in
theorem dX7_back_1 : decode cX7_back 1 = .ok (.getfield 119, 3) := by decide +kernel
set_option maxRecDepth 20000 in
theorem dX7_back_4 : decode cX7_back 4 = .ok (.ifCond .ne 6, 3) := by decide +kernel
set_option maxRecDepth 20000 in
theorem dX7_back_7 : decode cX7_back 7 = .ok (.ldc 107, 2) := by decide +kernel
set_option maxRecDepth 20000 in
theorem dX7_back_9 : decode cX7_back 9 = .ok (.ireturn, 1) := by decide +kernel
set_option maxRecDepth 20000 in
theorem dX7_back_10 : decode cX7_back 10 = .ok (.aload_n 0, 1) := by decide +kernel
set_option maxRecDepth 20000 in
theorem dX7_back_11 : decode cX7_back 11 = .ok (.aload_n 0, 1) := by decide +kernel
set_option maxRecDepth 20000 in
theorem dX7_back_12 : decode cX7_back 12 = .ok (.getfield 123, 3) := by decide +kernel
set_option maxRecDepth 20000 in
theorem dX7_back_15 : decode cX7_back 15 = .ok (.putfield 97, 3) := by decide +kernel
set_option maxRecDepth 20000 in
theorem dX7_back_18 : decode cX7_back 18 = .ok (.aload_n 0, 1) := by decide +kernel
set_option maxRecDepth 20000 in
theorem dX7_back_19 : decode cX7_back 19 = .ok (.aload_n 0, 1) := by decide +kernel
set_option maxRecDepth 20000 in
theorem dX7_back_20 : decode cX7_back 20 = .ok (.getfield 126, 3) := by decide +kernel
set_option maxRecDepth 20000 in
theorem dX7_back_23 : decode cX7_back 23 = .ok (.putfield 104, 3) := by decide +kernel
set_option maxRecDepth 20000 in
theorem dX7_back_26 : decode cX7_back 26 = .ok (.aload_n 0, 1) := by decide +kernel
set_option maxRecDepth 20000 in
theorem dX7_back_27 : decode cX7_back 27 = .ok (.aload_n 0, 1) := by decide +kernel
set_option maxRecDepth 20000 in
theorem dX7_back_28 : decode cX7_back 28 = .ok (.getfield 129, 3) := by decide +kernel
set_option maxRecDepth 20000 in
theorem dX7_back_31 : decode cX7_back 31 = .ok (.putfield 7, 3) := by decide +kernel
set_option maxRecDepth 20000 in
theorem dX7_back_34 : decode cX7_back 34 = .ok (.iconst 0, 1) := by decide +kernel
set_option maxRecDepth 20000 in
theorem dX7_back_35 : decode cX7_back 35 = .ok (.istore_n 1, 1) := by decide +kernel
set_option maxRecDepth 20000 in
theorem dX7_back_36 : decode cX7_back 36 = .ok (.iload_n 1, 1) := by decide +kernel
set_option maxRecDepth 20000 in
theorem dX7_back_37 : decode cX7_back 37 = .ok (.bipush 22, 2) := by decide +kernel
set_option maxRecDepth 20000 in
theorem dX7_back_39 : decode cX7_back 39 = .ok (.if_icmp .ge 57, 3) := by decide +kernel
set_option maxRecDepth 20000 in
theorem dX7_back_42 : decode cX7_back 42 = .ok (.aload_n 0, 1) := by decide +kernel
set_option maxRecDepth 20000 in
theorem dX7_back_43 : decode cX7_back 43 = .ok (.getfield 13, 3) := by decide +kernel
set_option maxRecDepth 20000 in
theorem dX7_back_46 : decode cX7_back 46 = .ok (.iload_n 1, 1) := by decide +kernel
set_option maxRecDepth 20000 in
theorem dX7_back_47 : decode cX7_back 47 = .ok (.aload_n 0, 1) := by decide +kernel
set_option maxRecDepth 20000 in
theorem dX7_back_48 : decode cX7_back 48 = .ok (.getfield 36, 3) := by decide +kernel
set_option maxRecDepth 20000 in
theorem dX7_back_51 : decode cX7_back 51 = .ok (.iload_n 1, 1) := by decide +kernel
set_option maxRecDepth 20000 in
theorem dX7_back_52 : decode cX7_back 52 = .ok (.iaload, 1) := by decide +kernel
set_option maxRecDepth 20000 in
theorem dX7_back_53 : decode cX7_back 53 = .ok (.iastore, 1) := by decide +kernel
set_option maxRecDepth 20000 in
theorem dX7_back_54 : decode cX7_back 54 = .ok (.aload_n 0, 1) := by decide +kernel
set_option maxRecDepth 20000 in
theorem dX7_back_55 : decode cX7_back 55 = .ok (.getfield 17, 3) := by decide +kernel
set_option maxRecDepth 20000 in
theorem dX7_back_58 : decode cX7_back 58 = .ok (.iload_n 1, 1) := by decide +kernel
set_option maxRecDepth 20000 in
theorem dX7_back_59 : decode cX7_back 59 = .ok (.aload_n 0, 1) := by decide +kernel
set_option maxRecDepth 20000 in
theorem dX7_back_60 : decode cX7_back 60 = .ok (.getfield 39, 3) := by decide +kernel
set_option maxRecDepth 20000 in
theorem dX7_back_63 : decode cX7_back 63 = .ok (.iload_n 1, 1) := by decide +kernel
set_option maxRecDepth 20000 in
theorem dX7_back_64 : decode cX7_back 64 = .ok (.iaload, 1) := by decide +kernel
set_option maxRecDepth 20000 in
theorem dX7_back_65 : decode cX7_back 65 = .ok (.iastore, 1) := by decide +kernel
set_option maxRecDepth 20000 in
theorem dX7_back_66 : decode cX7_back 66 = .ok (.aload_n 0, 1) := by decide +kernel
set_option maxRecDepth 20000 in
theorem dX7_back_67 : decode cX7_back 67 = .ok (.getfield 20, 3) := by decide +kernel
set_option maxRecDepth 20000 in
theorem dX7_back_70 : decode cX7_back 70 = .ok (.iload_n 1, 1) := by decide +kernel
set_option maxRecDepth 20000 in
theorem dX7_back_71 : decode cX7_back 71 = .ok (.aload_n 0, 1) := by decide +kernel
set_option maxRecDepth 20000 in
theorem dX7_back_72 : decode cX7_back 72 = .ok (.getfield 54, 3) := by decide +kernel
set_option maxRecDepth 20000 in
theorem dX7_back_75 : decode cX7_back 75 = .ok (.iload_n 1, 1) := by decide +kernel
set_option maxRecDepth 20000 in
theorem dX7_back_76 : decode cX7_back 76 = .ok (.baload, 1) := by decide +kernel
set_option maxRecDepth 20000 in
theorem dX7_back_77 : decode cX7_back 77 = .ok (.bastore, 1) := by decide +kernel
set_option maxRecDepth 20000 in
theorem dX7_back_78 : decode cX7_back 78 = .ok (.aload_n 0, 1) := by decide +kernel
set_option maxRecDepth 20000 in
theorem dX7_back_79 : decode cX7_back 79 = .ok (.getfield 30, 3) := by decide +kernel
set_option maxRecDepth 20000 in
theorem dX7_back_82 : decode cX7_back 82 = .ok (.iload_n 1, 1) := by decide +kernel
set_option maxRecDepth 20000 in
theorem dX7_back_83 : decode cX7_back 83 = .ok (.aload_n 0, 1) := by decide +kernel
set_option maxRecDepth 20000 in
theorem dX7_back_84 : decode cX7_back 84 = .ok (.getfield 48, 3) := by decide +kernel
set_option maxRecDepth 20000 in
theorem dX7_back_87 : decode cX7_back 87 = .ok (.iload_n 1, 1) := by decide +kernel
set_option maxRecDepth 20000 in
theorem dX7_back_88 : decode cX7_back 88 = .ok (.iaload, 1) := by decide +kernel
set_option maxRecDepth 20000 in
theorem dX7_back_89 : decode cX7_back 89 = .ok (.iastore, 1) := by decide +kernel
set_option maxRecDepth 20000 in
theorem dX7_back_90 : decode cX7_back 90 = .ok (.iinc 1 1, 3) := by decide +kernel
set_option maxRecDepth 20000 in
theorem dX7_back_93 : decode cX7_back 93 = .ok (.goto (-57), 3) := by decide +kernel
set_option maxRecDepth 20000 in
theorem dX7_back_96 : decode cX7_back 96 = .ok (.iconst 0, 1) := by decide +kernel
set_option maxRecDepth 20000 in
theorem dX7_back_97 : decode cX7_back 97 = .ok (.istore_n 1, 1) := by decide +kernel
set_option maxRecDepth 20000 in
theorem dX7_back_98 : decode cX7_back 98 = .ok (.iload_n 1, 1) := by decide +kernel
set_option maxRecDepth 20000 in
theorem dX7_back_99 : decode cX7_back 99 = .ok (.bipush 12, 2) := by decide +kernel
set_option maxRecDepth 20000 in
theorem dX7_back_101 : decode cX7_back 101 = .ok (.if_icmp .ge 33, 3) := by decide +kernel
set_option maxRecDepth 20000 in
theorem dX7_back_104 : decode cX7_back 104 = .ok (.aload_n 0, 1) := by decide +kernel
set_option maxRecDepth 20000 in
theorem dX7_back_105 : decode cX7_back 105 = .ok (.getfield 27, 3) := by decide +kernel
set_option maxRecDepth 20000 in
theorem dX7_back_108 : decode cX7_back 108 = .ok (.iload_n 1, 1) := by decide +kernel
set_option maxRecDepth 20000 in
theorem dX7_back_109 : decode cX7_back 109 = .ok (.aload_n 0, 1) := by decide +kernel
set_option maxRecDepth 20000 in
theorem dX7_back_110 : decode cX7_back 110 = .ok (.getfield 45, 3) := by decide +kernel
set_option maxRecDepth 20000 in
theorem dX7_back_113 : decode cX7_back 113 = .ok (.iload_n 1, 1) := by decide +kernel
set_option maxRecDepth 20000 in
theorem dX7_back_114 : decode cX7_back 114 = .ok (.iaload, 1) := by decide +kernel
set_option maxRecDepth 20000 in
theorem dX7_back_115 : decode cX7_back 115 = .ok (.iastore, 1) := by decide +kernel
set_option maxRecDepth 20000 in
theorem dX7_back_116 : decode cX7_back 116 = .ok (.aload_n 0, 1) := by decide +kernel
set_option maxRecDepth 20000 in
theorem dX7_back_117 : decode cX7_back 117 = .ok (.getfield 33, 3) := by decide +kernel
set_option maxRecDepth 20000 in
theorem dX7_back_120 : decode cX7_back 120 = .ok (.iload_n 1, 1) := by decide +kernel
set_option maxRecDepth 20000 in
theorem dX7_back_121 : decode cX7_back 121 = .ok (.aload_n 0, 1) := by decide +kernel
set_option maxRecDepth 20000 in
theorem dX7_back_122 : decode cX7_back 122 = .ok (.getfield 51, 3) := by decide +kernel
set_option maxRecDepth 20000 in
theorem dX7_back_125 : decode cX7_back 125 = .ok (.iload_n 1, 1) := by decide +kernel
set_option maxRecDepth 20000 in
theorem dX7_back_126 : decode cX7_back 126 = .ok (.iaload, 1) := by decide +kernel
set_option maxRecDepth 20000 in
theorem dX7_back_127 : decode cX7_back 127 = .ok (.iastore, 1) := by decide +kernel
set_option maxRecDepth 20000 in
theorem dX7_back_128 : decode cX7_back 128 = .ok (.iinc 1 1, 3) := by decide +kernel
set_option maxRecDepth 20000 in
theorem dX7_back_131 : decode cX7_back 131 = .ok (.goto (-33), 3) := by decide +kernel
set_option maxRecDepth 20000 in
theorem dX7_back_134 : decode cX7_back 134 = .ok (.iconst 0, 1) := by decide +kernel
set_option maxRecDepth 20000 in
theorem dX7_back_135 : decode cX7_back 135 = .ok (.istore_n 1, 1) := by decide +kernel
set_option maxRecDepth 20000 in
theorem dX7_back_136 : decode cX7_back 136 = .ok (.iload_n 1, 1) := by decide +kernel
set_option maxRecDepth 20000 in
theorem dX7_back_137 : decode cX7_back 137 = .ok (.sipush 264, 3) := by decide +kernel
set_option maxRecDepth 20000 in
theorem dX7_back_140 : decode cX7_back 140 = .ok (.if_icmp .ge 21, 3) := by decide +kernel
set_option maxRecDepth 20000 in
theorem dX7_back_143 : decode cX7_back 143 = .ok (.aload_n 0, 1) := by decide +kernel
set_option maxRecDepth 20000 in
theorem dX7_back_144 : decode cX7_back 144 = .ok (.getfield 24, 3) := by decide +kernel
set_option maxRecDepth 20000 in
theorem dX7_back_147 : decode cX7_back 147 = .ok (.iload_n 1, 1) := by decide +kernel
set_option maxRecDepth 20000 in
theorem dX7_back_148 : decode cX7_back 148 = .ok (.aload_n 0, 1) := by decide +kernel
set_option maxRecDepth 20000 in
theorem dX7_back_149 : decode cX7_back 149 = .ok (.getfield 42, 3) := by decide +kernel
set_option maxRecDepth 20000 in
theorem dX7_back_152 : decode cX7_back 152 = .ok (.iload_n 1, 1) := by decide +kernel
set_option maxRecDepth 20000 in
theorem dX7_back_153 : decode cX7_back 153 = .ok (.iaload, 1) := by decide +kernel
set_option maxRecDepth 20000 in
theorem dX7_back_154 : decode cX7_back 154 = .ok (.iastore, 1) := by decide +kernel
set_option maxRecDepth 20000 in
theorem dX7_back_155 : decode cX7_back 155 = .ok (.iinc 1 1, 3) := by decide +kernel
set_option maxRecDepth 20000 in
theorem dX7_back_158 : decode cX7_back 158 = .ok (.goto (-22), 3) := by decide +kernel
set_option maxRecDepth 20000 in
theorem dX7_back_161 : decode cX7_back 161 = .ok (.aload_n 0, 1) := by decide +kernel
set_option maxRecDepth 20000 in
theorem dX7_back_162 : decode cX7_back 162 = .ok (.getfield 104, 3) := by decide +kernel
set_option maxRecDepth 20000 in
theorem dX7_back_165 : decode cX7_back 165 = .ok (.ireturn, 1) := by decide +kernel
set_option maxRecDepth 20000 in
theorem dX7_areTurns_0 : decode cX7_areTurns 0 = .ok (.iconst 0, 1) := by decide +kernel
set_option maxRecDepth 20000 in
theorem dX7_areTurns_1 : decode cX7_areTurns 1 = .ok (.istore_n 1, 1) := by decide +kernel
set_option maxRecDepth 20000 in
theorem dX7_areTurns_2 : decode cX7_areTurns 2 = .ok (.iload_n 1, 1) := by decide +kernel
set_option maxRecDepth 20000 in
theorem dX7_areTurns_3 : decode cX7_areTurns 3 = .ok (.aload_n 0, 1) := by decide +kernel
set_option maxRecDepth 20000 in
theorem dX7_areTurns_4 : decode cX7_areTurns 4 = .ok (.getfield 97, 3) := by decide +kernel
set_option maxRecDepth 20000 in
theorem dX7_areTurns_7 : decode cX7_areTurns 7 = .ok (.if_icmp .ge 67, 3) := by decide +kernel
set_option maxRecDepth 20000 in
theorem dX7_areTurns_10 : decode cX7_areTurns 10 = .ok (.iconst 0, 1) := by decide +kernel
set_option maxRecDepth 20000 in
theorem dX7_areTurns_11 : decode cX7_areTurns 11 = .ok (.istore_n 2, 1) := by decide +kernel
set_option maxRecDepth 20000 in
theorem dX7_areTurns_12 : decode cX7_areTurns 12 = .ok (.iconst 0, 1) := by decide +kernel
set_option maxRecDepth 20000 in
theorem dX7_areTurns_13 : decode cX7_areTurns 13 = .ok (.istore_n 3, 1) := by decide +kernel
set_option maxRecDepth 20000 in
theorem dX7_areTurns_14 : decode cX7_areTurns 14 = .ok (.iload_n 3, 1) := by decide +kernel
set_option maxRecDepth 20000 in
theorem dX7_areTurns_15 : decode cX7_areTurns 15 = .ok (.aload_n 0, 1) := by decide +kernel
set_option maxRecDepth 20000 in
theorem dX7_areTurns_16 : decode cX7_areTurns 16 = .ok (.getfield 104, 3) := by decide +kernel
set_option maxRecDepth 20000 in
theorem dX7_areTurns_19 : decode cX7_areTurns 19 = .ok (.if_icmp .ge 37, 3) := by decide +kernel
set_option maxRecDepth 20000 in
theorem dX7_areTurns_22 : decode cX7_areTurns 22 = .ok (.iload_n 2, 1) := by decide +kernel
set_option maxRecDepth 20000 in
theorem dX7_areTurns_23 : decode cX7_areTurns 23 = .ok (.aload_n 0, 1) := by decide +kernel
set_option maxRecDepth 20000 in
theorem dX7_areTurns_24 : decode cX7_areTurns 24 = .ok (.getfield 13, 3) := by decide +kernel
set_option maxRecDepth 20000 in
theorem dX7_areTurns_27 : decode cX7_areTurns 27 = .ok (.iload_n 3, 1) := by decide +kernel
set_option maxRecDepth 20000 in
theorem dX7_areTurns_28 : decode cX7_areTurns 28 = .ok (.iaload, 1) := by decide +kernel
set_option maxRecDepth 20000 in
theorem dX7_areTurns_29 : decode cX7_areTurns 29 = .ok (.iload_n 1, 1) := by decide +kernel
set_option maxRecDepth 20000 in
theorem dX7_areTurns_30 : decode cX7_areTurns 30 = .ok (.if_icmp .eq 13, 3) := by decide +kernel
set_option maxRecDepth 20000 in
theorem dX7_areTurns_33 : decode cX7_areTurns 33 = .ok (.aload_n 0, 1) := by decide +kernel
set_option maxRecDepth 20000 in
theorem dX7_areTurns_34 : decode cX7_areTurns 34 = .ok (.getfield 17, 3) := by decide +kernel
set_option maxRecDepth 20000 in
theorem dX7_areTurns_37 : decode cX7_areTurns 37 = .ok (.iload_n 3, 1) := by decide +kernel
set_option maxRecDepth 20000 in
theorem dX7_areTurns_38 : decode cX7_areTurns 38 = .ok (.iaload, 1) := by decide +kernel
set_option maxRecDepth 20000 in
theorem dX7_areTurns_39 : decode cX7_areTurns 39 = .ok (.iload_n 1, 1) := by decide +kernel
set_option maxRecDepth 20000 in
theorem dX7_areTurns_40 : decode cX7_areTurns 40 = .ok (.if_icmp .ne 7, 3) := by decide +kernel
set_option maxRecDepth 20000 in
theorem dX7_areTurns_43 : decode cX7_areTurns 43 = .ok (.iconst 1, 1) := by decide +kernel
set_option maxRecDepth 20000 in
theorem dX7_areTurns_44 : decode cX7_areTurns 44 = .ok (.goto 4, 3) := by decide +kernel
set_option maxRecDepth 20000 in
theorem dX7_areTurns_47 : decode cX7_areTurns 47 = .ok (.iconst 0, 1) := by decide +kernel
set_option maxRecDepth 20000 in
theorem dX7_areTurns_48 : decode cX7_areTurns 48 = .ok (.iadd, 1) := by decide +kernel
set_option maxRecDepth 20000 in
theorem dX7_areTurns_49 : decode cX7_areTurns 49 = .ok (.istore_n 2, 1) := by decide +kernel
set_option maxRecDepth 20000 in
theorem dX7_areTurns_50 : decode cX7_areTurns 50 = .ok (.iinc 3 1, 3) := by decide +kernel
set_option maxRecDepth 20000 in
theorem dX7_areTurns_53 : decode cX7_areTurns 53 = .ok (.goto (-39), 3) := by decide +kernel
set_option maxRecDepth 20000 in
theorem dX7_areTurns_56 : decode cX7_areTurns 56 = .ok (.aload_n 0, 1) := by decide +kernel
set_option maxRecDepth 20000 in
theorem dX7_areTurns_57 : decode cX7_areTurns 57 = .ok (.getfield 27, 3) := by decide +kernel
set_option maxRecDepth 20000 in
theorem dX7_areTurns_60 : decode cX7_areTurns 60 = .ok (.iload_n 1, 1) := by decide +kernel
set_option maxRecDepth 20000 in
theorem dX7_areTurns_61 : decode cX7_areTurns 61 = .ok (.iaload, 1) := by decide +kernel
set_option maxRecDepth 20000 in
theorem dX7_areTurns_62 : decode cX7_areTurns 62 = .ok (.iload_n 2, 1) := by decide +kernel
set_option maxRecDepth 20000 in
theorem dX7_areTurns_63 : decode cX7_areTurns 63 = .ok (.if_icmp .eq 5, 3) := by decide +kernel
set_option maxRecDepth 20000 in
theorem dX7_areTurns_66 : decode cX7_areTurns 66 = .ok (.iconst 0, 1) := by decide +kernel
set_option maxRecDepth 20000 in
theorem dX7_areTurns_67 : decode cX7_areTurns 67 = .ok (.ireturn, 1) := by decide +kernel
set_option maxRecDepth 20000 in
theorem dX7_areTurns_68 : decode cX7_areTurns 68 = .ok (.iinc 1 1, 3) := by decide +kernel
set_option maxRecDepth 20000 in
theorem dX7_areTurns_71 : decode cX7_areTurns 71 = .ok (.goto (-69), 3) := by decide +kernel
set_option maxRecDepth 20000 in
theorem dX7_areTurns_74 : decode cX7_areTurns 74 = .ok (.iconst 1, 1) := by decide +kernel
set_option maxRecDepth 20000 in
theorem dX7_areTurns_75 : decode cX7_areTurns 75 = .ok (.ireturn, 1) := by decide +kernel
set_option maxRecDepth 20000 in
theorem dX7_comesTo_0 : decode cX7_comesTo 0 = .ok (.iload_n 1, 1) := by decide +kernel
set_option maxRecDepth 20000 in
theorem dX7_comesTo_1 : decode cX7_comesTo 1 = .ok (.iconst 2, 1) := by decide +kernel
set_option maxRecDepth 20000 in
theorem dX7_comesTo_2 : decode cX7_comesTo 2 = .ok (.irem, 1) := by decide +kernel
set_option maxRecDepth 20000 in
theorem dX7_comesTo_3 : decode cX7_comesTo 3 = .ok (.ifCond .ne 14, 3) := by decide +kernel
set_option maxRecDepth 20000 in
theorem dX7_comesTo_6 : decode cX7_comesTo 6 = .ok (.aload_n 0, 1) := by decide +kernel
set_option maxRecDepth 20000 in
theorem dX7_comesTo_7 : decode cX7_comesTo 7 = .ok (.getfield 17, 3) := by decide +kernel
set_option maxRecDepth 20000 in
theorem dX7_comesTo_10 : decode cX7_comesTo 10 = .ok (.iload_n 1, 1) := by decide +kernel
set_option maxRecDepth 20000 in
theorem dX7_comesTo_11 : decode cX7_comesTo 11 = .ok (.iconst 2, 1) := by decide +kernel
set_option maxRecDepth 20000 in
theorem dX7_comesTo_12 : decode cX7_comesTo 12 = .ok (.idiv, 1) := by decide +kernel
set_option maxRecDepth 20000 in
theorem dX7_comesTo_13 : decode cX7_comesTo 13 = .ok (.iaload, 1) := by decide +kernel
set_option maxRecDepth 20000 in
theorem dX7_comesTo_14 : decode cX7_comesTo 14 = .ok (.goto 11, 3) := by decide +kernel
set_option maxRecDepth 20000 in
theorem dX7_comesTo_17 : decode cX7_comesTo 17 = .ok (.aload_n 0, 1) := by decide +kernel
set_option maxRecDepth 20000 in
theorem dX7_comesTo_18 : decode cX7_comesTo 18 = .ok (.getfield 13, 3) := by decide +kernel
set_option maxRecDepth 20000 in
theorem dX7_comesTo_21 : decode cX7_comesTo 21 = .ok (.iload_n 1, 1) := by decide +kernel
set_option maxRecDepth 20000 in
theorem dX7_comesTo_22 : decode cX7_comesTo 22 = .ok (.iconst 2, 1) := by decide +kernel
set_option maxRecDepth 20000 in
theorem dX7_comesTo_23 : decode cX7_comesTo 23 = .ok (.idiv, 1) := by decide +kernel
set_option maxRecDepth 20000 in
theorem dX7_comesTo_24 : decode cX7_comesTo 24 = .ok (.iaload, 1) := by decide +kernel
set_option maxRecDepth 20000 in
theorem dX7_comesTo_25 : decode cX7_comesTo 25 = .ok (.ireturn, 1) := by decide +kernel
set_option maxRecDepth 20000 in
theorem dX7_behind_0 : decode cX7_behind 0 = .ok (.aload_n 0, 1) := by decide +kernel
set_option maxRecDepth 20000 in
theorem dX7_behind_1 : decode cX7_behind 1 = .ok (.iload_n 1, 1) := by decide +kernel
set_option maxRecDepth 20000 in
theorem dX7_behind_2 : decode cX7_behind 2 = .ok (.invokevirtual 132, 3) := by decide +kernel
set_option maxRecDepth 20000 in
theorem dX7_behind_5 : decode cX7_behind 5 = .ok (.istore_n 2, 1) := by decide +kernel
set_option maxRecDepth 20000 in
theorem dX7_behind_6 : decode cX7_behind 6 = .ok (.aload_n 0, 1) := by decide +kernel
set_option maxRecDepth 20000 in
theorem dX7_behind_7 : decode cX7_behind 7 = .ok (.iload_n 2, 1) := by decide +kernel
set_option maxRecDepth 20000 in
theorem dX7_behind_8 : decode cX7_behind 8 = .ok (.iload_n 1, 1) := by decide +kernel
set_option maxRecDepth 20000 in
theorem dX7_behind_9 : decode cX7_behind 9 = .ok (.iconst 2, 1) := by decide +kernel
set_option maxRecDepth 20000 in
theorem dX7_behind_10 : decode cX7_behind 10 = .ok (.idiv, 1) := by decide +kernel
set_option maxRecDepth 20000 in
theorem dX7_behind_11 : decode cX7_behind 11 = .ok (.invokevirtual 115, 3) := by decide +kernel
set_option maxRecDepth 20000 in
theorem dX7_behind_14 : decode cX7_behind 14 = .ok (.iconst 1, 1) := by decide +kernel
set_option maxRecDepth 20000 in
theorem dX7_behind_15 : decode cX7_behind 15 = .ok (.iadd, 1) := by decide +kernel
set_option maxRecDepth 20000 in
theorem dX7_behind_16 : decode cX7_behind 16 = .ok (.istore_n 3, 1) := by decide +kernel
set_option maxRecDepth 20000 in
theorem dX7_behind_17 : decode cX7_behind 17 = .ok (.aload_n 0, 1) := by decide +kernel
set_option maxRecDepth 20000 in
theorem dX7_behind_18 : decode cX7_behind 18 = .ok (.getfield 24, 3) := by decide +kernel
set_option maxRecDepth 20000 in
theorem dX7_behind_21 : decode cX7_behind 21 = .ok (.bipush 22, 2) := by decide +kernel
set_option maxRecDepth 20000 in
theorem dX7_behind_23 : decode cX7_behind 23 = .ok (.iload_n 2, 1) := by decide +kernel
set_option maxRecDepth 20000 in
theorem dX7_behind_24 : decode cX7_behind 24 = .ok (.imul, 1) := by decide +kernel
set_option maxRecDepth 20000 in
theorem dX7_behind_25 : decode cX7_behind 25 = .ok (.iload_n 3, 1) := by decide +kernel
set_option maxRecDepth 20000 in
theorem dX7_behind_26 : decode cX7_behind 26 = .ok (.aload_n 0, 1) := by decide +kernel
set_option maxRecDepth 20000 in
theorem dX7_behind_27 : decode cX7_behind 27 = .ok (.getfield 27, 3) := by decide +kernel
set_option maxRecDepth 20000 in
theorem dX7_behind_30 : decode cX7_behind 30 = .ok (.iload_n 2, 1) := by decide +kernel
set_option maxRecDepth 20000 in
theorem dX7_behind_31 : decode cX7_behind 31 = .ok (.iaload, 1) := by decide +kernel
set_option maxRecDepth 20000 in
theorem dX7_behind_32 : decode cX7_behind 32 = .ok (.if_icmp .ne 7, 3) := by decide +kernel
set_option maxRecDepth 20000 in
theorem dX7_behind_35 : decode cX7_behind 35 = .ok (.iconst 0, 1) := by decide +kernel
set_option maxRecDepth 20000 in
theorem dX7_behind_36 : decode cX7_behind 36 = .ok (.goto 4, 3) := by decide +kernel
set_option maxRecDepth 20000 in
theorem dX7_behind_39 : decode cX7_behind 39 = .ok (.iload_n 3, 1) := by decide +kernel
set_option maxRecDepth 20000 in
theorem dX7_behind_40 : decode cX7_behind 40 = .ok (.iadd, 1) := by decide +kernel
set_option maxRecDepth 20000 in
theorem dX7_behind_41 : decode cX7_behind 41 = .ok (.iaload, 1) := by decide +kernel
set_option maxRecDepth 20000 in
theorem dX7_behind_42 : decode cX7_behind 42 = .ok (.istore 4, 2) := by decide +kernel
set_option maxRecDepth 20000 in
theorem dX7_behind_44 : decode cX7_behind 44 = .ok (.aload_n 0, 1) := by decide +kernel
set_option maxRecDepth 20000 in
theorem dX7_behind_45 : decode cX7_behind 45 = .ok (.getfield 13, 3) := by decide +kernel
set_option maxRecDepth 20000 in
theorem dX7_behind_48 : decode cX7_behind 48 = .ok (.iload 4, 2) := by decide +kernel
set_option maxRecDepth 20000 in
theorem dX7_behind_50 : decode cX7_behind 50 = .ok (.iaload, 1) := by decide +kernel
set_option maxRecDepth 20000 in
theorem dX7_behind_51 : decode cX7_behind 51 = .ok (.iload_n 2, 1) := by decide +kernel
set_option maxRecDepth 20000 in
theorem dX7_behind_52 : decode cX7_behind 52 = .ok (.if_icmp .ne 10, 3) := by decide +kernel
set_option maxRecDepth 20000 in
theorem dX7_behind_55 : decode cX7_behind 55 = .ok (.iconst 2, 1) := by decide +kernel
set_option maxRecDepth 20000 in
theorem dX7_behind_56 : decode cX7_behind 56 = .ok (.iload 4, 2) := by decide +kernel
set_option maxRecDepth 20000 in
theorem dX7_behind_58 : decode cX7_behind 58 = .ok (.imul, 1) := by decide +kernel
set_option maxRecDepth 20000 in
theorem dX7_behind_59 : decode cX7_behind 59 = .ok (.goto 9, 3) := by decide +kernel
set_option maxRecDepth 20000 in
theorem dX7_behind_62 : decode cX7_behind 62 = .ok (.iconst 2, 1) := by decide +kernel
set_option maxRecDepth 20000 in
theorem dX7_behind_63 : decode cX7_behind 63 = .ok (.iload 4, 2) := by decide +kernel
set_option maxRecDepth 20000 in
theorem dX7_behind_65 : decode cX7_behind 65 = .ok (.imul, 1) := by decide +kernel
set_option maxRecDepth 20000 in
theorem dX7_behind_66 : decode cX7_behind 66 = .ok (.iconst 1, 1) := by decide +kernel
set_option maxRecDepth 20000 in
theorem dX7_behind_67 : decode cX7_behind 67 = .ok (.iadd, 1) := by decide +kernel
set_option maxRecDepth 20000 in
theorem dX7_behind_68 : decode cX7_behind 68 = .ok (.ireturn, 1) := by decide +kernel
set_option maxRecDepth 20000 in
theorem dX7_goAlong_0 : decode cX7_goAlong 0 = .ok (.aload_n 0, 1) := by decide +kernel
set_option maxRecDepth 20000 in
theorem dX7_goAlong_1 : decode cX7_goAlong 1 = .ok (.iconst 0, 1) := by decide +kernel
set_option maxRecDepth 20000 in
theorem dX7_goAlong_2 : decode cX7_goAlong 2 = .ok (.putfield 136, 3) := by decide +kernel
set_option maxRecDepth 20000 in
theorem dX7_goAlong_5 : decode cX7_goAlong 5 = .ok (.iconst 0, 1) := by decide +kernel
set_option maxRecDepth 20000 in
theorem dX7_goAlong_6 : decode cX7_goAlong 6 = .ok (.istore_n 1, 1) := by decide +kernel
set_option maxRecDepth 20000 in
theorem dX7_goAlong_7 : decode cX7_goAlong 7 = .ok (.iload_n 1, 1) := by decide +kernel
set_option maxRecDepth 20000 in
theorem dX7_goAlong_8 : decode cX7_goAlong 8 = .ok (.bipush 44, 2) := by decide +kernel
set_option maxRecDepth 20000 in
theorem dX7_goAlong_10 : decode cX7_goAlong 10 = .ok (.if_icmp .ge 16, 3) := by decide +kernel
set_option maxRecDepth 20000 in
theorem dX7_goAlong_13 : decode cX7_goAlong 13 = .ok (.aload_n 0, 1) := by decide +kernel
set_option maxRecDepth 20000 in
theorem dX7_goAlong_14 : decode cX7_goAlong 14 = .ok (.getfield 66, 3) := by decide +kernel
set_option maxRecDepth 20000 in
theorem dX7_goAlong_17 : decode cX7_goAlong 17 = .ok (.iload_n 1, 1) := by decide +kernel
set_option maxRecDepth 20000 in
theorem dX7_goAlong_18 : decode cX7_goAlong 18 = .ok (.iconst (-1), 1) := by decide +kernel
set_option maxRecDepth 20000 in
theorem dX7_goAlong_19 : decode cX7_goAlong 19 = .ok (.iastore, 1) := by decide +kernel
set_option maxRecDepth 20000 in
theorem dX7_goAlong_20 : decode cX7_goAlong 20 = .ok (.iinc 1 1, 3) := by decide +kernel
set_option maxRecDepth 20000 in
theorem dX7_goAlong_23 : decode cX7_goAlong 23 = .ok (.goto (-16), 3) := by decide +kernel
set_option maxRecDepth 20000 in
theorem dX7_goAlong_26 : decode cX7_goAlong 26 = .ok (.iconst 0, 1) := by decide +kernel
set_option maxRecDepth 20000 in
theorem dX7_goAlong_27 : decode cX7_goAlong 27 = .ok (.istore_n 1, 1) := by decide +kernel
set_option maxRecDepth 20000 in
theorem dX7_goAlong_28 : decode cX7_goAlong 28 = .ok (.iload_n 1, 1) := by decide +kernel
set_option maxRecDepth 20000 in
theorem dX7_goAlong_29 : decode cX7_goAlong 29 = .ok (.iconst 2, 1) := by decide +kernel
set_option maxRecDepth 20000 in
theorem dX7_goAlong_30 : decode cX7_goAlong 30 = .ok (.aload_n 0, 1) := by decide +kernel
set_option maxRecDepth 20000 in
theorem dX7_goAlong_31 : decode cX7_goAlong 31 = .ok (.getfield 104, 3) := by decide +kernel
set_option maxRecDepth 20000 in
theorem dX7_goAlong_34 : decode cX7_goAlong 34 = .ok (.imul, 1) := by decide +kernel
set_option maxRecDepth 20000 in
theorem dX7_goAlong_35 : decode cX7_goAlong 35 = .ok (.if_icmp .ge 61, 3) := by decide +kernel
set_option maxRecDepth 20000 in
theorem dX7_goAlong_38 : decode cX7_goAlong 38 = .ok (.aload_n 0, 1) := by decide +kernel
set_option maxRecDepth 20000 in
theorem dX7_goAlong_39 : decode cX7_goAlong 39 = .ok (.getfield 66, 3) := by decide +kernel
set_option maxRecDepth 20000 in
theorem dX7_goAlong_42 : decode cX7_goAlong 42 = .ok (.iload_n 1, 1) := by decide +kernel
set_option maxRecDepth 20000 in
theorem dX7_goAlong_43 : decode cX7_goAlong 43 = .ok (.iaload, 1) := by decide +kernel
set_option maxRecDepth 20000 in
theorem dX7_goAlong_44 : decode cX7_goAlong 44 = .ok (.ifCond .lt 6, 3) := by decide +kernel
set_option maxRecDepth 20000 in
theorem dX7_goAlong_47 : decode cX7_goAlong 47 = .ok (.goto 43, 3) := by decide +kernel
set_option maxRecDepth 20000 in
theorem dX7_goAlong_50 : decode cX7_goAlong 50 = .ok (.iload_n 1, 1) := by decide +kernel
set_option maxRecDepth 20000 in
theorem dX7_goAlong_51 : decode cX7_goAlong 51 = .ok (.istore_n 2, 1) := by decide +kernel
set_option maxRecDepth 20000 in
theorem dX7_goAlong_52 : decode cX7_goAlong 52 = .ok (.aload_n 0, 1) := by decide +kernel
set_option maxRecDepth 20000 in
theorem dX7_goAlong_53 : decode cX7_goAlong 53 = .ok (.getfield 66, 3) := by decide +kernel
set_option maxRecDepth 20000 in
theorem dX7_goAlong_56 : decode cX7_goAlong 56 = .ok (.iload_n 2, 1) := by decide +kernel
set_option maxRecDepth 20000 in
theorem dX7_goAlong_57 : decode cX7_goAlong 57 = .ok (.iaload, 1) := by decide +kernel
set_option maxRecDepth 20000 in
theorem dX7_goAlong_58 : decode cX7_goAlong 58 = .ok (.ifCond .ge 22, 3) := by decide +kernel
set_option maxRecDepth 20000 in
theorem dX7_goAlong_61 : decode cX7_goAlong 61 = .ok (.aload_n 0, 1) := by decide +kernel
set_option maxRecDepth 20000 in
theorem dX7_goAlong_62 : decode cX7_goAlong 62 = .ok (.getfield 66, 3) := by decide +kernel
set_option maxRecDepth 20000 in
theorem dX7_goAlong_65 : decode cX7_goAlong 65 = .ok (.iload_n 2, 1) := by decide +kernel
set_option maxRecDepth 20000 in
theorem dX7_goAlong_66 : decode cX7_goAlong 66 = .ok (.aload_n 0, 1) := by decide +kernel
set_option maxRecDepth 20000 in
theorem dX7_goAlong_67 : decode cX7_goAlong 67 = .ok (.getfield 136, 3) := by decide +kernel
set_option maxRecDepth 20000 in
theorem dX7_goAlong_70 : decode cX7_goAlong 70 = .ok (.iastore, 1) := by decide +kernel
set_option maxRecDepth 20000 in
theorem dX7_goAlong_71 : decode cX7_goAlong 71 = .ok (.aload_n 0, 1) := by decide +kernel
set_option maxRecDepth 20000 in
theorem dX7_goAlong_72 : decode cX7_goAlong 72 = .ok (.iload_n 2, 1) := by decide +kernel
set_option maxRecDepth 20000 in
theorem dX7_goAlong_73 : decode cX7_goAlong 73 = .ok (.invokevirtual 139, 3) := by decide +kernel
set_option maxRecDepth 20000 in
theorem dX7_goAlong_76 : decode cX7_goAlong 76 = .ok (.istore_n 2, 1) := by decide +kernel
set_option maxRecDepth 20000 in
theorem dX7_goAlong_77 : decode cX7_goAlong 77 = .ok (.goto (-25), 3) := by decide +kernel
set_option maxRecDepth 20000 in
theorem dX7_goAlong_80 : decode cX7_goAlong 80 = .ok (.aload_n 0, 1) := by decide +kernel
set_option maxRecDepth 20000 in
theorem dX7_goAlong_81 : decode cX7_goAlong 81 = .ok (.dup, 1) := by decide +kernel
set_option maxRecDepth 20000 in
theorem dX7_goAlong_82 : decode cX7_goAlong 82 = .ok (.getfield 136, 3) := by decide +kernel
set_option maxRecDepth 20000 in
theorem dX7_goAlong_85 : decode cX7_goAlong 85 = .ok (.iconst 1, 1) := by decide +kernel
set_option maxRecDepth 20000 in
theorem dX7_goAlong_86 : decode cX7_goAlong 86 = .ok (.iadd, 1) := by decide +kernel
set_option maxRecDepth 20000 in
theorem dX7_goAlong_87 : decode cX7_goAlong 87 = .ok (.putfield 136, 3) := by decide +kernel
set_option maxRecDepth 20000 in
theorem dX7_goAlong_90 : decode cX7_goAlong 90 = .ok (.iinc 1 1, 3) := by decide +kernel
set_option maxRecDepth 20000 in
theorem dX7_goAlong_93 : decode cX7_goAlong 93 = .ok (.goto (-65), 3) := by decide +kernel
set_option maxRecDepth 20000 in
theorem dX7_goAlong_96 : decode cX7_goAlong 96 = .ok (.return_, 1) := by decide +kernel
set_option maxRecDepth 20000 in
theorem dX7_hang_0 : decode cX7_hang 0 = .ok (.iconst 1, 1) := by decide +kernel
set_option maxRecDepth 20000 in
theorem dX7_hang_1 : decode cX7_hang 1 = .ok (.istore_n 2, 1) := by decide +kernel
set_option maxRecDepth 20000 in
theorem dX7_hang_2 : decode cX7_hang 2 = .ok (.iconst 1, 1) := by decide +kernel
set_option maxRecDepth 20000 in
theorem dX7_hang_3 : decode cX7_hang 3 = .ok (.istore_n 3, 1) := by decide +kernel
set_option maxRecDepth 20000 in
theorem dX7_hang_4 : decode cX7_hang 4 = .ok (.iload_n 3, 1) := by decide +kernel
set_option maxRecDepth 20000 in
theorem dX7_hang_5 : decode cX7_hang 5 = .ok (.ifCond .eq 91, 3) := by decide +kernel
set_option maxRecDepth 20000 in
theorem dX7_hang_8 : decode cX7_hang 8 = .ok (.iconst 0, 1) := by decide +kernel
set_option maxRecDepth 20000 in
theorem dX7_hang_9 : decode cX7_hang 9 = .ok (.istore_n 3, 1) := by decide +kernel
set_option maxRecDepth 20000 in
theorem dX7_hang_10 : decode cX7_hang 10 = .ok (.iconst 0, 1) := by decide +kernel
set_option maxRecDepth 20000 in
theorem dX7_hang_11 : decode cX7_hang 11 = .ok (.istore 4, 2) := by decide +kernel
set_option maxRecDepth 20000 in
theorem dX7_hang_13 : decode cX7_hang 13 = .ok (.iload 4, 2) := by decide +kernel
set_option maxRecDepth 20000 in
theorem dX7_hang_15 : decode cX7_hang 15 = .ok (.aload_n 0, 1) := by decide +kernel
set_option maxRecDepth 20000 in
theorem dX7_hang_16 : decode cX7_hang 16 = .ok (.getfield 104, 3) := by decide +kernel
set_option maxRecDepth 20000 in
theorem dX7_hang_19 : decode cX7_hang 19 = .ok (.if_icmp .ge 74, 3) := by decide +kernel
set_option maxRecDepth 20000 in
theorem dX7_hang_22 : decode cX7_hang 22 = .ok (.iload_n 1, 1) := by decide +kernel
set_option maxRecDepth 20000 in
theorem dX7_hang_23 : decode cX7_hang 23 = .ok (.ifCond .eq 12, 3) := by decide +kernel
set_option maxRecDepth 20000 in
theorem dX7_hang_26 : decode cX7_hang 26 = .ok (.aload_n 0, 1) := by decide +kernel
set_option maxRecDepth 20000 in
theorem dX7_hang_27 : decode cX7_hang 27 = .ok (.iload 4, 2) := by decide +kernel
set_option maxRecDepth 20000 in
theorem dX7_hang_29 : decode cX7_hang 29 = .ok (.invokevirtual 142, 3) := by decide +kernel
set_option maxRecDepth 20000 in
theorem dX7_hang_32 : decode cX7_hang 32 = .ok (.ifCond .eq 55, 3) := by decide +kernel
set_option maxRecDepth 20000 in
theorem dX7_hang_35 : decode cX7_hang 35 = .ok (.iload_n 2, 1) := by decide +kernel
set_option maxRecDepth 20000 in
theorem dX7_hang_36 : decode cX7_hang 36 = .ok (.aload_n 0, 1) := by decide +kernel
set_option maxRecDepth 20000 in
theorem dX7_hang_37 : decode cX7_hang 37 = .ok (.getfield 13, 3) := by decide +kernel
set_option maxRecDepth 20000 in
theorem dX7_hang_40 : decode cX7_hang 40 = .ok (.iload 4, 2) := by decide +kernel
set_option maxRecDepth 20000 in
theorem dX7_hang_42 : decode cX7_hang 42 = .ok (.iaload, 1) := by decide +kernel
set_option maxRecDepth 20000 in
theorem dX7_hang_43 : decode cX7_hang 43 = .ok (.ishr, 1) := by decide +kernel
set_option maxRecDepth 20000 in
theorem dX7_hang_44 : decode cX7_hang 44 = .ok (.iconst 1, 1) := by decide +kernel
set_option maxRecDepth 20000 in
theorem dX7_hang_45 : decode cX7_hang 45 = .ok (.iand, 1) := by decide +kernel
set_option maxRecDepth 20000 in
theorem dX7_hang_46 : decode cX7_hang 46 = .ok (.iload_n 2, 1) := by decide +kernel
set_option maxRecDepth 20000 in
theorem dX7_hang_47 : decode cX7_hang 47 = .ok (.aload_n 0, 1) := by decide +kernel
set_option maxRecDepth 20000 in
theorem dX7_hang_48 : decode cX7_hang 48 = .ok (.getfield 17, 3) := by decide +kernel
set_option maxRecDepth 20000 in
theorem dX7_hang_51 : decode cX7_hang 51 = .ok (.iload 4, 2) := by decide +kernel
set_option maxRecDepth 20000 in
theorem dX7_hang_53 : decode cX7_hang 53 = .ok (.iaload, 1) := by decide +kernel
set_option maxRecDepth 20000 in
theorem dX7_hang_54 : decode cX7_hang 54 = .ok (.ishr, 1) := by decide +kernel
set_option maxRecDepth 20000 in
theorem dX7_hang_55 : decode cX7_hang 55 = .ok (.iconst 1, 1) := by decide +kernel
set_option maxRecDepth 20000 in
theorem dX7_hang_56 : decode cX7_hang 56 = .ok (.iand, 1) := by decide +kernel
set_option maxRecDepth 20000 in
theorem dX7_hang_57 : decode cX7_hang 57 = .ok (.if_icmp .ne 6, 3) := by decide +kernel
set_option maxRecDepth 20000 in
theorem dX7_hang_60 : decode cX7_hang 60 = .ok (.goto 27, 3) := by decide +kernel
set_option maxRecDepth 20000 in
theorem dX7_hang_63 : decode cX7_hang 63 = .ok (.iload_n 2, 1) := by decide +kernel
set_option maxRecDepth 20000 in
theorem dX7_hang_64 : decode cX7_hang 64 = .ok (.iconst 1, 1) := by decide +kernel
set_option maxRecDepth 20000 in
theorem dX7_hang_65 : decode cX7_hang 65 = .ok (.aload_n 0, 1) := by decide +kernel
set_option maxRecDepth 20000 in
theorem dX7_hang_66 : decode cX7_hang 66 = .ok (.getfield 13, 3) := by decide +kernel
set_option maxRecDepth 20000 in
theorem dX7_hang_69 : decode cX7_hang 69 = .ok (.iload 4, 2) := by decide +kernel
set_option maxRecDepth 20000 in
theorem dX7_hang_71 : decode cX7_hang 71 = .ok (.iaload, 1) := by decide +kernel
set_option maxRecDepth 20000 in
theorem dX7_hang_72 : decode cX7_hang 72 = .ok (.ishl, 1) := by decide +kernel
set_option maxRecDepth 20000 in
theorem dX7_hang_73 : decode cX7_hang 73 = .ok (.iconst 1, 1) := by decide +kernel
set_option maxRecDepth 20000 in
theorem dX7_hang_74 : decode cX7_hang 74 = .ok (.aload_n 0, 1) := by decide +kernel
set_option maxRecDepth 20000 in
theorem dX7_hang_75 : decode cX7_hang 75 = .ok (.getfield 17, 3) := by decide +kernel
set_option maxRecDepth 20000 in
theorem dX7_hang_78 : decode cX7_hang 78 = .ok (.iload 4, 2) := by decide +kernel
set_option maxRecDepth 20000 in
theorem dX7_hang_80 : decode cX7_hang 80 = .ok (.iaload, 1) := by decide +kernel
set_option maxRecDepth 20000 in
theorem dX7_hang_81 : decode cX7_hang 81 = .ok (.ishl, 1) := by decide +kernel
set_option maxRecDepth 20000 in
theorem dX7_hang_82 : decode cX7_hang 82 = .ok (.ior, 1) := by decide +kernel
set_option maxRecDepth 20000 in
theorem dX7_hang_83 : decode cX7_hang 83 = .ok (.ior, 1) := by decide +kernel
set_option maxRecDepth 20000 in
theorem dX7_hang_84 : decode cX7_hang 84 = .ok (.istore_n 2, 1) := by decide +kernel
set_option maxRecDepth 20000 in
theorem dX7_hang_85 : decode cX7_hang 85 = .ok (.iconst 1, 1) := by decide +kernel
set_option maxRecDepth 20000 in
theorem dX7_hang_86 : decode cX7_hang 86 = .ok (.istore_n 3, 1) := by decide +kernel
set_option maxRecDepth 20000 in
theorem dX7_hang_87 : decode cX7_hang 87 = .ok (.iinc 4 1, 3) := by decide +kernel
set_option maxRecDepth 20000 in
theorem dX7_hang_90 : decode cX7_hang 90 = .ok (.goto (-77), 3) := by decide +kernel
set_option maxRecDepth 20000 in
theorem dX7_hang_93 : decode cX7_hang 93 = .ok (.goto (-89), 3) := by decide +kernel
set_option maxRecDepth 20000 in
theorem dX7_hang_96 : decode cX7_hang 96 = .ok (.iload_n 2, 1) := by decide +kernel
set_option maxRecDepth 20000 in
theorem dX7_hang_97 : decode cX7_hang 97 = .ok (.iconst 1, 1) := by decide +kernel
set_option maxRecDepth 20000 in
theorem dX7_hang_98 : decode cX7_hang 98 = .ok (.aload_n 0, 1) := by decide +kernel
set_option maxRecDepth 20000 in
theorem dX7_hang_99 : decode cX7_hang 99 = .ok (.getfield 97, 3) := by decide +kernel
set_option maxRecDepth 20000 in
theorem dX7_hang_102 : decode cX7_hang 102 = .ok (.ishl, 1) := by decide +kernel
set_option maxRecDepth 20000 in
theorem dX7_hang_103 : decode cX7_hang 103 = .ok (.iconst 1, 1) := by decide +kernel
set_option maxRecDepth 20000 in
theorem dX7_hang_104 : decode cX7_hang 104 = .ok (.isub, 1) := by decide +kernel
set_option maxRecDepth 20000 in
theorem dX7_hang_105 : decode cX7_hang 105 = .ok (.if_icmp .ne 7, 3) := by decide +kernel
set_option maxRecDepth 20000 in
theorem dX7_hang_108 : decode cX7_hang 108 = .ok (.iconst 1, 1) := by decide +kernel
set_option maxRecDepth 20000 in
theorem dX7_hang_109 : decode cX7_hang 109 = .ok (.goto 4, 3) := by decide +kernel
set_option maxRecDepth 20000 in
theorem dX7_hang_112 : decode cX7_hang 112 = .ok (.iconst 0, 1) := by decide +kernel
set_option maxRecDepth 20000 in
theorem dX7_hang_113 : decode cX7_hang 113 = .ok (.ireturn, 1) := by decide +kernel
set_option maxRecDepth 20000 in
theorem dX7_causeOf_0 : decode cX7_causeOf 0 = .ok (.aload_n 0, 1) := by decide +kernel
set_option maxRecDepth 20000 in
theorem dX7_causeOf_1 : decode cX7_causeOf 1 = .ok (.getfield 7, 3) := by decide +kernel
set_option maxRecDepth 20000 in
theorem dX7_causeOf_4 : decode cX7_causeOf 4 = .ok (.ifCond .ge 5, 3) := by decide +kernel
set_option maxRecDepth 20000 in
theorem dX7_causeOf_7 : decode cX7_causeOf 7 = .ok (.iconst 1, 1) := by decide +kernel
set_option maxRecDepth 20000 in
theorem dX7_causeOf_8 : decode cX7_causeOf 8 = .ok (.ireturn, 1) := by decide +kernel
set_option maxRecDepth 20000 in
theorem dX7_causeOf_9 : decode cX7_causeOf 9 = .ok (.aload_n 0, 1) := by decide +kernel
set_option maxRecDepth 20000 in
theorem dX7_causeOf_10 : decode cX7_causeOf 10 = .ok (.invokevirtual 145, 3) := by decide +kernel
set_option maxRecDepth 20000 in
theorem dX7_causeOf_13 : decode cX7_causeOf 13 = .ok (.ifCond .ne 5, 3) := by decide +kernel
set_option maxRecDepth 20000 in
theorem dX7_causeOf_16 : decode cX7_causeOf 16 = .ok (.iconst 2, 1) := by decide +kernel
set_option maxRecDepth 20000 in
theorem dX7_causeOf_17 : decode cX7_causeOf 17 = .ok (.ireturn, 1) := by decide +kernel
set_option maxRecDepth 20000 in
theorem dX7_causeOf_18 : decode cX7_causeOf 18 = .ok (.aload_n 0, 1) := by decide +kernel
