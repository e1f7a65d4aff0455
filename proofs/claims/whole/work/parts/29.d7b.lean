set_option maxRecDepth 20000 in
theorem dX7_causeOf_19 : decode cX7_causeOf 19 = .ok (.iconst 0, 1) := by decide +kernel
set_option maxRecDepth 20000 in
theorem dX7_causeOf_20 : decode cX7_causeOf 20 = .ok (.invokevirtual 149, 3) := by decide +kernel
set_option maxRecDepth 20000 in
theorem dX7_causeOf_23 : decode cX7_causeOf 23 = .ok (.ifCond .ne 5, 3) := by decide +kernel
set_option maxRecDepth 20000 in
theorem dX7_causeOf_26 : decode cX7_causeOf 26 = .ok (.iconst 3, 1) := by decide +kernel
set_option maxRecDepth 20000 in
theorem dX7_causeOf_27 : decode cX7_causeOf 27 = .ok (.ireturn, 1) := by decide +kernel
set_option maxRecDepth 20000 in
theorem dX7_causeOf_28 : decode cX7_causeOf 28 = .ok (.aload_n 0, 1) := by decide +kernel
set_option maxRecDepth 20000 in
theorem dX7_causeOf_29 : decode cX7_causeOf 29 = .ok (.iconst 1, 1) := by decide +kernel
set_option maxRecDepth 20000 in
theorem dX7_causeOf_30 : decode cX7_causeOf 30 = .ok (.invokevirtual 149, 3) := by decide +kernel
set_option maxRecDepth 20000 in
theorem dX7_causeOf_33 : decode cX7_causeOf 33 = .ok (.ifCond .ne 5, 3) := by decide +kernel
set_option maxRecDepth 20000 in
theorem dX7_causeOf_36 : decode cX7_causeOf 36 = .ok (.iconst 4, 1) := by decide +kernel
set_option maxRecDepth 20000 in
theorem dX7_causeOf_37 : decode cX7_causeOf 37 = .ok (.ireturn, 1) := by decide +kernel
set_option maxRecDepth 20000 in
theorem dX7_causeOf_38 : decode cX7_causeOf 38 = .ok (.aload_n 0, 1) := by decide +kernel
set_option maxRecDepth 20000 in
theorem dX7_causeOf_39 : decode cX7_causeOf 39 = .ok (.invokevirtual 153, 3) := by decide +kernel
set_option maxRecDepth 20000 in
theorem dX7_causeOf_42 : decode cX7_causeOf 42 = .ok (.aload_n 0, 1) := by decide +kernel
set_option maxRecDepth 20000 in
theorem dX7_causeOf_43 : decode cX7_causeOf 43 = .ok (.getfield 97, 3) := by decide +kernel
set_option maxRecDepth 20000 in
theorem dX7_causeOf_46 : decode cX7_causeOf 46 = .ok (.aload_n 0, 1) := by decide +kernel
set_option maxRecDepth 20000 in
theorem dX7_causeOf_47 : decode cX7_causeOf 47 = .ok (.getfield 136, 3) := by decide +kernel
set_option maxRecDepth 20000 in
theorem dX7_causeOf_50 : decode cX7_causeOf 50 = .ok (.iadd, 1) := by decide +kernel
set_option maxRecDepth 20000 in
theorem dX7_causeOf_51 : decode cX7_causeOf 51 = .ok (.aload_n 0, 1) := by decide +kernel
set_option maxRecDepth 20000 in
theorem dX7_causeOf_52 : decode cX7_causeOf 52 = .ok (.getfield 104, 3) := by decide +kernel
set_option maxRecDepth 20000 in
theorem dX7_causeOf_55 : decode cX7_causeOf 55 = .ok (.iconst 2, 1) := by decide +kernel
set_option maxRecDepth 20000 in
theorem dX7_causeOf_56 : decode cX7_causeOf 56 = .ok (.iadd, 1) := by decide +kernel
set_option maxRecDepth 20000 in
theorem dX7_causeOf_57 : decode cX7_causeOf 57 = .ok (.if_icmp .ne 7, 3) := by decide +kernel
set_option maxRecDepth 20000 in
theorem dX7_causeOf_60 : decode cX7_causeOf 60 = .ok (.iconst 0, 1) := by decide +kernel
set_option maxRecDepth 20000 in
theorem dX7_causeOf_61 : decode cX7_causeOf 61 = .ok (.goto 4, 3) := by decide +kernel
set_option maxRecDepth 20000 in
theorem dX7_causeOf_64 : decode cX7_causeOf 64 = .ok (.iconst 5, 1) := by decide +kernel
set_option maxRecDepth 20000 in
theorem dX7_causeOf_65 : decode cX7_causeOf 65 = .ok (.ireturn, 1) := by decide +kernel
set_option maxRecDepth 20000 in
theorem dX7_determinant_0 : decode cX7_determinant 0 = .ok (.lconst 1, 1) := by decide +kernel
set_option maxRecDepth 20000 in
theorem dX7_determinant_1 : decode cX7_determinant 1 = .ok (.lstore_n 2, 1) := by decide +kernel
set_option maxRecDepth 20000 in
theorem dX7_determinant_2 : decode cX7_determinant 2 = .ok (.iconst 1, 1) := by decide +kernel
set_option maxRecDepth 20000 in
theorem dX7_determinant_3 : decode cX7_determinant 3 = .ok (.istore 4, 2) := by decide +kernel
set_option maxRecDepth 20000 in
theorem dX7_determinant_5 : decode cX7_determinant 5 = .ok (.iconst 0, 1) := by decide +kernel
set_option maxRecDepth 20000 in
theorem dX7_determinant_6 : decode cX7_determinant 6 = .ok (.istore 5, 2) := by decide +kernel
set_option maxRecDepth 20000 in
theorem dX7_determinant_8 : decode cX7_determinant 8 = .ok (.iload 5, 2) := by decide +kernel
set_option maxRecDepth 20000 in
theorem dX7_determinant_10 : decode cX7_determinant 10 = .ok (.iload_n 1, 1) := by decide +kernel
set_option maxRecDepth 20000 in
theorem dX7_determinant_11 : decode cX7_determinant 11 = .ok (.if_icmp .ge 254, 3) := by decide +kernel
set_option maxRecDepth 20000 in
theorem dX7_determinant_14 : decode cX7_determinant 14 = .ok (.iload 5, 2) := by decide +kernel
set_option maxRecDepth 20000 in
theorem dX7_determinant_16 : decode cX7_determinant 16 = .ok (.istore 6, 2) := by decide +kernel
set_option maxRecDepth 20000 in
theorem dX7_determinant_18 : decode cX7_determinant 18 = .ok (.iload 6, 2) := by decide +kernel
set_option maxRecDepth 20000 in
theorem dX7_determinant_20 : decode cX7_determinant 20 = .ok (.iload_n 1, 1) := by decide +kernel
set_option maxRecDepth 20000 in
theorem dX7_determinant_21 : decode cX7_determinant 21 = .ok (.if_icmp .ge 27, 3) := by decide +kernel
set_option maxRecDepth 20000 in
theorem dX7_determinant_24 : decode cX7_determinant 24 = .ok (.aload_n 0, 1) := by decide +kernel
set_option maxRecDepth 20000 in
theorem dX7_determinant_25 : decode cX7_determinant 25 = .ok (.getfield 69, 3) := by decide +kernel
set_option maxRecDepth 20000 in
theorem dX7_determinant_28 : decode cX7_determinant 28 = .ok (.bipush 12, 2) := by decide +kernel
set_option maxRecDepth 20000 in
theorem dX7_determinant_30 : decode cX7_determinant 30 = .ok (.iload 6, 2) := by decide +kernel
set_option maxRecDepth 20000 in
theorem dX7_determinant_32 : decode cX7_determinant 32 = .ok (.imul, 1) := by decide +kernel
set_option maxRecDepth 20000 in
theorem dX7_determinant_33 : decode cX7_determinant 33 = .ok (.iload 5, 2) := by decide +kernel
set_option maxRecDepth 20000 in
theorem dX7_determinant_35 : decode cX7_determinant 35 = .ok (.iadd, 1) := by decide +kernel
set_option maxRecDepth 20000 in
theorem dX7_determinant_36 : decode cX7_determinant 36 = .ok (.laload, 1) := by decide +kernel
set_option maxRecDepth 20000 in
theorem dX7_determinant_37 : decode cX7_determinant 37 = .ok (.lconst 0, 1) := by decide +kernel
set_option maxRecDepth 20000 in
theorem dX7_determinant_38 : decode cX7_determinant 38 = .ok (.lcmp, 1) := by decide +kernel
set_option maxRecDepth 20000 in
theorem dX7_determinant_39 : decode cX7_determinant 39 = .ok (.ifCond .ne 9, 3) := by decide +kernel
set_option maxRecDepth 20000 in
theorem dX7_determinant_42 : decode cX7_determinant 42 = .ok (.iinc 6 1, 3) := by decide +kernel
set_option maxRecDepth 20000 in
theorem dX7_determinant_45 : decode cX7_determinant 45 = .ok (.goto (-27), 3) := by decide +kernel
set_option maxRecDepth 20000 in
theorem dX7_determinant_48 : decode cX7_determinant 48 = .ok (.iload 6, 2) := by decide +kernel
set_option maxRecDepth 20000 in
theorem dX7_determinant_50 : decode cX7_determinant 50 = .ok (.iload_n 1, 1) := by decide +kernel
set_option maxRecDepth 20000 in
theorem dX7_determinant_51 : decode cX7_determinant 51 = .ok (.if_icmp .ne 5, 3) := by decide +kernel
set_option maxRecDepth 20000 in
theorem dX7_determinant_54 : decode cX7_determinant 54 = .ok (.lconst 0, 1) := by decide +kernel
set_option maxRecDepth 20000 in
theorem dX7_determinant_55 : decode cX7_determinant 55 = .ok (.lreturn, 1) := by decide +kernel
set_option maxRecDepth 20000 in
theorem dX7_determinant_56 : decode cX7_determinant 56 = .ok (.iload 6, 2) := by decide +kernel
set_option maxRecDepth 20000 in
theorem dX7_determinant_58 : decode cX7_determinant 58 = .ok (.iload 5, 2) := by decide +kernel
set_option maxRecDepth 20000 in
theorem dX7_determinant_60 : decode cX7_determinant 60 = .ok (.if_icmp .eq 8, 3) := by decide +kernel
set_option maxRecDepth 20000 in
theorem dX7_determinant_63 : decode cX7_determinant 63 = .ok (.iload 4, 2) := by decide +kernel
set_option maxRecDepth 20000 in
theorem dX7_determinant_65 : decode cX7_determinant 65 = .ok (.ineg, 1) := by decide +kernel
set_option maxRecDepth 20000 in
theorem dX7_determinant_66 : decode cX7_determinant 66 = .ok (.istore 4, 2) := by decide +kernel
set_option maxRecDepth 20000 in
theorem dX7_determinant_68 : decode cX7_determinant 68 = .ok (.iconst 0, 1) := by decide +kernel
set_option maxRecDepth 20000 in
theorem dX7_determinant_69 : decode cX7_determinant 69 = .ok (.istore 7, 2) := by decide +kernel
set_option maxRecDepth 20000 in
theorem dX7_determinant_71 : decode cX7_determinant 71 = .ok (.iload 7, 2) := by decide +kernel
set_option maxRecDepth 20000 in
theorem dX7_determinant_73 : decode cX7_determinant 73 = .ok (.iload_n 1, 1) := by decide +kernel
set_option maxRecDepth 20000 in
theorem dX7_determinant_74 : decode cX7_determinant 74 = .ok (.if_icmp .ge 65, 3) := by decide +kernel
set_option maxRecDepth 20000 in
theorem dX7_determinant_77 : decode cX7_determinant 77 = .ok (.aload_n 0, 1) := by decide +kernel
set_option maxRecDepth 20000 in
theorem dX7_determinant_78 : decode cX7_determinant 78 = .ok (.getfield 69, 3) := by decide +kernel
set_option maxRecDepth 20000 in
theorem dX7_determinant_81 : decode cX7_determinant 81 = .ok (.bipush 12, 2) := by decide +kernel
set_option maxRecDepth 20000 in
theorem dX7_determinant_83 : decode cX7_determinant 83 = .ok (.iload 6, 2) := by decide +kernel
set_option maxRecDepth 20000 in
theorem dX7_determinant_85 : decode cX7_determinant 85 = .ok (.imul, 1) := by decide +kernel
set_option maxRecDepth 20000 in
theorem dX7_determinant_86 : decode cX7_determinant 86 = .ok (.iload 7, 2) := by decide +kernel
set_option maxRecDepth 20000 in
theorem dX7_determinant_88 : decode cX7_determinant 88 = .ok (.iadd, 1) := by decide +kernel
set_option maxRecDepth 20000 in
theorem dX7_determinant_89 : decode cX7_determinant 89 = .ok (.laload, 1) := by decide +kernel
set_option maxRecDepth 20000 in
theorem dX7_determinant_90 : decode cX7_determinant 90 = .ok (.lstore 8, 2) := by decide +kernel
set_option maxRecDepth 20000 in
theorem dX7_determinant_92 : decode cX7_determinant 92 = .ok (.aload_n 0, 1) := by decide +kernel
set_option maxRecDepth 20000 in
theorem dX7_determinant_93 : decode cX7_determinant 93 = .ok (.getfield 69, 3) := by decide +kernel
set_option maxRecDepth 20000 in
theorem dX7_determinant_96 : decode cX7_determinant 96 = .ok (.bipush 12, 2) := by decide +kernel
set_option maxRecDepth 20000 in
theorem dX7_determinant_98 : decode cX7_determinant 98 = .ok (.iload 6, 2) := by decide +kernel
set_option maxRecDepth 20000 in
theorem dX7_determinant_100 : decode cX7_determinant 100 = .ok (.imul, 1) := by decide +kernel
set_option maxRecDepth 20000 in
theorem dX7_determinant_101 : decode cX7_determinant 101 = .ok (.iload 7, 2) := by decide +kernel
set_option maxRecDepth 20000 in
theorem dX7_determinant_103 : decode cX7_determinant 103 = .ok (.iadd, 1) := by decide +kernel
set_option maxRecDepth 20000 in
theorem dX7_determinant_104 : decode cX7_determinant 104 = .ok (.aload_n 0, 1) := by decide +kernel
set_option maxRecDepth 20000 in
theorem dX7_determinant_105 : decode cX7_determinant 105 = .ok (.getfield 69, 3) := by decide +kernel
set_option maxRecDepth 20000 in
theorem dX7_determinant_108 : decode cX7_determinant 108 = .ok (.bipush 12, 2) := by decide +kernel
set_option maxRecDepth 20000 in
theorem dX7_determinant_110 : decode cX7_determinant 110 = .ok (.iload 5, 2) := by decide +kernel
set_option maxRecDepth 20000 in
theorem dX7_determinant_112 : decode cX7_determinant 112 = .ok (.imul, 1) := by decide +kernel
set_option maxRecDepth 20000 in
theorem dX7_determinant_113 : decode cX7_determinant 113 = .ok (.iload 7, 2) := by decide +kernel
set_option maxRecDepth 20000 in
theorem dX7_determinant_115 : decode cX7_determinant 115 = .ok (.iadd, 1) := by decide +kernel
set_option maxRecDepth 20000 in
theorem dX7_determinant_116 : decode cX7_determinant 116 = .ok (.laload, 1) := by decide +kernel
set_option maxRecDepth 20000 in
theorem dX7_determinant_117 : decode cX7_determinant 117 = .ok (.lastore, 1) := by decide +kernel
set_option maxRecDepth 20000 in
theorem dX7_determinant_118 : decode cX7_determinant 118 = .ok (.aload_n 0, 1) := by decide +kernel
set_option maxRecDepth 20000 in
theorem dX7_determinant_119 : decode cX7_determinant 119 = .ok (.getfield 69, 3) := by decide +kernel
set_option maxRecDepth 20000 in
theorem dX7_determinant_122 : decode cX7_determinant 122 = .ok (.bipush 12, 2) := by decide +kernel
set_option maxRecDepth 20000 in
theorem dX7_determinant_124 : decode cX7_determinant 124 = .ok (.iload 5, 2) := by decide +kernel
set_option maxRecDepth 20000 in
theorem dX7_determinant_126 : decode cX7_determinant 126 = .ok (.imul, 1) := by decide +kernel
set_option maxRecDepth 20000 in
theorem dX7_determinant_127 : decode cX7_determinant 127 = .ok (.iload 7, 2) := by decide +kernel
set_option maxRecDepth 20000 in
theorem dX7_determinant_129 : decode cX7_determinant 129 = .ok (.iadd, 1) := by decide +kernel
set_option maxRecDepth 20000 in
theorem dX7_determinant_130 : decode cX7_determinant 130 = .ok (.lload 8, 2) := by decide +kernel
set_option maxRecDepth 20000 in
theorem dX7_determinant_132 : decode cX7_determinant 132 = .ok (.lastore, 1) := by decide +kernel
set_option maxRecDepth 20000 in
theorem dX7_determinant_133 : decode cX7_determinant 133 = .ok (.iinc 7 1, 3) := by decide +kernel
set_option maxRecDepth 20000 in
theorem dX7_determinant_136 : decode cX7_determinant 136 = .ok (.goto (-65), 3) := by decide +kernel
set_option maxRecDepth 20000 in
theorem dX7_determinant_139 : decode cX7_determinant 139 = .ok (.iload 5, 2) := by decide +kernel
set_option maxRecDepth 20000 in
theorem dX7_determinant_141 : decode cX7_determinant 141 = .ok (.iconst 1, 1) := by decide +kernel
set_option maxRecDepth 20000 in
theorem dX7_determinant_142 : decode cX7_determinant 142 = .ok (.iadd, 1) := by decide +kernel
set_option maxRecDepth 20000 in
theorem dX7_determinant_143 : decode cX7_determinant 143 = .ok (.istore 7, 2) := by decide +kernel
set_option maxRecDepth 20000 in
theorem dX7_determinant_145 : decode cX7_determinant 145 = .ok (.iload 7, 2) := by decide +kernel
set_option maxRecDepth 20000 in
theorem dX7_determinant_147 : decode cX7_determinant 147 = .ok (.iload_n 1, 1) := by decide +kernel
set_option maxRecDepth 20000 in
theorem dX7_determinant_148 : decode cX7_determinant 148 = .ok (.if_icmp .ge 97, 3) := by decide +kernel
set_option maxRecDepth 20000 in
theorem dX7_determinant_151 : decode cX7_determinant 151 = .ok (.iload_n 1, 1) := by decide +kernel
set_option maxRecDepth 20000 in
theorem dX7_determinant_152 : decode cX7_determinant 152 = .ok (.iconst 1, 1) := by decide +kernel
set_option maxRecDepth 20000 in
theorem dX7_determinant_153 : decode cX7_determinant 153 = .ok (.isub, 1) := by decide +kernel
set_option maxRecDepth 20000 in
theorem dX7_determinant_154 : decode cX7_determinant 154 = .ok (.istore 8, 2) := by decide +kernel
set_option maxRecDepth 20000 in
theorem dX7_determinant_156 : decode cX7_determinant 156 = .ok (.iload 8, 2) := by decide +kernel
set_option maxRecDepth 20000 in
theorem dX7_determinant_158 : decode cX7_determinant 158 = .ok (.iload 5, 2) := by decide +kernel
set_option maxRecDepth 20000 in
theorem dX7_determinant_160 : decode cX7_determinant 160 = .ok (.if_icmp .lt 79, 3) := by decide +kernel
set_option maxRecDepth 20000 in
theorem dX7_determinant_163 : decode cX7_determinant 163 = .ok (.aload_n 0, 1) := by decide +kernel
set_option maxRecDepth 20000 in
theorem dX7_determinant_164 : decode cX7_determinant 164 = .ok (.getfield 69, 3) := by decide +kernel
set_option maxRecDepth 20000 in
theorem dX7_determinant_167 : decode cX7_determinant 167 = .ok (.bipush 12, 2) := by decide +kernel
set_option maxRecDepth 20000 in
theorem dX7_determinant_169 : decode cX7_determinant 169 = .ok (.iload 7, 2) := by decide +kernel
set_option maxRecDepth 20000 in
theorem dX7_determinant_171 : decode cX7_determinant 171 = .ok (.imul, 1) := by decide +kernel
set_option maxRecDepth 20000 in
theorem dX7_determinant_172 : decode cX7_determinant 172 = .ok (.iload 8, 2) := by decide +kernel
set_option maxRecDepth 20000 in
theorem dX7_determinant_174 : decode cX7_determinant 174 = .ok (.iadd, 1) := by decide +kernel
set_option maxRecDepth 20000 in
theorem dX7_determinant_175 : decode cX7_determinant 175 = .ok (.aload_n 0, 1) := by decide +kernel
set_option maxRecDepth 20000 in
theorem dX7_determinant_176 : decode cX7_determinant 176 = .ok (.getfield 69, 3) := by decide +kernel
set_option maxRecDepth 20000 in
theorem dX7_determinant_179 : decode cX7_determinant 179 = .ok (.bipush 12, 2) := by decide +kernel
set_option maxRecDepth 20000 in
theorem dX7_determinant_181 : decode cX7_determinant 181 = .ok (.iload 7, 2) := by decide +kernel
set_option maxRecDepth 20000 in
theorem dX7_determinant_183 : decode cX7_determinant 183 = .ok (.imul, 1) := by decide +kernel
set_option maxRecDepth 20000 in
theorem dX7_determinant_184 : decode cX7_determinant 184 = .ok (.iload 8, 2) := by decide +kernel
set_option maxRecDepth 20000 in
theorem dX7_determinant_186 : decode cX7_determinant 186 = .ok (.iadd, 1) := by decide +kernel
set_option maxRecDepth 20000 in
theorem dX7_determinant_187 : decode cX7_determinant 187 = .ok (.laload, 1) := by decide +kernel
set_option maxRecDepth 20000 in
theorem dX7_determinant_188 : decode cX7_determinant 188 = .ok (.aload_n 0, 1) := by decide +kernel
set_option maxRecDepth 20000 in
theorem dX7_determinant_189 : decode cX7_determinant 189 = .ok (.getfield 69, 3) := by decide +kernel
set_option maxRecDepth 20000 in
theorem dX7_determinant_192 : decode cX7_determinant 192 = .ok (.bipush 12, 2) := by decide +kernel
set_option maxRecDepth 20000 in
theorem dX7_determinant_194 : decode cX7_determinant 194 = .ok (.iload 5, 2) := by decide +kernel
set_option maxRecDepth 20000 in
theorem dX7_determinant_196 : decode cX7_determinant 196 = .ok (.imul, 1) := by decide +kernel
set_option maxRecDepth 20000 in
theorem dX7_determinant_197 : decode cX7_determinant 197 = .ok (.iload 5, 2) := by decide +kernel
set_option maxRecDepth 20000 in
theorem dX7_determinant_199 : decode cX7_determinant 199 = .ok (.iadd, 1) := by decide +kernel
set_option maxRecDepth 20000 in
theorem dX7_determinant_200 : decode cX7_determinant 200 = .ok (.laload, 1) := by decide +kernel
set_option maxRecDepth 20000 in
theorem dX7_determinant_201 : decode cX7_determinant 201 = .ok (.lmul, 1) := by decide +kernel
set_option maxRecDepth 20000 in
theorem dX7_determinant_202 : decode cX7_determinant 202 = .ok (.aload_n 0, 1) := by decide +kernel
set_option maxRecDepth 20000 in
theorem dX7_determinant_203 : decode cX7_determinant 203 = .ok (.getfield 69, 3) := by decide +kernel
set_option maxRecDepth 20000 in
theorem dX7_determinant_206 : decode cX7_determinant 206 = .ok (.bipush 12, 2) := by decide +kernel
set_option maxRecDepth 20000 in
theorem dX7_determinant_208 : decode cX7_determinant 208 = .ok (.iload 7, 2) := by decide +kernel
set_option maxRecDepth 20000 in
theorem dX7_determinant_210 : decode cX7_determinant 210 = .ok (.imul, 1) := by decide +kernel
set_option maxRecDepth 20000 in
theorem dX7_determinant_211 : decode cX7_determinant 211 = .ok (.iload 5, 2) := by decide +kernel
set_option maxRecDepth 20000 in
theorem dX7_determinant_213 : decode cX7_determinant 213 = .ok (.iadd, 1) := by decide +kernel
set_option maxRecDepth 20000 in
theorem dX7_determinant_214 : decode cX7_determinant 214 = .ok (.laload, 1) := by decide +kernel
set_option maxRecDepth 20000 in
theorem dX7_determinant_215 : decode cX7_determinant 215 = .ok (.aload_n 0, 1) := by decide +kernel
set_option maxRecDepth 20000 in
theorem dX7_determinant_216 : decode cX7_determinant 216 = .ok (.getfield 69, 3) := by decide +kernel
set_option maxRecDepth 20000 in
theorem dX7_determinant_219 : decode cX7_determinant 219 = .ok (.bipush 12, 2) := by decide +kernel
set_option maxRecDepth 20000 in
theorem dX7_determinant_221 : decode cX7_determinant 221 = .ok (.iload 5, 2) := by decide +kernel
set_option maxRecDepth 20000 in
theorem dX7_determinant_223 : decode cX7_determinant 223 = .ok (.imul, 1) := by decide +kernel
set_option maxRecDepth 20000 in
theorem dX7_determinant_224 : decode cX7_determinant 224 = .ok (.iload 8, 2) := by decide +kernel
set_option maxRecDepth 20000 in
theorem dX7_determinant_226 : decode cX7_determinant 226 = .ok (.iadd, 1) := by decide +kernel
set_option maxRecDepth 20000 in
theorem dX7_determinant_227 : decode cX7_determinant 227 = .ok (.laload, 1) := by decide +kernel
set_option maxRecDepth 20000 in
theorem dX7_determinant_228 : decode cX7_determinant 228 = .ok (.lmul, 1) := by decide +kernel
set_option maxRecDepth 20000 in
theorem dX7_determinant_229 : decode cX7_determinant 229 = .ok (.lsub, 1) := by decide +kernel
set_option maxRecDepth 20000 in
theorem dX7_determinant_230 : decode cX7_determinant 230 = .ok (.lload_n 2, 1) := by decide +kernel
set_option maxRecDepth 20000 in
theorem dX7_determinant_231 : decode cX7_determinant 231 = .ok (.ldiv, 1) := by decide +kernel
set_option maxRecDepth 20000 in
theorem dX7_determinant_232 : decode cX7_determinant 232 = .ok (.lastore, 1) := by decide +kernel
set_option maxRecDepth 20000 in
theorem dX7_determinant_233 : decode cX7_determinant 233 = .ok (.iinc 8 (-1), 3) := by decide +kernel
set_option maxRecDepth 20000 in
theorem dX7_determinant_236 : decode cX7_determinant 236 = .ok (.goto (-80), 3) := by decide +kernel
set_option maxRecDepth 20000 in
theorem dX7_determinant_239 : decode cX7_determinant 239 = .ok (.iinc 7 1, 3) := by decide +kernel
set_option maxRecDepth 20000 in
theorem dX7_determinant_242 : decode cX7_determinant 242 = .ok (.goto (-97), 3) := by decide +kernel
set_option maxRecDepth 20000 in
theorem dX7_determinant_245 : decode cX7_determinant 245 = .ok (.aload_n 0, 1) := by decide +kernel
set_option maxRecDepth 20000 in
theorem dX7_determinant_246 : decode cX7_determinant 246 = .ok (.getfield 69, 3) := by decide +kernel
set_option maxRecDepth 20000 in
theorem dX7_determinant_249 : decode cX7_determinant 249 = .ok (.bipush 12, 2) := by decide +kernel
set_option maxRecDepth 20000 in
theorem dX7_determinant_251 : decode cX7_determinant 251 = .ok (.iload 5, 2) := by decide +kernel
set_option maxRecDepth 20000 in
theorem dX7_determinant_253 : decode cX7_determinant 253 = .ok (.imul, 1) := by decide +kernel
set_option maxRecDepth 20000 in
theorem dX7_determinant_254 : decode cX7_determinant 254 = .ok (.iload 5, 2) := by decide +kernel
set_option maxRecDepth 20000 in
theorem dX7_determinant_256 : decode cX7_determinant 256 = .ok (.iadd, 1) := by decide +kernel
set_option maxRecDepth 20000 in
theorem dX7_determinant_257 : decode cX7_determinant 257 = .ok (.laload, 1) := by decide +kernel
set_option maxRecDepth 20000 in
theorem dX7_determinant_258 : decode cX7_determinant 258 = .ok (.lstore_n 2, 1) := by decide +kernel
set_option maxRecDepth 20000 in
theorem dX7_determinant_259 : decode cX7_determinant 259 = .ok (.iinc 5 1, 3) := by decide +kernel
set_option maxRecDepth 20000 in
theorem dX7_determinant_262 : decode cX7_determinant 262 = .ok (.goto (-254), 3) := by decide +kernel
set_option maxRecDepth 20000 in
theorem dX7_determinant_265 : decode cX7_determinant 265 = .ok (.iload 4, 2) := by decide +kernel
set_option maxRecDepth 20000 in
theorem dX7_determinant_267 : decode cX7_determinant 267 = .ok (.i2l, 1) := by decide +kernel
set_option maxRecDepth 20000 in
theorem dX7_determinant_268 : decode cX7_determinant 268 = .ok (.lload_n 2, 1) := by decide +kernel
set_option maxRecDepth 20000 in
theorem dX7_determinant_269 : decode cX7_determinant 269 = .ok (.lmul, 1) := by decide +kernel
set_option maxRecDepth 20000 in
theorem dX7_determinant_270 : decode cX7_determinant 270 = .ok (.lreturn, 1) := by decide +kernel
set_option maxRecDepth 20000 in
theorem dX7_between_0 : decode cX7_between 0 = .ok (.iconst 0, 1) := by decide +kernel
set_option maxRecDepth 20000 in
theorem dX7_between_1 : decode cX7_between 1 = .ok (.istore_n 3, 1) := by decide +kernel
set_option maxRecDepth 20000 in
theorem dX7_between_2 : decode cX7_between 2 = .ok (.iconst 0, 1) := by decide +kernel
set_option maxRecDepth 20000 in
theorem dX7_between_3 : decode cX7_between 3 = .ok (.istore 4, 2) := by decide +kernel
set_option maxRecDepth 20000 in
theorem dX7_between_5 : decode cX7_between 5 = .ok (.iload 4, 2) := by decide +kernel
set_option maxRecDepth 20000 in
theorem dX7_between_7 : decode cX7_between 7 = .ok (.aload_n 0, 1) := by decide +kernel
set_option maxRecDepth 20000 in
theorem dX7_between_8 : decode cX7_between 8 = .ok (.getfield 104, 3) := by decide +kernel
set_option maxRecDepth 20000 in
theorem dX7_between_11 : decode cX7_between 11 = .ok (.if_icmp .ge 106, 3) := by decide +kernel
set_option maxRecDepth 20000 in
theorem dX7_between_14 : decode cX7_between 14 = .ok (.aload_n 0, 1) := by decide +kernel
set_option maxRecDepth 20000 in
theorem dX7_between_15 : decode cX7_between 15 = .ok (.iload 4, 2) := by decide +kernel
set_option maxRecDepth 20000 in
theorem dX7_between_17 : decode cX7_between 17 = .ok (.invokevirtual 142, 3) := by decide +kernel
set_option maxRecDepth 20000 in
theorem dX7_between_20 : decode cX7_between 20 = .ok (.ifCond .ne 6, 3) := by decide +kernel
set_option maxRecDepth 20000 in
theorem dX7_between_23 : decode cX7_between 23 = .ok (.goto 88, 3) := by decide +kernel
set_option maxRecDepth 20000 in
theorem dX7_between_26 : decode cX7_between 26 = .ok (.aload_n 0, 1) := by decide +kernel
set_option maxRecDepth 20000 in
theorem dX7_between_27 : decode cX7_between 27 = .ok (.getfield 13, 3) := by decide +kernel
set_option maxRecDepth 20000 in
theorem dX7_between_30 : decode cX7_between 30 = .ok (.iload 4, 2) := by decide +kernel
set_option maxRecDepth 20000 in
theorem dX7_between_32 : decode cX7_between 32 = .ok (.iaload, 1) := by decide +kernel
set_option maxRecDepth 20000 in
theorem dX7_between_33 : decode cX7_between 33 = .ok (.iload_n 1, 1) := by decide +kernel
set_option maxRecDepth 20000 in
theorem dX7_between_34 : decode cX7_between 34 = .ok (.if_icmp .eq 14, 3) := by decide +kernel
set_option maxRecDepth 20000 in
theorem dX7_between_37 : decode cX7_between 37 = .ok (.aload_n 0, 1) := by decide +kernel
set_option maxRecDepth 20000 in
theorem dX7_between_38 : decode cX7_between 38 = .ok (.getfield 17, 3) := by decide +kernel
set_option maxRecDepth 20000 in
theorem dX7_between_41 : decode cX7_between 41 = .ok (.iload 4, 2) := by decide +kernel
set_option maxRecDepth 20000 in
theorem dX7_between_43 : decode cX7_between 43 = .ok (.iaload, 1) := by decide +kernel
set_option maxRecDepth 20000 in
theorem dX7_between_44 : decode cX7_between 44 = .ok (.iload_n 1, 1) := by decide +kernel
set_option maxRecDepth 20000 in
theorem dX7_between_45 : decode cX7_between 45 = .ok (.if_icmp .ne 7, 3) := by decide +kernel
set_option maxRecDepth 20000 in
theorem dX7_between_48 : decode cX7_between 48 = .ok (.iconst 1, 1) := by decide +kernel
set_option maxRecDepth 20000 in
theorem dX7_between_49 : decode cX7_between 49 = .ok (.goto 4, 3) := by decide +kernel
set_option maxRecDepth 20000 in
theorem dX7_between_52 : decode cX7_between 52 = .ok (.iconst 0, 1) := by decide +kernel
set_option maxRecDepth 20000 in
theorem dX7_between_53 : decode cX7_between 53 = .ok (.istore 5, 2) := by decide +kernel
set_option maxRecDepth 20000 in
theorem dX7_between_55 : decode cX7_between 55 = .ok (.iload_n 1, 1) := by decide +kernel
set_option maxRecDepth 20000 in
theorem dX7_between_56 : decode cX7_between 56 = .ok (.iload_n 2, 1) := by decide +kernel
set_option maxRecDepth 20000 in
theorem dX7_between_57 : decode cX7_between 57 = .ok (.if_icmp .ne 19, 3) := by decide +kernel
set_option maxRecDepth 20000 in
theorem dX7_between_60 : decode cX7_between 60 = .ok (.iload_n 3, 1) := by decide +kernel
set_option maxRecDepth 20000 in
theorem dX7_between_61 : decode cX7_between 61 = .ok (.iload 5, 2) := by decide +kernel
set_option maxRecDepth 20000 in
theorem dX7_between_63 : decode cX7_between 63 = .ok (.ifCond .eq 7, 3) := by decide +kernel
set_option maxRecDepth 20000 in
theorem dX7_between_66 : decode cX7_between 66 = .ok (.iconst 1, 1) := by decide +kernel
set_option maxRecDepth 20000 in
theorem dX7_between_67 : decode cX7_between 67 = .ok (.goto 4, 3) := by decide +kernel
set_option maxRecDepth 20000 in
theorem dX7_between_70 : decode cX7_between 70 = .ok (.iconst 0, 1) := by decide +kernel
set_option maxRecDepth 20000 in
theorem dX7_between_71 : decode cX7_between 71 = .ok (.iadd, 1) := by decide +kernel
set_option maxRecDepth 20000 in
theorem dX7_between_72 : decode cX7_between 72 = .ok (.istore_n 3, 1) := by decide +kernel
set_option maxRecDepth 20000 in
theorem dX7_between_73 : decode cX7_between 73 = .ok (.goto 38, 3) := by decide +kernel
set_option maxRecDepth 20000 in
theorem dX7_between_76 : decode cX7_between 76 = .ok (.iload_n 3, 1) := by decide +kernel
set_option maxRecDepth 20000 in
theorem dX7_between_77 : decode cX7_between 77 = .ok (.iload 5, 2) := by decide +kernel
set_option maxRecDepth 20000 in
theorem dX7_between_79 : decode cX7_between 79 = .ok (.ifCond .eq 29, 3) := by decide +kernel
set_option maxRecDepth 20000 in
theorem dX7_between_82 : decode cX7_between 82 = .ok (.aload_n 0, 1) := by decide +kernel
set_option maxRecDepth 20000 in
theorem dX7_between_83 : decode cX7_between 83 = .ok (.getfield 13, 3) := by decide +kernel
set_option maxRecDepth 20000 in
theorem dX7_between_86 : decode cX7_between 86 = .ok (.iload 4, 2) := by decide +kernel
set_option maxRecDepth 20000 in
theorem dX7_between_88 : decode cX7_between 88 = .ok (.iaload, 1) := by decide +kernel
set_option maxRecDepth 20000 in
theorem dX7_between_89 : decode cX7_between 89 = .ok (.iload_n 2, 1) := by decide +kernel
set_option maxRecDepth 20000 in
theorem dX7_between_90 : decode cX7_between 90 = .ok (.if_icmp .eq 14, 3) := by decide +kernel
set_option maxRecDepth 20000 in
theorem dX7_between_93 : decode cX7_between 93 = .ok (.aload_n 0, 1) := by decide +kernel
set_option maxRecDepth 20000 in
theorem dX7_between_94 : decode cX7_between 94 = .ok (.getfield 17, 3) := by decide +kernel
set_option maxRecDepth 20000 in
theorem dX7_between_97 : decode cX7_between 97 = .ok (.iload 4, 2) := by decide +kernel
set_option maxRecDepth 20000 in
theorem dX7_between_99 : decode cX7_between 99 = .ok (.iaload, 1) := by decide +kernel
set_option maxRecDepth 20000 in
theorem dX7_between_100 : decode cX7_between 100 = .ok (.iload_n 2, 1) := by decide +kernel
set_option maxRecDepth 20000 in
theorem dX7_between_101 : decode cX7_between 101 = .ok (.if_icmp .ne 7, 3) := by decide +kernel
set_option maxRecDepth 20000 in
theorem dX7_between_104 : decode cX7_between 104 = .ok (.iconst 1, 1) := by decide +kernel
set_option maxRecDepth 20000 in
theorem dX7_between_105 : decode cX7_between 105 = .ok (.goto 4, 3) := by decide +kernel
set_option maxRecDepth 20000 in
theorem dX7_between_108 : decode cX7_between 108 = .ok (.iconst 0, 1) := by decide +kernel
set_option maxRecDepth 20000 in
theorem dX7_between_109 : decode cX7_between 109 = .ok (.isub, 1) := by decide +kernel
set_option maxRecDepth 20000 in
theorem dX7_between_110 : decode cX7_between 110 = .ok (.istore_n 3, 1) := by decide +kernel
set_option maxRecDepth 20000 in
theorem dX7_between_111 : decode cX7_between 111 = .ok (.iinc 4 1, 3) := by decide +kernel
set_option maxRecDepth 20000 in
theorem dX7_between_114 : decode cX7_between 114 = .ok (.goto (-109), 3) := by decide +kernel
set_option maxRecDepth 20000 in
theorem dX7_between_117 : decode cX7_between 117 = .ok (.iload_n 3, 1) := by decide +kernel
set_option maxRecDepth 20000 in
theorem dX7_between_118 : decode cX7_between 118 = .ok (.ireturn, 1) := by decide +kernel
set_option maxRecDepth 20000 in
theorem dX7_minor_0 : decode cX7_minor 0 = .ok (.aload_n 0, 1) := by decide +kernel
set_option maxRecDepth 20000 in
theorem dX7_minor_1 : decode cX7_minor 1 = .ok (.getfield 17, 3) := by decide +kernel
set_option maxRecDepth 20000 in
theorem dX7_minor_4 : decode cX7_minor 4 = .ok (.aload_n 0, 1) := by decide +kernel
set_option maxRecDepth 20000 in
theorem dX7_minor_5 : decode cX7_minor 5 = .ok (.getfield 7, 3) := by decide +kernel
set_option maxRecDepth 20000 in
theorem dX7_minor_8 : decode cX7_minor 8 = .ok (.iaload, 1) := by decide +kernel
set_option maxRecDepth 20000 in
theorem dX7_minor_9 : decode cX7_minor 9 = .ok (.istore_n 3, 1) := by decide +kernel
set_option maxRecDepth 20000 in
theorem dX7_minor_10 : decode cX7_minor 10 = .ok (.iconst 0, 1) := by decide +kernel
set_option maxRecDepth 20000 in
theorem dX7_minor_11 : decode cX7_minor 11 = .ok (.istore 4, 2) := by decide +kernel
set_option maxRecDepth 20000 in
theorem dX7_minor_13 : decode cX7_minor 13 = .ok (.iconst 0, 1) := by decide +kernel
set_option maxRecDepth 20000 in
theorem dX7_minor_14 : decode cX7_minor 14 = .ok (.istore 5, 2) := by decide +kernel
set_option maxRecDepth 20000 in
theorem dX7_minor_16 : decode cX7_minor 16 = .ok (.iload 5, 2) := by decide +kernel
set_option maxRecDepth 20000 in
theorem dX7_minor_18 : decode cX7_minor 18 = .ok (.aload_n 0, 1) := by decide +kernel
set_option maxRecDepth 20000 in
theorem dX7_minor_19 : decode cX7_minor 19 = .ok (.getfield 97, 3) := by decide +kernel
set_option maxRecDepth 20000 in
theorem dX7_minor_22 : decode cX7_minor 22 = .ok (.if_icmp .ge 88, 3) := by decide +kernel
set_option maxRecDepth 20000 in
theorem dX7_minor_25 : decode cX7_minor 25 = .ok (.iload 5, 2) := by decide +kernel
set_option maxRecDepth 20000 in
theorem dX7_minor_27 : decode cX7_minor 27 = .ok (.iload_n 3, 1) := by decide +kernel
set_option maxRecDepth 20000 in
theorem dX7_minor_28 : decode cX7_minor 28 = .ok (.if_icmp .eq 76, 3) := by decide +kernel
set_option maxRecDepth 20000 in
theorem dX7_minor_31 : decode cX7_minor 31 = .ok (.iload 5, 2) := by decide +kernel
set_option maxRecDepth 20000 in
theorem dX7_minor_33 : decode cX7_minor 33 = .ok (.iload_n 1, 1) := by decide +kernel
set_option maxRecDepth 20000 in
theorem dX7_minor_34 : decode cX7_minor 34 = .ok (.if_icmp .ne 6, 3) := by decide +kernel
set_option maxRecDepth 20000 in
theorem dX7_minor_37 : decode cX7_minor 37 = .ok (.goto 67, 3) := by decide +kernel
set_option maxRecDepth 20000 in
theorem dX7_minor_40 : decode cX7_minor 40 = .ok (.iconst 0, 1) := by decide +kernel
set_option maxRecDepth 20000 in
theorem dX7_minor_41 : decode cX7_minor 41 = .ok (.istore 6, 2) := by decide +kernel
set_option maxRecDepth 20000 in
theorem dX7_minor_43 : decode cX7_minor 43 = .ok (.iconst 0, 1) := by decide +kernel
set_option maxRecDepth 20000 in
theorem dX7_minor_44 : decode cX7_minor 44 = .ok (.istore 7, 2) := by decide +kernel
set_option maxRecDepth 20000 in
theorem dX7_minor_46 : decode cX7_minor 46 = .ok (.iload 7, 2) := by decide +kernel
set_option maxRecDepth 20000 in
theorem dX7_minor_48 : decode cX7_minor 48 = .ok (.aload_n 0, 1) := by decide +kernel
set_option maxRecDepth 20000 in
theorem dX7_minor_49 : decode cX7_minor 49 = .ok (.getfield 97, 3) := by decide +kernel
set_option maxRecDepth 20000 in
theorem dX7_minor_52 : decode cX7_minor 52 = .ok (.if_icmp .ge 49, 3) := by decide +kernel
set_option maxRecDepth 20000 in
theorem dX7_minor_55 : decode cX7_minor 55 = .ok (.iload 7, 2) := by decide +kernel
set_option maxRecDepth 20000 in
theorem dX7_minor_57 : decode cX7_minor 57 = .ok (.iload_n 3, 1) := by decide +kernel
set_option maxRecDepth 20000 in
theorem dX7_minor_58 : decode cX7_minor 58 = .ok (.if_icmp .eq 37, 3) := by decide +kernel
set_option maxRecDepth 20000 in
theorem dX7_minor_61 : decode cX7_minor 61 = .ok (.iload 7, 2) := by decide +kernel
set_option maxRecDepth 20000 in
theorem dX7_minor_63 : decode cX7_minor 63 = .ok (.iload_n 2, 1) := by decide +kernel
set_option maxRecDepth 20000 in
theorem dX7_minor_64 : decode cX7_minor 64 = .ok (.if_icmp .ne 6, 3) := by decide +kernel
set_option maxRecDepth 20000 in
theorem dX7_minor_67 : decode cX7_minor 67 = .ok (.goto 28, 3) := by decide +kernel
set_option maxRecDepth 20000 in
theorem dX7_minor_70 : decode cX7_minor 70 = .ok (.aload_n 0, 1) := by decide +kernel
set_option maxRecDepth 20000 in
theorem dX7_minor_71 : decode cX7_minor 71 = .ok (.getfield 69, 3) := by decide +kernel
set_option maxRecDepth 20000 in
theorem dX7_minor_74 : decode cX7_minor 74 = .ok (.bipush 12, 2) := by decide +kernel
set_option maxRecDepth 20000 in
theorem dX7_minor_76 : decode cX7_minor 76 = .ok (.iload 4, 2) := by decide +kernel
set_option maxRecDepth 20000 in
theorem dX7_minor_78 : decode cX7_minor 78 = .ok (.imul, 1) := by decide +kernel
set_option maxRecDepth 20000 in
theorem dX7_minor_79 : decode cX7_minor 79 = .ok (.iload 6, 2) := by decide +kernel
set_option maxRecDepth 20000 in
theorem dX7_minor_81 : decode cX7_minor 81 = .ok (.iadd, 1) := by decide +kernel
set_option maxRecDepth 20000 in
theorem dX7_minor_82 : decode cX7_minor 82 = .ok (.aload_n 0, 1) := by decide +kernel
set_option maxRecDepth 20000 in
theorem dX7_minor_83 : decode cX7_minor 83 = .ok (.iload 5, 2) := by decide +kernel
set_option maxRecDepth 20000 in
theorem dX7_minor_85 : decode cX7_minor 85 = .ok (.iload 7, 2) := by decide +kernel
set_option maxRecDepth 20000 in
theorem dX7_minor_87 : decode cX7_minor 87 = .ok (.invokevirtual 156, 3) := by decide +kernel
set_option maxRecDepth 20000 in
theorem dX7_minor_90 : decode cX7_minor 90 = .ok (.i2l, 1) := by decide +kernel
set_option maxRecDepth 20000 in
theorem dX7_minor_91 : decode cX7_minor 91 = .ok (.lastore, 1) := by decide +kernel
set_option maxRecDepth 20000 in
theorem dX7_minor_92 : decode cX7_minor 92 = .ok (.iinc 6 1, 3) := by decide +kernel
set_option maxRecDepth 20000 in
theorem dX7_minor_95 : decode cX7_minor 95 = .ok (.iinc 7 1, 3) := by decide +kernel
set_option maxRecDepth 20000 in
theorem dX7_minor_98 : decode cX7_minor 98 = .ok (.goto (-52), 3) := by decide +kernel
set_option maxRecDepth 20000 in
theorem dX7_minor_101 : decode cX7_minor 101 = .ok (.iinc 4 1, 3) := by decide +kernel
set_option maxRecDepth 20000 in
theorem dX7_minor_104 : decode cX7_minor 104 = .ok (.iinc 5 1, 3) := by decide +kernel
set_option maxRecDepth 20000 in
theorem dX7_minor_107 : decode cX7_minor 107 = .ok (.goto (-91), 3) := by decide +kernel
set_option maxRecDepth 20000 in
theorem dX7_minor_110 : decode cX7_minor 110 = .ok (.aload_n 0, 1) := by decide +kernel
set_option maxRecDepth 20000 in
theorem dX7_minor_111 : decode cX7_minor 111 = .ok (.iload 4, 2) := by decide +kernel
set_option maxRecDepth 20000 in
theorem dX7_minor_113 : decode cX7_minor 113 = .ok (.invokevirtual 159, 3) := by decide +kernel
set_option maxRecDepth 20000 in
theorem dX7_minor_116 : decode cX7_minor 116 = .ok (.lreturn, 1) := by decide +kernel
set_option maxRecDepth 20000 in
theorem dX7_common_0 : decode cX7_common 0 = .ok (.lload_n 0, 1) := by decide +kernel
set_option maxRecDepth 20000 in
theorem dX7_common_1 : decode cX7_common 1 = .ok (.lconst 0, 1) := by decide +kernel
set_option maxRecDepth 20000 in
theorem dX7_common_2 : decode cX7_common 2 = .ok (.lcmp, 1) := by decide +kernel
set_option maxRecDepth 20000 in
theorem dX7_common_3 : decode cX7_common 3 = .ok (.ifCond .ge 8, 3) := by decide +kernel
set_option maxRecDepth 20000 in
theorem dX7_common_6 : decode cX7_common 6 = .ok (.lload_n 0, 1) := by decide +kernel
set_option maxRecDepth 20000 in
theorem dX7_common_7 : decode cX7_common 7 = .ok (.lneg, 1) := by decide +kernel
set_option maxRecDepth 20000 in
theorem dX7_common_8 : decode cX7_common 8 = .ok (.goto 4, 3) := by decide +kernel
set_option maxRecDepth 20000 in
theorem dX7_common_11 : decode cX7_common 11 = .ok (.lload_n 0, 1) := by decide +kernel
set_option maxRecDepth 20000 in
theorem dX7_common_12 : decode cX7_common 12 = .ok (.lstore 4, 2) := by decide +kernel
set_option maxRecDepth 20000 in
theorem dX7_common_14 : decode cX7_common 14 = .ok (.lload_n 2, 1) := by decide +kernel
set_option maxRecDepth 20000 in
theorem dX7_common_15 : decode cX7_common 15 = .ok (.lconst 0, 1) := by decide +kernel
set_option maxRecDepth 20000 in
theorem dX7_common_16 : decode cX7_common 16 = .ok (.lcmp, 1) := by decide +kernel
set_option maxRecDepth 20000 in
theorem dX7_common_17 : decode cX7_common 17 = .ok (.ifCond .ge 8, 3) := by decide +kernel
set_option maxRecDepth 20000 in
theorem dX7_common_20 : decode cX7_common 20 = .ok (.lload_n 2, 1) := by decide +kernel
set_option maxRecDepth 20000 in
theorem dX7_common_21 : decode cX7_common 21 = .ok (.lneg, 1) := by decide +kernel
set_option maxRecDepth 20000 in
theorem dX7_common_22 : decode cX7_common 22 = .ok (.goto 4, 3) := by decide +kernel
set_option maxRecDepth 20000 in
theorem dX7_common_25 : decode cX7_common 25 = .ok (.lload_n 2, 1) := by decide +kernel
set_option maxRecDepth 20000 in
theorem dX7_common_26 : decode cX7_common 26 = .ok (.lstore 6, 2) := by decide +kernel
set_option maxRecDepth 20000 in
theorem dX7_common_28 : decode cX7_common 28 = .ok (.lload 6, 2) := by decide +kernel
set_option maxRecDepth 20000 in
theorem dX7_common_30 : decode cX7_common 30 = .ok (.lconst 0, 1) := by decide +kernel
set_option maxRecDepth 20000 in
theorem dX7_common_31 : decode cX7_common 31 = .ok (.lcmp, 1) := by decide +kernel
set_option maxRecDepth 20000 in
theorem dX7_common_32 : decode cX7_common 32 = .ok (.ifCond .eq 21, 3) := by decide +kernel
set_option maxRecDepth 20000 in
theorem dX7_common_35 : decode cX7_common 35 = .ok (.lload 4, 2) := by decide +kernel
set_option maxRecDepth 20000 in
theorem dX7_common_37 : decode cX7_common 37 = .ok (.lload 6, 2) := by decide +kernel
set_option maxRecDepth 20000 in
theorem dX7_common_39 : decode cX7_common 39 = .ok (.lrem, 1) := by decide +kernel
set_option maxRecDepth 20000 in
theorem dX7_common_40 : decode cX7_common 40 = .ok (.lstore 8, 2) := by decide +kernel
set_option maxRecDepth 20000 in
theorem dX7_common_42 : decode cX7_common 42 = .ok (.lload 6, 2) := by decide +kernel
set_option maxRecDepth 20000 in
theorem dX7_common_44 : decode cX7_common 44 = .ok (.lstore 4, 2) := by decide +kernel
set_option maxRecDepth 20000 in
theorem dX7_common_46 : decode cX7_common 46 = .ok (.lload 8, 2) := by decide +kernel
set_option maxRecDepth 20000 in
theorem dX7_common_48 : decode cX7_common 48 = .ok (.lstore 6, 2) := by decide +kernel
set_option maxRecDepth 20000 in
theorem dX7_common_50 : decode cX7_common 50 = .ok (.goto (-22), 3) := by decide +kernel
set_option maxRecDepth 20000 in
theorem dX7_common_53 : decode cX7_common 53 = .ok (.lload 4, 2) := by decide +kernel
set_option maxRecDepth 20000 in
theorem dX7_common_55 : decode cX7_common 55 = .ok (.lreturn, 1) := by decide +kernel
set_option maxRecDepth 20000 in
theorem dX7_flows_0 : decode cX7_flows 0 = .ok (.aload_n 0, 1) := by decide +kernel
set_option maxRecDepth 20000 in
theorem dX7_flows_1 : decode cX7_flows 1 = .ok (.invokevirtual 163, 3) := by decide +kernel
set_option maxRecDepth 20000 in
theorem dX7_flows_4 : decode cX7_flows 4 = .ok (.ifCond .eq 5, 3) := by decide +kernel
set_option maxRecDepth 20000 in
theorem dX7_flows_7 : decode cX7_flows 7 = .ok (.iconst 0, 1) := by decide +kernel
set_option maxRecDepth 20000 in
theorem dX7_flows_8 : decode cX7_flows 8 = .ok (.ireturn, 1) := by decide +kernel
set_option maxRecDepth 20000 in
theorem dX7_flows_9 : decode cX7_flows 9 = .ok (.aload_n 0, 1) := by decide +kernel
set_option maxRecDepth 20000 in
theorem dX7_flows_10 : decode cX7_flows 10 = .ok (.getfield 13, 3) := by decide +kernel
set_option maxRecDepth 20000 in
theorem dX7_flows_13 : decode cX7_flows 13 = .ok (.aload_n 0, 1) := by decide +kernel
set_option maxRecDepth 20000 in
theorem dX7_flows_14 : decode cX7_flows 14 = .ok (.getfield 7, 3) := by decide +kernel
set_option maxRecDepth 20000 in
theorem dX7_flows_17 : decode cX7_flows 17 = .ok (.iaload, 1) := by decide +kernel
set_option maxRecDepth 20000 in
theorem dX7_flows_18 : decode cX7_flows 18 = .ok (.istore_n 1, 1) := by decide +kernel
set_option maxRecDepth 20000 in
theorem dX7_flows_19 : decode cX7_flows 19 = .ok (.aload_n 0, 1) := by decide +kernel
set_option maxRecDepth 20000 in
theorem dX7_flows_20 : decode cX7_flows 20 = .ok (.getfield 17, 3) := by decide +kernel
set_option maxRecDepth 20000 in
theorem dX7_flows_23 : decode cX7_flows 23 = .ok (.aload_n 0, 1) := by decide +kernel
set_option maxRecDepth 20000 in
theorem dX7_flows_24 : decode cX7_flows 24 = .ok (.getfield 7, 3) := by decide +kernel
set_option maxRecDepth 20000 in
theorem dX7_flows_27 : decode cX7_flows 27 = .ok (.iaload, 1) := by decide +kernel
set_option maxRecDepth 20000 in
theorem dX7_flows_28 : decode cX7_flows 28 = .ok (.istore_n 2, 1) := by decide +kernel
set_option maxRecDepth 20000 in
theorem dX7_flows_29 : decode cX7_flows 29 = .ok (.aload_n 0, 1) := by decide +kernel
set_option maxRecDepth 20000 in
theorem dX7_flows_30 : decode cX7_flows 30 = .ok (.aload_n 0, 1) := by decide +kernel
set_option maxRecDepth 20000 in
theorem dX7_flows_31 : decode cX7_flows 31 = .ok (.iconst (-1), 1) := by decide +kernel
set_option maxRecDepth 20000 in
theorem dX7_flows_32 : decode cX7_flows 32 = .ok (.iconst (-1), 1) := by decide +kernel
set_option maxRecDepth 20000 in
theorem dX7_flows_33 : decode cX7_flows 33 = .ok (.invokevirtual 167, 3) := by decide +kernel
set_option maxRecDepth 20000 in
theorem dX7_flows_36 : decode cX7_flows 36 = .ok (.putfield 171, 3) := by decide +kernel
set_option maxRecDepth 20000 in
theorem dX7_flows_39 : decode cX7_flows 39 = .ok (.lconst 0, 1) := by decide +kernel
set_option maxRecDepth 20000 in
theorem dX7_flows_40 : decode cX7_flows 40 = .ok (.lstore_n 3, 1) := by decide +kernel
set_option maxRecDepth 20000 in
theorem dX7_flows_41 : decode cX7_flows 41 = .ok (.iconst 0, 1) := by decide +kernel
set_option maxRecDepth 20000 in
theorem dX7_flows_42 : decode cX7_flows 42 = .ok (.istore 5, 2) := by decide +kernel
set_option maxRecDepth 20000 in
theorem dX7_flows_44 : decode cX7_flows 44 = .ok (.iload 5, 2) := by decide +kernel
set_option maxRecDepth 20000 in
theorem dX7_flows_46 : decode cX7_flows 46 = .ok (.aload_n 0, 1) := by decide +kernel
set_option maxRecDepth 20000 in
theorem dX7_flows_47 : decode cX7_flows 47 = .ok (.getfield 97, 3) := by decide +kernel
set_option maxRecDepth 20000 in
theorem dX7_flows_50 : decode cX7_flows 50 = .ok (.if_icmp .ge 81, 3) := by decide +kernel
set_option maxRecDepth 20000 in
theorem dX7_flows_53 : decode cX7_flows 53 = .ok (.iload 5, 2) := by decide +kernel
set_option maxRecDepth 20000 in
theorem dX7_flows_55 : decode cX7_flows 55 = .ok (.iload_n 2, 1) := by decide +kernel
set_option maxRecDepth 20000 in
theorem dX7_flows_56 : decode cX7_flows 56 = .ok (.if_icmp .le 10, 3) := by decide +kernel
set_option maxRecDepth 20000 in
theorem dX7_flows_59 : decode cX7_flows 59 = .ok (.iload 5, 2) := by decide +kernel
set_option maxRecDepth 20000 in
theorem dX7_flows_61 : decode cX7_flows 61 = .ok (.iconst 1, 1) := by decide +kernel
set_option maxRecDepth 20000 in
theorem dX7_flows_62 : decode cX7_flows 62 = .ok (.isub, 1) := by decide +kernel
set_option maxRecDepth 20000 in
theorem dX7_flows_63 : decode cX7_flows 63 = .ok (.goto 5, 3) := by decide +kernel
set_option maxRecDepth 20000 in
theorem dX7_flows_66 : decode cX7_flows 66 = .ok (.iload 5, 2) := by decide +kernel
set_option maxRecDepth 20000 in
theorem dX7_flows_68 : decode cX7_flows 68 = .ok (.iload_n 1, 1) := by decide +kernel
set_option maxRecDepth 20000 in
theorem dX7_flows_69 : decode cX7_flows 69 = .ok (.iload_n 2, 1) := by decide +kernel
set_option maxRecDepth 20000 in
theorem dX7_flows_70 : decode cX7_flows 70 = .ok (.if_icmp .le 9, 3) := by decide +kernel
set_option maxRecDepth 20000 in
theorem dX7_flows_73 : decode cX7_flows 73 = .ok (.iload_n 1, 1) := by decide +kernel
set_option maxRecDepth 20000 in
theorem dX7_flows_74 : decode cX7_flows 74 = .ok (.iconst 1, 1) := by decide +kernel
set_option maxRecDepth 20000 in
theorem dX7_flows_75 : decode cX7_flows 75 = .ok (.isub, 1) := by decide +kernel
set_option maxRecDepth 20000 in
theorem dX7_flows_76 : decode cX7_flows 76 = .ok (.goto 4, 3) := by decide +kernel
set_option maxRecDepth 20000 in
theorem dX7_flows_79 : decode cX7_flows 79 = .ok (.iload_n 1, 1) := by decide +kernel
set_option maxRecDepth 20000 in
theorem dX7_flows_80 : decode cX7_flows 80 = .ok (.iadd, 1) := by decide +kernel
set_option maxRecDepth 20000 in
theorem dX7_flows_81 : decode cX7_flows 81 = .ok (.istore 6, 2) := by decide +kernel
set_option maxRecDepth 20000 in
theorem dX7_flows_83 : decode cX7_flows 83 = .ok (.iload 5, 2) := by decide +kernel
set_option maxRecDepth 20000 in
theorem dX7_flows_85 : decode cX7_flows 85 = .ok (.iload_n 2, 1) := by decide +kernel
set_option maxRecDepth 20000 in
theorem dX7_flows_86 : decode cX7_flows 86 = .ok (.if_icmp .ne 7, 3) := by decide +kernel
set_option maxRecDepth 20000 in
theorem dX7_flows_89 : decode cX7_flows 89 = .ok (.lconst 0, 1) := by decide +kernel
set_option maxRecDepth 20000 in
theorem dX7_flows_90 : decode cX7_flows 90 = .ok (.goto 10, 3) := by decide +kernel
set_option maxRecDepth 20000 in
theorem dX7_flows_93 : decode cX7_flows 93 = .ok (.aload_n 0, 1) := by decide +kernel
set_option maxRecDepth 20000 in
theorem dX7_flows_94 : decode cX7_flows 94 = .ok (.iload_n 1, 1) := by decide +kernel
set_option maxRecDepth 20000 in
theorem dX7_flows_95 : decode cX7_flows 95 = .ok (.iload 5, 2) := by decide +kernel
set_option maxRecDepth 20000 in
theorem dX7_flows_97 : decode cX7_flows 97 = .ok (.invokevirtual 167, 3) := by decide +kernel
set_option maxRecDepth 20000 in
theorem dX7_flows_100 : decode cX7_flows 100 = .ok (.lstore 7, 2) := by decide +kernel
set_option maxRecDepth 20000 in
theorem dX7_flows_102 : decode cX7_flows 102 = .ok (.aload_n 0, 1) := by decide +kernel
set_option maxRecDepth 20000 in
theorem dX7_flows_103 : decode cX7_flows 103 = .ok (.getfield 73, 3) := by decide +kernel
set_option maxRecDepth 20000 in
theorem dX7_flows_106 : decode cX7_flows 106 = .ok (.iload 5, 2) := by decide +kernel
set_option maxRecDepth 20000 in
theorem dX7_flows_108 : decode cX7_flows 108 = .ok (.iload 6, 2) := by decide +kernel
set_option maxRecDepth 20000 in
theorem dX7_flows_110 : decode cX7_flows 110 = .ok (.iconst 2, 1) := by decide +kernel
set_option maxRecDepth 20000 in
theorem dX7_flows_111 : decode cX7_flows 111 = .ok (.irem, 1) := by decide +kernel
set_option maxRecDepth 20000 in
theorem dX7_flows_112 : decode cX7_flows 112 = .ok (.ifCond .ne 8, 3) := by decide +kernel
set_option maxRecDepth 20000 in
theorem dX7_flows_115 : decode cX7_flows 115 = .ok (.lload 7, 2) := by decide +kernel
set_option maxRecDepth 20000 in
theorem dX7_flows_117 : decode cX7_flows 117 = .ok (.goto 6, 3) := by decide +kernel
set_option maxRecDepth 20000 in
theorem dX7_flows_120 : decode cX7_flows 120 = .ok (.lload 7, 2) := by decide +kernel
set_option maxRecDepth 20000 in
theorem dX7_flows_122 : decode cX7_flows 122 = .ok (.lneg, 1) := by decide +kernel
set_option maxRecDepth 20000 in
theorem dX7_flows_123 : decode cX7_flows 123 = .ok (.l2i, 1) := by decide +kernel
set_option maxRecDepth 20000 in
theorem dX7_flows_124 : decode cX7_flows 124 = .ok (.iastore, 1) := by decide +kernel
set_option maxRecDepth 20000 in
theorem dX7_flows_125 : decode cX7_flows 125 = .ok (.iinc 5 1, 3) := by decide +kernel
set_option maxRecDepth 20000 in
theorem dX7_flows_128 : decode cX7_flows 128 = .ok (.goto (-84), 3) := by decide +kernel
set_option maxRecDepth 20000 in
theorem dX7_flows_131 : decode cX7_flows 131 = .ok (.iconst 0, 1) := by decide +kernel
set_option maxRecDepth 20000 in
theorem dX7_flows_132 : decode cX7_flows 132 = .ok (.istore 5, 2) := by decide +kernel
set_option maxRecDepth 20000 in
theorem dX7_flows_134 : decode cX7_flows 134 = .ok (.iload 5, 2) := by decide +kernel
set_option maxRecDepth 20000 in
theorem dX7_flows_136 : decode cX7_flows 136 = .ok (.aload_n 0, 1) := by decide +kernel
set_option maxRecDepth 20000 in
theorem dX7_flows_137 : decode cX7_flows 137 = .ok (.getfield 104, 3) := by decide +kernel
set_option maxRecDepth 20000 in
theorem dX7_flows_140 : decode cX7_flows 140 = .ok (.if_icmp .ge 67, 3) := by decide +kernel
set_option maxRecDepth 20000 in
theorem dX7_flows_143 : decode cX7_flows 143 = .ok (.aload_n 0, 1) := by decide +kernel
set_option maxRecDepth 20000 in
theorem dX7_flows_144 : decode cX7_flows 144 = .ok (.getfield 76, 3) := by decide +kernel
set_option maxRecDepth 20000 in
theorem dX7_flows_147 : decode cX7_flows 147 = .ok (.iload 5, 2) := by decide +kernel
set_option maxRecDepth 20000 in
theorem dX7_flows_149 : decode cX7_flows 149 = .ok (.aload_n 0, 1) := by decide +kernel
set_option maxRecDepth 20000 in
theorem dX7_flows_150 : decode cX7_flows 150 = .ok (.iload 5, 2) := by decide +kernel
set_option maxRecDepth 20000 in
theorem dX7_flows_152 : decode cX7_flows 152 = .ok (.invokevirtual 142, 3) := by decide +kernel
set_option maxRecDepth 20000 in
theorem dX7_flows_155 : decode cX7_flows 155 = .ok (.ifCond .eq 31, 3) := by decide +kernel
set_option maxRecDepth 20000 in
theorem dX7_flows_158 : decode cX7_flows 158 = .ok (.aload_n 0, 1) := by decide +kernel
set_option maxRecDepth 20000 in
theorem dX7_flows_159 : decode cX7_flows 159 = .ok (.getfield 73, 3) := by decide +kernel
set_option maxRecDepth 20000 in
theorem dX7_flows_162 : decode cX7_flows 162 = .ok (.aload_n 0, 1) := by decide +kernel
set_option maxRecDepth 20000 in
theorem dX7_flows_163 : decode cX7_flows 163 = .ok (.getfield 13, 3) := by decide +kernel
set_option maxRecDepth 20000 in
theorem dX7_flows_166 : decode cX7_flows 166 = .ok (.iload 5, 2) := by decide +kernel
set_option maxRecDepth 20000 in
theorem dX7_flows_168 : decode cX7_flows 168 = .ok (.iaload, 1) := by decide +kernel
set_option maxRecDepth 20000 in
theorem dX7_flows_169 : decode cX7_flows 169 = .ok (.iaload, 1) := by decide +kernel
set_option maxRecDepth 20000 in
theorem dX7_flows_170 : decode cX7_flows 170 = .ok (.aload_n 0, 1) := by decide +kernel
set_option maxRecDepth 20000 in
theorem dX7_flows_171 : decode cX7_flows 171 = .ok (.getfield 73, 3) := by decide +kernel
set_option maxRecDepth 20000 in
theorem dX7_flows_174 : decode cX7_flows 174 = .ok (.aload_n 0, 1) := by decide +kernel
set_option maxRecDepth 20000 in
theorem dX7_flows_175 : decode cX7_flows 175 = .ok (.getfield 17, 3) := by decide +kernel
set_option maxRecDepth 20000 in
theorem dX7_flows_178 : decode cX7_flows 178 = .ok (.iload 5, 2) := by decide +kernel
set_option maxRecDepth 20000 in
theorem dX7_flows_180 : decode cX7_flows 180 = .ok (.iaload, 1) := by decide +kernel
set_option maxRecDepth 20000 in
theorem dX7_flows_181 : decode cX7_flows 181 = .ok (.iaload, 1) := by decide +kernel
set_option maxRecDepth 20000 in
theorem dX7_flows_182 : decode cX7_flows 182 = .ok (.isub, 1) := by decide +kernel
set_option maxRecDepth 20000 in
theorem dX7_flows_183 : decode cX7_flows 183 = .ok (.goto 4, 3) := by decide +kernel
set_option maxRecDepth 20000 in
theorem dX7_flows_186 : decode cX7_flows 186 = .ok (.iconst 0, 1) := by decide +kernel
set_option maxRecDepth 20000 in
theorem dX7_flows_187 : decode cX7_flows 187 = .ok (.iastore, 1) := by decide +kernel
set_option maxRecDepth 20000 in
theorem dX7_flows_188 : decode cX7_flows 188 = .ok (.lload_n 3, 1) := by decide +kernel
set_option maxRecDepth 20000 in
theorem dX7_flows_189 : decode cX7_flows 189 = .ok (.aload_n 0, 1) := by decide +kernel
set_option maxRecDepth 20000 in
theorem dX7_flows_190 : decode cX7_flows 190 = .ok (.getfield 76, 3) := by decide +kernel
set_option maxRecDepth 20000 in
theorem dX7_flows_193 : decode cX7_flows 193 = .ok (.iload 5, 2) := by decide +kernel
set_option maxRecDepth 20000 in
theorem dX7_flows_195 : decode cX7_flows 195 = .ok (.iaload, 1) := by decide +kernel
set_option maxRecDepth 20000 in
theorem dX7_flows_196 : decode cX7_flows 196 = .ok (.i2l, 1) := by decide +kernel
set_option maxRecDepth 20000 in
theorem dX7_flows_197 : decode cX7_flows 197 = .ok (.invokestatic 175, 3) := by decide +kernel
set_option maxRecDepth 20000 in
theorem dX7_flows_200 : decode cX7_flows 200 = .ok (.lstore_n 3, 1) := by decide +kernel
set_option maxRecDepth 20000 in
theorem dX7_flows_201 : decode cX7_flows 201 = .ok (.iinc 5 1, 3) := by decide +kernel
set_option maxRecDepth 20000 in
theorem dX7_flows_204 : decode cX7_flows 204 = .ok (.goto (-70), 3) := by decide +kernel
set_option maxRecDepth 20000 in
theorem dX7_flows_207 : decode cX7_flows 207 = .ok (.aload_n 0, 1) := by decide +kernel
set_option maxRecDepth 20000 in
theorem dX7_flows_208 : decode cX7_flows 208 = .ok (.iconst 0, 1) := by decide +kernel
set_option maxRecDepth 20000 in
theorem dX7_flows_209 : decode cX7_flows 209 = .ok (.putfield 179, 3) := by decide +kernel
set_option maxRecDepth 20000 in
theorem dX7_flows_212 : decode cX7_flows 212 = .ok (.iconst 0, 1) := by decide +kernel
set_option maxRecDepth 20000 in
theorem dX7_flows_213 : decode cX7_flows 213 = .ok (.istore 5, 2) := by decide +kernel
set_option maxRecDepth 20000 in
theorem dX7_flows_215 : decode cX7_flows 215 = .ok (.iload 5, 2) := by decide +kernel
set_option maxRecDepth 20000 in
theorem dX7_flows_217 : decode cX7_flows 217 = .ok (.aload_n 0, 1) := by decide +kernel
set_option maxRecDepth 20000 in
theorem dX7_flows_218 : decode cX7_flows 218 = .ok (.getfield 104, 3) := by decide +kernel
set_option maxRecDepth 20000 in
theorem dX7_flows_221 : decode cX7_flows 221 = .ok (.if_icmp .ge 80, 3) := by decide +kernel
set_option maxRecDepth 20000 in
theorem dX7_flows_224 : decode cX7_flows 224 = .ok (.aload_n 0, 1) := by decide +kernel
set_option maxRecDepth 20000 in
theorem dX7_flows_225 : decode cX7_flows 225 = .ok (.getfield 76, 3) := by decide +kernel
set_option maxRecDepth 20000 in
theorem dX7_flows_228 : decode cX7_flows 228 = .ok (.iload 5, 2) := by decide +kernel
set_option maxRecDepth 20000 in
theorem dX7_flows_230 : decode cX7_flows 230 = .ok (.aload_n 0, 1) := by decide +kernel
set_option maxRecDepth 20000 in
theorem dX7_flows_231 : decode cX7_flows 231 = .ok (.getfield 76, 3) := by decide +kernel
set_option maxRecDepth 20000 in
theorem dX7_flows_234 : decode cX7_flows 234 = .ok (.iload 5, 2) := by decide +kernel
set_option maxRecDepth 20000 in
theorem dX7_flows_236 : decode cX7_flows 236 = .ok (.iaload, 1) := by decide +kernel
set_option maxRecDepth 20000 in
theorem dX7_flows_237 : decode cX7_flows 237 = .ok (.i2l, 1) := by decide +kernel
set_option maxRecDepth 20000 in
theorem dX7_flows_238 : decode cX7_flows 238 = .ok (.lload_n 3, 1) := by decide +kernel
set_option maxRecDepth 20000 in
theorem dX7_flows_239 : decode cX7_flows 239 = .ok (.ldiv, 1) := by decide +kernel
set_option maxRecDepth 20000 in
theorem dX7_flows_240 : decode cX7_flows 240 = .ok (.l2i, 1) := by decide +kernel
set_option maxRecDepth 20000 in
theorem dX7_flows_241 : decode cX7_flows 241 = .ok (.iastore, 1) := by decide +kernel
set_option maxRecDepth 20000 in
theorem dX7_flows_242 : decode cX7_flows 242 = .ok (.aload_n 0, 1) := by decide +kernel
set_option maxRecDepth 20000 in
theorem dX7_flows_243 : decode cX7_flows 243 = .ok (.dup, 1) := by decide +kernel
set_option maxRecDepth 20000 in
theorem dX7_flows_244 : decode cX7_flows 244 = .ok (.getfield 179, 3) := by decide +kernel
set_option maxRecDepth 20000 in
theorem dX7_flows_247 : decode cX7_flows 247 = .ok (.aload_n 0, 1) := by decide +kernel
set_option maxRecDepth 20000 in
theorem dX7_flows_248 : decode cX7_flows 248 = .ok (.getfield 13, 3) := by decide +kernel
set_option maxRecDepth 20000 in
theorem dX7_flows_251 : decode cX7_flows 251 = .ok (.iload 5, 2) := by decide +kernel
set_option maxRecDepth 20000 in
theorem dX7_flows_253 : decode cX7_flows 253 = .ok (.iaload, 1) := by decide +kernel
set_option maxRecDepth 20000 in
theorem dX7_flows_254 : decode cX7_flows 254 = .ok (.iload_n 1, 1) := by decide +kernel
set_option maxRecDepth 20000 in
theorem dX7_flows_255 : decode cX7_flows 255 = .ok (.if_icmp .ne 13, 3) := by decide +kernel
set_option maxRecDepth 20000 in
theorem dX7_flows_258 : decode cX7_flows 258 = .ok (.aload_n 0, 1) := by decide +kernel
set_option maxRecDepth 20000 in
theorem dX7_flows_259 : decode cX7_flows 259 = .ok (.getfield 76, 3) := by decide +kernel
set_option maxRecDepth 20000 in
theorem dX7_flows_262 : decode cX7_flows 262 = .ok (.iload 5, 2) := by decide +kernel
set_option maxRecDepth 20000 in
theorem dX7_flows_264 : decode cX7_flows 264 = .ok (.iaload, 1) := by decide +kernel
set_option maxRecDepth 20000 in
theorem dX7_flows_265 : decode cX7_flows 265 = .ok (.goto 26, 3) := by decide +kernel
set_option maxRecDepth 20000 in
theorem dX7_flows_268 : decode cX7_flows 268 = .ok (.aload_n 0, 1) := by decide +kernel
set_option maxRecDepth 20000 in
theorem dX7_flows_269 : decode cX7_flows 269 = .ok (.getfield 17, 3) := by decide +kernel
set_option maxRecDepth 20000 in
theorem dX7_flows_272 : decode cX7_flows 272 = .ok (.iload 5, 2) := by decide +kernel
set_option maxRecDepth 20000 in
theorem dX7_flows_274 : decode cX7_flows 274 = .ok (.iaload, 1) := by decide +kernel
set_option maxRecDepth 20000 in
theorem dX7_flows_275 : decode cX7_flows 275 = .ok (.iload_n 1, 1) := by decide +kernel
set_option maxRecDepth 20000 in
theorem dX7_flows_276 : decode cX7_flows 276 = .ok (.if_icmp .ne 14, 3) := by decide +kernel
set_option maxRecDepth 20000 in
theorem dX7_flows_279 : decode cX7_flows 279 = .ok (.aload_n 0, 1) := by decide +kernel
set_option maxRecDepth 20000 in
theorem dX7_flows_280 : decode cX7_flows 280 = .ok (.getfield 76, 3) := by decide +kernel
set_option maxRecDepth 20000 in
theorem dX7_flows_283 : decode cX7_flows 283 = .ok (.iload 5, 2) := by decide +kernel
set_option maxRecDepth 20000 in
theorem dX7_flows_285 : decode cX7_flows 285 = .ok (.iaload, 1) := by decide +kernel
set_option maxRecDepth 20000 in
theorem dX7_flows_286 : decode cX7_flows 286 = .ok (.ineg, 1) := by decide +kernel
set_option maxRecDepth 20000 in
theorem dX7_flows_287 : decode cX7_flows 287 = .ok (.goto 4, 3) := by decide +kernel
set_option maxRecDepth 20000 in
theorem dX7_flows_290 : decode cX7_flows 290 = .ok (.iconst 0, 1) := by decide +kernel
set_option maxRecDepth 20000 in
theorem dX7_flows_291 : decode cX7_flows 291 = .ok (.iadd, 1) := by decide +kernel
set_option maxRecDepth 20000 in
theorem dX7_flows_292 : decode cX7_flows 292 = .ok (.putfield 179, 3) := by decide +kernel
set_option maxRecDepth 20000 in
theorem dX7_flows_295 : decode cX7_flows 295 = .ok (.iinc 5 1, 3) := by decide +kernel
set_option maxRecDepth 20000 in
theorem dX7_flows_298 : decode cX7_flows 298 = .ok (.goto (-83), 3) := by decide +kernel
set_option maxRecDepth 20000 in
theorem dX7_flows_301 : decode cX7_flows 301 = .ok (.iconst 0, 1) := by decide +kernel
set_option maxRecDepth 20000 in
theorem dX7_flows_302 : decode cX7_flows 302 = .ok (.istore 5, 2) := by decide +kernel
set_option maxRecDepth 20000 in
theorem dX7_flows_304 : decode cX7_flows 304 = .ok (.iload 5, 2) := by decide +kernel
set_option maxRecDepth 20000 in
theorem dX7_flows_306 : decode cX7_flows 306 = .ok (.aload_n 0, 1) := by decide +kernel
set_option maxRecDepth 20000 in
theorem dX7_flows_307 : decode cX7_flows 307 = .ok (.getfield 97, 3) := by decide +kernel
set_option maxRecDepth 20000 in
theorem dX7_flows_310 : decode cX7_flows 310 = .ok (.if_icmp .ge 27, 3) := by decide +kernel
set_option maxRecDepth 20000 in
theorem dX7_flows_313 : decode cX7_flows 313 = .ok (.aload_n 0, 1) := by decide +kernel
set_option maxRecDepth 20000 in
theorem dX7_flows_314 : decode cX7_flows 314 = .ok (.getfield 73, 3) := by decide +kernel
set_option maxRecDepth 20000 in
theorem dX7_flows_317 : decode cX7_flows 317 = .ok (.iload 5, 2) := by decide +kernel
set_option maxRecDepth 20000 in
theorem dX7_flows_319 : decode cX7_flows 319 = .ok (.aload_n 0, 1) := by decide +kernel
set_option maxRecDepth 20000 in
theorem dX7_flows_320 : decode cX7_flows 320 = .ok (.getfield 73, 3) := by decide +kernel
set_option maxRecDepth 20000 in
theorem dX7_flows_323 : decode cX7_flows 323 = .ok (.iload 5, 2) := by decide +kernel
set_option maxRecDepth 20000 in
theorem dX7_flows_325 : decode cX7_flows 325 = .ok (.iaload, 1) := by decide +kernel
set_option maxRecDepth 20000 in
theorem dX7_flows_326 : decode cX7_flows 326 = .ok (.i2l, 1) := by decide +kernel
set_option maxRecDepth 20000 in
theorem dX7_flows_327 : decode cX7_flows 327 = .ok (.lload_n 3, 1) := by decide +kernel
set_option maxRecDepth 20000 in
theorem dX7_flows_328 : decode cX7_flows 328 = .ok (.ldiv, 1) := by decide +kernel
set_option maxRecDepth 20000 in
theorem dX7_flows_329 : decode cX7_flows 329 = .ok (.l2i, 1) := by decide +kernel
set_option maxRecDepth 20000 in
theorem dX7_flows_330 : decode cX7_flows 330 = .ok (.iastore, 1) := by decide +kernel
set_option maxRecDepth 20000 in
theorem dX7_flows_331 : decode cX7_flows 331 = .ok (.iinc 5 1, 3) := by decide +kernel
set_option maxRecDepth 20000 in
theorem dX7_flows_334 : decode cX7_flows 334 = .ok (.goto (-30), 3) := by decide +kernel
set_option maxRecDepth 20000 in
theorem dX7_flows_337 : decode cX7_flows 337 = .ok (.aload_n 0, 1) := by decide +kernel
set_option maxRecDepth 20000 in
theorem dX7_flows_338 : decode cX7_flows 338 = .ok (.aload_n 0, 1) := by decide +kernel
set_option maxRecDepth 20000 in
theorem dX7_flows_339 : decode cX7_flows 339 = .ok (.getfield 73, 3) := by decide +kernel
set_option maxRecDepth 20000 in
theorem dX7_flows_342 : decode cX7_flows 342 = .ok (.iload_n 1, 1) := by decide +kernel
set_option maxRecDepth 20000 in
theorem dX7_flows_343 : decode cX7_flows 343 = .ok (.iaload, 1) := by decide +kernel
set_option maxRecDepth 20000 in
theorem dX7_flows_344 : decode cX7_flows 344 = .ok (.putfield 182, 3) := by decide +kernel
set_option maxRecDepth 20000 in
theorem dX7_flows_347 : decode cX7_flows 347 = .ok (.aload_n 0, 1) := by decide +kernel
set_option maxRecDepth 20000 in
theorem dX7_flows_348 : decode cX7_flows 348 = .ok (.invokevirtual 185, 3) := by decide +kernel
set_option maxRecDepth 20000 in
theorem dX7_flows_351 : decode cX7_flows 351 = .ok (.iconst 1, 1) := by decide +kernel
set_option maxRecDepth 20000 in
theorem dX7_flows_352 : decode cX7_flows 352 = .ok (.ireturn, 1) := by decide +kernel
set_option maxRecDepth 20000 in
theorem dX7_placed_0 : decode cX7_placed 0 = .ok (.iconst 0, 1) := by decide +kernel
set_option maxRecDepth 20000 in
theorem dX7_placed_1 : decode cX7_placed 1 = .ok (.istore_n 1, 1) := by decide +kernel
set_option maxRecDepth 20000 in
theorem dX7_placed_2 : decode cX7_placed 2 = .ok (.iload_n 1, 1) := by decide +kernel
set_option maxRecDepth 20000 in
theorem dX7_placed_3 : decode cX7_placed 3 = .ok (.bipush 24, 2) := by decide +kernel
set_option maxRecDepth 20000 in
theorem dX7_placed_5 : decode cX7_placed 5 = .ok (.if_icmp .ge 17, 3) := by decide +kernel
set_option maxRecDepth 20000 in
theorem dX7_placed_8 : decode cX7_placed 8 = .ok (.aload_n 0, 1) := by decide +kernel
set_option maxRecDepth 20000 in
theorem dX7_placed_9 : decode cX7_placed 9 = .ok (.getfield 79, 3) := by decide +kernel
set_option maxRecDepth 20000 in
theorem dX7_placed_12 : decode cX7_placed 12 = .ok (.iload_n 1, 1) := by decide +kernel
set_option maxRecDepth 20000 in
theorem dX7_placed_13 : decode cX7_placed 13 = .ok (.ldc 107, 2) := by decide +kernel
set_option maxRecDepth 20000 in
theorem dX7_placed_15 : decode cX7_placed 15 = .ok (.iastore, 1) := by decide +kernel
set_option maxRecDepth 20000 in
theorem dX7_placed_16 : decode cX7_placed 16 = .ok (.iinc 1 1, 3) := by decide +kernel
set_option maxRecDepth 20000 in
theorem dX7_placed_19 : decode cX7_placed 19 = .ok (.goto (-17), 3) := by decide +kernel
set_option maxRecDepth 20000 in
theorem dX7_placed_22 : decode cX7_placed 22 = .ok (.aload_n 0, 1) := by decide +kernel
set_option maxRecDepth 20000 in
theorem dX7_placed_23 : decode cX7_placed 23 = .ok (.getfield 79, 3) := by decide +kernel
set_option maxRecDepth 20000 in
theorem dX7_placed_26 : decode cX7_placed 26 = .ok (.aload_n 0, 1) := by decide +kernel
set_option maxRecDepth 20000 in
theorem dX7_placed_27 : decode cX7_placed 27 = .ok (.getfield 66, 3) := by decide +kernel
set_option maxRecDepth 20000 in
theorem dX7_placed_30 : decode cX7_placed 30 = .ok (.iconst 2, 1) := by decide +kernel
set_option maxRecDepth 20000 in
theorem dX7_placed_31 : decode cX7_placed 31 = .ok (.aload_n 0, 1) := by decide +kernel
set_option maxRecDepth 20000 in
theorem dX7_placed_32 : decode cX7_placed 32 = .ok (.getfield 7, 3) := by decide +kernel
set_option maxRecDepth 20000 in
theorem dX7_placed_35 : decode cX7_placed 35 = .ok (.imul, 1) := by decide +kernel
set_option maxRecDepth 20000 in
theorem dX7_placed_36 : decode cX7_placed 36 = .ok (.iconst 1, 1) := by decide +kernel
set_option maxRecDepth 20000 in
theorem dX7_placed_37 : decode cX7_placed 37 = .ok (.iadd, 1) := by decide +kernel
set_option maxRecDepth 20000 in
theorem dX7_placed_38 : decode cX7_placed 38 = .ok (.iaload, 1) := by decide +kernel
set_option maxRecDepth 20000 in
theorem dX7_placed_39 : decode cX7_placed 39 = .ok (.iconst 0, 1) := by decide +kernel
set_option maxRecDepth 20000 in
theorem dX7_placed_40 : decode cX7_placed 40 = .ok (.iastore, 1) := by decide +kernel
set_option maxRecDepth 20000 in
theorem dX7_placed_41 : decode cX7_placed 41 = .ok (.iconst 1, 1) := by decide +kernel
set_option maxRecDepth 20000 in
theorem dX7_placed_42 : decode cX7_placed 42 = .ok (.istore_n 1, 1) := by decide +kernel
set_option maxRecDepth 20000 in
theorem dX7_placed_43 : decode cX7_placed 43 = .ok (.iload_n 1, 1) := by decide +kernel
set_option maxRecDepth 20000 in
theorem dX7_placed_44 : decode cX7_placed 44 = .ok (.ifCond .eq 152, 3) := by decide +kernel
set_option maxRecDepth 20000 in
theorem dX7_placed_47 : decode cX7_placed 47 = .ok (.iconst 0, 1) := by decide +kernel
set_option maxRecDepth 20000 in
theorem dX7_placed_48 : decode cX7_placed 48 = .ok (.istore_n 1, 1) := by decide +kernel
set_option maxRecDepth 20000 in
theorem dX7_placed_49 : decode cX7_placed 49 = .ok (.iconst 0, 1) := by decide +kernel
set_option maxRecDepth 20000 in
theorem dX7_placed_50 : decode cX7_placed 50 = .ok (.istore_n 2, 1) := by decide +kernel
set_option maxRecDepth 20000 in
theorem dX7_placed_51 : decode cX7_placed 51 = .ok (.iload_n 2, 1) := by decide +kernel
set_option maxRecDepth 20000 in
theorem dX7_placed_52 : decode cX7_placed 52 = .ok (.aload_n 0, 1) := by decide +kernel
set_option maxRecDepth 20000 in
theorem dX7_placed_53 : decode cX7_placed 53 = .ok (.getfield 104, 3) := by decide +kernel
set_option maxRecDepth 20000 in
theorem dX7_placed_56 : decode cX7_placed 56 = .ok (.if_icmp .ge 137, 3) := by decide +kernel
set_option maxRecDepth 20000 in
theorem dX7_placed_59 : decode cX7_placed 59 = .ok (.iload_n 2, 1) := by decide +kernel
set_option maxRecDepth 20000 in
theorem dX7_placed_60 : decode cX7_placed 60 = .ok (.aload_n 0, 1) := by decide +kernel
set_option maxRecDepth 20000 in
theorem dX7_placed_61 : decode cX7_placed 61 = .ok (.getfield 7, 3) := by decide +kernel
set_option maxRecDepth 20000 in
theorem dX7_placed_64 : decode cX7_placed 64 = .ok (.if_icmp .ne 6, 3) := by decide +kernel
set_option maxRecDepth 20000 in
theorem dX7_placed_67 : decode cX7_placed 67 = .ok (.goto 120, 3) := by decide +kernel
set_option maxRecDepth 20000 in
theorem dX7_placed_70 : decode cX7_placed 70 = .ok (.aload_n 0, 1) := by decide +kernel
set_option maxRecDepth 20000 in
theorem dX7_placed_71 : decode cX7_placed 71 = .ok (.getfield 66, 3) := by decide +kernel
set_option maxRecDepth 20000 in
theorem dX7_placed_74 : decode cX7_placed 74 = .ok (.iconst 2, 1) := by decide +kernel
set_option maxRecDepth 20000 in
theorem dX7_placed_75 : decode cX7_placed 75 = .ok (.iload_n 2, 1) := by decide +kernel
set_option maxRecDepth 20000 in
theorem dX7_placed_76 : decode cX7_placed 76 = .ok (.imul, 1) := by decide +kernel
set_option maxRecDepth 20000 in
theorem dX7_placed_77 : decode cX7_placed 77 = .ok (.iaload, 1) := by decide +kernel
set_option maxRecDepth 20000 in
theorem dX7_placed_78 : decode cX7_placed 78 = .ok (.istore_n 3, 1) := by decide +kernel
set_option maxRecDepth 20000 in
theorem dX7_placed_79 : decode cX7_placed 79 = .ok (.aload_n 0, 1) := by decide +kernel
set_option maxRecDepth 20000 in
theorem dX7_placed_80 : decode cX7_placed 80 = .ok (.getfield 66, 3) := by decide +kernel
set_option maxRecDepth 20000 in
theorem dX7_placed_83 : decode cX7_placed 83 = .ok (.iconst 2, 1) := by decide +kernel
set_option maxRecDepth 20000 in
theorem dX7_placed_84 : decode cX7_placed 84 = .ok (.iload_n 2, 1) := by decide +kernel
set_option maxRecDepth 20000 in
theorem dX7_placed_85 : decode cX7_placed 85 = .ok (.imul, 1) := by decide +kernel
set_option maxRecDepth 20000 in
theorem dX7_placed_86 : decode cX7_placed 86 = .ok (.iconst 1, 1) := by decide +kernel
set_option maxRecDepth 20000 in
theorem dX7_placed_87 : decode cX7_placed 87 = .ok (.iadd, 1) := by decide +kernel
set_option maxRecDepth 20000 in
theorem dX7_placed_88 : decode cX7_placed 88 = .ok (.iaload, 1) := by decide +kernel
set_option maxRecDepth 20000 in
theorem dX7_placed_89 : decode cX7_placed 89 = .ok (.istore 4, 2) := by decide +kernel
set_option maxRecDepth 20000 in
theorem dX7_placed_91 : decode cX7_placed 91 = .ok (.aload_n 0, 1) := by decide +kernel
set_option maxRecDepth 20000 in
theorem dX7_placed_92 : decode cX7_placed 92 = .ok (.getfield 79, 3) := by decide +kernel
set_option maxRecDepth 20000 in
theorem dX7_placed_95 : decode cX7_placed 95 = .ok (.iload_n 3, 1) := by decide +kernel
set_option maxRecDepth 20000 in
theorem dX7_placed_96 : decode cX7_placed 96 = .ok (.iaload, 1) := by decide +kernel
set_option maxRecDepth 20000 in
theorem dX7_placed_97 : decode cX7_placed 97 = .ok (.ldc 107, 2) := by decide +kernel
set_option maxRecDepth 20000 in
theorem dX7_placed_99 : decode cX7_placed 99 = .ok (.if_icmp .ne 7, 3) := by decide +kernel
set_option maxRecDepth 20000 in
theorem dX7_placed_102 : decode cX7_placed 102 = .ok (.iconst 1, 1) := by decide +kernel
set_option maxRecDepth 20000 in
theorem dX7_placed_103 : decode cX7_placed 103 = .ok (.goto 4, 3) := by decide +kernel
set_option maxRecDepth 20000 in
theorem dX7_placed_106 : decode cX7_placed 106 = .ok (.iconst 0, 1) := by decide +kernel
set_option maxRecDepth 20000 in
theorem dX7_placed_107 : decode cX7_placed 107 = .ok (.aload_n 0, 1) := by decide +kernel
set_option maxRecDepth 20000 in
theorem dX7_placed_108 : decode cX7_placed 108 = .ok (.getfield 79, 3) := by decide +kernel
set_option maxRecDepth 20000 in
theorem dX7_placed_111 : decode cX7_placed 111 = .ok (.iload 4, 2) := by decide +kernel
set_option maxRecDepth 20000 in
theorem dX7_placed_113 : decode cX7_placed 113 = .ok (.iaload, 1) := by decide +kernel
set_option maxRecDepth 20000 in
theorem dX7_placed_114 : decode cX7_placed 114 = .ok (.ldc 107, 2) := by decide +kernel
set_option maxRecDepth 20000 in
theorem dX7_placed_116 : decode cX7_placed 116 = .ok (.if_icmp .ne 7, 3) := by decide +kernel
set_option maxRecDepth 20000 in
theorem dX7_placed_119 : decode cX7_placed 119 = .ok (.iconst 1, 1) := by decide +kernel
set_option maxRecDepth 20000 in
theorem dX7_placed_120 : decode cX7_placed 120 = .ok (.goto 4, 3) := by decide +kernel
set_option maxRecDepth 20000 in
theorem dX7_placed_123 : decode cX7_placed 123 = .ok (.iconst 0, 1) := by decide +kernel
set_option maxRecDepth 20000 in
theorem dX7_placed_124 : decode cX7_placed 124 = .ok (.if_icmp .ne 6, 3) := by decide +kernel
set_option maxRecDepth 20000 in
theorem dX7_placed_127 : decode cX7_placed 127 = .ok (.goto 60, 3) := by decide +kernel
set_option maxRecDepth 20000 in
theorem dX7_placed_130 : decode cX7_placed 130 = .ok (.aload_n 0, 1) := by decide +kernel
set_option maxRecDepth 20000 in
theorem dX7_placed_131 : decode cX7_placed 131 = .ok (.getfield 79, 3) := by decide +kernel
set_option maxRecDepth 20000 in
theorem dX7_placed_134 : decode cX7_placed 134 = .ok (.iload 4, 2) := by decide +kernel
set_option maxRecDepth 20000 in
theorem dX7_placed_136 : decode cX7_placed 136 = .ok (.iaload, 1) := by decide +kernel
set_option maxRecDepth 20000 in
theorem dX7_placed_137 : decode cX7_placed 137 = .ok (.ldc 107, 2) := by decide +kernel
set_option maxRecDepth 20000 in
theorem dX7_placed_139 : decode cX7_placed 139 = .ok (.if_icmp .ne 26, 3) := by decide +kernel
set_option maxRecDepth 20000 in
theorem dX7_placed_142 : decode cX7_placed 142 = .ok (.aload_n 0, 1) := by decide +kernel
set_option maxRecDepth 20000 in
theorem dX7_placed_143 : decode cX7_placed 143 = .ok (.getfield 79, 3) := by decide +kernel
set_option maxRecDepth 20000 in
theorem dX7_placed_146 : decode cX7_placed 146 = .ok (.iload 4, 2) := by decide +kernel
set_option maxRecDepth 20000 in
theorem dX7_placed_148 : decode cX7_placed 148 = .ok (.aload_n 0, 1) := by decide +kernel
set_option maxRecDepth 20000 in
theorem dX7_placed_149 : decode cX7_placed 149 = .ok (.getfield 79, 3) := by decide +kernel
set_option maxRecDepth 20000 in
theorem dX7_placed_152 : decode cX7_placed 152 = .ok (.iload_n 3, 1) := by decide +kernel
set_option maxRecDepth 20000 in
theorem dX7_placed_153 : decode cX7_placed 153 = .ok (.iaload, 1) := by decide +kernel
set_option maxRecDepth 20000 in
theorem dX7_placed_154 : decode cX7_placed 154 = .ok (.aload_n 0, 1) := by decide +kernel
set_option maxRecDepth 20000 in
theorem dX7_placed_155 : decode cX7_placed 155 = .ok (.getfield 76, 3) := by decide +kernel
set_option maxRecDepth 20000 in
theorem dX7_placed_158 : decode cX7_placed 158 = .ok (.iload_n 2, 1) := by decide +kernel
set_option maxRecDepth 20000 in
theorem dX7_placed_159 : decode cX7_placed 159 = .ok (.iaload, 1) := by decide +kernel
set_option maxRecDepth 20000 in
theorem dX7_placed_160 : decode cX7_placed 160 = .ok (.iadd, 1) := by decide +kernel
set_option maxRecDepth 20000 in
theorem dX7_placed_161 : decode cX7_placed 161 = .ok (.iastore, 1) := by decide +kernel
set_option maxRecDepth 20000 in
theorem dX7_placed_162 : decode cX7_placed 162 = .ok (.goto 23, 3) := by decide +kernel
set_option maxRecDepth 20000 in
theorem dX7_placed_165 : decode cX7_placed 165 = .ok (.aload_n 0, 1) := by decide +kernel
set_option maxRecDepth 20000 in
theorem dX7_placed_166 : decode cX7_placed 166 = .ok (.getfield 79, 3) := by decide +kernel
set_option maxRecDepth 20000 in
theorem dX7_placed_169 : decode cX7_placed 169 = .ok (.iload_n 3, 1) := by decide +kernel
set_option maxRecDepth 20000 in
theorem dX7_placed_170 : decode cX7_placed 170 = .ok (.aload_n 0, 1) := by decide +kernel
set_option maxRecDepth 20000 in
theorem dX7_placed_171 : decode cX7_placed 171 = .ok (.getfield 79, 3) := by decide +kernel
set_option maxRecDepth 20000 in
theorem dX7_placed_174 : decode cX7_placed 174 = .ok (.iload 4, 2) := by decide +kernel
set_option maxRecDepth 20000 in
theorem dX7_placed_176 : decode cX7_placed 176 = .ok (.iaload, 1) := by decide +kernel
set_option maxRecDepth 20000 in
theorem dX7_placed_177 : decode cX7_placed 177 = .ok (.aload_n 0, 1) := by decide +kernel
set_option maxRecDepth 20000 in
theorem dX7_placed_178 : decode cX7_placed 178 = .ok (.getfield 76, 3) := by decide +kernel
set_option maxRecDepth 20000 in
theorem dX7_placed_181 : decode cX7_placed 181 = .ok (.iload_n 2, 1) := by decide +kernel
set_option maxRecDepth 20000 in
theorem dX7_placed_182 : decode cX7_placed 182 = .ok (.iaload, 1) := by decide +kernel
set_option maxRecDepth 20000 in
theorem dX7_placed_183 : decode cX7_placed 183 = .ok (.isub, 1) := by decide +kernel
set_option maxRecDepth 20000 in
theorem dX7_placed_184 : decode cX7_placed 184 = .ok (.iastore, 1) := by decide +kernel
set_option maxRecDepth 20000 in
theorem dX7_placed_185 : decode cX7_placed 185 = .ok (.iconst 1, 1) := by decide +kernel
set_option maxRecDepth 20000 in
theorem dX7_placed_186 : decode cX7_placed 186 = .ok (.istore_n 1, 1) := by decide +kernel
set_option maxRecDepth 20000 in
theorem dX7_placed_187 : decode cX7_placed 187 = .ok (.iinc 2 1, 3) := by decide +kernel
set_option maxRecDepth 20000 in
theorem dX7_placed_190 : decode cX7_placed 190 = .ok (.goto (-139), 3) := by decide +kernel
set_option maxRecDepth 20000 in
theorem dX7_placed_193 : decode cX7_placed 193 = .ok (.goto (-150), 3) := by decide +kernel
set_option maxRecDepth 20000 in
theorem dX7_placed_196 : decode cX7_placed 196 = .ok (.return_, 1) := by decide +kernel
set_option maxRecDepth 20000 in
theorem dX7_isSquare_0 : decode cX7_isSquare 0 = .ok (.aload_n 0, 1) := by decide +kernel
set_option maxRecDepth 20000 in
theorem dX7_isSquare_1 : decode cX7_isSquare 1 = .ok (.iload_n 1, 1) := by decide +kernel
set_option maxRecDepth 20000 in
theorem dX7_isSquare_2 : decode cX7_isSquare 2 = .ok (.invokevirtual 142, 3) := by decide +kernel
set_option maxRecDepth 20000 in
theorem dX7_isSquare_5 : decode cX7_isSquare 5 = .ok (.ifCond .eq 16, 3) := by decide +kernel
set_option maxRecDepth 20000 in
theorem dX7_isSquare_8 : decode cX7_isSquare 8 = .ok (.aload_n 0, 1) := by decide +kernel
set_option maxRecDepth 20000 in
theorem dX7_isSquare_9 : decode cX7_isSquare 9 = .ok (.getfield 76, 3) := by decide +kernel
set_option maxRecDepth 20000 in
theorem dX7_isSquare_12 : decode cX7_isSquare 12 = .ok (.iload_n 1, 1) := by decide +kernel
set_option maxRecDepth 20000 in
theorem dX7_isSquare_13 : decode cX7_isSquare 13 = .ok (.iaload, 1) := by decide +kernel
set_option maxRecDepth 20000 in
theorem dX7_isSquare_14 : decode cX7_isSquare 14 = .ok (.ifCond .eq 7, 3) := by decide +kernel
set_option maxRecDepth 20000 in
theorem dX7_isSquare_17 : decode cX7_isSquare 17 = .ok (.iconst 1, 1) := by decide +kernel
set_option maxRecDepth 20000 in
theorem dX7_isSquare_18 : decode cX7_isSquare 18 = .ok (.goto 4, 3) := by decide +kernel
set_option maxRecDepth 20000 in
theorem dX7_isSquare_21 : decode cX7_isSquare 21 = .ok (.iconst 0, 1) := by decide +kernel
set_option maxRecDepth 20000 in
theorem dX7_isSquare_22 : decode cX7_isSquare 22 = .ok (.ireturn, 1) := by decide +kernel
set_option maxRecDepth 20000 in
theorem dX7_sideOf_0 : decode cX7_sideOf 0 = .ok (.aload_n 0, 1) := by decide +kernel
set_option maxRecDepth 20000 in
theorem dX7_sideOf_1 : decode cX7_sideOf 1 = .ok (.getfield 76, 3) := by decide +kernel
set_option maxRecDepth 20000 in
theorem dX7_sideOf_4 : decode cX7_sideOf 4 = .ok (.iload_n 1, 1) := by decide +kernel
set_option maxRecDepth 20000 in
theorem dX7_sideOf_5 : decode cX7_sideOf 5 = .ok (.iaload, 1) := by decide +kernel
set_option maxRecDepth 20000 in
theorem dX7_sideOf_6 : decode cX7_sideOf 6 = .ok (.ifCond .ge 13, 3) := by decide +kernel
set_option maxRecDepth 20000 in
theorem dX7_sideOf_9 : decode cX7_sideOf 9 = .ok (.aload_n 0, 1) := by decide +kernel
set_option maxRecDepth 20000 in
theorem dX7_sideOf_10 : decode cX7_sideOf 10 = .ok (.getfield 76, 3) := by decide +kernel
set_option maxRecDepth 20000 in
theorem dX7_sideOf_13 : decode cX7_sideOf 13 = .ok (.iload_n 1, 1) := by decide +kernel
set_option maxRecDepth 20000 in
theorem dX7_sideOf_14 : decode cX7_sideOf 14 = .ok (.iaload, 1) := by decide +kernel
set_option maxRecDepth 20000 in
theorem dX7_sideOf_15 : decode cX7_sideOf 15 = .ok (.ineg, 1) := by decide +kernel
set_option maxRecDepth 20000 in
theorem dX7_sideOf_16 : decode cX7_sideOf 16 = .ok (.goto 9, 3) := by decide +kernel
set_option maxRecDepth 20000 in
theorem dX7_sideOf_19 : decode cX7_sideOf 19 = .ok (.aload_n 0, 1) := by decide +kernel
set_option maxRecDepth 20000 in
theorem dX7_sideOf_20 : decode cX7_sideOf 20 = .ok (.getfield 76, 3) := by decide +kernel
set_option maxRecDepth 20000 in
theorem dX7_sideOf_23 : decode cX7_sideOf 23 = .ok (.iload_n 1, 1) := by decide +kernel
set_option maxRecDepth 20000 in
theorem dX7_sideOf_24 : decode cX7_sideOf 24 = .ok (.iaload, 1) := by decide +kernel
set_option maxRecDepth 20000 in
theorem dX7_sideOf_25 : decode cX7_sideOf 25 = .ok (.ireturn, 1) := by decide +kernel
set_option maxRecDepth 20000 in
theorem dX7_leftOf_0 : decode cX7_leftOf 0 = .ok (.aload_n 0, 1) := by decide +kernel
set_option maxRecDepth 20000 in
theorem dX7_leftOf_1 : decode cX7_leftOf 1 = .ok (.getfield 79, 3) := by decide +kernel
set_option maxRecDepth 20000 in
theorem dX7_leftOf_4 : decode cX7_leftOf 4 = .ok (.aload_n 0, 1) := by decide +kernel
set_option maxRecDepth 20000 in
theorem dX7_leftOf_5 : decode cX7_leftOf 5 = .ok (.getfield 66, 3) := by decide +kernel
set_option maxRecDepth 20000 in
theorem dX7_leftOf_8 : decode cX7_leftOf 8 = .ok (.iconst 2, 1) := by decide +kernel
set_option maxRecDepth 20000 in
theorem dX7_leftOf_9 : decode cX7_leftOf 9 = .ok (.iload_n 1, 1) := by decide +kernel
set_option maxRecDepth 20000 in
theorem dX7_leftOf_10 : decode cX7_leftOf 10 = .ok (.imul, 1) := by decide +kernel
set_option maxRecDepth 20000 in
theorem dX7_leftOf_11 : decode cX7_leftOf 11 = .ok (.iaload, 1) := by decide +kernel
set_option maxRecDepth 20000 in
theorem dX7_leftOf_12 : decode cX7_leftOf 12 = .ok (.iaload, 1) := by decide +kernel
set_option maxRecDepth 20000 in
theorem dX7_leftOf_13 : decode cX7_leftOf 13 = .ok (.istore_n 2, 1) := by decide +kernel
set_option maxRecDepth 20000 in
theorem dX7_leftOf_14 : decode cX7_leftOf 14 = .ok (.aload_n 0, 1) := by decide +kernel
set_option maxRecDepth 20000 in
theorem dX7_leftOf_15 : decode cX7_leftOf 15 = .ok (.getfield 79, 3) := by decide +kernel
set_option maxRecDepth 20000 in
theorem dX7_leftOf_18 : decode cX7_leftOf 18 = .ok (.aload_n 0, 1) := by decide +kernel
set_option maxRecDepth 20000 in
theorem dX7_leftOf_19 : decode cX7_leftOf 19 = .ok (.getfield 66, 3) := by decide +kernel
set_option maxRecDepth 20000 in
theorem dX7_leftOf_22 : decode cX7_leftOf 22 = .ok (.iconst 2, 1) := by decide +kernel
set_option maxRecDepth 20000 in
theorem dX7_leftOf_23 : decode cX7_leftOf 23 = .ok (.iload_n 1, 1) := by decide +kernel
set_option maxRecDepth 20000 in
theorem dX7_leftOf_24 : decode cX7_leftOf 24 = .ok (.imul, 1) := by decide +kernel
set_option maxRecDepth 20000 in
theorem dX7_leftOf_25 : decode cX7_leftOf 25 = .ok (.iconst 1, 1) := by decide +kernel
set_option maxRecDepth 20000 in
theorem dX7_leftOf_26 : decode cX7_leftOf 26 = .ok (.iadd, 1) := by decide +kernel
set_option maxRecDepth 20000 in
theorem dX7_leftOf_27 : decode cX7_leftOf 27 = .ok (.iaload, 1) := by decide +kernel
set_option maxRecDepth 20000 in
theorem dX7_leftOf_28 : decode cX7_leftOf 28 = .ok (.iaload, 1) := by decide +kernel
set_option maxRecDepth 20000 in
theorem dX7_leftOf_29 : decode cX7_leftOf 29 = .ok (.istore_n 3, 1) := by decide +kernel
set_option maxRecDepth 20000 in
theorem dX7_leftOf_30 : decode cX7_leftOf 30 = .ok (.iload_n 2, 1) := by decide +kernel
set_option maxRecDepth 20000 in
theorem dX7_leftOf_31 : decode cX7_leftOf 31 = .ok (.iload_n 3, 1) := by decide +kernel
set_option maxRecDepth 20000 in
theorem dX7_leftOf_32 : decode cX7_leftOf 32 = .ok (.if_icmp .ge 7, 3) := by decide +kernel
set_option maxRecDepth 20000 in
theorem dX7_leftOf_35 : decode cX7_leftOf 35 = .ok (.iload_n 2, 1) := by decide +kernel
set_option maxRecDepth 20000 in
theorem dX7_leftOf_36 : decode cX7_leftOf 36 = .ok (.goto 4, 3) := by decide +kernel
set_option maxRecDepth 20000 in
theorem dX7_leftOf_39 : decode cX7_leftOf 39 = .ok (.iload_n 3, 1) := by decide +kernel
set_option maxRecDepth 20000 in
theorem dX7_leftOf_40 : decode cX7_leftOf 40 = .ok (.ireturn, 1) := by decide +kernel
set_option maxRecDepth 20000 in
theorem dX7_lowOf_0 : decode cX7_lowOf 0 = .ok (.aload_n 0, 1) := by decide +kernel
set_option maxRecDepth 20000 in
theorem dX7_lowOf_1 : decode cX7_lowOf 1 = .ok (.getfield 73, 3) := by decide +kernel
set_option maxRecDepth 20000 in
theorem dX7_lowOf_4 : decode cX7_lowOf 4 = .ok (.aload_n 0, 1) := by decide +kernel
set_option maxRecDepth 20000 in
theorem dX7_lowOf_5 : decode cX7_lowOf 5 = .ok (.getfield 13, 3) := by decide +kernel
set_option maxRecDepth 20000 in
theorem dX7_lowOf_8 : decode cX7_lowOf 8 = .ok (.iload_n 1, 1) := by decide +kernel
set_option maxRecDepth 20000 in
theorem dX7_lowOf_9 : decode cX7_lowOf 9 = .ok (.iaload, 1) := by decide +kernel
set_option maxRecDepth 20000 in
theorem dX7_lowOf_10 : decode cX7_lowOf 10 = .ok (.iaload, 1) := by decide +kernel
set_option maxRecDepth 20000 in
theorem dX7_lowOf_11 : decode cX7_lowOf 11 = .ok (.istore_n 2, 1) := by decide +kernel
set_option maxRecDepth 20000 in
theorem dX7_lowOf_12 : decode cX7_lowOf 12 = .ok (.aload_n 0, 1) := by decide +kernel
set_option maxRecDepth 20000 in
theorem dX7_lowOf_13 : decode cX7_lowOf 13 = .ok (.getfield 73, 3) := by decide +kernel
set_option maxRecDepth 20000 in
theorem dX7_lowOf_16 : decode cX7_lowOf 16 = .ok (.aload_n 0, 1) := by decide +kernel
set_option maxRecDepth 20000 in
theorem dX7_lowOf_17 : decode cX7_lowOf 17 = .ok (.getfield 17, 3) := by decide +kernel
set_option maxRecDepth 20000 in
theorem dX7_lowOf_20 : decode cX7_lowOf 20 = .ok (.iload_n 1, 1) := by decide +kernel
set_option maxRecDepth 20000 in
theorem dX7_lowOf_21 : decode cX7_lowOf 21 = .ok (.iaload, 1) := by decide +kernel
set_option maxRecDepth 20000 in
theorem dX7_lowOf_22 : decode cX7_lowOf 22 = .ok (.iaload, 1) := by decide +kernel
set_option maxRecDepth 20000 in
theorem dX7_lowOf_23 : decode cX7_lowOf 23 = .ok (.istore_n 3, 1) := by decide +kernel
set_option maxRecDepth 20000 in
theorem dX7_lowOf_24 : decode cX7_lowOf 24 = .ok (.iload_n 2, 1) := by decide +kernel
set_option maxRecDepth 20000 in
theorem dX7_lowOf_25 : decode cX7_lowOf 25 = .ok (.iload_n 3, 1) := by decide +kernel
set_option maxRecDepth 20000 in
theorem dX7_lowOf_26 : decode cX7_lowOf 26 = .ok (.if_icmp .ge 7, 3) := by decide +kernel
set_option maxRecDepth 20000 in
theorem dX7_lowOf_29 : decode cX7_lowOf 29 = .ok (.iload_n 2, 1) := by decide +kernel
set_option maxRecDepth 20000 in
theorem dX7_lowOf_30 : decode cX7_lowOf 30 = .ok (.goto 4, 3) := by decide +kernel
set_option maxRecDepth 20000 in
theorem dX7_lowOf_33 : decode cX7_lowOf 33 = .ok (.iload_n 3, 1) := by decide +kernel
set_option maxRecDepth 20000 in
theorem dX7_lowOf_34 : decode cX7_lowOf 34 = .ok (.ireturn, 1) := by decide +kernel
set_option maxRecDepth 20000 in
theorem dX7_squares_0 : decode cX7_squares 0 = .ok (.iconst 0, 1) := by decide +kernel
set_option maxRecDepth 20000 in
theorem dX7_squares_1 : decode cX7_squares 1 = .ok (.istore_n 1, 1) := by decide +kernel
set_option maxRecDepth 20000 in
theorem dX7_squares_2 : decode cX7_squares 2 = .ok (.iconst 0, 1) := by decide +kernel
set_option maxRecDepth 20000 in
theorem dX7_squares_3 : decode cX7_squares 3 = .ok (.istore_n 2, 1) := by decide +kernel
set_option maxRecDepth 20000 in
theorem dX7_squares_4 : decode cX7_squares 4 = .ok (.iload_n 2, 1) := by decide +kernel
set_option maxRecDepth 20000 in
theorem dX7_squares_5 : decode cX7_squares 5 = .ok (.aload_n 0, 1) := by decide +kernel
set_option maxRecDepth 20000 in
theorem dX7_squares_6 : decode cX7_squares 6 = .ok (.getfield 104, 3) := by decide +kernel
set_option maxRecDepth 20000 in
theorem dX7_squares_9 : decode cX7_squares 9 = .ok (.if_icmp .ge 25, 3) := by decide +kernel
set_option maxRecDepth 20000 in
theorem dX7_squares_12 : decode cX7_squares 12 = .ok (.iload_n 1, 1) := by decide +kernel
set_option maxRecDepth 20000 in
theorem dX7_squares_13 : decode cX7_squares 13 = .ok (.aload_n 0, 1) := by decide +kernel
set_option maxRecDepth 20000 in
theorem dX7_squares_14 : decode cX7_squares 14 = .ok (.iload_n 2, 1) := by decide +kernel
set_option maxRecDepth 20000 in
theorem dX7_squares_15 : decode cX7_squares 15 = .ok (.invokevirtual 188, 3) := by decide +kernel
set_option maxRecDepth 20000 in
theorem dX7_squares_18 : decode cX7_squares 18 = .ok (.ifCond .eq 7, 3) := by decide +kernel
set_option maxRecDepth 20000 in
theorem dX7_squares_21 : decode cX7_squares 21 = .ok (.iconst 1, 1) := by decide +kernel
set_option maxRecDepth 20000 in
theorem dX7_squares_22 : decode cX7_squares 22 = .ok (.goto 4, 3) := by decide +kernel
set_option maxRecDepth 20000 in
theorem dX7_squares_25 : decode cX7_squares 25 = .ok (.iconst 0, 1) := by decide +kernel
set_option maxRecDepth 20000 in
theorem dX7_squares_26 : decode cX7_squares 26 = .ok (.iadd, 1) := by decide +kernel
set_option maxRecDepth 20000 in
theorem dX7_squares_27 : decode cX7_squares 27 = .ok (.istore_n 1, 1) := by decide +kernel
set_option maxRecDepth 20000 in
theorem dX7_squares_28 : decode cX7_squares 28 = .ok (.iinc 2 1, 3) := by decide +kernel
set_option maxRecDepth 20000 in
theorem dX7_squares_31 : decode cX7_squares 31 = .ok (.goto (-27), 3) := by decide +kernel
set_option maxRecDepth 20000 in
theorem dX7_squares_34 : decode cX7_squares 34 = .ok (.iload_n 1, 1) := by decide +kernel
set_option maxRecDepth 20000 in
theorem dX7_squares_35 : decode cX7_squares 35 = .ok (.ireturn, 1) := by decide +kernel
set_option maxRecDepth 20000 in
theorem dX7_isPerfect_0 : decode cX7_isPerfect 0 = .ok (.iconst 0, 1) := by decide +kernel
set_option maxRecDepth 20000 in
theorem dX7_isPerfect_1 : decode cX7_isPerfect 1 = .ok (.istore_n 1, 1) := by decide +kernel
set_option maxRecDepth 20000 in
theorem dX7_isPerfect_2 : decode cX7_isPerfect 2 = .ok (.iload_n 1, 1) := by decide +kernel
set_option maxRecDepth 20000 in
theorem dX7_isPerfect_3 : decode cX7_isPerfect 3 = .ok (.aload_n 0, 1) := by decide +kernel
set_option maxRecDepth 20000 in
theorem dX7_isPerfect_4 : decode cX7_isPerfect 4 = .ok (.getfield 104, 3) := by decide +kernel
set_option maxRecDepth 20000 in
theorem dX7_isPerfect_7 : decode cX7_isPerfect 7 = .ok (.if_icmp .ge 72, 3) := by decide +kernel
set_option maxRecDepth 20000 in
theorem dX7_isPerfect_10 : decode cX7_isPerfect 10 = .ok (.aload_n 0, 1) := by decide +kernel
set_option maxRecDepth 20000 in
theorem dX7_isPerfect_11 : decode cX7_isPerfect 11 = .ok (.iload_n 1, 1) := by decide +kernel
set_option maxRecDepth 20000 in
theorem dX7_isPerfect_12 : decode cX7_isPerfect 12 = .ok (.invokevirtual 142, 3) := by decide +kernel
set_option maxRecDepth 20000 in
theorem dX7_isPerfect_15 : decode cX7_isPerfect 15 = .ok (.ifCond .eq 14, 3) := by decide +kernel
set_option maxRecDepth 20000 in
theorem dX7_isPerfect_18 : decode cX7_isPerfect 18 = .ok (.aload_n 0, 1) := by decide +kernel
set_option maxRecDepth 20000 in
theorem dX7_isPerfect_19 : decode cX7_isPerfect 19 = .ok (.getfield 76, 3) := by decide +kernel
set_option maxRecDepth 20000 in
theorem dX7_isPerfect_22 : decode cX7_isPerfect 22 = .ok (.iload_n 1, 1) := by decide +kernel
set_option maxRecDepth 20000 in
theorem dX7_isPerfect_23 : decode cX7_isPerfect 23 = .ok (.iaload, 1) := by decide +kernel
set_option maxRecDepth 20000 in
theorem dX7_isPerfect_24 : decode cX7_isPerfect 24 = .ok (.ifCond .ne 5, 3) := by decide +kernel
set_option maxRecDepth 20000 in
theorem dX7_isPerfect_27 : decode cX7_isPerfect 27 = .ok (.iconst 0, 1) := by decide +kernel
set_option maxRecDepth 20000 in
theorem dX7_isPerfect_28 : decode cX7_isPerfect 28 = .ok (.ireturn, 1) := by decide +kernel
set_option maxRecDepth 20000 in
theorem dX7_isPerfect_29 : decode cX7_isPerfect 29 = .ok (.iconst 0, 1) := by decide +kernel
set_option maxRecDepth 20000 in
theorem dX7_isPerfect_30 : decode cX7_isPerfect 30 = .ok (.istore_n 2, 1) := by decide +kernel
set_option maxRecDepth 20000 in
theorem dX7_isPerfect_31 : decode cX7_isPerfect 31 = .ok (.iload_n 2, 1) := by decide +kernel
set_option maxRecDepth 20000 in
theorem dX7_isPerfect_32 : decode cX7_isPerfect 32 = .ok (.iload_n 1, 1) := by decide +kernel
set_option maxRecDepth 20000 in
theorem dX7_isPerfect_33 : decode cX7_isPerfect 33 = .ok (.if_icmp .ge 40, 3) := by decide +kernel
set_option maxRecDepth 20000 in
theorem dX7_isPerfect_36 : decode cX7_isPerfect 36 = .ok (.aload_n 0, 1) := by decide +kernel
set_option maxRecDepth 20000 in
theorem dX7_isPerfect_37 : decode cX7_isPerfect 37 = .ok (.iload_n 1, 1) := by decide +kernel
set_option maxRecDepth 20000 in
theorem dX7_isPerfect_38 : decode cX7_isPerfect 38 = .ok (.invokevirtual 188, 3) := by decide +kernel
set_option maxRecDepth 20000 in
theorem dX7_isPerfect_41 : decode cX7_isPerfect 41 = .ok (.ifCond .eq 26, 3) := by decide +kernel
set_option maxRecDepth 20000 in
theorem dX7_isPerfect_44 : decode cX7_isPerfect 44 = .ok (.aload_n 0, 1) := by decide +kernel
set_option maxRecDepth 20000 in
theorem dX7_isPerfect_45 : decode cX7_isPerfect 45 = .ok (.iload_n 2, 1) := by decide +kernel
set_option maxRecDepth 20000 in
theorem dX7_isPerfect_46 : decode cX7_isPerfect 46 = .ok (.invokevirtual 188, 3) := by decide +kernel
set_option maxRecDepth 20000 in
theorem dX7_isPerfect_49 : decode cX7_isPerfect 49 = .ok (.ifCond .eq 18, 3) := by decide +kernel
set_option maxRecDepth 20000 in
theorem dX7_isPerfect_52 : decode cX7_isPerfect 52 = .ok (.aload_n 0, 1) := by decide +kernel
set_option maxRecDepth 20000 in
theorem dX7_isPerfect_53 : decode cX7_isPerfect 53 = .ok (.iload_n 1, 1) := by decide +kernel
set_option maxRecDepth 20000 in
theorem dX7_isPerfect_54 : decode cX7_isPerfect 54 = .ok (.invokevirtual 191, 3) := by decide +kernel
set_option maxRecDepth 20000 in
theorem dX7_isPerfect_57 : decode cX7_isPerfect 57 = .ok (.aload_n 0, 1) := by decide +kernel
set_option maxRecDepth 20000 in
theorem dX7_isPerfect_58 : decode cX7_isPerfect 58 = .ok (.iload_n 2, 1) := by decide +kernel
set_option maxRecDepth 20000 in
theorem dX7_isPerfect_59 : decode cX7_isPerfect 59 = .ok (.invokevirtual 191, 3) := by decide +kernel
set_option maxRecDepth 20000 in
theorem dX7_isPerfect_62 : decode cX7_isPerfect 62 = .ok (.if_icmp .ne 5, 3) := by decide +kernel
set_option maxRecDepth 20000 in
theorem dX7_isPerfect_65 : decode cX7_isPerfect 65 = .ok (.iconst 0, 1) := by decide +kernel
set_option maxRecDepth 20000 in
theorem dX7_isPerfect_66 : decode cX7_isPerfect 66 = .ok (.ireturn, 1) := by decide +kernel
set_option maxRecDepth 20000 in
theorem dX7_isPerfect_67 : decode cX7_isPerfect 67 = .ok (.iinc 2 1, 3) := by decide +kernel
set_option maxRecDepth 20000 in
theorem dX7_isPerfect_70 : decode cX7_isPerfect 70 = .ok (.goto (-39), 3) := by decide +kernel
set_option maxRecDepth 20000 in
theorem dX7_isPerfect_73 : decode cX7_isPerfect 73 = .ok (.iinc 1 1, 3) := by decide +kernel
set_option maxRecDepth 20000 in
theorem dX7_isPerfect_76 : decode cX7_isPerfect 76 = .ok (.goto (-74), 3) := by decide +kernel
set_option maxRecDepth 20000 in
theorem dX7_isPerfect_79 : decode cX7_isPerfect 79 = .ok (.iconst 1, 1) := by decide +kernel
set_option maxRecDepth 20000 in
theorem dX7_isPerfect_80 : decode cX7_isPerfect 80 = .ok (.ireturn, 1) := by decide +kernel
set_option maxRecDepth 20000 in
theorem dX7_inside_0 : decode cX7_inside 0 = .ok (.iconst 0, 1) := by decide +kernel
set_option maxRecDepth 20000 in
theorem dX7_inside_1 : decode cX7_inside 1 = .ok (.istore 5, 2) := by decide +kernel
set_option maxRecDepth 20000 in
theorem dX7_inside_3 : decode cX7_inside 3 = .ok (.iconst 0, 1) := by decide +kernel
set_option maxRecDepth 20000 in
theorem dX7_inside_4 : decode cX7_inside 4 = .ok (.istore 6, 2) := by decide +kernel
set_option maxRecDepth 20000 in
theorem dX7_inside_6 : decode cX7_inside 6 = .ok (.iload 6, 2) := by decide +kernel
set_option maxRecDepth 20000 in
theorem dX7_inside_8 : decode cX7_inside 8 = .ok (.aload_n 0, 1) := by decide +kernel
set_option maxRecDepth 20000 in
theorem dX7_inside_9 : decode cX7_inside 9 = .ok (.getfield 104, 3) := by decide +kernel
set_option maxRecDepth 20000 in
theorem dX7_inside_12 : decode cX7_inside 12 = .ok (.if_icmp .ge 121, 3) := by decide +kernel
set_option maxRecDepth 20000 in
theorem dX7_inside_15 : decode cX7_inside 15 = .ok (.aload_n 0, 1) := by decide +kernel
set_option maxRecDepth 20000 in
theorem dX7_inside_16 : decode cX7_inside 16 = .ok (.iload 6, 2) := by decide +kernel
set_option maxRecDepth 20000 in
theorem dX7_inside_18 : decode cX7_inside 18 = .ok (.invokevirtual 188, 3) := by decide +kernel
set_option maxRecDepth 20000 in
theorem dX7_inside_21 : decode cX7_inside 21 = .ok (.ifCond .ne 6, 3) := by decide +kernel
set_option maxRecDepth 20000 in
theorem dX7_inside_24 : decode cX7_inside 24 = .ok (.goto 103, 3) := by decide +kernel
set_option maxRecDepth 20000 in
theorem dX7_inside_27 : decode cX7_inside 27 = .ok (.aload_n 0, 1) := by decide +kernel
set_option maxRecDepth 20000 in
theorem dX7_inside_28 : decode cX7_inside 28 = .ok (.iload 6, 2) := by decide +kernel
set_option maxRecDepth 20000 in
theorem dX7_inside_30 : decode cX7_inside 30 = .ok (.invokevirtual 194, 3) := by decide +kernel
set_option maxRecDepth 20000 in
theorem dX7_inside_33 : decode cX7_inside 33 = .ok (.istore 7, 2) := by decide +kernel
set_option maxRecDepth 20000 in
theorem dX7_inside_35 : decode cX7_inside 35 = .ok (.aload_n 0, 1) := by decide +kernel
set_option maxRecDepth 20000 in
theorem dX7_inside_36 : decode cX7_inside 36 = .ok (.iload 6, 2) := by decide +kernel
set_option maxRecDepth 20000 in
theorem dX7_inside_38 : decode cX7_inside 38 = .ok (.invokevirtual 197, 3) := by decide +kernel
set_option maxRecDepth 20000 in
theorem dX7_inside_41 : decode cX7_inside 41 = .ok (.istore 8, 2) := by decide +kernel
set_option maxRecDepth 20000 in
theorem dX7_inside_43 : decode cX7_inside 43 = .ok (.aload_n 0, 1) := by decide +kernel
set_option maxRecDepth 20000 in
theorem dX7_inside_44 : decode cX7_inside 44 = .ok (.iload 6, 2) := by decide +kernel
set_option maxRecDepth 20000 in
theorem dX7_inside_46 : decode cX7_inside 46 = .ok (.invokevirtual 191, 3) := by decide +kernel
set_option maxRecDepth 20000 in
theorem dX7_inside_49 : decode cX7_inside 49 = .ok (.istore 9, 2) := by decide +kernel
set_option maxRecDepth 20000 in
theorem dX7_inside_51 : decode cX7_inside 51 = .ok (.iload 7, 2) := by decide +kernel
set_option maxRecDepth 20000 in
theorem dX7_inside_53 : decode cX7_inside 53 = .ok (.iload_n 3, 1) := by decide +kernel
set_option maxRecDepth 20000 in
theorem dX7_inside_54 : decode cX7_inside 54 = .ok (.if_icmp .ge 73, 3) := by decide +kernel
set_option maxRecDepth 20000 in
theorem dX7_inside_57 : decode cX7_inside 57 = .ok (.iload 8, 2) := by decide +kernel
set_option maxRecDepth 20000 in
theorem dX7_inside_59 : decode cX7_inside 59 = .ok (.iload 4, 2) := by decide +kernel
set_option maxRecDepth 20000 in
theorem dX7_inside_61 : decode cX7_inside 61 = .ok (.if_icmp .ge 66, 3) := by decide +kernel
set_option maxRecDepth 20000 in
theorem dX7_inside_64 : decode cX7_inside 64 = .ok (.iload 7, 2) := by decide +kernel
set_option maxRecDepth 20000 in
theorem dX7_inside_66 : decode cX7_inside 66 = .ok (.iload 9, 2) := by decide +kernel
set_option maxRecDepth 20000 in
theorem dX7_inside_68 : decode cX7_inside 68 = .ok (.iadd, 1) := by decide +kernel
set_option maxRecDepth 20000 in
theorem dX7_inside_69 : decode cX7_inside 69 = .ok (.iload_n 1, 1) := by decide +kernel
set_option maxRecDepth 20000 in
theorem dX7_inside_70 : decode cX7_inside 70 = .ok (.if_icmp .le 57, 3) := by decide +kernel
set_option maxRecDepth 20000 in
theorem dX7_inside_73 : decode cX7_inside 73 = .ok (.iload 8, 2) := by decide +kernel
set_option maxRecDepth 20000 in
theorem dX7_inside_75 : decode cX7_inside 75 = .ok (.iload 9, 2) := by decide +kernel
set_option maxRecDepth 20000 in
theorem dX7_inside_77 : decode cX7_inside 77 = .ok (.iadd, 1) := by decide +kernel
set_option maxRecDepth 20000 in
theorem dX7_inside_78 : decode cX7_inside 78 = .ok (.iload_n 2, 1) := by decide +kernel
set_option maxRecDepth 20000 in
theorem dX7_inside_79 : decode cX7_inside 79 = .ok (.if_icmp .gt 6, 3) := by decide +kernel
set_option maxRecDepth 20000 in
theorem dX7_inside_82 : decode cX7_inside 82 = .ok (.goto 45, 3) := by decide +kernel
set_option maxRecDepth 20000 in
theorem dX7_inside_85 : decode cX7_inside 85 = .ok (.iload 7, 2) := by decide +kernel
set_option maxRecDepth 20000 in
theorem dX7_inside_87 : decode cX7_inside 87 = .ok (.iload_n 1, 1) := by decide +kernel
set_option maxRecDepth 20000 in
theorem dX7_inside_88 : decode cX7_inside 88 = .ok (.if_icmp .lt 28, 3) := by decide +kernel
set_option maxRecDepth 20000 in
theorem dX7_inside_91 : decode cX7_inside 91 = .ok (.iload 8, 2) := by decide +kernel
set_option maxRecDepth 20000 in
theorem dX7_inside_93 : decode cX7_inside 93 = .ok (.iload_n 2, 1) := by decide +kernel
set_option maxRecDepth 20000 in
theorem dX7_inside_94 : decode cX7_inside 94 = .ok (.if_icmp .lt 22, 3) := by decide +kernel
set_option maxRecDepth 20000 in
theorem dX7_inside_97 : decode cX7_inside 97 = .ok (.iload 7, 2) := by decide +kernel
set_option maxRecDepth 20000 in
theorem dX7_inside_99 : decode cX7_inside 99 = .ok (.iload 9, 2) := by decide +kernel
set_option maxRecDepth 20000 in
theorem dX7_inside_101 : decode cX7_inside 101 = .ok (.iadd, 1) := by decide +kernel
set_option maxRecDepth 20000 in
theorem dX7_inside_102 : decode cX7_inside 102 = .ok (.iload_n 3, 1) := by decide +kernel
set_option maxRecDepth 20000 in
theorem dX7_inside_103 : decode cX7_inside 103 = .ok (.if_icmp .gt 13, 3) := by decide +kernel
set_option maxRecDepth 20000 in
theorem dX7_inside_106 : decode cX7_inside 106 = .ok (.iload 8, 2) := by decide +kernel
set_option maxRecDepth 20000 in
theorem dX7_inside_108 : decode cX7_inside 108 = .ok (.iload 9, 2) := by decide +kernel
set_option maxRecDepth 20000 in
theorem dX7_inside_110 : decode cX7_inside 110 = .ok (.iadd, 1) := by decide +kernel
set_option maxRecDepth 20000 in
theorem dX7_inside_111 : decode cX7_inside 111 = .ok (.iload 4, 2) := by decide +kernel
set_option maxRecDepth 20000 in
theorem dX7_inside_113 : decode cX7_inside 113 = .ok (.if_icmp .le 5, 3) := by decide +kernel
set_option maxRecDepth 20000 in
theorem dX7_inside_116 : decode cX7_inside 116 = .ok (.iconst 0, 1) := by decide +kernel
set_option maxRecDepth 20000 in
theorem dX7_inside_117 : decode cX7_inside 117 = .ok (.ireturn, 1) := by decide +kernel
set_option maxRecDepth 20000 in
theorem dX7_inside_118 : decode cX7_inside 118 = .ok (.iload 5, 2) := by decide +kernel
set_option maxRecDepth 20000 in
theorem dX7_inside_120 : decode cX7_inside 120 = .ok (.iconst 1, 1) := by decide +kernel
set_option maxRecDepth 20000 in
theorem dX7_inside_121 : decode cX7_inside 121 = .ok (.iload 6, 2) := by decide +kernel
set_option maxRecDepth 20000 in
theorem dX7_inside_123 : decode cX7_inside 123 = .ok (.ishl, 1) := by decide +kernel
set_option maxRecDepth 20000 in
theorem dX7_inside_124 : decode cX7_inside 124 = .ok (.ior, 1) := by decide +kernel
set_option maxRecDepth 20000 in
theorem dX7_inside_125 : decode cX7_inside 125 = .ok (.istore 5, 2) := by decide +kernel
set_option maxRecDepth 20000 in
theorem dX7_inside_127 : decode cX7_inside 127 = .ok (.iinc 6 1, 3) := by decide +kernel
set_option maxRecDepth 20000 in
theorem dX7_inside_130 : decode cX7_inside 130 = .ok (.goto (-124), 3) := by decide +kernel
set_option maxRecDepth 20000 in
theorem dX7_inside_133 : decode cX7_inside 133 = .ok (.iload 5, 2) := by decide +kernel
set_option maxRecDepth 20000 in
theorem dX7_inside_135 : decode cX7_inside 135 = .ok (.ireturn, 1) := by decide +kernel
set_option maxRecDepth 20000 in
theorem dX7_ones_0 : decode cX7_ones 0 = .ok (.iconst 0, 1) := by decide +kernel
set_option maxRecDepth 20000 in
theorem dX7_ones_1 : decode cX7_ones 1 = .ok (.istore_n 2, 1) := by decide +kernel
set_option maxRecDepth 20000 in
theorem dX7_ones_2 : decode cX7_ones 2 = .ok (.iconst 0, 1) := by decide +kernel
set_option maxRecDepth 20000 in
theorem dX7_ones_3 : decode cX7_ones 3 = .ok (.istore_n 3, 1) := by decide +kernel
set_option maxRecDepth 20000 in
theorem dX7_ones_4 : decode cX7_ones 4 = .ok (.iload_n 3, 1) := by decide +kernel
set_option maxRecDepth 20000 in
theorem dX7_ones_5 : decode cX7_ones 5 = .ok (.aload_n 0, 1) := by decide +kernel
set_option maxRecDepth 20000 in
theorem dX7_ones_6 : decode cX7_ones 6 = .ok (.getfield 104, 3) := by decide +kernel
set_option maxRecDepth 20000 in
theorem dX7_ones_9 : decode cX7_ones 9 = .ok (.if_icmp .ge 17, 3) := by decide +kernel
set_option maxRecDepth 20000 in
theorem dX7_ones_12 : decode cX7_ones 12 = .ok (.iload_n 2, 1) := by decide +kernel
set_option maxRecDepth 20000 in
theorem dX7_ones_13 : decode cX7_ones 13 = .ok (.iload_n 1, 1) := by decide +kernel
set_option maxRecDepth 20000 in
theorem dX7_ones_14 : decode cX7_ones 14 = .ok (.iload_n 3, 1) := by decide +kernel
set_option maxRecDepth 20000 in
theorem dX7_ones_15 : decode cX7_ones 15 = .ok (.ishr, 1) := by decide +kernel
set_option maxRecDepth 20000 in
theorem dX7_ones_16 : decode cX7_ones 16 = .ok (.iconst 1, 1) := by decide +kernel
set_option maxRecDepth 20000 in
theorem dX7_ones_17 : decode cX7_ones 17 = .ok (.iand, 1) := by decide +kernel
set_option maxRecDepth 20000 in
theorem dX7_ones_18 : decode cX7_ones 18 = .ok (.iadd, 1) := by decide +kernel
set_option maxRecDepth 20000 in
theorem dX7_ones_19 : decode cX7_ones 19 = .ok (.istore_n 2, 1) := by decide +kernel
set_option maxRecDepth 20000 in
theorem dX7_ones_20 : decode cX7_ones 20 = .ok (.iinc 3 1, 3) := by decide +kernel
set_option maxRecDepth 20000 in
theorem dX7_ones_23 : decode cX7_ones 23 = .ok (.goto (-19), 3) := by decide +kernel
set_option maxRecDepth 20000 in
theorem dX7_ones_26 : decode cX7_ones 26 = .ok (.iload_n 2, 1) := by decide +kernel
set_option maxRecDepth 20000 in
theorem dX7_ones_27 : decode cX7_ones 27 = .ok (.ireturn, 1) := by decide +kernel
set_option maxRecDepth 20000 in
theorem dX7_inner_0 : decode cX7_inner 0 = .ok (.aload_n 0, 1) := by decide +kernel
set_option maxRecDepth 20000 in
theorem dX7_inner_1 : decode cX7_inner 1 = .ok (.invokevirtual 200, 3) := by decide +kernel
set_option maxRecDepth 20000 in
theorem dX7_inner_4 : decode cX7_inner 4 = .ok (.istore_n 1, 1) := by decide +kernel
set_option maxRecDepth 20000 in
theorem dX7_inner_5 : decode cX7_inner 5 = .ok (.iconst 0, 1) := by decide +kernel
set_option maxRecDepth 20000 in
theorem dX7_inner_6 : decode cX7_inner 6 = .ok (.istore_n 2, 1) := by decide +kernel
set_option maxRecDepth 20000 in
theorem dX7_inner_7 : decode cX7_inner 7 = .ok (.iconst 0, 1) := by decide +kernel
