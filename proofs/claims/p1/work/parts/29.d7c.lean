set_option maxRecDepth 20000 in
theorem dX7_inner_8 : decode cX7_inner 8 = .ok (.istore_n 3, 1) := by decide +kernel
set_option maxRecDepth 20000 in
theorem dX7_inner_9 : decode cX7_inner 9 = .ok (.iconst 0, 1) := by decide +kernel
set_option maxRecDepth 20000 in
theorem dX7_inner_10 : decode cX7_inner 10 = .ok (.istore 4, 2) := by decide +kernel
set_option maxRecDepth 20000 in
theorem dX7_inner_12 : decode cX7_inner 12 = .ok (.iconst 0, 1) := by decide +kernel
set_option maxRecDepth 20000 in
theorem dX7_inner_13 : decode cX7_inner 13 = .ok (.istore 5, 2) := by decide +kernel
set_option maxRecDepth 20000 in
theorem dX7_inner_15 : decode cX7_inner 15 = .ok (.iconst 0, 1) := by decide +kernel
set_option maxRecDepth 20000 in
theorem dX7_inner_16 : decode cX7_inner 16 = .ok (.istore 6, 2) := by decide +kernel
set_option maxRecDepth 20000 in
theorem dX7_inner_18 : decode cX7_inner 18 = .ok (.iload 6, 2) := by decide +kernel
set_option maxRecDepth 20000 in
theorem dX7_inner_20 : decode cX7_inner 20 = .ok (.aload_n 0, 1) := by decide +kernel
set_option maxRecDepth 20000 in
theorem dX7_inner_21 : decode cX7_inner 21 = .ok (.getfield 104, 3) := by decide +kernel
set_option maxRecDepth 20000 in
theorem dX7_inner_24 : decode cX7_inner 24 = .ok (.if_icmp .ge 289, 3) := by decide +kernel
set_option maxRecDepth 20000 in
theorem dX7_inner_27 : decode cX7_inner 27 = .ok (.iconst 0, 1) := by decide +kernel
set_option maxRecDepth 20000 in
theorem dX7_inner_28 : decode cX7_inner 28 = .ok (.istore 7, 2) := by decide +kernel
set_option maxRecDepth 20000 in
theorem dX7_inner_30 : decode cX7_inner 30 = .ok (.iload 7, 2) := by decide +kernel
set_option maxRecDepth 20000 in
theorem dX7_inner_32 : decode cX7_inner 32 = .ok (.aload_n 0, 1) := by decide +kernel
set_option maxRecDepth 20000 in
theorem dX7_inner_33 : decode cX7_inner 33 = .ok (.getfield 104, 3) := by decide +kernel
set_option maxRecDepth 20000 in
theorem dX7_inner_36 : decode cX7_inner 36 = .ok (.if_icmp .ge 271, 3) := by decide +kernel
set_option maxRecDepth 20000 in
theorem dX7_inner_39 : decode cX7_inner 39 = .ok (.aload_n 0, 1) := by decide +kernel
set_option maxRecDepth 20000 in
theorem dX7_inner_40 : decode cX7_inner 40 = .ok (.iload 6, 2) := by decide +kernel
set_option maxRecDepth 20000 in
theorem dX7_inner_42 : decode cX7_inner 42 = .ok (.invokevirtual 188, 3) := by decide +kernel
set_option maxRecDepth 20000 in
theorem dX7_inner_45 : decode cX7_inner 45 = .ok (.ifCond .eq 262, 3) := by decide +kernel
set_option maxRecDepth 20000 in
theorem dX7_inner_48 : decode cX7_inner 48 = .ok (.iconst 0, 1) := by decide +kernel
set_option maxRecDepth 20000 in
theorem dX7_inner_49 : decode cX7_inner 49 = .ok (.istore 8, 2) := by decide +kernel
set_option maxRecDepth 20000 in
theorem dX7_inner_51 : decode cX7_inner 51 = .ok (.iload 8, 2) := by decide +kernel
set_option maxRecDepth 20000 in
theorem dX7_inner_53 : decode cX7_inner 53 = .ok (.aload_n 0, 1) := by decide +kernel
set_option maxRecDepth 20000 in
theorem dX7_inner_54 : decode cX7_inner 54 = .ok (.getfield 104, 3) := by decide +kernel
set_option maxRecDepth 20000 in
theorem dX7_inner_57 : decode cX7_inner 57 = .ok (.if_icmp .ge 244, 3) := by decide +kernel
set_option maxRecDepth 20000 in
theorem dX7_inner_60 : decode cX7_inner 60 = .ok (.aload_n 0, 1) := by decide +kernel
set_option maxRecDepth 20000 in
theorem dX7_inner_61 : decode cX7_inner 61 = .ok (.iload 7, 2) := by decide +kernel
set_option maxRecDepth 20000 in
theorem dX7_inner_63 : decode cX7_inner 63 = .ok (.invokevirtual 188, 3) := by decide +kernel
set_option maxRecDepth 20000 in
theorem dX7_inner_66 : decode cX7_inner 66 = .ok (.ifCond .eq 235, 3) := by decide +kernel
set_option maxRecDepth 20000 in
theorem dX7_inner_69 : decode cX7_inner 69 = .ok (.iconst 0, 1) := by decide +kernel
set_option maxRecDepth 20000 in
theorem dX7_inner_70 : decode cX7_inner 70 = .ok (.istore 9, 2) := by decide +kernel
set_option maxRecDepth 20000 in
theorem dX7_inner_72 : decode cX7_inner 72 = .ok (.iload 9, 2) := by decide +kernel
set_option maxRecDepth 20000 in
theorem dX7_inner_74 : decode cX7_inner 74 = .ok (.aload_n 0, 1) := by decide +kernel
set_option maxRecDepth 20000 in
theorem dX7_inner_75 : decode cX7_inner 75 = .ok (.getfield 104, 3) := by decide +kernel
set_option maxRecDepth 20000 in
theorem dX7_inner_78 : decode cX7_inner 78 = .ok (.if_icmp .ge 217, 3) := by decide +kernel
set_option maxRecDepth 20000 in
theorem dX7_inner_81 : decode cX7_inner 81 = .ok (.aload_n 0, 1) := by decide +kernel
set_option maxRecDepth 20000 in
theorem dX7_inner_82 : decode cX7_inner 82 = .ok (.iload 8, 2) := by decide +kernel
set_option maxRecDepth 20000 in
theorem dX7_inner_84 : decode cX7_inner 84 = .ok (.invokevirtual 188, 3) := by decide +kernel
set_option maxRecDepth 20000 in
theorem dX7_inner_87 : decode cX7_inner 87 = .ok (.ifCond .eq 208, 3) := by decide +kernel
set_option maxRecDepth 20000 in
theorem dX7_inner_90 : decode cX7_inner 90 = .ok (.aload_n 0, 1) := by decide +kernel
set_option maxRecDepth 20000 in
theorem dX7_inner_91 : decode cX7_inner 91 = .ok (.iload 9, 2) := by decide +kernel
set_option maxRecDepth 20000 in
theorem dX7_inner_93 : decode cX7_inner 93 = .ok (.invokevirtual 188, 3) := by decide +kernel
set_option maxRecDepth 20000 in
theorem dX7_inner_96 : decode cX7_inner 96 = .ok (.ifCond .ne 6, 3) := by decide +kernel
set_option maxRecDepth 20000 in
theorem dX7_inner_99 : decode cX7_inner 99 = .ok (.goto 190, 3) := by decide +kernel
set_option maxRecDepth 20000 in
theorem dX7_inner_102 : decode cX7_inner 102 = .ok (.aload_n 0, 1) := by decide +kernel
set_option maxRecDepth 20000 in
theorem dX7_inner_103 : decode cX7_inner 103 = .ok (.iload 6, 2) := by decide +kernel
set_option maxRecDepth 20000 in
theorem dX7_inner_105 : decode cX7_inner 105 = .ok (.invokevirtual 194, 3) := by decide +kernel
set_option maxRecDepth 20000 in
theorem dX7_inner_108 : decode cX7_inner 108 = .ok (.istore 10, 2) := by decide +kernel
set_option maxRecDepth 20000 in
theorem dX7_inner_110 : decode cX7_inner 110 = .ok (.aload_n 0, 1) := by decide +kernel
set_option maxRecDepth 20000 in
theorem dX7_inner_111 : decode cX7_inner 111 = .ok (.iload 7, 2) := by decide +kernel
set_option maxRecDepth 20000 in
theorem dX7_inner_113 : decode cX7_inner 113 = .ok (.invokevirtual 197, 3) := by decide +kernel
set_option maxRecDepth 20000 in
theorem dX7_inner_116 : decode cX7_inner 116 = .ok (.istore 11, 2) := by decide +kernel
set_option maxRecDepth 20000 in
theorem dX7_inner_118 : decode cX7_inner 118 = .ok (.aload_n 0, 1) := by decide +kernel
set_option maxRecDepth 20000 in
theorem dX7_inner_119 : decode cX7_inner 119 = .ok (.iload 8, 2) := by decide +kernel
set_option maxRecDepth 20000 in
theorem dX7_inner_121 : decode cX7_inner 121 = .ok (.invokevirtual 194, 3) := by decide +kernel
set_option maxRecDepth 20000 in
theorem dX7_inner_124 : decode cX7_inner 124 = .ok (.aload_n 0, 1) := by decide +kernel
set_option maxRecDepth 20000 in
theorem dX7_inner_125 : decode cX7_inner 125 = .ok (.iload 8, 2) := by decide +kernel
set_option maxRecDepth 20000 in
theorem dX7_inner_127 : decode cX7_inner 127 = .ok (.invokevirtual 191, 3) := by decide +kernel
set_option maxRecDepth 20000 in
theorem dX7_inner_130 : decode cX7_inner 130 = .ok (.iadd, 1) := by decide +kernel
set_option maxRecDepth 20000 in
theorem dX7_inner_131 : decode cX7_inner 131 = .ok (.istore 12, 2) := by decide +kernel
set_option maxRecDepth 20000 in
theorem dX7_inner_133 : decode cX7_inner 133 = .ok (.aload_n 0, 1) := by decide +kernel
set_option maxRecDepth 20000 in
theorem dX7_inner_134 : decode cX7_inner 134 = .ok (.iload 9, 2) := by decide +kernel
set_option maxRecDepth 20000 in
theorem dX7_inner_136 : decode cX7_inner 136 = .ok (.invokevirtual 197, 3) := by decide +kernel
set_option maxRecDepth 20000 in
theorem dX7_inner_139 : decode cX7_inner 139 = .ok (.aload_n 0, 1) := by decide +kernel
set_option maxRecDepth 20000 in
theorem dX7_inner_140 : decode cX7_inner 140 = .ok (.iload 9, 2) := by decide +kernel
set_option maxRecDepth 20000 in
theorem dX7_inner_142 : decode cX7_inner 142 = .ok (.invokevirtual 191, 3) := by decide +kernel
set_option maxRecDepth 20000 in
theorem dX7_inner_145 : decode cX7_inner 145 = .ok (.iadd, 1) := by decide +kernel
set_option maxRecDepth 20000 in
theorem dX7_inner_146 : decode cX7_inner 146 = .ok (.istore 13, 2) := by decide +kernel
set_option maxRecDepth 20000 in
theorem dX7_inner_148 : decode cX7_inner 148 = .ok (.iload 10, 2) := by decide +kernel
set_option maxRecDepth 20000 in
theorem dX7_inner_150 : decode cX7_inner 150 = .ok (.iload 12, 2) := by decide +kernel
set_option maxRecDepth 20000 in
theorem dX7_inner_152 : decode cX7_inner 152 = .ok (.if_icmp .ge 137, 3) := by decide +kernel
set_option maxRecDepth 20000 in
theorem dX7_inner_155 : decode cX7_inner 155 = .ok (.iload 11, 2) := by decide +kernel
set_option maxRecDepth 20000 in
theorem dX7_inner_157 : decode cX7_inner 157 = .ok (.iload 13, 2) := by decide +kernel
set_option maxRecDepth 20000 in
theorem dX7_inner_159 : decode cX7_inner 159 = .ok (.if_icmp .lt 6, 3) := by decide +kernel
set_option maxRecDepth 20000 in
theorem dX7_inner_162 : decode cX7_inner 162 = .ok (.goto 127, 3) := by decide +kernel
set_option maxRecDepth 20000 in
theorem dX7_inner_165 : decode cX7_inner 165 = .ok (.aload_n 0, 1) := by decide +kernel
set_option maxRecDepth 20000 in
theorem dX7_inner_166 : decode cX7_inner 166 = .ok (.iload 10, 2) := by decide +kernel
set_option maxRecDepth 20000 in
theorem dX7_inner_168 : decode cX7_inner 168 = .ok (.iload 11, 2) := by decide +kernel
set_option maxRecDepth 20000 in
theorem dX7_inner_170 : decode cX7_inner 170 = .ok (.iload 12, 2) := by decide +kernel
set_option maxRecDepth 20000 in
theorem dX7_inner_172 : decode cX7_inner 172 = .ok (.iload 13, 2) := by decide +kernel
set_option maxRecDepth 20000 in
theorem dX7_inner_174 : decode cX7_inner 174 = .ok (.invokevirtual 203, 3) := by decide +kernel
set_option maxRecDepth 20000 in
theorem dX7_inner_177 : decode cX7_inner 177 = .ok (.istore 14, 2) := by decide +kernel
set_option maxRecDepth 20000 in
theorem dX7_inner_179 : decode cX7_inner 179 = .ok (.aload_n 0, 1) := by decide +kernel
set_option maxRecDepth 20000 in
theorem dX7_inner_180 : decode cX7_inner 180 = .ok (.iload 14, 2) := by decide +kernel
set_option maxRecDepth 20000 in
theorem dX7_inner_182 : decode cX7_inner 182 = .ok (.invokevirtual 207, 3) := by decide +kernel
set_option maxRecDepth 20000 in
theorem dX7_inner_185 : decode cX7_inner 185 = .ok (.istore 15, 2) := by decide +kernel
set_option maxRecDepth 20000 in
theorem dX7_inner_187 : decode cX7_inner 187 = .ok (.iload 15, 2) := by decide +kernel
set_option maxRecDepth 20000 in
theorem dX7_inner_189 : decode cX7_inner 189 = .ok (.iconst 2, 1) := by decide +kernel
set_option maxRecDepth 20000 in
theorem dX7_inner_190 : decode cX7_inner 190 = .ok (.if_icmp .lt 99, 3) := by decide +kernel
set_option maxRecDepth 20000 in
theorem dX7_inner_193 : decode cX7_inner 193 = .ok (.iload 15, 2) := by decide +kernel
set_option maxRecDepth 20000 in
theorem dX7_inner_195 : decode cX7_inner 195 = .ok (.iload_n 1, 1) := by decide +kernel
set_option maxRecDepth 20000 in
theorem dX7_inner_196 : decode cX7_inner 196 = .ok (.if_icmp .ne 6, 3) := by decide +kernel
set_option maxRecDepth 20000 in
theorem dX7_inner_199 : decode cX7_inner 199 = .ok (.goto 90, 3) := by decide +kernel
set_option maxRecDepth 20000 in
theorem dX7_inner_202 : decode cX7_inner 202 = .ok (.aload_n 0, 1) := by decide +kernel
set_option maxRecDepth 20000 in
theorem dX7_inner_203 : decode cX7_inner 203 = .ok (.iload_n 2, 1) := by decide +kernel
set_option maxRecDepth 20000 in
theorem dX7_inner_204 : decode cX7_inner 204 = .ok (.invokevirtual 207, 3) := by decide +kernel
set_option maxRecDepth 20000 in
theorem dX7_inner_207 : decode cX7_inner 207 = .ok (.istore 16, 2) := by decide +kernel
set_option maxRecDepth 20000 in
theorem dX7_inner_209 : decode cX7_inner 209 = .ok (.iload_n 2, 1) := by decide +kernel
set_option maxRecDepth 20000 in
theorem dX7_inner_210 : decode cX7_inner 210 = .ok (.ifCond .eq 50, 3) := by decide +kernel
set_option maxRecDepth 20000 in
theorem dX7_inner_213 : decode cX7_inner 213 = .ok (.iload 15, 2) := by decide +kernel
set_option maxRecDepth 20000 in
theorem dX7_inner_215 : decode cX7_inner 215 = .ok (.iload 16, 2) := by decide +kernel
set_option maxRecDepth 20000 in
theorem dX7_inner_217 : decode cX7_inner 217 = .ok (.if_icmp .lt 43, 3) := by decide +kernel
set_option maxRecDepth 20000 in
theorem dX7_inner_220 : decode cX7_inner 220 = .ok (.iload 15, 2) := by decide +kernel
set_option maxRecDepth 20000 in
theorem dX7_inner_222 : decode cX7_inner 222 = .ok (.iload 16, 2) := by decide +kernel
set_option maxRecDepth 20000 in
theorem dX7_inner_224 : decode cX7_inner 224 = .ok (.if_icmp .ne 40, 3) := by decide +kernel
set_option maxRecDepth 20000 in
theorem dX7_inner_227 : decode cX7_inner 227 = .ok (.iload 10, 2) := by decide +kernel
set_option maxRecDepth 20000 in
theorem dX7_inner_229 : decode cX7_inner 229 = .ok (.iload_n 3, 1) := by decide +kernel
set_option maxRecDepth 20000 in
theorem dX7_inner_230 : decode cX7_inner 230 = .ok (.if_icmp .lt 30, 3) := by decide +kernel
set_option maxRecDepth 20000 in
theorem dX7_inner_233 : decode cX7_inner 233 = .ok (.iload 10, 2) := by decide +kernel
set_option maxRecDepth 20000 in
theorem dX7_inner_235 : decode cX7_inner 235 = .ok (.iload_n 3, 1) := by decide +kernel
set_option maxRecDepth 20000 in
theorem dX7_inner_236 : decode cX7_inner 236 = .ok (.if_icmp .ne 28, 3) := by decide +kernel
set_option maxRecDepth 20000 in
theorem dX7_inner_239 : decode cX7_inner 239 = .ok (.iload 11, 2) := by decide +kernel
set_option maxRecDepth 20000 in
theorem dX7_inner_241 : decode cX7_inner 241 = .ok (.iload 4, 2) := by decide +kernel
set_option maxRecDepth 20000 in
theorem dX7_inner_243 : decode cX7_inner 243 = .ok (.if_icmp .lt 17, 3) := by decide +kernel
set_option maxRecDepth 20000 in
theorem dX7_inner_246 : decode cX7_inner 246 = .ok (.iload 11, 2) := by decide +kernel
set_option maxRecDepth 20000 in
theorem dX7_inner_248 : decode cX7_inner 248 = .ok (.iload 4, 2) := by decide +kernel
set_option maxRecDepth 20000 in
theorem dX7_inner_250 : decode cX7_inner 250 = .ok (.if_icmp .ne 14, 3) := by decide +kernel
set_option maxRecDepth 20000 in
theorem dX7_inner_253 : decode cX7_inner 253 = .ok (.iload 12, 2) := by decide +kernel
set_option maxRecDepth 20000 in
theorem dX7_inner_255 : decode cX7_inner 255 = .ok (.iload 5, 2) := by decide +kernel
set_option maxRecDepth 20000 in
theorem dX7_inner_257 : decode cX7_inner 257 = .ok (.if_icmp .ge 7, 3) := by decide +kernel
set_option maxRecDepth 20000 in
theorem dX7_inner_260 : decode cX7_inner 260 = .ok (.iconst 1, 1) := by decide +kernel
set_option maxRecDepth 20000 in
theorem dX7_inner_261 : decode cX7_inner 261 = .ok (.goto 4, 3) := by decide +kernel
set_option maxRecDepth 20000 in
theorem dX7_inner_264 : decode cX7_inner 264 = .ok (.iconst 0, 1) := by decide +kernel
set_option maxRecDepth 20000 in
theorem dX7_inner_265 : decode cX7_inner 265 = .ok (.istore 17, 2) := by decide +kernel
set_option maxRecDepth 20000 in
theorem dX7_inner_267 : decode cX7_inner 267 = .ok (.iload 17, 2) := by decide +kernel
set_option maxRecDepth 20000 in
theorem dX7_inner_269 : decode cX7_inner 269 = .ok (.ifCond .ne 6, 3) := by decide +kernel
set_option maxRecDepth 20000 in
theorem dX7_inner_272 : decode cX7_inner 272 = .ok (.goto 17, 3) := by decide +kernel
set_option maxRecDepth 20000 in
theorem dX7_inner_275 : decode cX7_inner 275 = .ok (.iload 14, 2) := by decide +kernel
set_option maxRecDepth 20000 in
theorem dX7_inner_277 : decode cX7_inner 277 = .ok (.istore_n 2, 1) := by decide +kernel
set_option maxRecDepth 20000 in
theorem dX7_inner_278 : decode cX7_inner 278 = .ok (.iload 10, 2) := by decide +kernel
set_option maxRecDepth 20000 in
theorem dX7_inner_280 : decode cX7_inner 280 = .ok (.istore_n 3, 1) := by decide +kernel
set_option maxRecDepth 20000 in
theorem dX7_inner_281 : decode cX7_inner 281 = .ok (.iload 11, 2) := by decide +kernel
set_option maxRecDepth 20000 in
theorem dX7_inner_283 : decode cX7_inner 283 = .ok (.istore 4, 2) := by decide +kernel
set_option maxRecDepth 20000 in
theorem dX7_inner_285 : decode cX7_inner 285 = .ok (.iload 12, 2) := by decide +kernel
set_option maxRecDepth 20000 in
theorem dX7_inner_287 : decode cX7_inner 287 = .ok (.istore 5, 2) := by decide +kernel
set_option maxRecDepth 20000 in
theorem dX7_inner_289 : decode cX7_inner 289 = .ok (.iinc 9 1, 3) := by decide +kernel
set_option maxRecDepth 20000 in
theorem dX7_inner_292 : decode cX7_inner 292 = .ok (.goto (-220), 3) := by decide +kernel
set_option maxRecDepth 20000 in
theorem dX7_inner_295 : decode cX7_inner 295 = .ok (.iinc 8 1, 3) := by decide +kernel
set_option maxRecDepth 20000 in
theorem dX7_inner_298 : decode cX7_inner 298 = .ok (.goto (-247), 3) := by decide +kernel
set_option maxRecDepth 20000 in
theorem dX7_inner_301 : decode cX7_inner 301 = .ok (.iinc 7 1, 3) := by decide +kernel
set_option maxRecDepth 20000 in
theorem dX7_inner_304 : decode cX7_inner 304 = .ok (.goto (-274), 3) := by decide +kernel
set_option maxRecDepth 20000 in
theorem dX7_inner_307 : decode cX7_inner 307 = .ok (.iinc 6 1, 3) := by decide +kernel
set_option maxRecDepth 20000 in
theorem dX7_inner_310 : decode cX7_inner 310 = .ok (.goto (-292), 3) := by decide +kernel
set_option maxRecDepth 20000 in
theorem dX7_inner_313 : decode cX7_inner 313 = .ok (.iload_n 2, 1) := by decide +kernel
set_option maxRecDepth 20000 in
theorem dX7_inner_314 : decode cX7_inner 314 = .ok (.ireturn, 1) := by decide +kernel
set_option maxRecDepth 20000 in
theorem dX7_about_0 : decode cX7_about 0 = .ok (.aload_n 0, 1) := by decide +kernel
set_option maxRecDepth 20000 in
theorem dX7_about_1 : decode cX7_about 1 = .ok (.invokevirtual 210, 3) := by decide +kernel
set_option maxRecDepth 20000 in
theorem dX7_about_4 : decode cX7_about 4 = .ok (.ifCond .ne 6, 3) := by decide +kernel
set_option maxRecDepth 20000 in
theorem dX7_about_7 : decode cX7_about 7 = .ok (.ldc 107, 2) := by decide +kernel
set_option maxRecDepth 20000 in
theorem dX7_about_9 : decode cX7_about 9 = .ok (.ireturn, 1) := by decide +kernel
set_option maxRecDepth 20000 in
theorem dX7_about_10 : decode cX7_about 10 = .ok (.iconst 0, 1) := by decide +kernel
set_option maxRecDepth 20000 in
theorem dX7_about_11 : decode cX7_about 11 = .ok (.istore_n 1, 1) := by decide +kernel
set_option maxRecDepth 20000 in
theorem dX7_about_12 : decode cX7_about 12 = .ok (.iload_n 1, 1) := by decide +kernel
set_option maxRecDepth 20000 in
theorem dX7_about_13 : decode cX7_about 13 = .ok (.aload_n 0, 1) := by decide +kernel
set_option maxRecDepth 20000 in
theorem dX7_about_14 : decode cX7_about 14 = .ok (.getfield 104, 3) := by decide +kernel
set_option maxRecDepth 20000 in
theorem dX7_about_17 : decode cX7_about 17 = .ok (.if_icmp .ge 42, 3) := by decide +kernel
set_option maxRecDepth 20000 in
theorem dX7_about_20 : decode cX7_about 20 = .ok (.aload_n 0, 1) := by decide +kernel
set_option maxRecDepth 20000 in
theorem dX7_about_21 : decode cX7_about 21 = .ok (.getfield 20, 3) := by decide +kernel
set_option maxRecDepth 20000 in
theorem dX7_about_24 : decode cX7_about 24 = .ok (.iload_n 1, 1) := by decide +kernel
set_option maxRecDepth 20000 in
theorem dX7_about_25 : decode cX7_about 25 = .ok (.baload, 1) := by decide +kernel
set_option maxRecDepth 20000 in
theorem dX7_about_26 : decode cX7_about 26 = .ok (.ifCond .ne 24, 3) := by decide +kernel
set_option maxRecDepth 20000 in
theorem dX7_about_29 : decode cX7_about 29 = .ok (.aload_n 0, 1) := by decide +kernel
set_option maxRecDepth 20000 in
theorem dX7_about_30 : decode cX7_about 30 = .ok (.getfield 66, 3) := by decide +kernel
set_option maxRecDepth 20000 in
theorem dX7_about_33 : decode cX7_about 33 = .ok (.iconst 2, 1) := by decide +kernel
set_option maxRecDepth 20000 in
theorem dX7_about_34 : decode cX7_about 34 = .ok (.iload_n 1, 1) := by decide +kernel
set_option maxRecDepth 20000 in
theorem dX7_about_35 : decode cX7_about 35 = .ok (.imul, 1) := by decide +kernel
set_option maxRecDepth 20000 in
theorem dX7_about_36 : decode cX7_about 36 = .ok (.iaload, 1) := by decide +kernel
set_option maxRecDepth 20000 in
theorem dX7_about_37 : decode cX7_about 37 = .ok (.aload_n 0, 1) := by decide +kernel
set_option maxRecDepth 20000 in
theorem dX7_about_38 : decode cX7_about 38 = .ok (.getfield 66, 3) := by decide +kernel
set_option maxRecDepth 20000 in
theorem dX7_about_41 : decode cX7_about 41 = .ok (.iconst 2, 1) := by decide +kernel
set_option maxRecDepth 20000 in
theorem dX7_about_42 : decode cX7_about 42 = .ok (.iload_n 1, 1) := by decide +kernel
set_option maxRecDepth 20000 in
theorem dX7_about_43 : decode cX7_about 43 = .ok (.imul, 1) := by decide +kernel
set_option maxRecDepth 20000 in
theorem dX7_about_44 : decode cX7_about 44 = .ok (.iconst 1, 1) := by decide +kernel
set_option maxRecDepth 20000 in
theorem dX7_about_45 : decode cX7_about 45 = .ok (.iadd, 1) := by decide +kernel
set_option maxRecDepth 20000 in
theorem dX7_about_46 : decode cX7_about 46 = .ok (.iaload, 1) := by decide +kernel
set_option maxRecDepth 20000 in
theorem dX7_about_47 : decode cX7_about 47 = .ok (.if_icmp .ne 6, 3) := by decide +kernel
set_option maxRecDepth 20000 in
theorem dX7_about_50 : decode cX7_about 50 = .ok (.ldc 107, 2) := by decide +kernel
set_option maxRecDepth 20000 in
theorem dX7_about_52 : decode cX7_about 52 = .ok (.ireturn, 1) := by decide +kernel
set_option maxRecDepth 20000 in
theorem dX7_about_53 : decode cX7_about 53 = .ok (.iinc 1 1, 3) := by decide +kernel
set_option maxRecDepth 20000 in
theorem dX7_about_56 : decode cX7_about 56 = .ok (.goto (-44), 3) := by decide +kernel
set_option maxRecDepth 20000 in
theorem dX7_about_59 : decode cX7_about 59 = .ok (.aload_n 0, 1) := by decide +kernel
set_option maxRecDepth 20000 in
theorem dX7_about_60 : decode cX7_about 60 = .ok (.getfield 136, 3) := by decide +kernel
set_option maxRecDepth 20000 in
theorem dX7_about_63 : decode cX7_about 63 = .ok (.bipush 12, 2) := by decide +kernel
set_option maxRecDepth 20000 in
theorem dX7_about_65 : decode cX7_about 65 = .ok (.if_icmp .le 6, 3) := by decide +kernel
set_option maxRecDepth 20000 in
theorem dX7_about_68 : decode cX7_about 68 = .ok (.ldc 107, 2) := by decide +kernel
set_option maxRecDepth 20000 in
theorem dX7_about_70 : decode cX7_about 70 = .ok (.ireturn, 1) := by decide +kernel
set_option maxRecDepth 20000 in
theorem dX7_about_71 : decode cX7_about 71 = .ok (.iconst 0, 1) := by decide +kernel
set_option maxRecDepth 20000 in
theorem dX7_about_72 : decode cX7_about 72 = .ok (.istore_n 1, 1) := by decide +kernel
set_option maxRecDepth 20000 in
theorem dX7_about_73 : decode cX7_about 73 = .ok (.iload_n 1, 1) := by decide +kernel
set_option maxRecDepth 20000 in
theorem dX7_about_74 : decode cX7_about 74 = .ok (.aload_n 0, 1) := by decide +kernel
set_option maxRecDepth 20000 in
theorem dX7_about_75 : decode cX7_about 75 = .ok (.getfield 136, 3) := by decide +kernel
set_option maxRecDepth 20000 in
theorem dX7_about_78 : decode cX7_about 78 = .ok (.if_icmp .ge 87, 3) := by decide +kernel
set_option maxRecDepth 20000 in
theorem dX7_about_81 : decode cX7_about 81 = .ok (.iconst 0, 1) := by decide +kernel
set_option maxRecDepth 20000 in
theorem dX7_about_82 : decode cX7_about 82 = .ok (.istore_n 2, 1) := by decide +kernel
set_option maxRecDepth 20000 in
theorem dX7_about_83 : decode cX7_about 83 = .ok (.aload_n 0, 1) := by decide +kernel
set_option maxRecDepth 20000 in
theorem dX7_about_84 : decode cX7_about 84 = .ok (.getfield 66, 3) := by decide +kernel
set_option maxRecDepth 20000 in
theorem dX7_about_87 : decode cX7_about 87 = .ok (.iload_n 2, 1) := by decide +kernel
set_option maxRecDepth 20000 in
theorem dX7_about_88 : decode cX7_about 88 = .ok (.iaload, 1) := by decide +kernel
set_option maxRecDepth 20000 in
theorem dX7_about_89 : decode cX7_about 89 = .ok (.iload_n 1, 1) := by decide +kernel
set_option maxRecDepth 20000 in
theorem dX7_about_90 : decode cX7_about 90 = .ok (.if_icmp .eq 9, 3) := by decide +kernel
set_option maxRecDepth 20000 in
theorem dX7_about_93 : decode cX7_about 93 = .ok (.iinc 2 1, 3) := by decide +kernel
set_option maxRecDepth 20000 in
theorem dX7_about_96 : decode cX7_about 96 = .ok (.goto (-13), 3) := by decide +kernel
set_option maxRecDepth 20000 in
theorem dX7_about_99 : decode cX7_about 99 = .ok (.iconst 0, 1) := by decide +kernel
set_option maxRecDepth 20000 in
theorem dX7_about_100 : decode cX7_about 100 = .ok (.istore_n 3, 1) := by decide +kernel
set_option maxRecDepth 20000 in
theorem dX7_about_101 : decode cX7_about 101 = .ok (.iload_n 2, 1) := by decide +kernel
set_option maxRecDepth 20000 in
theorem dX7_about_102 : decode cX7_about 102 = .ok (.istore 4, 2) := by decide +kernel
set_option maxRecDepth 20000 in
theorem dX7_about_104 : decode cX7_about 104 = .ok (.aload_n 0, 1) := by decide +kernel
set_option maxRecDepth 20000 in
theorem dX7_about_105 : decode cX7_about 105 = .ok (.getfield 82, 3) := by decide +kernel
set_option maxRecDepth 20000 in
theorem dX7_about_108 : decode cX7_about 108 = .ok (.bipush 22, 2) := by decide +kernel
set_option maxRecDepth 20000 in
theorem dX7_about_110 : decode cX7_about 110 = .ok (.iload_n 1, 1) := by decide +kernel
set_option maxRecDepth 20000 in
theorem dX7_about_111 : decode cX7_about 111 = .ok (.imul, 1) := by decide +kernel
set_option maxRecDepth 20000 in
theorem dX7_about_112 : decode cX7_about 112 = .ok (.iload_n 3, 1) := by decide +kernel
set_option maxRecDepth 20000 in
theorem dX7_about_113 : decode cX7_about 113 = .ok (.iadd, 1) := by decide +kernel
set_option maxRecDepth 20000 in
theorem dX7_about_114 : decode cX7_about 114 = .ok (.iload 4, 2) := by decide +kernel
set_option maxRecDepth 20000 in
theorem dX7_about_116 : decode cX7_about 116 = .ok (.iconst 2, 1) := by decide +kernel
set_option maxRecDepth 20000 in
theorem dX7_about_117 : decode cX7_about 117 = .ok (.idiv, 1) := by decide +kernel
set_option maxRecDepth 20000 in
theorem dX7_about_118 : decode cX7_about 118 = .ok (.iastore, 1) := by decide +kernel
set_option maxRecDepth 20000 in
theorem dX7_about_119 : decode cX7_about 119 = .ok (.iinc 3 1, 3) := by decide +kernel
set_option maxRecDepth 20000 in
theorem dX7_about_122 : decode cX7_about 122 = .ok (.iconst 0, 1) := by decide +kernel
set_option maxRecDepth 20000 in
theorem dX7_about_123 : decode cX7_about 123 = .ok (.istore 5, 2) := by decide +kernel
set_option maxRecDepth 20000 in
theorem dX7_about_125 : decode cX7_about 125 = .ok (.aload_n 0, 1) := by decide +kernel
set_option maxRecDepth 20000 in
theorem dX7_about_126 : decode cX7_about 126 = .ok (.iload 5, 2) := by decide +kernel
set_option maxRecDepth 20000 in
theorem dX7_about_128 : decode cX7_about 128 = .ok (.invokevirtual 139, 3) := by decide +kernel
set_option maxRecDepth 20000 in
theorem dX7_about_131 : decode cX7_about 131 = .ok (.iload 4, 2) := by decide +kernel
set_option maxRecDepth 20000 in
theorem dX7_about_133 : decode cX7_about 133 = .ok (.if_icmp .eq 9, 3) := by decide +kernel
set_option maxRecDepth 20000 in
theorem dX7_about_136 : decode cX7_about 136 = .ok (.iinc 5 1, 3) := by decide +kernel
set_option maxRecDepth 20000 in
theorem dX7_about_139 : decode cX7_about 139 = .ok (.goto (-14), 3) := by decide +kernel
set_option maxRecDepth 20000 in
theorem dX7_about_142 : decode cX7_about 142 = .ok (.iload 5, 2) := by decide +kernel
set_option maxRecDepth 20000 in
theorem dX7_about_144 : decode cX7_about 144 = .ok (.istore 4, 2) := by decide +kernel
set_option maxRecDepth 20000 in
theorem dX7_about_146 : decode cX7_about 146 = .ok (.iload 4, 2) := by decide +kernel
set_option maxRecDepth 20000 in
theorem dX7_about_148 : decode cX7_about 148 = .ok (.iload_n 2, 1) := by decide +kernel
set_option maxRecDepth 20000 in
theorem dX7_about_149 : decode cX7_about 149 = .ok (.if_icmp .ne (-45), 3) := by decide +kernel
set_option maxRecDepth 20000 in
theorem dX7_about_152 : decode cX7_about 152 = .ok (.aload_n 0, 1) := by decide +kernel
set_option maxRecDepth 20000 in
theorem dX7_about_153 : decode cX7_about 153 = .ok (.getfield 85, 3) := by decide +kernel
set_option maxRecDepth 20000 in
theorem dX7_about_156 : decode cX7_about 156 = .ok (.iload_n 1, 1) := by decide +kernel
set_option maxRecDepth 20000 in
theorem dX7_about_157 : decode cX7_about 157 = .ok (.iload_n 3, 1) := by decide +kernel
set_option maxRecDepth 20000 in
theorem dX7_about_158 : decode cX7_about 158 = .ok (.iastore, 1) := by decide +kernel
set_option maxRecDepth 20000 in
theorem dX7_about_159 : decode cX7_about 159 = .ok (.iinc 1 1, 3) := by decide +kernel
set_option maxRecDepth 20000 in
theorem dX7_about_162 : decode cX7_about 162 = .ok (.goto (-89), 3) := by decide +kernel
set_option maxRecDepth 20000 in
theorem dX7_about_165 : decode cX7_about 165 = .ok (.iconst 0, 1) := by decide +kernel
set_option maxRecDepth 20000 in
theorem dX7_about_166 : decode cX7_about 166 = .ok (.istore_n 1, 1) := by decide +kernel
set_option maxRecDepth 20000 in
theorem dX7_about_167 : decode cX7_about 167 = .ok (.iload_n 1, 1) := by decide +kernel
set_option maxRecDepth 20000 in
theorem dX7_about_168 : decode cX7_about 168 = .ok (.sipush 264, 3) := by decide +kernel
set_option maxRecDepth 20000 in
theorem dX7_about_171 : decode cX7_about 171 = .ok (.if_icmp .ge 21, 3) := by decide +kernel
set_option maxRecDepth 20000 in
theorem dX7_about_174 : decode cX7_about 174 = .ok (.aload_n 0, 1) := by decide +kernel
set_option maxRecDepth 20000 in
theorem dX7_about_175 : decode cX7_about 175 = .ok (.getfield 24, 3) := by decide +kernel
set_option maxRecDepth 20000 in
theorem dX7_about_178 : decode cX7_about 178 = .ok (.iload_n 1, 1) := by decide +kernel
set_option maxRecDepth 20000 in
theorem dX7_about_179 : decode cX7_about 179 = .ok (.aload_n 0, 1) := by decide +kernel
set_option maxRecDepth 20000 in
theorem dX7_about_180 : decode cX7_about 180 = .ok (.getfield 82, 3) := by decide +kernel
set_option maxRecDepth 20000 in
theorem dX7_about_183 : decode cX7_about 183 = .ok (.iload_n 1, 1) := by decide +kernel
set_option maxRecDepth 20000 in
theorem dX7_about_184 : decode cX7_about 184 = .ok (.iaload, 1) := by decide +kernel
set_option maxRecDepth 20000 in
theorem dX7_about_185 : decode cX7_about 185 = .ok (.iastore, 1) := by decide +kernel
set_option maxRecDepth 20000 in
theorem dX7_about_186 : decode cX7_about 186 = .ok (.iinc 1 1, 3) := by decide +kernel
set_option maxRecDepth 20000 in
theorem dX7_about_189 : decode cX7_about 189 = .ok (.goto (-22), 3) := by decide +kernel
set_option maxRecDepth 20000 in
theorem dX7_about_192 : decode cX7_about 192 = .ok (.iconst 0, 1) := by decide +kernel
set_option maxRecDepth 20000 in
theorem dX7_about_193 : decode cX7_about 193 = .ok (.istore_n 1, 1) := by decide +kernel
set_option maxRecDepth 20000 in
theorem dX7_about_194 : decode cX7_about 194 = .ok (.iload_n 1, 1) := by decide +kernel
set_option maxRecDepth 20000 in
theorem dX7_about_195 : decode cX7_about 195 = .ok (.aload_n 0, 1) := by decide +kernel
set_option maxRecDepth 20000 in
theorem dX7_about_196 : decode cX7_about 196 = .ok (.getfield 136, 3) := by decide +kernel
set_option maxRecDepth 20000 in
theorem dX7_about_199 : decode cX7_about 199 = .ok (.if_icmp .ge 21, 3) := by decide +kernel
set_option maxRecDepth 20000 in
theorem dX7_about_202 : decode cX7_about 202 = .ok (.aload_n 0, 1) := by decide +kernel
set_option maxRecDepth 20000 in
theorem dX7_about_203 : decode cX7_about 203 = .ok (.getfield 27, 3) := by decide +kernel
set_option maxRecDepth 20000 in
theorem dX7_about_206 : decode cX7_about 206 = .ok (.iload_n 1, 1) := by decide +kernel
set_option maxRecDepth 20000 in
theorem dX7_about_207 : decode cX7_about 207 = .ok (.aload_n 0, 1) := by decide +kernel
set_option maxRecDepth 20000 in
theorem dX7_about_208 : decode cX7_about 208 = .ok (.getfield 85, 3) := by decide +kernel
set_option maxRecDepth 20000 in
theorem dX7_about_211 : decode cX7_about 211 = .ok (.iload_n 1, 1) := by decide +kernel
set_option maxRecDepth 20000 in
theorem dX7_about_212 : decode cX7_about 212 = .ok (.iaload, 1) := by decide +kernel
set_option maxRecDepth 20000 in
theorem dX7_about_213 : decode cX7_about 213 = .ok (.iastore, 1) := by decide +kernel
set_option maxRecDepth 20000 in
theorem dX7_about_214 : decode cX7_about 214 = .ok (.iinc 1 1, 3) := by decide +kernel
set_option maxRecDepth 20000 in
theorem dX7_about_217 : decode cX7_about 217 = .ok (.goto (-23), 3) := by decide +kernel
set_option maxRecDepth 20000 in
theorem dX7_about_220 : decode cX7_about 220 = .ok (.iconst 0, 1) := by decide +kernel
set_option maxRecDepth 20000 in
theorem dX7_about_221 : decode cX7_about 221 = .ok (.istore_n 1, 1) := by decide +kernel
set_option maxRecDepth 20000 in
theorem dX7_about_222 : decode cX7_about 222 = .ok (.iload_n 1, 1) := by decide +kernel
set_option maxRecDepth 20000 in
theorem dX7_about_223 : decode cX7_about 223 = .ok (.aload_n 0, 1) := by decide +kernel
set_option maxRecDepth 20000 in
theorem dX7_about_224 : decode cX7_about 224 = .ok (.getfield 104, 3) := by decide +kernel
set_option maxRecDepth 20000 in
theorem dX7_about_227 : decode cX7_about 227 = .ok (.if_icmp .ge 46, 3) := by decide +kernel
set_option maxRecDepth 20000 in
theorem dX7_about_230 : decode cX7_about 230 = .ok (.aload_n 0, 1) := by decide +kernel
set_option maxRecDepth 20000 in
theorem dX7_about_231 : decode cX7_about 231 = .ok (.getfield 13, 3) := by decide +kernel
set_option maxRecDepth 20000 in
theorem dX7_about_234 : decode cX7_about 234 = .ok (.iload_n 1, 1) := by decide +kernel
set_option maxRecDepth 20000 in
theorem dX7_about_235 : decode cX7_about 235 = .ok (.aload_n 0, 1) := by decide +kernel
set_option maxRecDepth 20000 in
theorem dX7_about_236 : decode cX7_about 236 = .ok (.getfield 66, 3) := by decide +kernel
set_option maxRecDepth 20000 in
theorem dX7_about_239 : decode cX7_about 239 = .ok (.iconst 2, 1) := by decide +kernel
set_option maxRecDepth 20000 in
theorem dX7_about_240 : decode cX7_about 240 = .ok (.iload_n 1, 1) := by decide +kernel
set_option maxRecDepth 20000 in
theorem dX7_about_241 : decode cX7_about 241 = .ok (.imul, 1) := by decide +kernel
set_option maxRecDepth 20000 in
theorem dX7_about_242 : decode cX7_about 242 = .ok (.iaload, 1) := by decide +kernel
set_option maxRecDepth 20000 in
theorem dX7_about_243 : decode cX7_about 243 = .ok (.iastore, 1) := by decide +kernel
set_option maxRecDepth 20000 in
theorem dX7_about_244 : decode cX7_about 244 = .ok (.aload_n 0, 1) := by decide +kernel
set_option maxRecDepth 20000 in
theorem dX7_about_245 : decode cX7_about 245 = .ok (.getfield 17, 3) := by decide +kernel
set_option maxRecDepth 20000 in
theorem dX7_about_248 : decode cX7_about 248 = .ok (.iload_n 1, 1) := by decide +kernel
set_option maxRecDepth 20000 in
theorem dX7_about_249 : decode cX7_about 249 = .ok (.aload_n 0, 1) := by decide +kernel
set_option maxRecDepth 20000 in
theorem dX7_about_250 : decode cX7_about 250 = .ok (.getfield 66, 3) := by decide +kernel
set_option maxRecDepth 20000 in
theorem dX7_about_253 : decode cX7_about 253 = .ok (.iconst 2, 1) := by decide +kernel
set_option maxRecDepth 20000 in
theorem dX7_about_254 : decode cX7_about 254 = .ok (.iload_n 1, 1) := by decide +kernel
set_option maxRecDepth 20000 in
theorem dX7_about_255 : decode cX7_about 255 = .ok (.imul, 1) := by decide +kernel
set_option maxRecDepth 20000 in
theorem dX7_about_256 : decode cX7_about 256 = .ok (.iconst 1, 1) := by decide +kernel
set_option maxRecDepth 20000 in
theorem dX7_about_257 : decode cX7_about 257 = .ok (.iadd, 1) := by decide +kernel
set_option maxRecDepth 20000 in
theorem dX7_about_258 : decode cX7_about 258 = .ok (.iaload, 1) := by decide +kernel
set_option maxRecDepth 20000 in
theorem dX7_about_259 : decode cX7_about 259 = .ok (.iastore, 1) := by decide +kernel
set_option maxRecDepth 20000 in
theorem dX7_about_260 : decode cX7_about 260 = .ok (.aload_n 0, 1) := by decide +kernel
set_option maxRecDepth 20000 in
theorem dX7_about_261 : decode cX7_about 261 = .ok (.getfield 30, 3) := by decide +kernel
set_option maxRecDepth 20000 in
theorem dX7_about_264 : decode cX7_about 264 = .ok (.iload_n 1, 1) := by decide +kernel
set_option maxRecDepth 20000 in
theorem dX7_about_265 : decode cX7_about 265 = .ok (.iconst 0, 1) := by decide +kernel
set_option maxRecDepth 20000 in
theorem dX7_about_266 : decode cX7_about 266 = .ok (.iastore, 1) := by decide +kernel
set_option maxRecDepth 20000 in
theorem dX7_about_267 : decode cX7_about 267 = .ok (.iinc 1 1, 3) := by decide +kernel
set_option maxRecDepth 20000 in
theorem dX7_about_270 : decode cX7_about 270 = .ok (.goto (-48), 3) := by decide +kernel
set_option maxRecDepth 20000 in
theorem dX7_about_273 : decode cX7_about 273 = .ok (.aload_n 0, 1) := by decide +kernel
set_option maxRecDepth 20000 in
theorem dX7_about_274 : decode cX7_about 274 = .ok (.aload_n 0, 1) := by decide +kernel
set_option maxRecDepth 20000 in
theorem dX7_about_275 : decode cX7_about 275 = .ok (.getfield 136, 3) := by decide +kernel
set_option maxRecDepth 20000 in
theorem dX7_about_278 : decode cX7_about 278 = .ok (.putfield 97, 3) := by decide +kernel
set_option maxRecDepth 20000 in
theorem dX7_about_281 : decode cX7_about 281 = .ok (.iconst 0, 1) := by decide +kernel
set_option maxRecDepth 20000 in
theorem dX7_about_282 : decode cX7_about 282 = .ok (.istore_n 1, 1) := by decide +kernel
set_option maxRecDepth 20000 in
theorem dX7_about_283 : decode cX7_about 283 = .ok (.iload_n 1, 1) := by decide +kernel
set_option maxRecDepth 20000 in
theorem dX7_about_284 : decode cX7_about 284 = .ok (.bipush 12, 2) := by decide +kernel
set_option maxRecDepth 20000 in
theorem dX7_about_286 : decode cX7_about 286 = .ok (.if_icmp .ge 16, 3) := by decide +kernel
set_option maxRecDepth 20000 in
theorem dX7_about_289 : decode cX7_about 289 = .ok (.aload_n 0, 1) := by decide +kernel
set_option maxRecDepth 20000 in
theorem dX7_about_290 : decode cX7_about 290 = .ok (.getfield 33, 3) := by decide +kernel
set_option maxRecDepth 20000 in
theorem dX7_about_293 : decode cX7_about 293 = .ok (.iload_n 1, 1) := by decide +kernel
set_option maxRecDepth 20000 in
theorem dX7_about_294 : decode cX7_about 294 = .ok (.iconst 0, 1) := by decide +kernel
set_option maxRecDepth 20000 in
theorem dX7_about_295 : decode cX7_about 295 = .ok (.iastore, 1) := by decide +kernel
set_option maxRecDepth 20000 in
theorem dX7_about_296 : decode cX7_about 296 = .ok (.iinc 1 1, 3) := by decide +kernel
set_option maxRecDepth 20000 in
theorem dX7_about_299 : decode cX7_about 299 = .ok (.goto (-16), 3) := by decide +kernel
set_option maxRecDepth 20000 in
theorem dX7_about_302 : decode cX7_about 302 = .ok (.aload_n 0, 1) := by decide +kernel
set_option maxRecDepth 20000 in
theorem dX7_about_303 : decode cX7_about 303 = .ok (.getfield 97, 3) := by decide +kernel
set_option maxRecDepth 20000 in
theorem dX7_about_306 : decode cX7_about 306 = .ok (.ireturn, 1) := by decide +kernel
set_option maxRecDepth 20000 in
theorem dX7_cause_0 : decode cX7_cause 0 = .ok (.aload_n 0, 1) := by decide +kernel
set_option maxRecDepth 20000 in
theorem dX7_cause_1 : decode cX7_cause 1 = .ok (.invokevirtual 163, 3) := by decide +kernel
set_option maxRecDepth 20000 in
theorem dX7_cause_4 : decode cX7_cause 4 = .ok (.ireturn, 1) := by decide +kernel
set_option maxRecDepth 20000 in
theorem dX7_of_0 : decode cX7_of 0 = .ok (.aload_n 0, 1) := by decide +kernel
set_option maxRecDepth 20000 in
theorem dX7_of_1 : decode cX7_of 1 = .ok (.iload_n 1, 1) := by decide +kernel
set_option maxRecDepth 20000 in
theorem dX7_of_2 : decode cX7_of 2 = .ok (.invokevirtual 112, 3) := by decide +kernel
set_option maxRecDepth 20000 in
theorem dX7_of_5 : decode cX7_of 5 = .ok (.ifCond .ne 6, 3) := by decide +kernel
set_option maxRecDepth 20000 in
theorem dX7_of_8 : decode cX7_of 8 = .ok (.ldc 107, 2) := by decide +kernel
set_option maxRecDepth 20000 in
theorem dX7_of_10 : decode cX7_of 10 = .ok (.ireturn, 1) := by decide +kernel
set_option maxRecDepth 20000 in
theorem dX7_of_11 : decode cX7_of 11 = .ok (.iload_n 2, 1) := by decide +kernel
set_option maxRecDepth 20000 in
theorem dX7_of_12 : decode cX7_of 12 = .ok (.ifCond .ne 12, 3) := by decide +kernel
set_option maxRecDepth 20000 in
theorem dX7_of_15 : decode cX7_of 15 = .ok (.aload_n 0, 1) := by decide +kernel
set_option maxRecDepth 20000 in
theorem dX7_of_16 : decode cX7_of 16 = .ok (.getfield 13, 3) := by decide +kernel
set_option maxRecDepth 20000 in
theorem dX7_of_19 : decode cX7_of 19 = .ok (.iload_n 1, 1) := by decide +kernel
set_option maxRecDepth 20000 in
theorem dX7_of_20 : decode cX7_of 20 = .ok (.iaload, 1) := by decide +kernel
set_option maxRecDepth 20000 in
theorem dX7_of_21 : decode cX7_of 21 = .ok (.goto 53, 3) := by decide +kernel
set_option maxRecDepth 20000 in
theorem dX7_of_24 : decode cX7_of 24 = .ok (.iload_n 2, 1) := by decide +kernel
set_option maxRecDepth 20000 in
theorem dX7_of_25 : decode cX7_of 25 = .ok (.iconst 1, 1) := by decide +kernel
set_option maxRecDepth 20000 in
theorem dX7_of_26 : decode cX7_of 26 = .ok (.if_icmp .ne 12, 3) := by decide +kernel
set_option maxRecDepth 20000 in
theorem dX7_of_29 : decode cX7_of 29 = .ok (.aload_n 0, 1) := by decide +kernel
set_option maxRecDepth 20000 in
theorem dX7_of_30 : decode cX7_of 30 = .ok (.getfield 17, 3) := by decide +kernel
set_option maxRecDepth 20000 in
theorem dX7_of_33 : decode cX7_of 33 = .ok (.iload_n 1, 1) := by decide +kernel
set_option maxRecDepth 20000 in
theorem dX7_of_34 : decode cX7_of 34 = .ok (.iaload, 1) := by decide +kernel
set_option maxRecDepth 20000 in
theorem dX7_of_35 : decode cX7_of 35 = .ok (.goto 39, 3) := by decide +kernel
set_option maxRecDepth 20000 in
theorem dX7_of_38 : decode cX7_of 38 = .ok (.iload_n 2, 1) := by decide +kernel
set_option maxRecDepth 20000 in
theorem dX7_of_39 : decode cX7_of 39 = .ok (.iconst 2, 1) := by decide +kernel
set_option maxRecDepth 20000 in
theorem dX7_of_40 : decode cX7_of 40 = .ok (.if_icmp .ne 32, 3) := by decide +kernel
set_option maxRecDepth 20000 in
theorem dX7_of_43 : decode cX7_of 43 = .ok (.iload_n 1, 1) := by decide +kernel
set_option maxRecDepth 20000 in
theorem dX7_of_44 : decode cX7_of 44 = .ok (.aload_n 0, 1) := by decide +kernel
set_option maxRecDepth 20000 in
theorem dX7_of_45 : decode cX7_of 45 = .ok (.getfield 7, 3) := by decide +kernel
set_option maxRecDepth 20000 in
theorem dX7_of_48 : decode cX7_of 48 = .ok (.if_icmp .ne 7, 3) := by decide +kernel
set_option maxRecDepth 20000 in
theorem dX7_of_51 : decode cX7_of 51 = .ok (.iconst 2, 1) := by decide +kernel
set_option maxRecDepth 20000 in
theorem dX7_of_52 : decode cX7_of 52 = .ok (.goto 22, 3) := by decide +kernel
set_option maxRecDepth 20000 in
theorem dX7_of_55 : decode cX7_of 55 = .ok (.aload_n 0, 1) := by decide +kernel
set_option maxRecDepth 20000 in
theorem dX7_of_56 : decode cX7_of 56 = .ok (.getfield 20, 3) := by decide +kernel
set_option maxRecDepth 20000 in
theorem dX7_of_59 : decode cX7_of 59 = .ok (.iload_n 1, 1) := by decide +kernel
set_option maxRecDepth 20000 in
theorem dX7_of_60 : decode cX7_of 60 = .ok (.baload, 1) := by decide +kernel
set_option maxRecDepth 20000 in
theorem dX7_of_61 : decode cX7_of 61 = .ok (.ifCond .eq 7, 3) := by decide +kernel
set_option maxRecDepth 20000 in
theorem dX7_of_64 : decode cX7_of 64 = .ok (.iconst 1, 1) := by decide +kernel
set_option maxRecDepth 20000 in
theorem dX7_of_65 : decode cX7_of 65 = .ok (.goto 9, 3) := by decide +kernel
set_option maxRecDepth 20000 in
theorem dX7_of_68 : decode cX7_of 68 = .ok (.iconst 0, 1) := by decide +kernel
set_option maxRecDepth 20000 in
theorem dX7_of_69 : decode cX7_of 69 = .ok (.goto 5, 3) := by decide +kernel
set_option maxRecDepth 20000 in
theorem dX7_of_72 : decode cX7_of 72 = .ok (.ldc 107, 2) := by decide +kernel
set_option maxRecDepth 20000 in
theorem dX7_of_74 : decode cX7_of 74 = .ok (.ireturn, 1) := by decide +kernel
set_option maxRecDepth 20000 in
theorem dX7_turn_0 : decode cX7_turn 0 = .ok (.aload_n 0, 1) := by decide +kernel
set_option maxRecDepth 20000 in
theorem dX7_turn_1 : decode cX7_turn 1 = .ok (.iload_n 1, 1) := by decide +kernel
set_option maxRecDepth 20000 in
theorem dX7_turn_2 : decode cX7_turn 2 = .ok (.invokevirtual 108, 3) := by decide +kernel
set_option maxRecDepth 20000 in
theorem dX7_turn_5 : decode cX7_turn 5 = .ok (.ifCond .ne 8, 3) := by decide +kernel
set_option maxRecDepth 20000 in
theorem dX7_turn_8 : decode cX7_turn 8 = .ok (.ldc 107, 2) := by decide +kernel
set_option maxRecDepth 20000 in
theorem dX7_turn_10 : decode cX7_turn 10 = .ok (.goto 34, 3) := by decide +kernel
set_option maxRecDepth 20000 in
theorem dX7_turn_13 : decode cX7_turn 13 = .ok (.iload_n 2, 1) := by decide +kernel
set_option maxRecDepth 20000 in
theorem dX7_turn_14 : decode cX7_turn 14 = .ok (.iconst 0, 1) := by decide +kernel
set_option maxRecDepth 20000 in
theorem dX7_turn_15 : decode cX7_turn 15 = .ok (.aload_n 0, 1) := by decide +kernel
set_option maxRecDepth 20000 in
theorem dX7_turn_16 : decode cX7_turn 16 = .ok (.getfield 27, 3) := by decide +kernel
set_option maxRecDepth 20000 in
theorem dX7_turn_19 : decode cX7_turn 19 = .ok (.iload_n 1, 1) := by decide +kernel
set_option maxRecDepth 20000 in
theorem dX7_turn_20 : decode cX7_turn 20 = .ok (.iaload, 1) := by decide +kernel
set_option maxRecDepth 20000 in
theorem dX7_turn_21 : decode cX7_turn 21 = .ok (.iconst 1, 1) := by decide +kernel
set_option maxRecDepth 20000 in
theorem dX7_turn_22 : decode cX7_turn 22 = .ok (.isub, 1) := by decide +kernel
set_option maxRecDepth 20000 in
theorem dX7_turn_23 : decode cX7_turn 23 = .ok (.invokestatic 100, 3) := by decide +kernel
set_option maxRecDepth 20000 in
theorem dX7_turn_26 : decode cX7_turn 26 = .ok (.ifCond .eq 17, 3) := by decide +kernel
set_option maxRecDepth 20000 in
theorem dX7_turn_29 : decode cX7_turn 29 = .ok (.aload_n 0, 1) := by decide +kernel
set_option maxRecDepth 20000 in
theorem dX7_turn_30 : decode cX7_turn 30 = .ok (.getfield 24, 3) := by decide +kernel
set_option maxRecDepth 20000 in
theorem dX7_turn_33 : decode cX7_turn 33 = .ok (.bipush 22, 2) := by decide +kernel
set_option maxRecDepth 20000 in
theorem dX7_turn_35 : decode cX7_turn 35 = .ok (.iload_n 1, 1) := by decide +kernel
set_option maxRecDepth 20000 in
theorem dX7_turn_36 : decode cX7_turn 36 = .ok (.imul, 1) := by decide +kernel
set_option maxRecDepth 20000 in
theorem dX7_turn_37 : decode cX7_turn 37 = .ok (.iload_n 2, 1) := by decide +kernel
set_option maxRecDepth 20000 in
theorem dX7_turn_38 : decode cX7_turn 38 = .ok (.iadd, 1) := by decide +kernel
set_option maxRecDepth 20000 in
theorem dX7_turn_39 : decode cX7_turn 39 = .ok (.iaload, 1) := by decide +kernel
set_option maxRecDepth 20000 in
theorem dX7_turn_40 : decode cX7_turn 40 = .ok (.goto 4, 3) := by decide +kernel
set_option maxRecDepth 20000 in
theorem dX7_turn_43 : decode cX7_turn 43 = .ok (.iconst (-1), 1) := by decide +kernel
set_option maxRecDepth 20000 in
theorem dX7_turn_44 : decode cX7_turn 44 = .ok (.ireturn, 1) := by decide +kernel
set_option maxRecDepth 20000 in
theorem dX7_faces_0 : decode cX7_faces 0 = .ok (.aload_n 0, 1) := by decide +kernel
set_option maxRecDepth 20000 in
theorem dX7_faces_1 : decode cX7_faces 1 = .ok (.invokevirtual 145, 3) := by decide +kernel
set_option maxRecDepth 20000 in
theorem dX7_faces_4 : decode cX7_faces 4 = .ok (.ifCond .ne 6, 3) := by decide +kernel
set_option maxRecDepth 20000 in
theorem dX7_faces_7 : decode cX7_faces 7 = .ok (.ldc 107, 2) := by decide +kernel
set_option maxRecDepth 20000 in
theorem dX7_faces_9 : decode cX7_faces 9 = .ok (.ireturn, 1) := by decide +kernel
set_option maxRecDepth 20000 in
theorem dX7_faces_10 : decode cX7_faces 10 = .ok (.aload_n 0, 1) := by decide +kernel
set_option maxRecDepth 20000 in
theorem dX7_faces_11 : decode cX7_faces 11 = .ok (.invokevirtual 153, 3) := by decide +kernel
set_option maxRecDepth 20000 in
theorem dX7_faces_14 : decode cX7_faces 14 = .ok (.aload_n 0, 1) := by decide +kernel
set_option maxRecDepth 20000 in
theorem dX7_faces_15 : decode cX7_faces 15 = .ok (.getfield 136, 3) := by decide +kernel
set_option maxRecDepth 20000 in
theorem dX7_faces_18 : decode cX7_faces 18 = .ok (.ireturn, 1) := by decide +kernel
set_option maxRecDepth 20000 in
theorem dX7_face_0 : decode cX7_face 0 = .ok (.aload_n 0, 1) := by decide +kernel
set_option maxRecDepth 20000 in
theorem dX7_face_1 : decode cX7_face 1 = .ok (.invokevirtual 145, 3) := by decide +kernel
set_option maxRecDepth 20000 in
theorem dX7_face_4 : decode cX7_face 4 = .ok (.ifCond .eq 19, 3) := by decide +kernel
set_option maxRecDepth 20000 in
theorem dX7_face_7 : decode cX7_face 7 = .ok (.iload_n 1, 1) := by decide +kernel
set_option maxRecDepth 20000 in
theorem dX7_face_8 : decode cX7_face 8 = .ok (.iconst 0, 1) := by decide +kernel
set_option maxRecDepth 20000 in
theorem dX7_face_9 : decode cX7_face 9 = .ok (.iconst 2, 1) := by decide +kernel
set_option maxRecDepth 20000 in
theorem dX7_face_10 : decode cX7_face 10 = .ok (.aload_n 0, 1) := by decide +kernel
set_option maxRecDepth 20000 in
theorem dX7_face_11 : decode cX7_face 11 = .ok (.getfield 104, 3) := by decide +kernel
set_option maxRecDepth 20000 in
theorem dX7_face_14 : decode cX7_face 14 = .ok (.imul, 1) := by decide +kernel
set_option maxRecDepth 20000 in
theorem dX7_face_15 : decode cX7_face 15 = .ok (.iconst 1, 1) := by decide +kernel
set_option maxRecDepth 20000 in
theorem dX7_face_16 : decode cX7_face 16 = .ok (.isub, 1) := by decide +kernel
set_option maxRecDepth 20000 in
theorem dX7_face_17 : decode cX7_face 17 = .ok (.invokestatic 100, 3) := by decide +kernel
set_option maxRecDepth 20000 in
theorem dX7_face_20 : decode cX7_face 20 = .ok (.ifCond .ne 6, 3) := by decide +kernel
set_option maxRecDepth 20000 in
theorem dX7_face_23 : decode cX7_face 23 = .ok (.ldc 107, 2) := by decide +kernel
set_option maxRecDepth 20000 in
theorem dX7_face_25 : decode cX7_face 25 = .ok (.ireturn, 1) := by decide +kernel
set_option maxRecDepth 20000 in
theorem dX7_face_26 : decode cX7_face 26 = .ok (.aload_n 0, 1) := by decide +kernel
set_option maxRecDepth 20000 in
theorem dX7_face_27 : decode cX7_face 27 = .ok (.invokevirtual 153, 3) := by decide +kernel
set_option maxRecDepth 20000 in
theorem dX7_face_30 : decode cX7_face 30 = .ok (.aload_n 0, 1) := by decide +kernel
set_option maxRecDepth 20000 in
theorem dX7_face_31 : decode cX7_face 31 = .ok (.getfield 66, 3) := by decide +kernel
set_option maxRecDepth 20000 in
theorem dX7_face_34 : decode cX7_face 34 = .ok (.iload_n 1, 1) := by decide +kernel
set_option maxRecDepth 20000 in
theorem dX7_face_35 : decode cX7_face 35 = .ok (.iaload, 1) := by decide +kernel
set_option maxRecDepth 20000 in
theorem dX7_face_36 : decode cX7_face 36 = .ok (.ireturn, 1) := by decide +kernel
set_option maxRecDepth 20000 in
theorem dX7_trees_0 : decode cX7_trees 0 = .ok (.aload_n 0, 1) := by decide +kernel
set_option maxRecDepth 20000 in
theorem dX7_trees_1 : decode cX7_trees 1 = .ok (.invokevirtual 210, 3) := by decide +kernel
set_option maxRecDepth 20000 in
theorem dX7_trees_4 : decode cX7_trees 4 = .ok (.ifCond .eq 10, 3) := by decide +kernel
set_option maxRecDepth 20000 in
theorem dX7_trees_7 : decode cX7_trees 7 = .ok (.aload_n 0, 1) := by decide +kernel
set_option maxRecDepth 20000 in
theorem dX7_trees_8 : decode cX7_trees 8 = .ok (.getfield 171, 3) := by decide +kernel
set_option maxRecDepth 20000 in
theorem dX7_trees_11 : decode cX7_trees 11 = .ok (.goto 6, 3) := by decide +kernel
set_option maxRecDepth 20000 in
theorem dX7_trees_14 : decode cX7_trees 14 = .ok (.ldc2_w 213, 3) := by decide +kernel
set_option maxRecDepth 20000 in
theorem dX7_trees_17 : decode cX7_trees 17 = .ok (.lreturn, 1) := by decide +kernel
set_option maxRecDepth 20000 in
theorem dX7_current_0 : decode cX7_current 0 = .ok (.aload_n 0, 1) := by decide +kernel
set_option maxRecDepth 20000 in
theorem dX7_current_1 : decode cX7_current 1 = .ok (.invokevirtual 210, 3) := by decide +kernel
set_option maxRecDepth 20000 in
theorem dX7_current_4 : decode cX7_current 4 = .ok (.ifCond .eq 20, 3) := by decide +kernel
set_option maxRecDepth 20000 in
theorem dX7_current_7 : decode cX7_current 7 = .ok (.aload_n 0, 1) := by decide +kernel
set_option maxRecDepth 20000 in
theorem dX7_current_8 : decode cX7_current 8 = .ok (.iload_n 1, 1) := by decide +kernel
set_option maxRecDepth 20000 in
theorem dX7_current_9 : decode cX7_current 9 = .ok (.invokevirtual 112, 3) := by decide +kernel
set_option maxRecDepth 20000 in
theorem dX7_current_12 : decode cX7_current 12 = .ok (.ifCond .eq 12, 3) := by decide +kernel
set_option maxRecDepth 20000 in
theorem dX7_current_15 : decode cX7_current 15 = .ok (.aload_n 0, 1) := by decide +kernel
set_option maxRecDepth 20000 in
theorem dX7_current_16 : decode cX7_current 16 = .ok (.getfield 76, 3) := by decide +kernel
set_option maxRecDepth 20000 in
theorem dX7_current_19 : decode cX7_current 19 = .ok (.iload_n 1, 1) := by decide +kernel
set_option maxRecDepth 20000 in
theorem dX7_current_20 : decode cX7_current 20 = .ok (.iaload, 1) := by decide +kernel
set_option maxRecDepth 20000 in
theorem dX7_current_21 : decode cX7_current 21 = .ok (.goto 5, 3) := by decide +kernel
set_option maxRecDepth 20000 in
theorem dX7_current_24 : decode cX7_current 24 = .ok (.ldc 107, 2) := by decide +kernel
set_option maxRecDepth 20000 in
theorem dX7_current_26 : decode cX7_current 26 = .ok (.ireturn, 1) := by decide +kernel
set_option maxRecDepth 20000 in
theorem dX7_height_0 : decode cX7_height 0 = .ok (.aload_n 0, 1) := by decide +kernel
set_option maxRecDepth 20000 in
theorem dX7_height_1 : decode cX7_height 1 = .ok (.invokevirtual 210, 3) := by decide +kernel
set_option maxRecDepth 20000 in
theorem dX7_height_4 : decode cX7_height 4 = .ok (.ifCond .eq 20, 3) := by decide +kernel
set_option maxRecDepth 20000 in
theorem dX7_height_7 : decode cX7_height 7 = .ok (.aload_n 0, 1) := by decide +kernel
set_option maxRecDepth 20000 in
theorem dX7_height_8 : decode cX7_height 8 = .ok (.iload_n 1, 1) := by decide +kernel
set_option maxRecDepth 20000 in
theorem dX7_height_9 : decode cX7_height 9 = .ok (.invokevirtual 108, 3) := by decide +kernel
set_option maxRecDepth 20000 in
theorem dX7_height_12 : decode cX7_height 12 = .ok (.ifCond .eq 12, 3) := by decide +kernel
set_option maxRecDepth 20000 in
theorem dX7_height_15 : decode cX7_height 15 = .ok (.aload_n 0, 1) := by decide +kernel
set_option maxRecDepth 20000 in
theorem dX7_height_16 : decode cX7_height 16 = .ok (.getfield 73, 3) := by decide +kernel
set_option maxRecDepth 20000 in
theorem dX7_height_19 : decode cX7_height 19 = .ok (.iload_n 1, 1) := by decide +kernel
set_option maxRecDepth 20000 in
theorem dX7_height_20 : decode cX7_height 20 = .ok (.iaload, 1) := by decide +kernel
set_option maxRecDepth 20000 in
theorem dX7_height_21 : decode cX7_height 21 = .ok (.goto 5, 3) := by decide +kernel
set_option maxRecDepth 20000 in
theorem dX7_height_24 : decode cX7_height 24 = .ok (.ldc 107, 2) := by decide +kernel
set_option maxRecDepth 20000 in
theorem dX7_height_26 : decode cX7_height 26 = .ok (.ireturn, 1) := by decide +kernel
set_option maxRecDepth 20000 in
theorem dX7_place_0 : decode cX7_place 0 = .ok (.aload_n 0, 1) := by decide +kernel
set_option maxRecDepth 20000 in
theorem dX7_place_1 : decode cX7_place 1 = .ok (.invokevirtual 210, 3) := by decide +kernel
set_option maxRecDepth 20000 in
theorem dX7_place_4 : decode cX7_place 4 = .ok (.ifCond .eq 26, 3) := by decide +kernel
set_option maxRecDepth 20000 in
theorem dX7_place_7 : decode cX7_place 7 = .ok (.iload_n 1, 1) := by decide +kernel
set_option maxRecDepth 20000 in
theorem dX7_place_8 : decode cX7_place 8 = .ok (.iconst 0, 1) := by decide +kernel
set_option maxRecDepth 20000 in
theorem dX7_place_9 : decode cX7_place 9 = .ok (.aload_n 0, 1) := by decide +kernel
set_option maxRecDepth 20000 in
theorem dX7_place_10 : decode cX7_place 10 = .ok (.getfield 136, 3) := by decide +kernel
set_option maxRecDepth 20000 in
theorem dX7_place_13 : decode cX7_place 13 = .ok (.iconst 1, 1) := by decide +kernel
set_option maxRecDepth 20000 in
theorem dX7_place_14 : decode cX7_place 14 = .ok (.isub, 1) := by decide +kernel
set_option maxRecDepth 20000 in
theorem dX7_place_15 : decode cX7_place 15 = .ok (.invokestatic 100, 3) := by decide +kernel
set_option maxRecDepth 20000 in
theorem dX7_place_18 : decode cX7_place 18 = .ok (.ifCond .eq 12, 3) := by decide +kernel
set_option maxRecDepth 20000 in
theorem dX7_place_21 : decode cX7_place 21 = .ok (.aload_n 0, 1) := by decide +kernel
set_option maxRecDepth 20000 in
theorem dX7_place_22 : decode cX7_place 22 = .ok (.getfield 79, 3) := by decide +kernel
set_option maxRecDepth 20000 in
theorem dX7_place_25 : decode cX7_place 25 = .ok (.iload_n 1, 1) := by decide +kernel
set_option maxRecDepth 20000 in
theorem dX7_place_26 : decode cX7_place 26 = .ok (.iaload, 1) := by decide +kernel
set_option maxRecDepth 20000 in
theorem dX7_place_27 : decode cX7_place 27 = .ok (.goto 5, 3) := by decide +kernel
set_option maxRecDepth 20000 in
theorem dX7_place_30 : decode cX7_place 30 = .ok (.ldc 107, 2) := by decide +kernel
set_option maxRecDepth 20000 in
theorem dX7_place_32 : decode cX7_place 32 = .ok (.ireturn, 1) := by decide +kernel
set_option maxRecDepth 20000 in
theorem dX7_rectangle_0 : decode cX7_rectangle 0 = .ok (.aload_n 0, 1) := by decide +kernel
set_option maxRecDepth 20000 in
theorem dX7_rectangle_1 : decode cX7_rectangle 1 = .ok (.invokevirtual 210, 3) := by decide +kernel
set_option maxRecDepth 20000 in
theorem dX7_rectangle_4 : decode cX7_rectangle 4 = .ok (.ifCond .ne 6, 3) := by decide +kernel
set_option maxRecDepth 20000 in
theorem dX7_rectangle_7 : decode cX7_rectangle 7 = .ok (.ldc 107, 2) := by decide +kernel
set_option maxRecDepth 20000 in
theorem dX7_rectangle_9 : decode cX7_rectangle 9 = .ok (.ireturn, 1) := by decide +kernel
set_option maxRecDepth 20000 in
theorem dX7_rectangle_10 : decode cX7_rectangle 10 = .ok (.iload_n 1, 1) := by decide +kernel
set_option maxRecDepth 20000 in
theorem dX7_rectangle_11 : decode cX7_rectangle 11 = .ok (.tableswitch 74 0 4 #[33, 38, 43, 48, 61], 33) := by decide +kernel
set_option maxRecDepth 20000 in
theorem dX7_rectangle_44 : decode cX7_rectangle 44 = .ok (.aload_n 0, 1) := by decide +kernel
set_option maxRecDepth 20000 in
theorem dX7_rectangle_45 : decode cX7_rectangle 45 = .ok (.getfield 179, 3) := by decide +kernel
set_option maxRecDepth 20000 in
theorem dX7_rectangle_48 : decode cX7_rectangle 48 = .ok (.ireturn, 1) := by decide +kernel
set_option maxRecDepth 20000 in
theorem dX7_rectangle_49 : decode cX7_rectangle 49 = .ok (.aload_n 0, 1) := by decide +kernel
set_option maxRecDepth 20000 in
theorem dX7_rectangle_50 : decode cX7_rectangle 50 = .ok (.getfield 182, 3) := by decide +kernel
set_option maxRecDepth 20000 in
theorem dX7_rectangle_53 : decode cX7_rectangle 53 = .ok (.ireturn, 1) := by decide +kernel
set_option maxRecDepth 20000 in
theorem dX7_rectangle_54 : decode cX7_rectangle 54 = .ok (.aload_n 0, 1) := by decide +kernel
set_option maxRecDepth 20000 in
theorem dX7_rectangle_55 : decode cX7_rectangle 55 = .ok (.invokevirtual 200, 3) := by decide +kernel
set_option maxRecDepth 20000 in
theorem dX7_rectangle_58 : decode cX7_rectangle 58 = .ok (.ireturn, 1) := by decide +kernel
set_option maxRecDepth 20000 in
theorem dX7_rectangle_59 : decode cX7_rectangle 59 = .ok (.aload_n 0, 1) := by decide +kernel
set_option maxRecDepth 20000 in
theorem dX7_rectangle_60 : decode cX7_rectangle 60 = .ok (.invokevirtual 215, 3) := by decide +kernel
set_option maxRecDepth 20000 in
theorem dX7_rectangle_63 : decode cX7_rectangle 63 = .ok (.ifCond .eq 7, 3) := by decide +kernel
set_option maxRecDepth 20000 in
theorem dX7_rectangle_66 : decode cX7_rectangle 66 = .ok (.iconst 1, 1) := by decide +kernel
set_option maxRecDepth 20000 in
theorem dX7_rectangle_67 : decode cX7_rectangle 67 = .ok (.goto 4, 3) := by decide +kernel
set_option maxRecDepth 20000 in
theorem dX7_rectangle_70 : decode cX7_rectangle 70 = .ok (.iconst 0, 1) := by decide +kernel
set_option maxRecDepth 20000 in
theorem dX7_rectangle_71 : decode cX7_rectangle 71 = .ok (.ireturn, 1) := by decide +kernel
set_option maxRecDepth 20000 in
theorem dX7_rectangle_72 : decode cX7_rectangle 72 = .ok (.aload_n 0, 1) := by decide +kernel
set_option maxRecDepth 20000 in
theorem dX7_rectangle_73 : decode cX7_rectangle 73 = .ok (.invokevirtual 218, 3) := by decide +kernel
set_option maxRecDepth 20000 in
theorem dX7_rectangle_76 : decode cX7_rectangle 76 = .ok (.ifCond .ne 7, 3) := by decide +kernel
set_option maxRecDepth 20000 in
theorem dX7_rectangle_79 : decode cX7_rectangle 79 = .ok (.iconst 1, 1) := by decide +kernel
set_option maxRecDepth 20000 in
theorem dX7_rectangle_80 : decode cX7_rectangle 80 = .ok (.goto 4, 3) := by decide +kernel
set_option maxRecDepth 20000 in
theorem dX7_rectangle_83 : decode cX7_rectangle 83 = .ok (.iconst 0, 1) := by decide +kernel
set_option maxRecDepth 20000 in
theorem dX7_rectangle_84 : decode cX7_rectangle 84 = .ok (.ireturn, 1) := by decide +kernel
set_option maxRecDepth 20000 in
theorem dX7_rectangle_85 : decode cX7_rectangle 85 = .ok (.ldc 107, 2) := by decide +kernel
set_option maxRecDepth 20000 in
theorem dX7_rectangle_87 : decode cX7_rectangle 87 = .ok (.ireturn, 1) := by decide +kernel
set_option maxRecDepth 20000 in
theorem dX7_square_0 : decode cX7_square 0 = .ok (.aload_n 0, 1) := by decide +kernel
set_option maxRecDepth 20000 in
theorem dX7_square_1 : decode cX7_square 1 = .ok (.invokevirtual 210, 3) := by decide +kernel
set_option maxRecDepth 20000 in
theorem dX7_square_4 : decode cX7_square 4 = .ok (.ifCond .eq 28, 3) := by decide +kernel
set_option maxRecDepth 20000 in
theorem dX7_square_7 : decode cX7_square 7 = .ok (.aload_n 0, 1) := by decide +kernel
set_option maxRecDepth 20000 in
theorem dX7_square_8 : decode cX7_square 8 = .ok (.iload_n 1, 1) := by decide +kernel
set_option maxRecDepth 20000 in
theorem dX7_square_9 : decode cX7_square 9 = .ok (.invokevirtual 112, 3) := by decide +kernel
set_option maxRecDepth 20000 in
theorem dX7_square_12 : decode cX7_square 12 = .ok (.ifCond .eq 20, 3) := by decide +kernel
set_option maxRecDepth 20000 in
theorem dX7_square_15 : decode cX7_square 15 = .ok (.iload_n 2, 1) := by decide +kernel
set_option maxRecDepth 20000 in
theorem dX7_square_16 : decode cX7_square 16 = .ok (.iconst 0, 1) := by decide +kernel
set_option maxRecDepth 20000 in
theorem dX7_square_17 : decode cX7_square 17 = .ok (.iconst 2, 1) := by decide +kernel
set_option maxRecDepth 20000 in
theorem dX7_square_18 : decode cX7_square 18 = .ok (.invokestatic 100, 3) := by decide +kernel
set_option maxRecDepth 20000 in
theorem dX7_square_21 : decode cX7_square 21 = .ok (.ifCond .eq 11, 3) := by decide +kernel
set_option maxRecDepth 20000 in
theorem dX7_square_24 : decode cX7_square 24 = .ok (.aload_n 0, 1) := by decide +kernel
set_option maxRecDepth 20000 in
theorem dX7_square_25 : decode cX7_square 25 = .ok (.iload_n 1, 1) := by decide +kernel
set_option maxRecDepth 20000 in
theorem dX7_square_26 : decode cX7_square 26 = .ok (.invokevirtual 188, 3) := by decide +kernel
set_option maxRecDepth 20000 in
theorem dX7_square_29 : decode cX7_square 29 = .ok (.ifCond .ne 6, 3) := by decide +kernel
set_option maxRecDepth 20000 in
theorem dX7_square_32 : decode cX7_square 32 = .ok (.ldc 107, 2) := by decide +kernel
set_option maxRecDepth 20000 in
theorem dX7_square_34 : decode cX7_square 34 = .ok (.ireturn, 1) := by decide +kernel
set_option maxRecDepth 20000 in
theorem dX7_square_35 : decode cX7_square 35 = .ok (.iload_n 2, 1) := by decide +kernel
set_option maxRecDepth 20000 in
theorem dX7_square_36 : decode cX7_square 36 = .ok (.ifCond .ne 11, 3) := by decide +kernel
set_option maxRecDepth 20000 in
theorem dX7_square_39 : decode cX7_square 39 = .ok (.aload_n 0, 1) := by decide +kernel
set_option maxRecDepth 20000 in
theorem dX7_square_40 : decode cX7_square 40 = .ok (.iload_n 1, 1) := by decide +kernel
set_option maxRecDepth 20000 in
theorem dX7_square_41 : decode cX7_square 41 = .ok (.invokevirtual 194, 3) := by decide +kernel
set_option maxRecDepth 20000 in
theorem dX7_square_44 : decode cX7_square 44 = .ok (.goto 21, 3) := by decide +kernel
set_option maxRecDepth 20000 in
theorem dX7_square_47 : decode cX7_square 47 = .ok (.iload_n 2, 1) := by decide +kernel
set_option maxRecDepth 20000 in
theorem dX7_square_48 : decode cX7_square 48 = .ok (.iconst 1, 1) := by decide +kernel
set_option maxRecDepth 20000 in
theorem dX7_square_49 : decode cX7_square 49 = .ok (.if_icmp .ne 11, 3) := by decide +kernel
set_option maxRecDepth 20000 in
theorem dX7_square_52 : decode cX7_square 52 = .ok (.aload_n 0, 1) := by decide +kernel
set_option maxRecDepth 20000 in
theorem dX7_square_53 : decode cX7_square 53 = .ok (.iload_n 1, 1) := by decide +kernel
set_option maxRecDepth 20000 in
theorem dX7_square_54 : decode cX7_square 54 = .ok (.invokevirtual 197, 3) := by decide +kernel
set_option maxRecDepth 20000 in
theorem dX7_square_57 : decode cX7_square 57 = .ok (.goto 8, 3) := by decide +kernel
set_option maxRecDepth 20000 in
theorem dX7_square_60 : decode cX7_square 60 = .ok (.aload_n 0, 1) := by decide +kernel
set_option maxRecDepth 20000 in
theorem dX7_square_61 : decode cX7_square 61 = .ok (.iload_n 1, 1) := by decide +kernel
set_option maxRecDepth 20000 in
theorem dX7_square_62 : decode cX7_square 62 = .ok (.invokevirtual 191, 3) := by decide +kernel
set_option maxRecDepth 20000 in
theorem dX7_square_65 : decode cX7_square 65 = .ok (.ireturn, 1) := by decide +kernel
set_option maxRecDepth 20000 in
theorem dX7_within_0 : decode cX7_within 0 = .ok (.aload_n 0, 1) := by decide +kernel
set_option maxRecDepth 20000 in
theorem dX7_within_1 : decode cX7_within 1 = .ok (.invokevirtual 210, 3) := by decide +kernel
set_option maxRecDepth 20000 in
theorem dX7_within_4 : decode cX7_within 4 = .ok (.ifCond .ne 6, 3) := by decide +kernel
set_option maxRecDepth 20000 in
theorem dX7_within_7 : decode cX7_within 7 = .ok (.ldc 107, 2) := by decide +kernel
set_option maxRecDepth 20000 in
theorem dX7_within_9 : decode cX7_within 9 = .ok (.ireturn, 1) := by decide +kernel
set_option maxRecDepth 20000 in
theorem dX7_within_10 : decode cX7_within 10 = .ok (.aload_n 0, 1) := by decide +kernel
set_option maxRecDepth 20000 in
theorem dX7_within_11 : decode cX7_within 11 = .ok (.invokevirtual 218, 3) := by decide +kernel
set_option maxRecDepth 20000 in
theorem dX7_within_14 : decode cX7_within 14 = .ok (.istore_n 2, 1) := by decide +kernel
set_option maxRecDepth 20000 in
theorem dX7_within_15 : decode cX7_within 15 = .ok (.iconst (-1), 1) := by decide +kernel
set_option maxRecDepth 20000 in
theorem dX7_within_16 : decode cX7_within 16 = .ok (.istore_n 3, 1) := by decide +kernel
set_option maxRecDepth 20000 in
theorem dX7_within_17 : decode cX7_within 17 = .ok (.iconst 0, 1) := by decide +kernel
set_option maxRecDepth 20000 in
theorem dX7_within_18 : decode cX7_within 18 = .ok (.istore 4, 2) := by decide +kernel
set_option maxRecDepth 20000 in
theorem dX7_within_20 : decode cX7_within 20 = .ok (.iload 4, 2) := by decide +kernel
set_option maxRecDepth 20000 in
theorem dX7_within_22 : decode cX7_within 22 = .ok (.aload_n 0, 1) := by decide +kernel
set_option maxRecDepth 20000 in
theorem dX7_within_23 : decode cX7_within 23 = .ok (.getfield 104, 3) := by decide +kernel
set_option maxRecDepth 20000 in
theorem dX7_within_26 : decode cX7_within 26 = .ok (.if_icmp .ge 36, 3) := by decide +kernel
set_option maxRecDepth 20000 in
theorem dX7_within_29 : decode cX7_within 29 = .ok (.iload_n 3, 1) := by decide +kernel
set_option maxRecDepth 20000 in
theorem dX7_within_30 : decode cX7_within 30 = .ok (.iload_n 2, 1) := by decide +kernel
set_option maxRecDepth 20000 in
theorem dX7_within_31 : decode cX7_within 31 = .ok (.iload 4, 2) := by decide +kernel
set_option maxRecDepth 20000 in
theorem dX7_within_33 : decode cX7_within 33 = .ok (.ishr, 1) := by decide +kernel
set_option maxRecDepth 20000 in
theorem dX7_within_34 : decode cX7_within 34 = .ok (.iconst 1, 1) := by decide +kernel
set_option maxRecDepth 20000 in
theorem dX7_within_35 : decode cX7_within 35 = .ok (.iand, 1) := by decide +kernel
set_option maxRecDepth 20000 in
theorem dX7_within_36 : decode cX7_within 36 = .ok (.iadd, 1) := by decide +kernel
set_option maxRecDepth 20000 in
theorem dX7_within_37 : decode cX7_within 37 = .ok (.istore_n 3, 1) := by decide +kernel
set_option maxRecDepth 20000 in
theorem dX7_within_38 : decode cX7_within 38 = .ok (.iload_n 2, 1) := by decide +kernel
set_option maxRecDepth 20000 in
theorem dX7_within_39 : decode cX7_within 39 = .ok (.iload 4, 2) := by decide +kernel
set_option maxRecDepth 20000 in
theorem dX7_within_41 : decode cX7_within 41 = .ok (.ishr, 1) := by decide +kernel
set_option maxRecDepth 20000 in
theorem dX7_within_42 : decode cX7_within 42 = .ok (.iconst 1, 1) := by decide +kernel
set_option maxRecDepth 20000 in
theorem dX7_within_43 : decode cX7_within 43 = .ok (.iand, 1) := by decide +kernel
set_option maxRecDepth 20000 in
theorem dX7_within_44 : decode cX7_within 44 = .ok (.iconst 1, 1) := by decide +kernel
set_option maxRecDepth 20000 in
theorem dX7_within_45 : decode cX7_within 45 = .ok (.if_icmp .ne 11, 3) := by decide +kernel
set_option maxRecDepth 20000 in
theorem dX7_within_48 : decode cX7_within 48 = .ok (.iload_n 3, 1) := by decide +kernel
set_option maxRecDepth 20000 in
theorem dX7_within_49 : decode cX7_within 49 = .ok (.iload_n 1, 1) := by decide +kernel
set_option maxRecDepth 20000 in
theorem dX7_within_50 : decode cX7_within 50 = .ok (.if_icmp .ne 6, 3) := by decide +kernel
set_option maxRecDepth 20000 in
theorem dX7_within_53 : decode cX7_within 53 = .ok (.iload 4, 2) := by decide +kernel
set_option maxRecDepth 20000 in
theorem dX7_within_55 : decode cX7_within 55 = .ok (.ireturn, 1) := by decide +kernel
set_option maxRecDepth 20000 in
theorem dX7_within_56 : decode cX7_within 56 = .ok (.iinc 4 1, 3) := by decide +kernel
set_option maxRecDepth 20000 in
theorem dX7_within_59 : decode cX7_within 59 = .ok (.goto (-39), 3) := by decide +kernel
set_option maxRecDepth 20000 in
theorem dX7_within_62 : decode cX7_within 62 = .ok (.iconst (-1), 1) := by decide +kernel
set_option maxRecDepth 20000 in
theorem dX7_within_63 : decode cX7_within 63 = .ok (.ireturn, 1) := by decide +kernel
set_option maxRecDepth 20000 in
theorem dX7_at_0 : decode cX7_at 0 = .ok (.aload_n 0, 1) := by decide +kernel
set_option maxRecDepth 20000 in
theorem dX7_at_1 : decode cX7_at 1 = .ok (.invokevirtual 210, 3) := by decide +kernel
set_option maxRecDepth 20000 in
theorem dX7_at_4 : decode cX7_at 4 = .ok (.ifCond .ne 6, 3) := by decide +kernel
set_option maxRecDepth 20000 in
theorem dX7_at_7 : decode cX7_at 7 = .ok (.ldc 107, 2) := by decide +kernel
set_option maxRecDepth 20000 in
theorem dX7_at_9 : decode cX7_at 9 = .ok (.ireturn, 1) := by decide +kernel
set_option maxRecDepth 20000 in
theorem dX7_at_10 : decode cX7_at 10 = .ok (.iconst 0, 1) := by decide +kernel
set_option maxRecDepth 20000 in
theorem dX7_at_11 : decode cX7_at 11 = .ok (.istore_n 3, 1) := by decide +kernel
set_option maxRecDepth 20000 in
theorem dX7_at_12 : decode cX7_at 12 = .ok (.iload_n 3, 1) := by decide +kernel
set_option maxRecDepth 20000 in
theorem dX7_at_13 : decode cX7_at 13 = .ok (.aload_n 0, 1) := by decide +kernel
set_option maxRecDepth 20000 in
theorem dX7_at_14 : decode cX7_at 14 = .ok (.getfield 104, 3) := by decide +kernel
set_option maxRecDepth 20000 in
theorem dX7_at_17 : decode cX7_at 17 = .ok (.if_icmp .ge 72, 3) := by decide +kernel
set_option maxRecDepth 20000 in
theorem dX7_at_20 : decode cX7_at 20 = .ok (.aload_n 0, 1) := by decide +kernel
set_option maxRecDepth 20000 in
theorem dX7_at_21 : decode cX7_at 21 = .ok (.iload_n 3, 1) := by decide +kernel
set_option maxRecDepth 20000 in
theorem dX7_at_22 : decode cX7_at 22 = .ok (.invokevirtual 188, 3) := by decide +kernel
set_option maxRecDepth 20000 in
theorem dX7_at_25 : decode cX7_at 25 = .ok (.ifCond .ne 6, 3) := by decide +kernel
set_option maxRecDepth 20000 in
theorem dX7_at_28 : decode cX7_at 28 = .ok (.goto 55, 3) := by decide +kernel
set_option maxRecDepth 20000 in
theorem dX7_at_31 : decode cX7_at 31 = .ok (.aload_n 0, 1) := by decide +kernel
set_option maxRecDepth 20000 in
theorem dX7_at_32 : decode cX7_at 32 = .ok (.iload_n 3, 1) := by decide +kernel
set_option maxRecDepth 20000 in
theorem dX7_at_33 : decode cX7_at 33 = .ok (.invokevirtual 194, 3) := by decide +kernel
set_option maxRecDepth 20000 in
theorem dX7_at_36 : decode cX7_at 36 = .ok (.istore 4, 2) := by decide +kernel
set_option maxRecDepth 20000 in
theorem dX7_at_38 : decode cX7_at 38 = .ok (.aload_n 0, 1) := by decide +kernel
set_option maxRecDepth 20000 in
theorem dX7_at_39 : decode cX7_at 39 = .ok (.iload_n 3, 1) := by decide +kernel
set_option maxRecDepth 20000 in
theorem dX7_at_40 : decode cX7_at 40 = .ok (.invokevirtual 197, 3) := by decide +kernel
set_option maxRecDepth 20000 in
theorem dX7_at_43 : decode cX7_at 43 = .ok (.istore 5, 2) := by decide +kernel
set_option maxRecDepth 20000 in
theorem dX7_at_45 : decode cX7_at 45 = .ok (.iload_n 1, 1) := by decide +kernel
set_option maxRecDepth 20000 in
theorem dX7_at_46 : decode cX7_at 46 = .ok (.iload 4, 2) := by decide +kernel
set_option maxRecDepth 20000 in
theorem dX7_at_48 : decode cX7_at 48 = .ok (.if_icmp .lt 35, 3) := by decide +kernel
set_option maxRecDepth 20000 in
theorem dX7_at_51 : decode cX7_at 51 = .ok (.iload_n 1, 1) := by decide +kernel
set_option maxRecDepth 20000 in
theorem dX7_at_52 : decode cX7_at 52 = .ok (.iload 4, 2) := by decide +kernel
set_option maxRecDepth 20000 in
theorem dX7_at_54 : decode cX7_at 54 = .ok (.aload_n 0, 1) := by decide +kernel
set_option maxRecDepth 20000 in
theorem dX7_at_55 : decode cX7_at 55 = .ok (.iload_n 3, 1) := by decide +kernel
set_option maxRecDepth 20000 in
theorem dX7_at_56 : decode cX7_at 56 = .ok (.invokevirtual 191, 3) := by decide +kernel
set_option maxRecDepth 20000 in
theorem dX7_at_59 : decode cX7_at 59 = .ok (.iadd, 1) := by decide +kernel
set_option maxRecDepth 20000 in
theorem dX7_at_60 : decode cX7_at 60 = .ok (.if_icmp .ge 23, 3) := by decide +kernel
set_option maxRecDepth 20000 in
theorem dX7_at_63 : decode cX7_at 63 = .ok (.iload_n 2, 1) := by decide +kernel
set_option maxRecDepth 20000 in
theorem dX7_at_64 : decode cX7_at 64 = .ok (.iload 5, 2) := by decide +kernel
set_option maxRecDepth 20000 in
theorem dX7_at_66 : decode cX7_at 66 = .ok (.if_icmp .lt 17, 3) := by decide +kernel
set_option maxRecDepth 20000 in
theorem dX7_at_69 : decode cX7_at 69 = .ok (.iload_n 2, 1) := by decide +kernel
set_option maxRecDepth 20000 in
theorem dX7_at_70 : decode cX7_at 70 = .ok (.iload 5, 2) := by decide +kernel
set_option maxRecDepth 20000 in
theorem dX7_at_72 : decode cX7_at 72 = .ok (.aload_n 0, 1) := by decide +kernel
set_option maxRecDepth 20000 in
theorem dX7_at_73 : decode cX7_at 73 = .ok (.iload_n 3, 1) := by decide +kernel
set_option maxRecDepth 20000 in
theorem dX7_at_74 : decode cX7_at 74 = .ok (.invokevirtual 191, 3) := by decide +kernel
set_option maxRecDepth 20000 in
theorem dX7_at_77 : decode cX7_at 77 = .ok (.iadd, 1) := by decide +kernel
set_option maxRecDepth 20000 in
theorem dX7_at_78 : decode cX7_at 78 = .ok (.if_icmp .ge 5, 3) := by decide +kernel
set_option maxRecDepth 20000 in
theorem dX7_at_81 : decode cX7_at 81 = .ok (.iload_n 3, 1) := by decide +kernel
set_option maxRecDepth 20000 in
theorem dX7_at_82 : decode cX7_at 82 = .ok (.ireturn, 1) := by decide +kernel
set_option maxRecDepth 20000 in
theorem dX7_at_83 : decode cX7_at 83 = .ok (.iinc 3 1, 3) := by decide +kernel
set_option maxRecDepth 20000 in
theorem dX7_at_86 : decode cX7_at 86 = .ok (.goto (-74), 3) := by decide +kernel
set_option maxRecDepth 20000 in
theorem dX7_at_89 : decode cX7_at 89 = .ok (.iconst (-1), 1) := by decide +kernel
set_option maxRecDepth 20000 in
theorem dX7_at_90 : decode cX7_at 90 = .ok (.ireturn, 1) := by decide +kernel
set_option maxRecDepth 20000 in
theorem dX7_mayBe_0 : decode cX7_mayBe 0 = .ok (.iload_n 1, 1) := by decide +kernel
set_option maxRecDepth 20000 in
theorem dX7_mayBe_1 : decode cX7_mayBe 1 = .ok (.iload_n 0, 1) := by decide +kernel
set_option maxRecDepth 20000 in
theorem dX7_mayBe_2 : decode cX7_mayBe 2 = .ok (.iconst 2, 1) := by decide +kernel
set_option maxRecDepth 20000 in
theorem dX7_mayBe_3 : decode cX7_mayBe 3 = .ok (.if_icmp .ne 7, 3) := by decide +kernel
set_option maxRecDepth 20000 in
theorem dX7_mayBe_6 : decode cX7_mayBe 6 = .ok (.iconst 1, 1) := by decide +kernel
set_option maxRecDepth 20000 in
theorem dX7_mayBe_7 : decode cX7_mayBe 7 = .ok (.goto 4, 3) := by decide +kernel
set_option maxRecDepth 20000 in
theorem dX7_mayBe_10 : decode cX7_mayBe 10 = .ok (.iconst 0, 1) := by decide +kernel
set_option maxRecDepth 20000 in
theorem dX7_mayBe_11 : decode cX7_mayBe 11 = .ok (.ldc 221, 2) := by decide +kernel
set_option maxRecDepth 20000 in
theorem dX7_mayBe_13 : decode cX7_mayBe 13 = .ok (.invokestatic 100, 3) := by decide +kernel
set_option maxRecDepth 20000 in
theorem dX7_mayBe_16 : decode cX7_mayBe 16 = .ok (.ireturn, 1) := by decide +kernel
set_option maxRecDepth 20000 in
theorem dX7_tell_0 : decode cX7_tell 0 = .ok (.aload_n 0, 1) := by decide +kernel
set_option maxRecDepth 20000 in
theorem dX7_tell_1 : decode cX7_tell 1 = .ok (.getfield 222, 3) := by decide +kernel
set_option maxRecDepth 20000 in
theorem dX7_tell_4 : decode cX7_tell 4 = .ok (.bipush 21, 2) := by decide +kernel
set_option maxRecDepth 20000 in
theorem dX7_tell_6 : decode cX7_tell 6 = .ok (.if_icmp .eq 27, 3) := by decide +kernel
set_option maxRecDepth 20000 in
theorem dX7_tell_9 : decode cX7_tell 9 = .ok (.iconst 0, 1) := by decide +kernel
set_option maxRecDepth 20000 in
theorem dX7_tell_10 : decode cX7_tell 10 = .ok (.iload_n 1, 1) := by decide +kernel
set_option maxRecDepth 20000 in
theorem dX7_tell_11 : decode cX7_tell 11 = .ok (.invokestatic 225, 3) := by decide +kernel
set_option maxRecDepth 20000 in
theorem dX7_tell_14 : decode cX7_tell 14 = .ok (.ifCond .eq 19, 3) := by decide +kernel
set_option maxRecDepth 20000 in
theorem dX7_tell_17 : decode cX7_tell 17 = .ok (.iconst 1, 1) := by decide +kernel
set_option maxRecDepth 20000 in
theorem dX7_tell_18 : decode cX7_tell 18 = .ok (.iload_n 2, 1) := by decide +kernel
set_option maxRecDepth 20000 in
theorem dX7_tell_19 : decode cX7_tell 19 = .ok (.invokestatic 225, 3) := by decide +kernel
set_option maxRecDepth 20000 in
theorem dX7_tell_22 : decode cX7_tell 22 = .ok (.ifCond .eq 11, 3) := by decide +kernel
set_option maxRecDepth 20000 in
theorem dX7_tell_25 : decode cX7_tell 25 = .ok (.iconst 2, 1) := by decide +kernel
set_option maxRecDepth 20000 in
theorem dX7_tell_26 : decode cX7_tell 26 = .ok (.iload_n 3, 1) := by decide +kernel
set_option maxRecDepth 20000 in
theorem dX7_tell_27 : decode cX7_tell 27 = .ok (.invokestatic 225, 3) := by decide +kernel
set_option maxRecDepth 20000 in
theorem dX7_tell_30 : decode cX7_tell 30 = .ok (.ifCond .ne 6, 3) := by decide +kernel
set_option maxRecDepth 20000 in
theorem dX7_tell_33 : decode cX7_tell 33 = .ok (.ldc 107, 2) := by decide +kernel
set_option maxRecDepth 20000 in
theorem dX7_tell_35 : decode cX7_tell 35 = .ok (.ireturn, 1) := by decide +kernel
set_option maxRecDepth 20000 in
theorem dX7_tell_36 : decode cX7_tell 36 = .ok (.aload_n 0, 1) := by decide +kernel
set_option maxRecDepth 20000 in
theorem dX7_tell_37 : decode cX7_tell 37 = .ok (.getfield 57, 3) := by decide +kernel
set_option maxRecDepth 20000 in
theorem dX7_tell_40 : decode cX7_tell 40 = .ok (.aload_n 0, 1) := by decide +kernel
set_option maxRecDepth 20000 in
theorem dX7_tell_41 : decode cX7_tell 41 = .ok (.getfield 222, 3) := by decide +kernel
set_option maxRecDepth 20000 in
theorem dX7_tell_44 : decode cX7_tell 44 = .ok (.iload_n 1, 1) := by decide +kernel
set_option maxRecDepth 20000 in
theorem dX7_tell_45 : decode cX7_tell 45 = .ok (.iastore, 1) := by decide +kernel
set_option maxRecDepth 20000 in
theorem dX7_tell_46 : decode cX7_tell 46 = .ok (.aload_n 0, 1) := by decide +kernel
set_option maxRecDepth 20000 in
theorem dX7_tell_47 : decode cX7_tell 47 = .ok (.getfield 60, 3) := by decide +kernel
set_option maxRecDepth 20000 in
theorem dX7_tell_50 : decode cX7_tell 50 = .ok (.aload_n 0, 1) := by decide +kernel
set_option maxRecDepth 20000 in
theorem dX7_tell_51 : decode cX7_tell 51 = .ok (.getfield 222, 3) := by decide +kernel
set_option maxRecDepth 20000 in
theorem dX7_tell_54 : decode cX7_tell 54 = .ok (.iload_n 2, 1) := by decide +kernel
set_option maxRecDepth 20000 in
theorem dX7_tell_55 : decode cX7_tell 55 = .ok (.iastore, 1) := by decide +kernel
set_option maxRecDepth 20000 in
theorem dX7_tell_56 : decode cX7_tell 56 = .ok (.aload_n 0, 1) := by decide +kernel
set_option maxRecDepth 20000 in
theorem dX7_tell_57 : decode cX7_tell 57 = .ok (.getfield 63, 3) := by decide +kernel
set_option maxRecDepth 20000 in
theorem dX7_tell_60 : decode cX7_tell 60 = .ok (.aload_n 0, 1) := by decide +kernel
set_option maxRecDepth 20000 in
theorem dX7_tell_61 : decode cX7_tell 61 = .ok (.getfield 222, 3) := by decide +kernel
set_option maxRecDepth 20000 in
theorem dX7_tell_64 : decode cX7_tell 64 = .ok (.iload_n 3, 1) := by decide +kernel
set_option maxRecDepth 20000 in
theorem dX7_tell_65 : decode cX7_tell 65 = .ok (.iastore, 1) := by decide +kernel
set_option maxRecDepth 20000 in
theorem dX7_tell_66 : decode cX7_tell 66 = .ok (.aload_n 0, 1) := by decide +kernel
set_option maxRecDepth 20000 in
theorem dX7_tell_67 : decode cX7_tell 67 = .ok (.dup, 1) := by decide +kernel
set_option maxRecDepth 20000 in
theorem dX7_tell_68 : decode cX7_tell 68 = .ok (.getfield 222, 3) := by decide +kernel
set_option maxRecDepth 20000 in
theorem dX7_tell_71 : decode cX7_tell 71 = .ok (.iconst 1, 1) := by decide +kernel
set_option maxRecDepth 20000 in
theorem dX7_tell_72 : decode cX7_tell 72 = .ok (.iadd, 1) := by decide +kernel
set_option maxRecDepth 20000 in
theorem dX7_tell_73 : decode cX7_tell 73 = .ok (.putfield 222, 3) := by decide +kernel
set_option maxRecDepth 20000 in
theorem dX7_tell_76 : decode cX7_tell 76 = .ok (.aload_n 0, 1) := by decide +kernel
set_option maxRecDepth 20000 in
theorem dX7_tell_77 : decode cX7_tell 77 = .ok (.getfield 222, 3) := by decide +kernel
set_option maxRecDepth 20000 in
theorem dX7_tell_80 : decode cX7_tell 80 = .ok (.ireturn, 1) := by decide +kernel
set_option maxRecDepth 20000 in
theorem dX7_alter_0 : decode cX7_alter 0 = .ok (.iload_n 1, 1) := by decide +kernel
set_option maxRecDepth 20000 in
theorem dX7_alter_1 : decode cX7_alter 1 = .ok (.iconst 0, 1) := by decide +kernel
set_option maxRecDepth 20000 in
theorem dX7_alter_2 : decode cX7_alter 2 = .ok (.aload_n 0, 1) := by decide +kernel
set_option maxRecDepth 20000 in
theorem dX7_alter_3 : decode cX7_alter 3 = .ok (.getfield 222, 3) := by decide +kernel
set_option maxRecDepth 20000 in
theorem dX7_alter_6 : decode cX7_alter 6 = .ok (.iconst 1, 1) := by decide +kernel
set_option maxRecDepth 20000 in
theorem dX7_alter_7 : decode cX7_alter 7 = .ok (.isub, 1) := by decide +kernel
set_option maxRecDepth 20000 in
theorem dX7_alter_8 : decode cX7_alter 8 = .ok (.invokestatic 100, 3) := by decide +kernel
set_option maxRecDepth 20000 in
theorem dX7_alter_11 : decode cX7_alter 11 = .ok (.ifCond .eq 20, 3) := by decide +kernel
set_option maxRecDepth 20000 in
theorem dX7_alter_14 : decode cX7_alter 14 = .ok (.iload_n 2, 1) := by decide +kernel
set_option maxRecDepth 20000 in
theorem dX7_alter_15 : decode cX7_alter 15 = .ok (.iconst 0, 1) := by decide +kernel
set_option maxRecDepth 20000 in
theorem dX7_alter_16 : decode cX7_alter 16 = .ok (.iconst 2, 1) := by decide +kernel
set_option maxRecDepth 20000 in
theorem dX7_alter_17 : decode cX7_alter 17 = .ok (.invokestatic 100, 3) := by decide +kernel
set_option maxRecDepth 20000 in
theorem dX7_alter_20 : decode cX7_alter 20 = .ok (.ifCond .eq 11, 3) := by decide +kernel
set_option maxRecDepth 20000 in
theorem dX7_alter_23 : decode cX7_alter 23 = .ok (.iload_n 2, 1) := by decide +kernel
set_option maxRecDepth 20000 in
theorem dX7_alter_24 : decode cX7_alter 24 = .ok (.iload_n 3, 1) := by decide +kernel
set_option maxRecDepth 20000 in
theorem dX7_alter_25 : decode cX7_alter 25 = .ok (.invokestatic 225, 3) := by decide +kernel
set_option maxRecDepth 20000 in
theorem dX7_alter_28 : decode cX7_alter 28 = .ok (.ifCond .ne 6, 3) := by decide +kernel
set_option maxRecDepth 20000 in
theorem dX7_alter_31 : decode cX7_alter 31 = .ok (.ldc 107, 2) := by decide +kernel
set_option maxRecDepth 20000 in
theorem dX7_alter_33 : decode cX7_alter 33 = .ok (.ireturn, 1) := by decide +kernel
set_option maxRecDepth 20000 in
theorem dX7_alter_34 : decode cX7_alter 34 = .ok (.iload_n 2, 1) := by decide +kernel
set_option maxRecDepth 20000 in
theorem dX7_alter_35 : decode cX7_alter 35 = .ok (.ifCond .ne 12, 3) := by decide +kernel
set_option maxRecDepth 20000 in
theorem dX7_alter_38 : decode cX7_alter 38 = .ok (.aload_n 0, 1) := by decide +kernel
set_option maxRecDepth 20000 in
theorem dX7_alter_39 : decode cX7_alter 39 = .ok (.getfield 57, 3) := by decide +kernel
set_option maxRecDepth 20000 in
theorem dX7_alter_42 : decode cX7_alter 42 = .ok (.iload_n 1, 1) := by decide +kernel
set_option maxRecDepth 20000 in
theorem dX7_alter_43 : decode cX7_alter 43 = .ok (.iaload, 1) := by decide +kernel
set_option maxRecDepth 20000 in
theorem dX7_alter_44 : decode cX7_alter 44 = .ok (.goto 23, 3) := by decide +kernel
set_option maxRecDepth 20000 in
theorem dX7_alter_47 : decode cX7_alter 47 = .ok (.iload_n 2, 1) := by decide +kernel
set_option maxRecDepth 20000 in
theorem dX7_alter_48 : decode cX7_alter 48 = .ok (.iconst 1, 1) := by decide +kernel
set_option maxRecDepth 20000 in
theorem dX7_alter_49 : decode cX7_alter 49 = .ok (.if_icmp .ne 12, 3) := by decide +kernel
set_option maxRecDepth 20000 in
theorem dX7_alter_52 : decode cX7_alter 52 = .ok (.aload_n 0, 1) := by decide +kernel
set_option maxRecDepth 20000 in
theorem dX7_alter_53 : decode cX7_alter 53 = .ok (.getfield 60, 3) := by decide +kernel
set_option maxRecDepth 20000 in
theorem dX7_alter_56 : decode cX7_alter 56 = .ok (.iload_n 1, 1) := by decide +kernel
set_option maxRecDepth 20000 in
theorem dX7_alter_57 : decode cX7_alter 57 = .ok (.iaload, 1) := by decide +kernel
set_option maxRecDepth 20000 in
theorem dX7_alter_58 : decode cX7_alter 58 = .ok (.goto 9, 3) := by decide +kernel
set_option maxRecDepth 20000 in
theorem dX7_alter_61 : decode cX7_alter 61 = .ok (.aload_n 0, 1) := by decide +kernel
set_option maxRecDepth 20000 in
theorem dX7_alter_62 : decode cX7_alter 62 = .ok (.getfield 63, 3) := by decide +kernel
set_option maxRecDepth 20000 in
theorem dX7_alter_65 : decode cX7_alter 65 = .ok (.iload_n 1, 1) := by decide +kernel
set_option maxRecDepth 20000 in
theorem dX7_alter_66 : decode cX7_alter 66 = .ok (.iaload, 1) := by decide +kernel
set_option maxRecDepth 20000 in
theorem dX7_alter_67 : decode cX7_alter 67 = .ok (.istore 4, 2) := by decide +kernel
set_option maxRecDepth 20000 in
theorem dX7_alter_69 : decode cX7_alter 69 = .ok (.iload_n 2, 1) := by decide +kernel
set_option maxRecDepth 20000 in
theorem dX7_alter_70 : decode cX7_alter 70 = .ok (.ifCond .ne 13, 3) := by decide +kernel
set_option maxRecDepth 20000 in
theorem dX7_alter_73 : decode cX7_alter 73 = .ok (.aload_n 0, 1) := by decide +kernel
set_option maxRecDepth 20000 in
theorem dX7_alter_74 : decode cX7_alter 74 = .ok (.getfield 57, 3) := by decide +kernel
set_option maxRecDepth 20000 in
theorem dX7_alter_77 : decode cX7_alter 77 = .ok (.iload_n 1, 1) := by decide +kernel
set_option maxRecDepth 20000 in
theorem dX7_alter_78 : decode cX7_alter 78 = .ok (.iload_n 3, 1) := by decide +kernel
set_option maxRecDepth 20000 in
theorem dX7_alter_79 : decode cX7_alter 79 = .ok (.iastore, 1) := by decide +kernel
set_option maxRecDepth 20000 in
theorem dX7_alter_80 : decode cX7_alter 80 = .ok (.goto 25, 3) := by decide +kernel
set_option maxRecDepth 20000 in
theorem dX7_alter_83 : decode cX7_alter 83 = .ok (.iload_n 2, 1) := by decide +kernel
set_option maxRecDepth 20000 in
theorem dX7_alter_84 : decode cX7_alter 84 = .ok (.iconst 1, 1) := by decide +kernel
set_option maxRecDepth 20000 in
theorem dX7_alter_85 : decode cX7_alter 85 = .ok (.if_icmp .ne 13, 3) := by decide +kernel
set_option maxRecDepth 20000 in
theorem dX7_alter_88 : decode cX7_alter 88 = .ok (.aload_n 0, 1) := by decide +kernel
set_option maxRecDepth 20000 in
theorem dX7_alter_89 : decode cX7_alter 89 = .ok (.getfield 60, 3) := by decide +kernel
set_option maxRecDepth 20000 in
theorem dX7_alter_92 : decode cX7_alter 92 = .ok (.iload_n 1, 1) := by decide +kernel
set_option maxRecDepth 20000 in
theorem dX7_alter_93 : decode cX7_alter 93 = .ok (.iload_n 3, 1) := by decide +kernel
set_option maxRecDepth 20000 in
theorem dX7_alter_94 : decode cX7_alter 94 = .ok (.iastore, 1) := by decide +kernel
set_option maxRecDepth 20000 in
theorem dX7_alter_95 : decode cX7_alter 95 = .ok (.goto 10, 3) := by decide +kernel
set_option maxRecDepth 20000 in
theorem dX7_alter_98 : decode cX7_alter 98 = .ok (.aload_n 0, 1) := by decide +kernel
set_option maxRecDepth 20000 in
theorem dX7_alter_99 : decode cX7_alter 99 = .ok (.getfield 63, 3) := by decide +kernel
set_option maxRecDepth 20000 in
theorem dX7_alter_102 : decode cX7_alter 102 = .ok (.iload_n 1, 1) := by decide +kernel
set_option maxRecDepth 20000 in
theorem dX7_alter_103 : decode cX7_alter 103 = .ok (.iload_n 3, 1) := by decide +kernel
set_option maxRecDepth 20000 in
theorem dX7_alter_104 : decode cX7_alter 104 = .ok (.iastore, 1) := by decide +kernel
set_option maxRecDepth 20000 in
theorem dX7_alter_105 : decode cX7_alter 105 = .ok (.iload 4, 2) := by decide +kernel
set_option maxRecDepth 20000 in
theorem dX7_alter_107 : decode cX7_alter 107 = .ok (.ireturn, 1) := by decide +kernel
set_option maxRecDepth 20000 in
theorem dX7_hush_0 : decode cX7_hush 0 = .ok (.aload_n 0, 1) := by decide +kernel
set_option maxRecDepth 20000 in
theorem dX7_hush_1 : decode cX7_hush 1 = .ok (.getfield 222, 3) := by decide +kernel
set_option maxRecDepth 20000 in
theorem dX7_hush_4 : decode cX7_hush 4 = .ok (.istore_n 1, 1) := by decide +kernel
set_option maxRecDepth 20000 in
theorem dX7_hush_5 : decode cX7_hush 5 = .ok (.aload_n 0, 1) := by decide +kernel
set_option maxRecDepth 20000 in
theorem dX7_hush_6 : decode cX7_hush 6 = .ok (.iconst 0, 1) := by decide +kernel
set_option maxRecDepth 20000 in
theorem dX7_hush_7 : decode cX7_hush 7 = .ok (.putfield 222, 3) := by decide +kernel
set_option maxRecDepth 20000 in
theorem dX7_hush_10 : decode cX7_hush 10 = .ok (.iload_n 1, 1) := by decide +kernel
set_option maxRecDepth 20000 in
theorem dX7_hush_11 : decode cX7_hush 11 = .ok (.ireturn, 1) := by decide +kernel
set_option maxRecDepth 20000 in
theorem dX7_copy_0 : decode cX7_copy 0 = .ok (.aload_n 0, 1) := by decide +kernel
set_option maxRecDepth 20000 in
theorem dX7_copy_1 : decode cX7_copy 1 = .ok (.invokevirtual 210, 3) := by decide +kernel
set_option maxRecDepth 20000 in
theorem dX7_copy_4 : decode cX7_copy 4 = .ok (.ifCond .ne 6, 3) := by decide +kernel
set_option maxRecDepth 20000 in
theorem dX7_copy_7 : decode cX7_copy 7 = .ok (.ldc 107, 2) := by decide +kernel
set_option maxRecDepth 20000 in
theorem dX7_copy_9 : decode cX7_copy 9 = .ok (.ireturn, 1) := by decide +kernel
set_option maxRecDepth 20000 in
theorem dX7_copy_10 : decode cX7_copy 10 = .ok (.aload_n 0, 1) := by decide +kernel
set_option maxRecDepth 20000 in
theorem dX7_copy_11 : decode cX7_copy 11 = .ok (.iconst 0, 1) := by decide +kernel
set_option maxRecDepth 20000 in
theorem dX7_copy_12 : decode cX7_copy 12 = .ok (.putfield 222, 3) := by decide +kernel
set_option maxRecDepth 20000 in
theorem dX7_copy_15 : decode cX7_copy 15 = .ok (.iconst 0, 1) := by decide +kernel
set_option maxRecDepth 20000 in
theorem dX7_copy_16 : decode cX7_copy 16 = .ok (.istore_n 1, 1) := by decide +kernel
set_option maxRecDepth 20000 in
theorem dX7_copy_17 : decode cX7_copy 17 = .ok (.iload_n 1, 1) := by decide +kernel
set_option maxRecDepth 20000 in
theorem dX7_copy_18 : decode cX7_copy 18 = .ok (.aload_n 0, 1) := by decide +kernel
set_option maxRecDepth 20000 in
theorem dX7_copy_19 : decode cX7_copy 19 = .ok (.getfield 104, 3) := by decide +kernel
set_option maxRecDepth 20000 in
theorem dX7_copy_22 : decode cX7_copy 22 = .ok (.if_icmp .ge 72, 3) := by decide +kernel
set_option maxRecDepth 20000 in
theorem dX7_copy_25 : decode cX7_copy 25 = .ok (.aload_n 0, 1) := by decide +kernel
set_option maxRecDepth 20000 in
theorem dX7_copy_26 : decode cX7_copy 26 = .ok (.iload_n 1, 1) := by decide +kernel
set_option maxRecDepth 20000 in
theorem dX7_copy_27 : decode cX7_copy 27 = .ok (.invokevirtual 188, 3) := by decide +kernel
set_option maxRecDepth 20000 in
theorem dX7_copy_30 : decode cX7_copy 30 = .ok (.ifCond .ne 6, 3) := by decide +kernel
set_option maxRecDepth 20000 in
theorem dX7_copy_33 : decode cX7_copy 33 = .ok (.goto 55, 3) := by decide +kernel
set_option maxRecDepth 20000 in
theorem dX7_copy_36 : decode cX7_copy 36 = .ok (.aload_n 0, 1) := by decide +kernel
set_option maxRecDepth 20000 in
theorem dX7_copy_37 : decode cX7_copy 37 = .ok (.getfield 57, 3) := by decide +kernel
set_option maxRecDepth 20000 in
theorem dX7_copy_40 : decode cX7_copy 40 = .ok (.aload_n 0, 1) := by decide +kernel
set_option maxRecDepth 20000 in
theorem dX7_copy_41 : decode cX7_copy 41 = .ok (.getfield 222, 3) := by decide +kernel
set_option maxRecDepth 20000 in
theorem dX7_copy_44 : decode cX7_copy 44 = .ok (.aload_n 0, 1) := by decide +kernel
set_option maxRecDepth 20000 in
theorem dX7_copy_45 : decode cX7_copy 45 = .ok (.iload_n 1, 1) := by decide +kernel
set_option maxRecDepth 20000 in
theorem dX7_copy_46 : decode cX7_copy 46 = .ok (.invokevirtual 194, 3) := by decide +kernel
set_option maxRecDepth 20000 in
theorem dX7_copy_49 : decode cX7_copy 49 = .ok (.iastore, 1) := by decide +kernel
set_option maxRecDepth 20000 in
theorem dX7_copy_50 : decode cX7_copy 50 = .ok (.aload_n 0, 1) := by decide +kernel
set_option maxRecDepth 20000 in
theorem dX7_copy_51 : decode cX7_copy 51 = .ok (.getfield 60, 3) := by decide +kernel
set_option maxRecDepth 20000 in
theorem dX7_copy_54 : decode cX7_copy 54 = .ok (.aload_n 0, 1) := by decide +kernel
set_option maxRecDepth 20000 in
theorem dX7_copy_55 : decode cX7_copy 55 = .ok (.getfield 222, 3) := by decide +kernel
set_option maxRecDepth 20000 in
theorem dX7_copy_58 : decode cX7_copy 58 = .ok (.aload_n 0, 1) := by decide +kernel
set_option maxRecDepth 20000 in
theorem dX7_copy_59 : decode cX7_copy 59 = .ok (.iload_n 1, 1) := by decide +kernel
set_option maxRecDepth 20000 in
theorem dX7_copy_60 : decode cX7_copy 60 = .ok (.invokevirtual 197, 3) := by decide +kernel
set_option maxRecDepth 20000 in
theorem dX7_copy_63 : decode cX7_copy 63 = .ok (.iastore, 1) := by decide +kernel
set_option maxRecDepth 20000 in
theorem dX7_copy_64 : decode cX7_copy 64 = .ok (.aload_n 0, 1) := by decide +kernel
set_option maxRecDepth 20000 in
theorem dX7_copy_65 : decode cX7_copy 65 = .ok (.getfield 63, 3) := by decide +kernel
set_option maxRecDepth 20000 in
theorem dX7_copy_68 : decode cX7_copy 68 = .ok (.aload_n 0, 1) := by decide +kernel
set_option maxRecDepth 20000 in
theorem dX7_copy_69 : decode cX7_copy 69 = .ok (.getfield 222, 3) := by decide +kernel
set_option maxRecDepth 20000 in
theorem dX7_copy_72 : decode cX7_copy 72 = .ok (.aload_n 0, 1) := by decide +kernel
set_option maxRecDepth 20000 in
theorem dX7_copy_73 : decode cX7_copy 73 = .ok (.iload_n 1, 1) := by decide +kernel
set_option maxRecDepth 20000 in
theorem dX7_copy_74 : decode cX7_copy 74 = .ok (.invokevirtual 191, 3) := by decide +kernel
set_option maxRecDepth 20000 in
theorem dX7_copy_77 : decode cX7_copy 77 = .ok (.iastore, 1) := by decide +kernel
set_option maxRecDepth 20000 in
theorem dX7_copy_78 : decode cX7_copy 78 = .ok (.aload_n 0, 1) := by decide +kernel
set_option maxRecDepth 20000 in
theorem dX7_copy_79 : decode cX7_copy 79 = .ok (.dup, 1) := by decide +kernel
set_option maxRecDepth 20000 in
theorem dX7_copy_80 : decode cX7_copy 80 = .ok (.getfield 222, 3) := by decide +kernel
set_option maxRecDepth 20000 in
theorem dX7_copy_83 : decode cX7_copy 83 = .ok (.iconst 1, 1) := by decide +kernel
set_option maxRecDepth 20000 in
theorem dX7_copy_84 : decode cX7_copy 84 = .ok (.iadd, 1) := by decide +kernel
set_option maxRecDepth 20000 in
theorem dX7_copy_85 : decode cX7_copy 85 = .ok (.putfield 222, 3) := by decide +kernel
set_option maxRecDepth 20000 in
theorem dX7_copy_88 : decode cX7_copy 88 = .ok (.iinc 1 1, 3) := by decide +kernel
set_option maxRecDepth 20000 in
theorem dX7_copy_91 : decode cX7_copy 91 = .ok (.goto (-74), 3) := by decide +kernel
set_option maxRecDepth 20000 in
theorem dX7_copy_94 : decode cX7_copy 94 = .ok (.aload_n 0, 1) := by decide +kernel
set_option maxRecDepth 20000 in
theorem dX7_copy_95 : decode cX7_copy 95 = .ok (.getfield 222, 3) := by decide +kernel
set_option maxRecDepth 20000 in
theorem dX7_copy_98 : decode cX7_copy 98 = .ok (.ireturn, 1) := by decide +kernel
set_option maxRecDepth 20000 in
theorem dX7_overlap_0 : decode cX7_overlap 0 = .ok (.aload_n 0, 1) := by decide +kernel
set_option maxRecDepth 20000 in
theorem dX7_overlap_1 : decode cX7_overlap 1 = .ok (.getfield 57, 3) := by decide +kernel
set_option maxRecDepth 20000 in
theorem dX7_overlap_4 : decode cX7_overlap 4 = .ok (.iload_n 1, 1) := by decide +kernel
set_option maxRecDepth 20000 in
theorem dX7_overlap_5 : decode cX7_overlap 5 = .ok (.iaload, 1) := by decide +kernel
set_option maxRecDepth 20000 in
theorem dX7_overlap_6 : decode cX7_overlap 6 = .ok (.aload_n 0, 1) := by decide +kernel
set_option maxRecDepth 20000 in
theorem dX7_overlap_7 : decode cX7_overlap 7 = .ok (.getfield 57, 3) := by decide +kernel
set_option maxRecDepth 20000 in
theorem dX7_overlap_10 : decode cX7_overlap 10 = .ok (.iload_n 2, 1) := by decide +kernel
set_option maxRecDepth 20000 in
theorem dX7_overlap_11 : decode cX7_overlap 11 = .ok (.iaload, 1) := by decide +kernel
set_option maxRecDepth 20000 in
theorem dX7_overlap_12 : decode cX7_overlap 12 = .ok (.aload_n 0, 1) := by decide +kernel
set_option maxRecDepth 20000 in
theorem dX7_overlap_13 : decode cX7_overlap 13 = .ok (.getfield 63, 3) := by decide +kernel
set_option maxRecDepth 20000 in
theorem dX7_overlap_16 : decode cX7_overlap 16 = .ok (.iload_n 2, 1) := by decide +kernel
set_option maxRecDepth 20000 in
theorem dX7_overlap_17 : decode cX7_overlap 17 = .ok (.iaload, 1) := by decide +kernel
set_option maxRecDepth 20000 in
theorem dX7_overlap_18 : decode cX7_overlap 18 = .ok (.iadd, 1) := by decide +kernel
set_option maxRecDepth 20000 in
theorem dX7_overlap_19 : decode cX7_overlap 19 = .ok (.if_icmp .ge 73, 3) := by decide +kernel
set_option maxRecDepth 20000 in
theorem dX7_overlap_22 : decode cX7_overlap 22 = .ok (.aload_n 0, 1) := by decide +kernel
set_option maxRecDepth 20000 in
theorem dX7_overlap_23 : decode cX7_overlap 23 = .ok (.getfield 57, 3) := by decide +kernel
set_option maxRecDepth 20000 in
theorem dX7_overlap_26 : decode cX7_overlap 26 = .ok (.iload_n 2, 1) := by decide +kernel
set_option maxRecDepth 20000 in
theorem dX7_overlap_27 : decode cX7_overlap 27 = .ok (.iaload, 1) := by decide +kernel
set_option maxRecDepth 20000 in
theorem dX7_overlap_28 : decode cX7_overlap 28 = .ok (.aload_n 0, 1) := by decide +kernel
set_option maxRecDepth 20000 in
theorem dX7_overlap_29 : decode cX7_overlap 29 = .ok (.getfield 57, 3) := by decide +kernel
set_option maxRecDepth 20000 in
theorem dX7_overlap_32 : decode cX7_overlap 32 = .ok (.iload_n 1, 1) := by decide +kernel
set_option maxRecDepth 20000 in
theorem dX7_overlap_33 : decode cX7_overlap 33 = .ok (.iaload, 1) := by decide +kernel
set_option maxRecDepth 20000 in
theorem dX7_overlap_34 : decode cX7_overlap 34 = .ok (.aload_n 0, 1) := by decide +kernel
set_option maxRecDepth 20000 in
theorem dX7_overlap_35 : decode cX7_overlap 35 = .ok (.getfield 63, 3) := by decide +kernel
set_option maxRecDepth 20000 in
theorem dX7_overlap_38 : decode cX7_overlap 38 = .ok (.iload_n 1, 1) := by decide +kernel
set_option maxRecDepth 20000 in
theorem dX7_overlap_39 : decode cX7_overlap 39 = .ok (.iaload, 1) := by decide +kernel
set_option maxRecDepth 20000 in
theorem dX7_overlap_40 : decode cX7_overlap 40 = .ok (.iadd, 1) := by decide +kernel
set_option maxRecDepth 20000 in
theorem dX7_overlap_41 : decode cX7_overlap 41 = .ok (.if_icmp .ge 51, 3) := by decide +kernel
set_option maxRecDepth 20000 in
theorem dX7_overlap_44 : decode cX7_overlap 44 = .ok (.aload_n 0, 1) := by decide +kernel
set_option maxRecDepth 20000 in
theorem dX7_overlap_45 : decode cX7_overlap 45 = .ok (.getfield 60, 3) := by decide +kernel
set_option maxRecDepth 20000 in
theorem dX7_overlap_48 : decode cX7_overlap 48 = .ok (.iload_n 1, 1) := by decide +kernel
set_option maxRecDepth 20000 in
theorem dX7_overlap_49 : decode cX7_overlap 49 = .ok (.iaload, 1) := by decide +kernel
set_option maxRecDepth 20000 in
theorem dX7_overlap_50 : decode cX7_overlap 50 = .ok (.aload_n 0, 1) := by decide +kernel
set_option maxRecDepth 20000 in
theorem dX7_overlap_51 : decode cX7_overlap 51 = .ok (.getfield 60, 3) := by decide +kernel
set_option maxRecDepth 20000 in
theorem dX7_overlap_54 : decode cX7_overlap 54 = .ok (.iload_n 2, 1) := by decide +kernel
set_option maxRecDepth 20000 in
theorem dX7_overlap_55 : decode cX7_overlap 55 = .ok (.iaload, 1) := by decide +kernel
set_option maxRecDepth 20000 in
theorem dX7_overlap_56 : decode cX7_overlap 56 = .ok (.aload_n 0, 1) := by decide +kernel
set_option maxRecDepth 20000 in
theorem dX7_overlap_57 : decode cX7_overlap 57 = .ok (.getfield 63, 3) := by decide +kernel
set_option maxRecDepth 20000 in
theorem dX7_overlap_60 : decode cX7_overlap 60 = .ok (.iload_n 2, 1) := by decide +kernel
set_option maxRecDepth 20000 in
theorem dX7_overlap_61 : decode cX7_overlap 61 = .ok (.iaload, 1) := by decide +kernel
set_option maxRecDepth 20000 in
theorem dX7_overlap_62 : decode cX7_overlap 62 = .ok (.iadd, 1) := by decide +kernel
set_option maxRecDepth 20000 in
theorem dX7_overlap_63 : decode cX7_overlap 63 = .ok (.if_icmp .ge 29, 3) := by decide +kernel
set_option maxRecDepth 20000 in
theorem dX7_overlap_66 : decode cX7_overlap 66 = .ok (.aload_n 0, 1) := by decide +kernel
set_option maxRecDepth 20000 in
theorem dX7_overlap_67 : decode cX7_overlap 67 = .ok (.getfield 60, 3) := by decide +kernel
set_option maxRecDepth 20000 in
theorem dX7_overlap_70 : decode cX7_overlap 70 = .ok (.iload_n 2, 1) := by decide +kernel
set_option maxRecDepth 20000 in
theorem dX7_overlap_71 : decode cX7_overlap 71 = .ok (.iaload, 1) := by decide +kernel
set_option maxRecDepth 20000 in
theorem dX7_overlap_72 : decode cX7_overlap 72 = .ok (.aload_n 0, 1) := by decide +kernel
set_option maxRecDepth 20000 in
theorem dX7_overlap_73 : decode cX7_overlap 73 = .ok (.getfield 60, 3) := by decide +kernel
set_option maxRecDepth 20000 in
theorem dX7_overlap_76 : decode cX7_overlap 76 = .ok (.iload_n 1, 1) := by decide +kernel
set_option maxRecDepth 20000 in
theorem dX7_overlap_77 : decode cX7_overlap 77 = .ok (.iaload, 1) := by decide +kernel
set_option maxRecDepth 20000 in
theorem dX7_overlap_78 : decode cX7_overlap 78 = .ok (.aload_n 0, 1) := by decide +kernel
set_option maxRecDepth 20000 in
theorem dX7_overlap_79 : decode cX7_overlap 79 = .ok (.getfield 63, 3) := by decide +kernel
set_option maxRecDepth 20000 in
theorem dX7_overlap_82 : decode cX7_overlap 82 = .ok (.iload_n 1, 1) := by decide +kernel
set_option maxRecDepth 20000 in
theorem dX7_overlap_83 : decode cX7_overlap 83 = .ok (.iaload, 1) := by decide +kernel
set_option maxRecDepth 20000 in
theorem dX7_overlap_84 : decode cX7_overlap 84 = .ok (.iadd, 1) := by decide +kernel
set_option maxRecDepth 20000 in
theorem dX7_overlap_85 : decode cX7_overlap 85 = .ok (.if_icmp .ge 7, 3) := by decide +kernel
set_option maxRecDepth 20000 in
theorem dX7_overlap_88 : decode cX7_overlap 88 = .ok (.iconst 1, 1) := by decide +kernel
set_option maxRecDepth 20000 in
theorem dX7_overlap_89 : decode cX7_overlap 89 = .ok (.goto 4, 3) := by decide +kernel
set_option maxRecDepth 20000 in
theorem dX7_overlap_92 : decode cX7_overlap 92 = .ok (.iconst 0, 1) := by decide +kernel
set_option maxRecDepth 20000 in
theorem dX7_overlap_93 : decode cX7_overlap 93 = .ok (.ireturn, 1) := by decide +kernel
set_option maxRecDepth 20000 in
theorem dX7_fit_0 : decode cX7_fit 0 = .ok (.iload_n 1, 1) := by decide +kernel
set_option maxRecDepth 20000 in
theorem dX7_fit_1 : decode cX7_fit 1 = .ok (.iconst 1, 1) := by decide +kernel
set_option maxRecDepth 20000 in
theorem dX7_fit_2 : decode cX7_fit 2 = .ok (.ldc 221, 2) := by decide +kernel
set_option maxRecDepth 20000 in
theorem dX7_fit_4 : decode cX7_fit 4 = .ok (.invokestatic 100, 3) := by decide +kernel
set_option maxRecDepth 20000 in
theorem dX7_fit_7 : decode cX7_fit 7 = .ok (.ifCond .eq 20, 3) := by decide +kernel
set_option maxRecDepth 20000 in
theorem dX7_fit_10 : decode cX7_fit 10 = .ok (.iload_n 2, 1) := by decide +kernel
set_option maxRecDepth 20000 in
theorem dX7_fit_11 : decode cX7_fit 11 = .ok (.iconst 1, 1) := by decide +kernel
set_option maxRecDepth 20000 in
theorem dX7_fit_12 : decode cX7_fit 12 = .ok (.ldc 221, 2) := by decide +kernel
set_option maxRecDepth 20000 in
theorem dX7_fit_14 : decode cX7_fit 14 = .ok (.invokestatic 100, 3) := by decide +kernel
set_option maxRecDepth 20000 in
theorem dX7_fit_17 : decode cX7_fit 17 = .ok (.ifCond .eq 10, 3) := by decide +kernel
set_option maxRecDepth 20000 in
theorem dX7_fit_20 : decode cX7_fit 20 = .ok (.aload_n 0, 1) := by decide +kernel
set_option maxRecDepth 20000 in
theorem dX7_fit_21 : decode cX7_fit 21 = .ok (.getfield 222, 3) := by decide +kernel
set_option maxRecDepth 20000 in
theorem dX7_fit_24 : decode cX7_fit 24 = .ok (.ifCond .ne 6, 3) := by decide +kernel
set_option maxRecDepth 20000 in
theorem dX7_fit_27 : decode cX7_fit 27 = .ok (.ldc 107, 2) := by decide +kernel
set_option maxRecDepth 20000 in
theorem dX7_fit_29 : decode cX7_fit 29 = .ok (.ireturn, 1) := by decide +kernel
set_option maxRecDepth 20000 in
theorem dX7_fit_30 : decode cX7_fit 30 = .ok (.lconst 0, 1) := by decide +kernel
set_option maxRecDepth 20000 in
theorem dX7_fit_31 : decode cX7_fit 31 = .ok (.lstore_n 3, 1) := by decide +kernel
set_option maxRecDepth 20000 in
theorem dX7_fit_32 : decode cX7_fit 32 = .ok (.iconst 0, 1) := by decide +kernel
set_option maxRecDepth 20000 in
theorem dX7_fit_33 : decode cX7_fit 33 = .ok (.istore 5, 2) := by decide +kernel
set_option maxRecDepth 20000 in
theorem dX7_fit_35 : decode cX7_fit 35 = .ok (.iload 5, 2) := by decide +kernel
