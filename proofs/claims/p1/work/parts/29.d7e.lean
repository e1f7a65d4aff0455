set_option maxRecDepth 20000 in
theorem dX7_judge_234 : decode cX7_judge 234 = .ok (.getfield 13, 3) := by decide +kernel
set_option maxRecDepth 20000 in
theorem dX7_judge_237 : decode cX7_judge 237 = .ok (.aload_n 0, 1) := by decide +kernel
set_option maxRecDepth 20000 in
theorem dX7_judge_238 : decode cX7_judge 238 = .ok (.getfield 7, 3) := by decide +kernel
set_option maxRecDepth 20000 in
theorem dX7_judge_241 : decode cX7_judge 241 = .ok (.iaload, 1) := by decide +kernel
set_option maxRecDepth 20000 in
theorem dX7_judge_242 : decode cX7_judge 242 = .ok (.iaload, 1) := by decide +kernel
set_option maxRecDepth 20000 in
theorem dX7_judge_243 : decode cX7_judge 243 = .ok (.ifCond .gt 7, 3) := by decide +kernel
set_option maxRecDepth 20000 in
theorem dX7_judge_246 : decode cX7_judge 246 = .ok (.sipush 4000, 3) := by decide +kernel
set_option maxRecDepth 20000 in
theorem dX7_judge_249 : decode cX7_judge 249 = .ok (.ireturn, 1) := by decide +kernel
set_option maxRecDepth 20000 in
theorem dX7_judge_250 : decode cX7_judge 250 = .ok (.lconst 0, 1) := by decide +kernel
set_option maxRecDepth 20000 in
theorem dX7_judge_251 : decode cX7_judge 251 = .ok (.lstore_n 1, 1) := by decide +kernel
set_option maxRecDepth 20000 in
theorem dX7_judge_252 : decode cX7_judge 252 = .ok (.iconst 0, 1) := by decide +kernel
set_option maxRecDepth 20000 in
theorem dX7_judge_253 : decode cX7_judge 253 = .ok (.istore_n 3, 1) := by decide +kernel
set_option maxRecDepth 20000 in
theorem dX7_judge_254 : decode cX7_judge 254 = .ok (.iload_n 3, 1) := by decide +kernel
set_option maxRecDepth 20000 in
theorem dX7_judge_255 : decode cX7_judge 255 = .ok (.aload_n 0, 1) := by decide +kernel
set_option maxRecDepth 20000 in
theorem dX7_judge_256 : decode cX7_judge 256 = .ok (.getfield 104, 3) := by decide +kernel
set_option maxRecDepth 20000 in
theorem dX7_judge_259 : decode cX7_judge 259 = .ok (.if_icmp .ge 21, 3) := by decide +kernel
set_option maxRecDepth 20000 in
theorem dX7_judge_262 : decode cX7_judge 262 = .ok (.lload_n 1, 1) := by decide +kernel
set_option maxRecDepth 20000 in
theorem dX7_judge_263 : decode cX7_judge 263 = .ok (.aload_n 0, 1) := by decide +kernel
set_option maxRecDepth 20000 in
theorem dX7_judge_264 : decode cX7_judge 264 = .ok (.getfield 30, 3) := by decide +kernel
set_option maxRecDepth 20000 in
theorem dX7_judge_267 : decode cX7_judge 267 = .ok (.iload_n 3, 1) := by decide +kernel
set_option maxRecDepth 20000 in
theorem dX7_judge_268 : decode cX7_judge 268 = .ok (.iaload, 1) := by decide +kernel
set_option maxRecDepth 20000 in
theorem dX7_judge_269 : decode cX7_judge 269 = .ok (.i2l, 1) := by decide +kernel
set_option maxRecDepth 20000 in
theorem dX7_judge_270 : decode cX7_judge 270 = .ok (.invokestatic 175, 3) := by decide +kernel
set_option maxRecDepth 20000 in
theorem dX7_judge_273 : decode cX7_judge 273 = .ok (.lstore_n 1, 1) := by decide +kernel
set_option maxRecDepth 20000 in
theorem dX7_judge_274 : decode cX7_judge 274 = .ok (.iinc 3 1, 3) := by decide +kernel
set_option maxRecDepth 20000 in
theorem dX7_judge_277 : decode cX7_judge 277 = .ok (.goto (-23), 3) := by decide +kernel
set_option maxRecDepth 20000 in
theorem dX7_judge_280 : decode cX7_judge 280 = .ok (.lload_n 1, 1) := by decide +kernel
set_option maxRecDepth 20000 in
theorem dX7_judge_281 : decode cX7_judge 281 = .ok (.lconst 1, 1) := by decide +kernel
set_option maxRecDepth 20000 in
theorem dX7_judge_282 : decode cX7_judge 282 = .ok (.lcmp, 1) := by decide +kernel
set_option maxRecDepth 20000 in
theorem dX7_judge_283 : decode cX7_judge 283 = .ok (.ifCond .le 9, 3) := by decide +kernel
set_option maxRecDepth 20000 in
theorem dX7_judge_286 : decode cX7_judge 286 = .ok (.sipush 5000, 3) := by decide +kernel
set_option maxRecDepth 20000 in
theorem dX7_judge_289 : decode cX7_judge 289 = .ok (.goto 4, 3) := by decide +kernel
set_option maxRecDepth 20000 in
theorem dX7_judge_292 : decode cX7_judge 292 = .ok (.iconst 0, 1) := by decide +kernel
set_option maxRecDepth 20000 in
theorem dX7_judge_293 : decode cX7_judge 293 = .ok (.ireturn, 1) := by decide +kernel
set_option maxRecDepth 20000 in
theorem dX7_count_0 : decode cX7_count 0 = .ok (.iload_n 1, 1) := by decide +kernel
set_option maxRecDepth 20000 in
theorem dX7_count_1 : decode cX7_count 1 = .ok (.ifCond .ne 10, 3) := by decide +kernel
set_option maxRecDepth 20000 in
theorem dX7_count_4 : decode cX7_count 4 = .ok (.aload_n 0, 1) := by decide +kernel
set_option maxRecDepth 20000 in
theorem dX7_count_5 : decode cX7_count 5 = .ok (.getfield 97, 3) := by decide +kernel
set_option maxRecDepth 20000 in
theorem dX7_count_8 : decode cX7_count 8 = .ok (.goto 41, 3) := by decide +kernel
set_option maxRecDepth 20000 in
theorem dX7_count_11 : decode cX7_count 11 = .ok (.iload_n 1, 1) := by decide +kernel
set_option maxRecDepth 20000 in
theorem dX7_count_12 : decode cX7_count 12 = .ok (.iconst 1, 1) := by decide +kernel
set_option maxRecDepth 20000 in
theorem dX7_count_13 : decode cX7_count 13 = .ok (.if_icmp .ne 10, 3) := by decide +kernel
set_option maxRecDepth 20000 in
theorem dX7_count_16 : decode cX7_count 16 = .ok (.aload_n 0, 1) := by decide +kernel
set_option maxRecDepth 20000 in
theorem dX7_count_17 : decode cX7_count 17 = .ok (.getfield 104, 3) := by decide +kernel
set_option maxRecDepth 20000 in
theorem dX7_count_20 : decode cX7_count 20 = .ok (.goto 29, 3) := by decide +kernel
set_option maxRecDepth 20000 in
theorem dX7_count_23 : decode cX7_count 23 = .ok (.iload_n 1, 1) := by decide +kernel
set_option maxRecDepth 20000 in
theorem dX7_count_24 : decode cX7_count 24 = .ok (.iconst 2, 1) := by decide +kernel
set_option maxRecDepth 20000 in
theorem dX7_count_25 : decode cX7_count 25 = .ok (.if_icmp .ne 10, 3) := by decide +kernel
set_option maxRecDepth 20000 in
theorem dX7_count_28 : decode cX7_count 28 = .ok (.aload_n 0, 1) := by decide +kernel
set_option maxRecDepth 20000 in
theorem dX7_count_29 : decode cX7_count 29 = .ok (.getfield 222, 3) := by decide +kernel
set_option maxRecDepth 20000 in
theorem dX7_count_32 : decode cX7_count 32 = .ok (.goto 17, 3) := by decide +kernel
set_option maxRecDepth 20000 in
theorem dX7_count_35 : decode cX7_count 35 = .ok (.iload_n 1, 1) := by decide +kernel
set_option maxRecDepth 20000 in
theorem dX7_count_36 : decode cX7_count 36 = .ok (.iconst 3, 1) := by decide +kernel
set_option maxRecDepth 20000 in
theorem dX7_count_37 : decode cX7_count 37 = .ok (.if_icmp .ne 10, 3) := by decide +kernel
set_option maxRecDepth 20000 in
theorem dX7_count_40 : decode cX7_count 40 = .ok (.aload_n 0, 1) := by decide +kernel
set_option maxRecDepth 20000 in
theorem dX7_count_41 : decode cX7_count 41 = .ok (.getfield 7, 3) := by decide +kernel
set_option maxRecDepth 20000 in
theorem dX7_count_44 : decode cX7_count 44 = .ok (.goto 5, 3) := by decide +kernel
set_option maxRecDepth 20000 in
theorem dX7_count_47 : decode cX7_count 47 = .ok (.ldc 107, 2) := by decide +kernel
set_option maxRecDepth 20000 in
theorem dX7_count_49 : decode cX7_count 49 = .ok (.ireturn, 1) := by decide +kernel
