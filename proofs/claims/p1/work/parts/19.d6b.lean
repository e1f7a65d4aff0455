set_option maxRecDepth 20000 in
theorem dX6_findFit_13 : decode cX6_findFit 13 = .ok (.if_icmp .lt 19, 3) := by decide +kernel
set_option maxRecDepth 20000 in
theorem dX6_findFit_16 : decode cX6_findFit 16 = .ok (.iload_n 2, 1) := by decide +kernel
set_option maxRecDepth 20000 in
theorem dX6_findFit_17 : decode cX6_findFit 17 = .ok (.ldc 251, 2) := by decide +kernel
set_option maxRecDepth 20000 in
theorem dX6_findFit_19 : decode cX6_findFit 19 = .ok (.if_icmp .gt 13, 3) := by decide +kernel
set_option maxRecDepth 20000 in
theorem dX6_findFit_22 : decode cX6_findFit 22 = .ok (.aload_n 0, 1) := by decide +kernel
set_option maxRecDepth 20000 in
theorem dX6_findFit_23 : decode cX6_findFit 23 = .ok (.getfield 43, 3) := by decide +kernel
set_option maxRecDepth 20000 in
theorem dX6_findFit_26 : decode cX6_findFit 26 = .ok (.getfield 174, 3) := by decide +kernel
set_option maxRecDepth 20000 in
theorem dX6_findFit_29 : decode cX6_findFit 29 = .ok (.ifCond .ne 6, 3) := by decide +kernel
set_option maxRecDepth 20000 in
theorem dX6_findFit_32 : decode cX6_findFit 32 = .ok (.ldc 58, 2) := by decide +kernel
set_option maxRecDepth 20000 in
theorem dX6_findFit_34 : decode cX6_findFit 34 = .ok (.ireturn, 1) := by decide +kernel
set_option maxRecDepth 20000 in
theorem dX6_findFit_35 : decode cX6_findFit 35 = .ok (.aload_n 0, 1) := by decide +kernel
set_option maxRecDepth 20000 in
theorem dX6_findFit_36 : decode cX6_findFit 36 = .ok (.getfield 43, 3) := by decide +kernel
set_option maxRecDepth 20000 in
theorem dX6_findFit_39 : decode cX6_findFit 39 = .ok (.iload_n 1, 1) := by decide +kernel
set_option maxRecDepth 20000 in
theorem dX6_findFit_40 : decode cX6_findFit 40 = .ok (.iload_n 2, 1) := by decide +kernel
set_option maxRecDepth 20000 in
theorem dX6_findFit_41 : decode cX6_findFit 41 = .ok (.invokevirtual 252, 3) := by decide +kernel
set_option maxRecDepth 20000 in
theorem dX6_findFit_44 : decode cX6_findFit 44 = .ok (.ireturn, 1) := by decide +kernel
set_option maxRecDepth 20000 in
theorem dX6_judgeScale_0 : decode cX6_judgeScale 0 = .ok (.aload_n 0, 1) := by decide +kernel
set_option maxRecDepth 20000 in
theorem dX6_judgeScale_1 : decode cX6_judgeScale 1 = .ok (.getfield 12, 3) := by decide +kernel
set_option maxRecDepth 20000 in
theorem dX6_judgeScale_4 : decode cX6_judgeScale 4 = .ok (.getfield 227, 3) := by decide +kernel
set_option maxRecDepth 20000 in
theorem dX6_judgeScale_7 : decode cX6_judgeScale 7 = .ok (.aload_n 0, 1) := by decide +kernel
set_option maxRecDepth 20000 in
theorem dX6_judgeScale_8 : decode cX6_judgeScale 8 = .ok (.getfield 12, 3) := by decide +kernel
set_option maxRecDepth 20000 in
theorem dX6_judgeScale_11 : decode cX6_judgeScale 11 = .ok (.getfield 129, 3) := by decide +kernel
set_option maxRecDepth 20000 in
theorem dX6_judgeScale_14 : decode cX6_judgeScale 14 = .ok (.aload_n 0, 1) := by decide +kernel
set_option maxRecDepth 20000 in
theorem dX6_judgeScale_15 : decode cX6_judgeScale 15 = .ok (.getfield 12, 3) := by decide +kernel
set_option maxRecDepth 20000 in
theorem dX6_judgeScale_18 : decode cX6_judgeScale 18 = .ok (.getfield 77, 3) := by decide +kernel
set_option maxRecDepth 20000 in
theorem dX6_judgeScale_21 : decode cX6_judgeScale 21 = .ok (.iaload, 1) := by decide +kernel
set_option maxRecDepth 20000 in
theorem dX6_judgeScale_22 : decode cX6_judgeScale 22 = .ok (.iaload, 1) := by decide +kernel
set_option maxRecDepth 20000 in
theorem dX6_judgeScale_23 : decode cX6_judgeScale 23 = .ok (.ifCond .eq 7, 3) := by decide +kernel
set_option maxRecDepth 20000 in
theorem dX6_judgeScale_26 : decode cX6_judgeScale 26 = .ok (.sipush 3000, 3) := by decide +kernel
set_option maxRecDepth 20000 in
theorem dX6_judgeScale_29 : decode cX6_judgeScale 29 = .ok (.ireturn, 1) := by decide +kernel
set_option maxRecDepth 20000 in
theorem dX6_judgeScale_30 : decode cX6_judgeScale 30 = .ok (.aload_n 0, 1) := by decide +kernel
set_option maxRecDepth 20000 in
theorem dX6_judgeScale_31 : decode cX6_judgeScale 31 = .ok (.getfield 12, 3) := by decide +kernel
set_option maxRecDepth 20000 in
theorem dX6_judgeScale_34 : decode cX6_judgeScale 34 = .ok (.getfield 227, 3) := by decide +kernel
set_option maxRecDepth 20000 in
theorem dX6_judgeScale_37 : decode cX6_judgeScale 37 = .ok (.aload_n 0, 1) := by decide +kernel
set_option maxRecDepth 20000 in
theorem dX6_judgeScale_38 : decode cX6_judgeScale 38 = .ok (.getfield 12, 3) := by decide +kernel
set_option maxRecDepth 20000 in
theorem dX6_judgeScale_41 : decode cX6_judgeScale 41 = .ok (.getfield 126, 3) := by decide +kernel
set_option maxRecDepth 20000 in
theorem dX6_judgeScale_44 : decode cX6_judgeScale 44 = .ok (.aload_n 0, 1) := by decide +kernel
set_option maxRecDepth 20000 in
theorem dX6_judgeScale_45 : decode cX6_judgeScale 45 = .ok (.getfield 12, 3) := by decide +kernel
set_option maxRecDepth 20000 in
theorem dX6_judgeScale_48 : decode cX6_judgeScale 48 = .ok (.getfield 77, 3) := by decide +kernel
set_option maxRecDepth 20000 in
theorem dX6_judgeScale_51 : decode cX6_judgeScale 51 = .ok (.iaload, 1) := by decide +kernel
set_option maxRecDepth 20000 in
theorem dX6_judgeScale_52 : decode cX6_judgeScale 52 = .ok (.iaload, 1) := by decide +kernel
set_option maxRecDepth 20000 in
theorem dX6_judgeScale_53 : decode cX6_judgeScale 53 = .ok (.ifCond .gt 7, 3) := by decide +kernel
set_option maxRecDepth 20000 in
theorem dX6_judgeScale_56 : decode cX6_judgeScale 56 = .ok (.sipush 4000, 3) := by decide +kernel
set_option maxRecDepth 20000 in
theorem dX6_judgeScale_59 : decode cX6_judgeScale 59 = .ok (.ireturn, 1) := by decide +kernel
set_option maxRecDepth 20000 in
theorem dX6_judgeScale_60 : decode cX6_judgeScale 60 = .ok (.lconst 0, 1) := by decide +kernel
set_option maxRecDepth 20000 in
theorem dX6_judgeScale_61 : decode cX6_judgeScale 61 = .ok (.lstore_n 1, 1) := by decide +kernel
set_option maxRecDepth 20000 in
theorem dX6_judgeScale_62 : decode cX6_judgeScale 62 = .ok (.iconst 0, 1) := by decide +kernel
set_option maxRecDepth 20000 in
theorem dX6_judgeScale_63 : decode cX6_judgeScale 63 = .ok (.istore_n 3, 1) := by decide +kernel
set_option maxRecDepth 20000 in
theorem dX6_judgeScale_64 : decode cX6_judgeScale 64 = .ok (.iload_n 3, 1) := by decide +kernel
set_option maxRecDepth 20000 in
theorem dX6_judgeScale_65 : decode cX6_judgeScale 65 = .ok (.aload_n 0, 1) := by decide +kernel
set_option maxRecDepth 20000 in
theorem dX6_judgeScale_66 : decode cX6_judgeScale 66 = .ok (.getfield 12, 3) := by decide +kernel
set_option maxRecDepth 20000 in
theorem dX6_judgeScale_69 : decode cX6_judgeScale 69 = .ok (.getfield 67, 3) := by decide +kernel
set_option maxRecDepth 20000 in
theorem dX6_judgeScale_72 : decode cX6_judgeScale 72 = .ok (.if_icmp .ge 24, 3) := by decide +kernel
set_option maxRecDepth 20000 in
theorem dX6_judgeScale_75 : decode cX6_judgeScale 75 = .ok (.lload_n 1, 1) := by decide +kernel
set_option maxRecDepth 20000 in
theorem dX6_judgeScale_76 : decode cX6_judgeScale 76 = .ok (.aload_n 0, 1) := by decide +kernel
set_option maxRecDepth 20000 in
theorem dX6_judgeScale_77 : decode cX6_judgeScale 77 = .ok (.getfield 12, 3) := by decide +kernel
set_option maxRecDepth 20000 in
theorem dX6_judgeScale_80 : decode cX6_judgeScale 80 = .ok (.getfield 224, 3) := by decide +kernel
set_option maxRecDepth 20000 in
theorem dX6_judgeScale_83 : decode cX6_judgeScale 83 = .ok (.iload_n 3, 1) := by decide +kernel
set_option maxRecDepth 20000 in
theorem dX6_judgeScale_84 : decode cX6_judgeScale 84 = .ok (.iaload, 1) := by decide +kernel
set_option maxRecDepth 20000 in
theorem dX6_judgeScale_85 : decode cX6_judgeScale 85 = .ok (.i2l, 1) := by decide +kernel
set_option maxRecDepth 20000 in
theorem dX6_judgeScale_86 : decode cX6_judgeScale 86 = .ok (.invokestatic 255, 3) := by decide +kernel
set_option maxRecDepth 20000 in
theorem dX6_judgeScale_89 : decode cX6_judgeScale 89 = .ok (.lstore_n 1, 1) := by decide +kernel
set_option maxRecDepth 20000 in
theorem dX6_judgeScale_90 : decode cX6_judgeScale 90 = .ok (.iinc 3 1, 3) := by decide +kernel
set_option maxRecDepth 20000 in
theorem dX6_judgeScale_93 : decode cX6_judgeScale 93 = .ok (.goto (-29), 3) := by decide +kernel
set_option maxRecDepth 20000 in
theorem dX6_judgeScale_96 : decode cX6_judgeScale 96 = .ok (.lload_n 1, 1) := by decide +kernel
set_option maxRecDepth 20000 in
theorem dX6_judgeScale_97 : decode cX6_judgeScale 97 = .ok (.lconst 1, 1) := by decide +kernel
set_option maxRecDepth 20000 in
theorem dX6_judgeScale_98 : decode cX6_judgeScale 98 = .ok (.lcmp, 1) := by decide +kernel
set_option maxRecDepth 20000 in
theorem dX6_judgeScale_99 : decode cX6_judgeScale 99 = .ok (.ifCond .le 9, 3) := by decide +kernel
set_option maxRecDepth 20000 in
theorem dX6_judgeScale_102 : decode cX6_judgeScale 102 = .ok (.sipush 5000, 3) := by decide +kernel
set_option maxRecDepth 20000 in
theorem dX6_judgeScale_105 : decode cX6_judgeScale 105 = .ok (.goto 4, 3) := by decide +kernel
set_option maxRecDepth 20000 in
theorem dX6_judgeScale_108 : decode cX6_judgeScale 108 = .ok (.iconst 0, 1) := by decide +kernel
set_option maxRecDepth 20000 in
theorem dX6_judgeScale_109 : decode cX6_judgeScale 109 = .ok (.ireturn, 1) := by decide +kernel
set_option maxRecDepth 20000 in
theorem dX6_canBeClaimed_0 : decode cX6_canBeClaimed 0 = .ok (.iload_n 0, 1) := by decide +kernel
set_option maxRecDepth 20000 in
theorem dX6_canBeClaimed_1 : decode cX6_canBeClaimed 1 = .ok (.ldc_w 259, 3) := by decide +kernel
set_option maxRecDepth 20000 in
theorem dX6_canBeClaimed_4 : decode cX6_canBeClaimed 4 = .ok (.if_icmp .lt 14, 3) := by decide +kernel
set_option maxRecDepth 20000 in
theorem dX6_canBeClaimed_7 : decode cX6_canBeClaimed 7 = .ok (.iload_n 0, 1) := by decide +kernel
set_option maxRecDepth 20000 in
theorem dX6_canBeClaimed_8 : decode cX6_canBeClaimed 8 = .ok (.ldc_w 260, 3) := by decide +kernel
set_option maxRecDepth 20000 in
theorem dX6_canBeClaimed_11 : decode cX6_canBeClaimed 11 = .ok (.if_icmp .gt 7, 3) := by decide +kernel
set_option maxRecDepth 20000 in
theorem dX6_canBeClaimed_14 : decode cX6_canBeClaimed 14 = .ok (.iconst 1, 1) := by decide +kernel
set_option maxRecDepth 20000 in
theorem dX6_canBeClaimed_15 : decode cX6_canBeClaimed 15 = .ok (.goto 4, 3) := by decide +kernel
set_option maxRecDepth 20000 in
theorem dX6_canBeClaimed_18 : decode cX6_canBeClaimed 18 = .ok (.iconst 0, 1) := by decide +kernel
set_option maxRecDepth 20000 in
theorem dX6_canBeClaimed_19 : decode cX6_canBeClaimed 19 = .ok (.ireturn, 1) := by decide +kernel
