set_option maxRecDepth 20000 in
theorem dX3_init_0 : decode cX3_init 0 = .ok (.aload_n 0, 1) := by decide +kernel
set_option maxRecDepth 20000 in
theorem dX3_init_1 : decode cX3_init 1 = .ok (.invokespecial 3, 3) := by decide +kernel
set_option maxRecDepth 20000 in
theorem dX3_init_4 : decode cX3_init 4 = .ok (.aload_n 0, 1) := by decide +kernel
set_option maxRecDepth 20000 in
theorem dX3_init_5 : decode cX3_init 5 = .ok (.bipush 42, 2) := by decide +kernel
set_option maxRecDepth 20000 in
theorem dX3_init_7 : decode cX3_init 7 = .ok (.newarray .int, 2) := by decide +kernel
set_option maxRecDepth 20000 in
theorem dX3_init_9 : decode cX3_init 9 = .ok (.putfield 9, 3) := by decide +kernel
set_option maxRecDepth 20000 in
theorem dX3_init_12 : decode cX3_init 12 = .ok (.aload_n 0, 1) := by decide +kernel
set_option maxRecDepth 20000 in
theorem dX3_init_13 : decode cX3_init 13 = .ok (.bipush 42, 2) := by decide +kernel
set_option maxRecDepth 20000 in
theorem dX3_init_15 : decode cX3_init 15 = .ok (.newarray .int, 2) := by decide +kernel
set_option maxRecDepth 20000 in
theorem dX3_init_17 : decode cX3_init 17 = .ok (.putfield 15, 3) := by decide +kernel
set_option maxRecDepth 20000 in
theorem dX3_init_20 : decode cX3_init 20 = .ok (.aload_n 0, 1) := by decide +kernel
set_option maxRecDepth 20000 in
theorem dX3_init_21 : decode cX3_init 21 = .ok (.iconst 0, 1) := by decide +kernel
set_option maxRecDepth 20000 in
theorem dX3_init_22 : decode cX3_init 22 = .ok (.putfield 18, 3) := by decide +kernel
set_option maxRecDepth 20000 in
theorem dX3_init_25 : decode cX3_init 25 = .ok (.return_, 1) := by decide +kernel
set_option maxRecDepth 20000 in
theorem dX3_find_0 : decode cX3_find 0 = .ok (.aload_n 0, 1) := by decide +kernel
set_option maxRecDepth 20000 in
theorem dX3_find_1 : decode cX3_find 1 = .ok (.aload_n 1, 1) := by decide +kernel
set_option maxRecDepth 20000 in
theorem dX3_find_2 : decode cX3_find 2 = .ok (.invokevirtual 22, 3) := by decide +kernel
set_option maxRecDepth 20000 in
theorem dX3_find_5 : decode cX3_find 5 = .ok (.aload_n 0, 1) := by decide +kernel
set_option maxRecDepth 20000 in
theorem dX3_find_6 : decode cX3_find 6 = .ok (.iconst 0, 1) := by decide +kernel
set_option maxRecDepth 20000 in
theorem dX3_find_7 : decode cX3_find 7 = .ok (.putfield 18, 3) := by decide +kernel
set_option maxRecDepth 20000 in
theorem dX3_find_10 : decode cX3_find 10 = .ok (.iconst 0, 1) := by decide +kernel
set_option maxRecDepth 20000 in
theorem dX3_find_11 : decode cX3_find 11 = .ok (.istore_n 2, 1) := by decide +kernel
set_option maxRecDepth 20000 in
theorem dX3_find_12 : decode cX3_find 12 = .ok (.iconst 0, 1) := by decide +kernel
set_option maxRecDepth 20000 in
theorem dX3_find_13 : decode cX3_find 13 = .ok (.istore_n 3, 1) := by decide +kernel
set_option maxRecDepth 20000 in
theorem dX3_find_14 : decode cX3_find 14 = .ok (.iconst 0, 1) := by decide +kernel
set_option maxRecDepth 20000 in
theorem dX3_find_15 : decode cX3_find 15 = .ok (.istore 4, 2) := by decide +kernel
set_option maxRecDepth 20000 in
theorem dX3_find_17 : decode cX3_find 17 = .ok (.iload 4, 2) := by decide +kernel
set_option maxRecDepth 20000 in
theorem dX3_find_19 : decode cX3_find 19 = .ok (.iconst 2, 1) := by decide +kernel
set_option maxRecDepth 20000 in
theorem dX3_find_20 : decode cX3_find 20 = .ok (.aload_n 1, 1) := by decide +kernel
set_option maxRecDepth 20000 in
theorem dX3_find_21 : decode cX3_find 21 = .ok (.getfield 26, 3) := by decide +kernel
set_option maxRecDepth 20000 in
theorem dX3_find_24 : decode cX3_find 24 = .ok (.imul, 1) := by decide +kernel
set_option maxRecDepth 20000 in
theorem dX3_find_25 : decode cX3_find 25 = .ok (.if_icmp .ge 98, 3) := by decide +kernel
set_option maxRecDepth 20000 in
theorem dX3_find_28 : decode cX3_find 28 = .ok (.aload_n 0, 1) := by decide +kernel
set_option maxRecDepth 20000 in
theorem dX3_find_29 : decode cX3_find 29 = .ok (.getfield 9, 3) := by decide +kernel
set_option maxRecDepth 20000 in
theorem dX3_find_32 : decode cX3_find 32 = .ok (.iload 4, 2) := by decide +kernel
set_option maxRecDepth 20000 in
theorem dX3_find_34 : decode cX3_find 34 = .ok (.iaload, 1) := by decide +kernel
set_option maxRecDepth 20000 in
theorem dX3_find_35 : decode cX3_find 35 = .ok (.istore 5, 2) := by decide +kernel
set_option maxRecDepth 20000 in
theorem dX3_find_37 : decode cX3_find 37 = .ok (.iload 5, 2) := by decide +kernel
set_option maxRecDepth 20000 in
theorem dX3_find_39 : decode cX3_find 39 = .ok (.iconst 1, 1) := by decide +kernel
set_option maxRecDepth 20000 in
theorem dX3_find_40 : decode cX3_find 40 = .ok (.ishr, 1) := by decide +kernel
set_option maxRecDepth 20000 in
theorem dX3_find_41 : decode cX3_find 41 = .ok (.istore 6, 2) := by decide +kernel
set_option maxRecDepth 20000 in
theorem dX3_find_43 : decode cX3_find 43 = .ok (.iload 4, 2) := by decide +kernel
set_option maxRecDepth 20000 in
theorem dX3_find_45 : decode cX3_find 45 = .ok (.ifCond .eq 24, 3) := by decide +kernel
set_option maxRecDepth 20000 in
theorem dX3_find_48 : decode cX3_find 48 = .ok (.aload_n 1, 1) := by decide +kernel
set_option maxRecDepth 20000 in
theorem dX3_find_49 : decode cX3_find 49 = .ok (.iload 5, 2) := by decide +kernel
set_option maxRecDepth 20000 in
theorem dX3_find_51 : decode cX3_find 51 = .ok (.invokestatic 29, 3) := by decide +kernel
set_option maxRecDepth 20000 in
theorem dX3_find_54 : decode cX3_find 54 = .ok (.iload_n 2, 1) := by decide +kernel
set_option maxRecDepth 20000 in
theorem dX3_find_55 : decode cX3_find 55 = .ok (.if_icmp .ne 14, 3) := by decide +kernel
set_option maxRecDepth 20000 in
theorem dX3_find_58 : decode cX3_find 58 = .ok (.aload_n 1, 1) := by decide +kernel
set_option maxRecDepth 20000 in
theorem dX3_find_59 : decode cX3_find 59 = .ok (.getfield 33, 3) := by decide +kernel
set_option maxRecDepth 20000 in
theorem dX3_find_62 : decode cX3_find 62 = .ok (.iload 6, 2) := by decide +kernel
set_option maxRecDepth 20000 in
theorem dX3_find_64 : decode cX3_find 64 = .ok (.iaload, 1) := by decide +kernel
set_option maxRecDepth 20000 in
theorem dX3_find_65 : decode cX3_find 65 = .ok (.iload_n 3, 1) := by decide +kernel
set_option maxRecDepth 20000 in
theorem dX3_find_66 : decode cX3_find 66 = .ok (.if_icmp .le 27, 3) := by decide +kernel
set_option maxRecDepth 20000 in
theorem dX3_find_69 : decode cX3_find 69 = .ok (.aload_n 0, 1) := by decide +kernel
set_option maxRecDepth 20000 in
theorem dX3_find_70 : decode cX3_find 70 = .ok (.dup, 1) := by decide +kernel
set_option maxRecDepth 20000 in
theorem dX3_find_71 : decode cX3_find 71 = .ok (.getfield 18, 3) := by decide +kernel
set_option maxRecDepth 20000 in
theorem dX3_find_74 : decode cX3_find 74 = .ok (.iconst 1, 1) := by decide +kernel
set_option maxRecDepth 20000 in
theorem dX3_find_75 : decode cX3_find 75 = .ok (.iadd, 1) := by decide +kernel
set_option maxRecDepth 20000 in
theorem dX3_find_76 : decode cX3_find 76 = .ok (.putfield 18, 3) := by decide +kernel
set_option maxRecDepth 20000 in
theorem dX3_find_79 : decode cX3_find 79 = .ok (.aload_n 1, 1) := by decide +kernel
set_option maxRecDepth 20000 in
theorem dX3_find_80 : decode cX3_find 80 = .ok (.iload 5, 2) := by decide +kernel
set_option maxRecDepth 20000 in
theorem dX3_find_82 : decode cX3_find 82 = .ok (.invokestatic 29, 3) := by decide +kernel
set_option maxRecDepth 20000 in
theorem dX3_find_85 : decode cX3_find 85 = .ok (.istore_n 2, 1) := by decide +kernel
set_option maxRecDepth 20000 in
theorem dX3_find_86 : decode cX3_find 86 = .ok (.aload_n 1, 1) := by decide +kernel
set_option maxRecDepth 20000 in
theorem dX3_find_87 : decode cX3_find 87 = .ok (.iload 6, 2) := by decide +kernel
set_option maxRecDepth 20000 in
theorem dX3_find_89 : decode cX3_find 89 = .ok (.invokevirtual 36, 3) := by decide +kernel
set_option maxRecDepth 20000 in
theorem dX3_find_92 : decode cX3_find 92 = .ok (.istore_n 3, 1) := by decide +kernel
set_option maxRecDepth 20000 in
theorem dX3_find_93 : decode cX3_find 93 = .ok (.iload_n 3, 1) := by decide +kernel
set_option maxRecDepth 20000 in
theorem dX3_find_94 : decode cX3_find 94 = .ok (.aload_n 1, 1) := by decide +kernel
set_option maxRecDepth 20000 in
theorem dX3_find_95 : decode cX3_find 95 = .ok (.iload 6, 2) := by decide +kernel
set_option maxRecDepth 20000 in
theorem dX3_find_97 : decode cX3_find 97 = .ok (.invokevirtual 36, 3) := by decide +kernel
set_option maxRecDepth 20000 in
theorem dX3_find_100 : decode cX3_find 100 = .ok (.invokestatic 40, 3) := by decide +kernel
set_option maxRecDepth 20000 in
theorem dX3_find_103 : decode cX3_find 103 = .ok (.istore_n 3, 1) := by decide +kernel
set_option maxRecDepth 20000 in
theorem dX3_find_104 : decode cX3_find 104 = .ok (.aload_n 0, 1) := by decide +kernel
set_option maxRecDepth 20000 in
theorem dX3_find_105 : decode cX3_find 105 = .ok (.getfield 15, 3) := by decide +kernel
set_option maxRecDepth 20000 in
theorem dX3_find_108 : decode cX3_find 108 = .ok (.iload 5, 2) := by decide +kernel
set_option maxRecDepth 20000 in
theorem dX3_find_110 : decode cX3_find 110 = .ok (.aload_n 0, 1) := by decide +kernel
set_option maxRecDepth 20000 in
theorem dX3_find_111 : decode cX3_find 111 = .ok (.getfield 18, 3) := by decide +kernel
set_option maxRecDepth 20000 in
theorem dX3_find_114 : decode cX3_find 114 = .ok (.iconst 1, 1) := by decide +kernel
set_option maxRecDepth 20000 in
theorem dX3_find_115 : decode cX3_find 115 = .ok (.isub, 1) := by decide +kernel
set_option maxRecDepth 20000 in
theorem dX3_find_116 : decode cX3_find 116 = .ok (.iastore, 1) := by decide +kernel
set_option maxRecDepth 20000 in
theorem dX3_find_117 : decode cX3_find 117 = .ok (.iinc 4 1, 3) := by decide +kernel
set_option maxRecDepth 20000 in
theorem dX3_find_120 : decode cX3_find 120 = .ok (.goto (-103), 3) := by decide +kernel
set_option maxRecDepth 20000 in
theorem dX3_find_123 : decode cX3_find 123 = .ok (.return_, 1) := by decide +kernel
set_option maxRecDepth 20000 in
theorem dX3_sortEdges_0 : decode cX3_sortEdges 0 = .ok (.iconst 0, 1) := by decide +kernel
set_option maxRecDepth 20000 in
theorem dX3_sortEdges_1 : decode cX3_sortEdges 1 = .ok (.istore_n 2, 1) := by decide +kernel
set_option maxRecDepth 20000 in
theorem dX3_sortEdges_2 : decode cX3_sortEdges 2 = .ok (.iload_n 2, 1) := by decide +kernel
set_option maxRecDepth 20000 in
theorem dX3_sortEdges_3 : decode cX3_sortEdges 3 = .ok (.iconst 2, 1) := by decide +kernel
set_option maxRecDepth 20000 in
theorem dX3_sortEdges_4 : decode cX3_sortEdges 4 = .ok (.aload_n 1, 1) := by decide +kernel
set_option maxRecDepth 20000 in
theorem dX3_sortEdges_5 : decode cX3_sortEdges 5 = .ok (.getfield 26, 3) := by decide +kernel
set_option maxRecDepth 20000 in
theorem dX3_sortEdges_8 : decode cX3_sortEdges 8 = .ok (.imul, 1) := by decide +kernel
set_option maxRecDepth 20000 in
theorem dX3_sortEdges_9 : decode cX3_sortEdges 9 = .ok (.if_icmp .ge 58, 3) := by decide +kernel
set_option maxRecDepth 20000 in
theorem dX3_sortEdges_12 : decode cX3_sortEdges 12 = .ok (.iload_n 2, 1) := by decide +kernel
set_option maxRecDepth 20000 in
theorem dX3_sortEdges_13 : decode cX3_sortEdges 13 = .ok (.istore_n 3, 1) := by decide +kernel
set_option maxRecDepth 20000 in
theorem dX3_sortEdges_14 : decode cX3_sortEdges 14 = .ok (.iload_n 3, 1) := by decide +kernel
set_option maxRecDepth 20000 in
theorem dX3_sortEdges_15 : decode cX3_sortEdges 15 = .ok (.ifCond .le 39, 3) := by decide +kernel
set_option maxRecDepth 20000 in
theorem dX3_sortEdges_18 : decode cX3_sortEdges 18 = .ok (.aload_n 1, 1) := by decide +kernel
set_option maxRecDepth 20000 in
theorem dX3_sortEdges_19 : decode cX3_sortEdges 19 = .ok (.iload_n 2, 1) := by decide +kernel
set_option maxRecDepth 20000 in
theorem dX3_sortEdges_20 : decode cX3_sortEdges 20 = .ok (.aload_n 0, 1) := by decide +kernel
set_option maxRecDepth 20000 in
theorem dX3_sortEdges_21 : decode cX3_sortEdges 21 = .ok (.getfield 9, 3) := by decide +kernel
set_option maxRecDepth 20000 in
theorem dX3_sortEdges_24 : decode cX3_sortEdges 24 = .ok (.iload_n 3, 1) := by decide +kernel
set_option maxRecDepth 20000 in
theorem dX3_sortEdges_25 : decode cX3_sortEdges 25 = .ok (.iconst 1, 1) := by decide +kernel
set_option maxRecDepth 20000 in
theorem dX3_sortEdges_26 : decode cX3_sortEdges 26 = .ok (.isub, 1) := by decide +kernel
set_option maxRecDepth 20000 in
theorem dX3_sortEdges_27 : decode cX3_sortEdges 27 = .ok (.iaload, 1) := by decide +kernel
set_option maxRecDepth 20000 in
theorem dX3_sortEdges_28 : decode cX3_sortEdges 28 = .ok (.invokestatic 46, 3) := by decide +kernel
set_option maxRecDepth 20000 in
theorem dX3_sortEdges_31 : decode cX3_sortEdges 31 = .ok (.ifCond .eq 23, 3) := by decide +kernel
set_option maxRecDepth 20000 in
theorem dX3_sortEdges_34 : decode cX3_sortEdges 34 = .ok (.aload_n 0, 1) := by decide +kernel
set_option maxRecDepth 20000 in
theorem dX3_sortEdges_35 : decode cX3_sortEdges 35 = .ok (.getfield 9, 3) := by decide +kernel
set_option maxRecDepth 20000 in
theorem dX3_sortEdges_38 : decode cX3_sortEdges 38 = .ok (.iload_n 3, 1) := by decide +kernel
set_option maxRecDepth 20000 in
theorem dX3_sortEdges_39 : decode cX3_sortEdges 39 = .ok (.aload_n 0, 1) := by decide +kernel
set_option maxRecDepth 20000 in
theorem dX3_sortEdges_40 : decode cX3_sortEdges 40 = .ok (.getfield 9, 3) := by decide +kernel
set_option maxRecDepth 20000 in
theorem dX3_sortEdges_43 : decode cX3_sortEdges 43 = .ok (.iload_n 3, 1) := by decide +kernel
set_option maxRecDepth 20000 in
theorem dX3_sortEdges_44 : decode cX3_sortEdges 44 = .ok (.iconst 1, 1) := by decide +kernel
set_option maxRecDepth 20000 in
theorem dX3_sortEdges_45 : decode cX3_sortEdges 45 = .ok (.isub, 1) := by decide +kernel
set_option maxRecDepth 20000 in
theorem dX3_sortEdges_46 : decode cX3_sortEdges 46 = .ok (.iaload, 1) := by decide +kernel
set_option maxRecDepth 20000 in
theorem dX3_sortEdges_47 : decode cX3_sortEdges 47 = .ok (.iastore, 1) := by decide +kernel
set_option maxRecDepth 20000 in
theorem dX3_sortEdges_48 : decode cX3_sortEdges 48 = .ok (.iinc 3 (-1), 3) := by decide +kernel
set_option maxRecDepth 20000 in
theorem dX3_sortEdges_51 : decode cX3_sortEdges 51 = .ok (.goto (-37), 3) := by decide +kernel
set_option maxRecDepth 20000 in
theorem dX3_sortEdges_54 : decode cX3_sortEdges 54 = .ok (.aload_n 0, 1) := by decide +kernel
set_option maxRecDepth 20000 in
theorem dX3_sortEdges_55 : decode cX3_sortEdges 55 = .ok (.getfield 9, 3) := by decide +kernel
set_option maxRecDepth 20000 in
theorem dX3_sortEdges_58 : decode cX3_sortEdges 58 = .ok (.iload_n 3, 1) := by decide +kernel
set_option maxRecDepth 20000 in
theorem dX3_sortEdges_59 : decode cX3_sortEdges 59 = .ok (.iload_n 2, 1) := by decide +kernel
set_option maxRecDepth 20000 in
theorem dX3_sortEdges_60 : decode cX3_sortEdges 60 = .ok (.iastore, 1) := by decide +kernel
set_option maxRecDepth 20000 in
theorem dX3_sortEdges_61 : decode cX3_sortEdges 61 = .ok (.iinc 2 1, 3) := by decide +kernel
set_option maxRecDepth 20000 in
theorem dX3_sortEdges_64 : decode cX3_sortEdges 64 = .ok (.goto (-62), 3) := by decide +kernel
set_option maxRecDepth 20000 in
theorem dX3_sortEdges_67 : decode cX3_sortEdges 67 = .ok (.return_, 1) := by decide +kernel
set_option maxRecDepth 20000 in
theorem dX3_isEarlier_0 : decode cX3_isEarlier 0 = .ok (.aload_n 0, 1) := by decide +kernel
set_option maxRecDepth 20000 in
theorem dX3_isEarlier_1 : decode cX3_isEarlier 1 = .ok (.iload_n 1, 1) := by decide +kernel
set_option maxRecDepth 20000 in
theorem dX3_isEarlier_2 : decode cX3_isEarlier 2 = .ok (.invokestatic 29, 3) := by decide +kernel
set_option maxRecDepth 20000 in
theorem dX3_isEarlier_5 : decode cX3_isEarlier 5 = .ok (.istore_n 3, 1) := by decide +kernel
set_option maxRecDepth 20000 in
theorem dX3_isEarlier_6 : decode cX3_isEarlier 6 = .ok (.aload_n 0, 1) := by decide +kernel
set_option maxRecDepth 20000 in
theorem dX3_isEarlier_7 : decode cX3_isEarlier 7 = .ok (.iload_n 2, 1) := by decide +kernel
set_option maxRecDepth 20000 in
theorem dX3_isEarlier_8 : decode cX3_isEarlier 8 = .ok (.invokestatic 29, 3) := by decide +kernel
set_option maxRecDepth 20000 in
theorem dX3_isEarlier_11 : decode cX3_isEarlier 11 = .ok (.istore 4, 2) := by decide +kernel
set_option maxRecDepth 20000 in
theorem dX3_isEarlier_13 : decode cX3_isEarlier 13 = .ok (.iload_n 3, 1) := by decide +kernel
set_option maxRecDepth 20000 in
theorem dX3_isEarlier_14 : decode cX3_isEarlier 14 = .ok (.iload 4, 2) := by decide +kernel
set_option maxRecDepth 20000 in
theorem dX3_isEarlier_16 : decode cX3_isEarlier 16 = .ok (.if_icmp .eq 17, 3) := by decide +kernel
set_option maxRecDepth 20000 in
theorem dX3_isEarlier_19 : decode cX3_isEarlier 19 = .ok (.iload_n 3, 1) := by decide +kernel
set_option maxRecDepth 20000 in
theorem dX3_isEarlier_20 : decode cX3_isEarlier 20 = .ok (.iload 4, 2) := by decide +kernel
set_option maxRecDepth 20000 in
theorem dX3_isEarlier_22 : decode cX3_isEarlier 22 = .ok (.if_icmp .le 7, 3) := by decide +kernel
set_option maxRecDepth 20000 in
theorem dX3_isEarlier_25 : decode cX3_isEarlier 25 = .ok (.iconst 1, 1) := by decide +kernel
set_option maxRecDepth 20000 in
theorem dX3_isEarlier_26 : decode cX3_isEarlier 26 = .ok (.goto 31, 3) := by decide +kernel
set_option maxRecDepth 20000 in
theorem dX3_isEarlier_29 : decode cX3_isEarlier 29 = .ok (.iconst 0, 1) := by decide +kernel
set_option maxRecDepth 20000 in
theorem dX3_isEarlier_30 : decode cX3_isEarlier 30 = .ok (.goto 27, 3) := by decide +kernel
set_option maxRecDepth 20000 in
theorem dX3_isEarlier_33 : decode cX3_isEarlier 33 = .ok (.aload_n 0, 1) := by decide +kernel
set_option maxRecDepth 20000 in
theorem dX3_isEarlier_34 : decode cX3_isEarlier 34 = .ok (.getfield 33, 3) := by decide +kernel
set_option maxRecDepth 20000 in
theorem dX3_isEarlier_37 : decode cX3_isEarlier 37 = .ok (.iload_n 1, 1) := by decide +kernel
set_option maxRecDepth 20000 in
theorem dX3_isEarlier_38 : decode cX3_isEarlier 38 = .ok (.iconst 1, 1) := by decide +kernel
set_option maxRecDepth 20000 in
theorem dX3_isEarlier_39 : decode cX3_isEarlier 39 = .ok (.ishr, 1) := by decide +kernel
set_option maxRecDepth 20000 in
theorem dX3_isEarlier_40 : decode cX3_isEarlier 40 = .ok (.iaload, 1) := by decide +kernel
set_option maxRecDepth 20000 in
theorem dX3_isEarlier_41 : decode cX3_isEarlier 41 = .ok (.aload_n 0, 1) := by decide +kernel
set_option maxRecDepth 20000 in
theorem dX3_isEarlier_42 : decode cX3_isEarlier 42 = .ok (.getfield 33, 3) := by decide +kernel
set_option maxRecDepth 20000 in
theorem dX3_isEarlier_45 : decode cX3_isEarlier 45 = .ok (.iload_n 2, 1) := by decide +kernel
set_option maxRecDepth 20000 in
theorem dX3_isEarlier_46 : decode cX3_isEarlier 46 = .ok (.iconst 1, 1) := by decide +kernel
set_option maxRecDepth 20000 in
theorem dX3_isEarlier_47 : decode cX3_isEarlier 47 = .ok (.ishr, 1) := by decide +kernel
set_option maxRecDepth 20000 in
theorem dX3_isEarlier_48 : decode cX3_isEarlier 48 = .ok (.iaload, 1) := by decide +kernel
set_option maxRecDepth 20000 in
theorem dX3_isEarlier_49 : decode cX3_isEarlier 49 = .ok (.if_icmp .ge 7, 3) := by decide +kernel
set_option maxRecDepth 20000 in
theorem dX3_isEarlier_52 : decode cX3_isEarlier 52 = .ok (.iconst 1, 1) := by decide +kernel
set_option maxRecDepth 20000 in
theorem dX3_isEarlier_53 : decode cX3_isEarlier 53 = .ok (.goto 4, 3) := by decide +kernel
set_option maxRecDepth 20000 in
theorem dX3_isEarlier_56 : decode cX3_isEarlier 56 = .ok (.iconst 0, 1) := by decide +kernel
set_option maxRecDepth 20000 in
theorem dX3_isEarlier_57 : decode cX3_isEarlier 57 = .ok (.ireturn, 1) := by decide +kernel
set_option maxRecDepth 20000 in
theorem dX3_levelOf_0 : decode cX3_levelOf 0 = .ok (.iload_n 1, 1) := by decide +kernel
set_option maxRecDepth 20000 in
theorem dX3_levelOf_1 : decode cX3_levelOf 1 = .ok (.iconst 1, 1) := by decide +kernel
set_option maxRecDepth 20000 in
theorem dX3_levelOf_2 : decode cX3_levelOf 2 = .ok (.iand, 1) := by decide +kernel
set_option maxRecDepth 20000 in
theorem dX3_levelOf_3 : decode cX3_levelOf 3 = .ok (.ifCond .ne 13, 3) := by decide +kernel
set_option maxRecDepth 20000 in
theorem dX3_levelOf_6 : decode cX3_levelOf 6 = .ok (.aload_n 0, 1) := by decide +kernel
set_option maxRecDepth 20000 in
theorem dX3_levelOf_7 : decode cX3_levelOf 7 = .ok (.iload_n 1, 1) := by decide +kernel
set_option maxRecDepth 20000 in
theorem dX3_levelOf_8 : decode cX3_levelOf 8 = .ok (.iconst 1, 1) := by decide +kernel
set_option maxRecDepth 20000 in
theorem dX3_levelOf_9 : decode cX3_levelOf 9 = .ok (.ishr, 1) := by decide +kernel
set_option maxRecDepth 20000 in
theorem dX3_levelOf_10 : decode cX3_levelOf 10 = .ok (.invokevirtual 50, 3) := by decide +kernel
set_option maxRecDepth 20000 in
theorem dX3_levelOf_13 : decode cX3_levelOf 13 = .ok (.goto 11, 3) := by decide +kernel
set_option maxRecDepth 20000 in
theorem dX3_levelOf_16 : decode cX3_levelOf 16 = .ok (.aload_n 0, 1) := by decide +kernel
set_option maxRecDepth 20000 in
theorem dX3_levelOf_17 : decode cX3_levelOf 17 = .ok (.getfield 53, 3) := by decide +kernel
set_option maxRecDepth 20000 in
theorem dX3_levelOf_20 : decode cX3_levelOf 20 = .ok (.iload_n 1, 1) := by decide +kernel
set_option maxRecDepth 20000 in
theorem dX3_levelOf_21 : decode cX3_levelOf 21 = .ok (.iconst 1, 1) := by decide +kernel
set_option maxRecDepth 20000 in
theorem dX3_levelOf_22 : decode cX3_levelOf 22 = .ok (.ishr, 1) := by decide +kernel
set_option maxRecDepth 20000 in
theorem dX3_levelOf_23 : decode cX3_levelOf 23 = .ok (.iaload, 1) := by decide +kernel
set_option maxRecDepth 20000 in
theorem dX3_levelOf_24 : decode cX3_levelOf 24 = .ok (.ireturn, 1) := by decide +kernel
set_option maxRecDepth 20000 in
theorem dX3_makeNet_0 : decode cX3_makeNet 0 = .ok (.aload_n 2, 1) := by decide +kernel
set_option maxRecDepth 20000 in
theorem dX3_makeNet_1 : decode cX3_makeNet 1 = .ok (.invokevirtual 56, 3) := by decide +kernel
set_option maxRecDepth 20000 in
theorem dX3_makeNet_4 : decode cX3_makeNet 4 = .ok (.iconst 0, 1) := by decide +kernel
set_option maxRecDepth 20000 in
theorem dX3_makeNet_5 : decode cX3_makeNet 5 = .ok (.istore_n 3, 1) := by decide +kernel
set_option maxRecDepth 20000 in
theorem dX3_makeNet_6 : decode cX3_makeNet 6 = .ok (.iload_n 3, 1) := by decide +kernel
set_option maxRecDepth 20000 in
theorem dX3_makeNet_7 : decode cX3_makeNet 7 = .ok (.aload_n 0, 1) := by decide +kernel
set_option maxRecDepth 20000 in
theorem dX3_makeNet_8 : decode cX3_makeNet 8 = .ok (.getfield 18, 3) := by decide +kernel
set_option maxRecDepth 20000 in
theorem dX3_makeNet_11 : decode cX3_makeNet 11 = .ok (.if_icmp .ge 20, 3) := by decide +kernel
set_option maxRecDepth 20000 in
theorem dX3_makeNet_14 : decode cX3_makeNet 14 = .ok (.iload_n 3, 1) := by decide +kernel
set_option maxRecDepth 20000 in
theorem dX3_makeNet_15 : decode cX3_makeNet 15 = .ok (.bipush 12, 2) := by decide +kernel
set_option maxRecDepth 20000 in
theorem dX3_makeNet_17 : decode cX3_makeNet 17 = .ok (.if_icmp .ge 14, 3) := by decide +kernel
set_option maxRecDepth 20000 in
theorem dX3_makeNet_20 : decode cX3_makeNet 20 = .ok (.aload_n 2, 1) := by decide +kernel
set_option maxRecDepth 20000 in
theorem dX3_makeNet_21 : decode cX3_makeNet 21 = .ok (.invokevirtual 61, 3) := by decide +kernel
set_option maxRecDepth 20000 in
theorem dX3_makeNet_24 : decode cX3_makeNet 24 = .ok (.pop, 1) := by decide +kernel
set_option maxRecDepth 20000 in
theorem dX3_makeNet_25 : decode cX3_makeNet 25 = .ok (.iinc 3 1, 3) := by decide +kernel
set_option maxRecDepth 20000 in
theorem dX3_makeNet_28 : decode cX3_makeNet 28 = .ok (.goto (-22), 3) := by decide +kernel
set_option maxRecDepth 20000 in
theorem dX3_makeNet_31 : decode cX3_makeNet 31 = .ok (.iconst 0, 1) := by decide +kernel
set_option maxRecDepth 20000 in
theorem dX3_makeNet_32 : decode cX3_makeNet 32 = .ok (.istore_n 3, 1) := by decide +kernel
set_option maxRecDepth 20000 in
theorem dX3_makeNet_33 : decode cX3_makeNet 33 = .ok (.iload_n 3, 1) := by decide +kernel
set_option maxRecDepth 20000 in
theorem dX3_makeNet_34 : decode cX3_makeNet 34 = .ok (.aload_n 1, 1) := by decide +kernel
set_option maxRecDepth 20000 in
theorem dX3_makeNet_35 : decode cX3_makeNet 35 = .ok (.getfield 26, 3) := by decide +kernel
set_option maxRecDepth 20000 in
theorem dX3_makeNet_38 : decode cX3_makeNet 38 = .ok (.if_icmp .ge 32, 3) := by decide +kernel
set_option maxRecDepth 20000 in
theorem dX3_makeNet_41 : decode cX3_makeNet 41 = .ok (.aload_n 2, 1) := by decide +kernel
set_option maxRecDepth 20000 in
theorem dX3_makeNet_42 : decode cX3_makeNet 42 = .ok (.aload_n 0, 1) := by decide +kernel
set_option maxRecDepth 20000 in
theorem dX3_makeNet_43 : decode cX3_makeNet 43 = .ok (.getfield 15, 3) := by decide +kernel
set_option maxRecDepth 20000 in
theorem dX3_makeNet_46 : decode cX3_makeNet 46 = .ok (.iconst 2, 1) := by decide +kernel
set_option maxRecDepth 20000 in
theorem dX3_makeNet_47 : decode cX3_makeNet 47 = .ok (.iload_n 3, 1) := by decide +kernel
set_option maxRecDepth 20000 in
theorem dX3_makeNet_48 : decode cX3_makeNet 48 = .ok (.imul, 1) := by decide +kernel
set_option maxRecDepth 20000 in
theorem dX3_makeNet_49 : decode cX3_makeNet 49 = .ok (.iaload, 1) := by decide +kernel
set_option maxRecDepth 20000 in
theorem dX3_makeNet_50 : decode cX3_makeNet 50 = .ok (.aload_n 0, 1) := by decide +kernel
set_option maxRecDepth 20000 in
theorem dX3_makeNet_51 : decode cX3_makeNet 51 = .ok (.getfield 15, 3) := by decide +kernel
set_option maxRecDepth 20000 in
theorem dX3_makeNet_54 : decode cX3_makeNet 54 = .ok (.iconst 2, 1) := by decide +kernel
set_option maxRecDepth 20000 in
theorem dX3_makeNet_55 : decode cX3_makeNet 55 = .ok (.iload_n 3, 1) := by decide +kernel
set_option maxRecDepth 20000 in
theorem dX3_makeNet_56 : decode cX3_makeNet 56 = .ok (.imul, 1) := by decide +kernel
set_option maxRecDepth 20000 in
theorem dX3_makeNet_57 : decode cX3_makeNet 57 = .ok (.iconst 1, 1) := by decide +kernel
set_option maxRecDepth 20000 in
theorem dX3_makeNet_58 : decode cX3_makeNet 58 = .ok (.iadd, 1) := by decide +kernel
set_option maxRecDepth 20000 in
theorem dX3_makeNet_59 : decode cX3_makeNet 59 = .ok (.iaload, 1) := by decide +kernel
set_option maxRecDepth 20000 in
theorem dX3_makeNet_60 : decode cX3_makeNet 60 = .ok (.invokevirtual 65, 3) := by decide +kernel
set_option maxRecDepth 20000 in
theorem dX3_makeNet_63 : decode cX3_makeNet 63 = .ok (.pop, 1) := by decide +kernel
set_option maxRecDepth 20000 in
theorem dX3_makeNet_64 : decode cX3_makeNet 64 = .ok (.iinc 3 1, 3) := by decide +kernel
set_option maxRecDepth 20000 in
theorem dX3_makeNet_67 : decode cX3_makeNet 67 = .ok (.goto (-34), 3) := by decide +kernel
set_option maxRecDepth 20000 in
theorem dX3_makeNet_70 : decode cX3_makeNet 70 = .ok (.aload_n 2, 1) := by decide +kernel
set_option maxRecDepth 20000 in
theorem dX3_makeNet_71 : decode cX3_makeNet 71 = .ok (.aload_n 2, 1) := by decide +kernel
set_option maxRecDepth 20000 in
theorem dX3_makeNet_72 : decode cX3_makeNet 72 = .ok (.iconst 0, 1) := by decide +kernel
set_option maxRecDepth 20000 in
theorem dX3_makeNet_73 : decode cX3_makeNet 73 = .ok (.aload_n 0, 1) := by decide +kernel
set_option maxRecDepth 20000 in
theorem dX3_makeNet_74 : decode cX3_makeNet 74 = .ok (.getfield 18, 3) := by decide +kernel
set_option maxRecDepth 20000 in
theorem dX3_makeNet_77 : decode cX3_makeNet 77 = .ok (.iconst 1, 1) := by decide +kernel
set_option maxRecDepth 20000 in
theorem dX3_makeNet_78 : decode cX3_makeNet 78 = .ok (.isub, 1) := by decide +kernel
set_option maxRecDepth 20000 in
theorem dX3_makeNet_79 : decode cX3_makeNet 79 = .ok (.invokevirtual 65, 3) := by decide +kernel
set_option maxRecDepth 20000 in
theorem dX3_makeNet_82 : decode cX3_makeNet 82 = .ok (.putfield 68, 3) := by decide +kernel
set_option maxRecDepth 20000 in
theorem dX3_makeNet_85 : decode cX3_makeNet 85 = .ok (.iconst 0, 1) := by decide +kernel
set_option maxRecDepth 20000 in
theorem dX3_makeNet_86 : decode cX3_makeNet 86 = .ok (.istore_n 3, 1) := by decide +kernel
set_option maxRecDepth 20000 in
theorem dX3_makeNet_87 : decode cX3_makeNet 87 = .ok (.iload_n 3, 1) := by decide +kernel
set_option maxRecDepth 20000 in
theorem dX3_makeNet_88 : decode cX3_makeNet 88 = .ok (.aload_n 2, 1) := by decide +kernel
set_option maxRecDepth 20000 in
theorem dX3_makeNet_89 : decode cX3_makeNet 89 = .ok (.getfield 71, 3) := by decide +kernel
set_option maxRecDepth 20000 in
theorem dX3_makeNet_92 : decode cX3_makeNet 92 = .ok (.if_icmp .ge 16, 3) := by decide +kernel
set_option maxRecDepth 20000 in
theorem dX3_makeNet_95 : decode cX3_makeNet 95 = .ok (.aload_n 0, 1) := by decide +kernel
set_option maxRecDepth 20000 in
theorem dX3_makeNet_96 : decode cX3_makeNet 96 = .ok (.aload_n 1, 1) := by decide +kernel
set_option maxRecDepth 20000 in
theorem dX3_makeNet_97 : decode cX3_makeNet 97 = .ok (.aload_n 2, 1) := by decide +kernel
set_option maxRecDepth 20000 in
theorem dX3_makeNet_98 : decode cX3_makeNet 98 = .ok (.iload_n 3, 1) := by decide +kernel
set_option maxRecDepth 20000 in
theorem dX3_makeNet_99 : decode cX3_makeNet 99 = .ok (.invokevirtual 74, 3) := by decide +kernel
set_option maxRecDepth 20000 in
theorem dX3_makeNet_102 : decode cX3_makeNet 102 = .ok (.iinc 3 1, 3) := by decide +kernel
set_option maxRecDepth 20000 in
theorem dX3_makeNet_105 : decode cX3_makeNet 105 = .ok (.goto (-18), 3) := by decide +kernel
set_option maxRecDepth 20000 in
theorem dX3_makeNet_108 : decode cX3_makeNet 108 = .ok (.return_, 1) := by decide +kernel
set_option maxRecDepth 20000 in
theorem dX3_layTurn_0 : decode cX3_layTurn 0 = .ok (.iconst 2, 1) := by decide +kernel
set_option maxRecDepth 20000 in
theorem dX3_layTurn_1 : decode cX3_layTurn 1 = .ok (.aload_n 1, 1) := by decide +kernel
set_option maxRecDepth 20000 in
theorem dX3_layTurn_2 : decode cX3_layTurn 2 = .ok (.getfield 26, 3) := by decide +kernel
set_option maxRecDepth 20000 in
theorem dX3_layTurn_5 : decode cX3_layTurn 5 = .ok (.imul, 1) := by decide +kernel
set_option maxRecDepth 20000 in
theorem dX3_layTurn_6 : decode cX3_layTurn 6 = .ok (.istore 4, 2) := by decide +kernel
set_option maxRecDepth 20000 in
theorem dX3_layTurn_8 : decode cX3_layTurn 8 = .ok (.iconst 0, 1) := by decide +kernel
set_option maxRecDepth 20000 in
theorem dX3_layTurn_9 : decode cX3_layTurn 9 = .ok (.istore 5, 2) := by decide +kernel
set_option maxRecDepth 20000 in
theorem dX3_layTurn_11 : decode cX3_layTurn 11 = .ok (.iload 5, 2) := by decide +kernel
set_option maxRecDepth 20000 in
theorem dX3_layTurn_13 : decode cX3_layTurn 13 = .ok (.iload 4, 2) := by decide +kernel
set_option maxRecDepth 20000 in
theorem dX3_layTurn_15 : decode cX3_layTurn 15 = .ok (.if_icmp .ge 51, 3) := by decide +kernel
set_option maxRecDepth 20000 in
theorem dX3_layTurn_18 : decode cX3_layTurn 18 = .ok (.aload_n 0, 1) := by decide +kernel
set_option maxRecDepth 20000 in
theorem dX3_layTurn_19 : decode cX3_layTurn 19 = .ok (.getfield 15, 3) := by decide +kernel
set_option maxRecDepth 20000 in
theorem dX3_layTurn_22 : decode cX3_layTurn 22 = .ok (.aload_n 0, 1) := by decide +kernel
set_option maxRecDepth 20000 in
theorem dX3_layTurn_23 : decode cX3_layTurn 23 = .ok (.getfield 9, 3) := by decide +kernel
set_option maxRecDepth 20000 in
theorem dX3_layTurn_26 : decode cX3_layTurn 26 = .ok (.iload 5, 2) := by decide +kernel
set_option maxRecDepth 20000 in
theorem dX3_layTurn_28 : decode cX3_layTurn 28 = .ok (.iaload, 1) := by decide +kernel
set_option maxRecDepth 20000 in
theorem dX3_layTurn_29 : decode cX3_layTurn 29 = .ok (.iaload, 1) := by decide +kernel
set_option maxRecDepth 20000 in
theorem dX3_layTurn_30 : decode cX3_layTurn 30 = .ok (.iload_n 3, 1) := by decide +kernel
set_option maxRecDepth 20000 in
theorem dX3_layTurn_31 : decode cX3_layTurn 31 = .ok (.if_icmp .ne 29, 3) := by decide +kernel
set_option maxRecDepth 20000 in
theorem dX3_layTurn_34 : decode cX3_layTurn 34 = .ok (.aload_n 0, 1) := by decide +kernel
set_option maxRecDepth 20000 in
theorem dX3_layTurn_35 : decode cX3_layTurn 35 = .ok (.getfield 9, 3) := by decide +kernel
set_option maxRecDepth 20000 in
theorem dX3_layTurn_38 : decode cX3_layTurn 38 = .ok (.iload 5, 2) := by decide +kernel
set_option maxRecDepth 20000 in
theorem dX3_layTurn_40 : decode cX3_layTurn 40 = .ok (.iaload, 1) := by decide +kernel
set_option maxRecDepth 20000 in
theorem dX3_layTurn_41 : decode cX3_layTurn 41 = .ok (.iconst 1, 1) := by decide +kernel
set_option maxRecDepth 20000 in
theorem dX3_layTurn_42 : decode cX3_layTurn 42 = .ok (.iand, 1) := by decide +kernel
set_option maxRecDepth 20000 in
theorem dX3_layTurn_43 : decode cX3_layTurn 43 = .ok (.ifCond .ne 17, 3) := by decide +kernel
set_option maxRecDepth 20000 in
theorem dX3_layTurn_46 : decode cX3_layTurn 46 = .ok (.aload_n 2, 1) := by decide +kernel
set_option maxRecDepth 20000 in
theorem dX3_layTurn_47 : decode cX3_layTurn 47 = .ok (.iload_n 3, 1) := by decide +kernel
set_option maxRecDepth 20000 in
theorem dX3_layTurn_48 : decode cX3_layTurn 48 = .ok (.aload_n 0, 1) := by decide +kernel
set_option maxRecDepth 20000 in
theorem dX3_layTurn_49 : decode cX3_layTurn 49 = .ok (.getfield 9, 3) := by decide +kernel
set_option maxRecDepth 20000 in
theorem dX3_layTurn_52 : decode cX3_layTurn 52 = .ok (.iload 5, 2) := by decide +kernel
set_option maxRecDepth 20000 in
theorem dX3_layTurn_54 : decode cX3_layTurn 54 = .ok (.iaload, 1) := by decide +kernel
set_option maxRecDepth 20000 in
theorem dX3_layTurn_55 : decode cX3_layTurn 55 = .ok (.iconst 1, 1) := by decide +kernel
set_option maxRecDepth 20000 in
theorem dX3_layTurn_56 : decode cX3_layTurn 56 = .ok (.ishr, 1) := by decide +kernel
set_option maxRecDepth 20000 in
theorem dX3_layTurn_57 : decode cX3_layTurn 57 = .ok (.invokevirtual 78, 3) := by decide +kernel
set_option maxRecDepth 20000 in
theorem dX3_layTurn_60 : decode cX3_layTurn 60 = .ok (.iinc 5 1, 3) := by decide +kernel
set_option maxRecDepth 20000 in
theorem dX3_layTurn_63 : decode cX3_layTurn 63 = .ok (.goto (-52), 3) := by decide +kernel
set_option maxRecDepth 20000 in
theorem dX3_layTurn_66 : decode cX3_layTurn 66 = .ok (.aload_n 2, 1) := by decide +kernel
set_option maxRecDepth 20000 in
theorem dX3_layTurn_67 : decode cX3_layTurn 67 = .ok (.aload_n 2, 1) := by decide +kernel
set_option maxRecDepth 20000 in
theorem dX3_layTurn_68 : decode cX3_layTurn 68 = .ok (.getfield 68, 3) := by decide +kernel
set_option maxRecDepth 20000 in
theorem dX3_layTurn_71 : decode cX3_layTurn 71 = .ok (.iload_n 3, 1) := by decide +kernel
set_option maxRecDepth 20000 in
theorem dX3_layTurn_72 : decode cX3_layTurn 72 = .ok (.invokevirtual 82, 3) := by decide +kernel
set_option maxRecDepth 20000 in
theorem dX3_layTurn_75 : decode cX3_layTurn 75 = .ok (.ifCond .eq 12, 3) := by decide +kernel
set_option maxRecDepth 20000 in
theorem dX3_layTurn_78 : decode cX3_layTurn 78 = .ok (.aload_n 2, 1) := by decide +kernel
set_option maxRecDepth 20000 in
theorem dX3_layTurn_79 : decode cX3_layTurn 79 = .ok (.iload_n 3, 1) := by decide +kernel
set_option maxRecDepth 20000 in
theorem dX3_layTurn_80 : decode cX3_layTurn 80 = .ok (.aload_n 2, 1) := by decide +kernel
set_option maxRecDepth 20000 in
theorem dX3_layTurn_81 : decode cX3_layTurn 81 = .ok (.getfield 68, 3) := by decide +kernel
set_option maxRecDepth 20000 in
theorem dX3_layTurn_84 : decode cX3_layTurn 84 = .ok (.invokevirtual 78, 3) := by decide +kernel
set_option maxRecDepth 20000 in
theorem dX3_layTurn_87 : decode cX3_layTurn 87 = .ok (.iload 4, 2) := by decide +kernel
set_option maxRecDepth 20000 in
theorem dX3_layTurn_89 : decode cX3_layTurn 89 = .ok (.iconst 1, 1) := by decide +kernel
set_option maxRecDepth 20000 in
theorem dX3_layTurn_90 : decode cX3_layTurn 90 = .ok (.isub, 1) := by decide +kernel
set_option maxRecDepth 20000 in
theorem dX3_layTurn_91 : decode cX3_layTurn 91 = .ok (.istore 5, 2) := by decide +kernel
set_option maxRecDepth 20000 in
theorem dX3_layTurn_93 : decode cX3_layTurn 93 = .ok (.iload 5, 2) := by decide +kernel
set_option maxRecDepth 20000 in
theorem dX3_layTurn_95 : decode cX3_layTurn 95 = .ok (.ifCond .lt 52, 3) := by decide +kernel
set_option maxRecDepth 20000 in
theorem dX3_layTurn_98 : decode cX3_layTurn 98 = .ok (.aload_n 0, 1) := by decide +kernel
set_option maxRecDepth 20000 in
theorem dX3_layTurn_99 : decode cX3_layTurn 99 = .ok (.getfield 15, 3) := by decide +kernel
set_option maxRecDepth 20000 in
theorem dX3_layTurn_102 : decode cX3_layTurn 102 = .ok (.aload_n 0, 1) := by decide +kernel
set_option maxRecDepth 20000 in
theorem dX3_layTurn_103 : decode cX3_layTurn 103 = .ok (.getfield 9, 3) := by decide +kernel
set_option maxRecDepth 20000 in
theorem dX3_layTurn_106 : decode cX3_layTurn 106 = .ok (.iload 5, 2) := by decide +kernel
set_option maxRecDepth 20000 in
theorem dX3_layTurn_108 : decode cX3_layTurn 108 = .ok (.iaload, 1) := by decide +kernel
set_option maxRecDepth 20000 in
theorem dX3_layTurn_109 : decode cX3_layTurn 109 = .ok (.iaload, 1) := by decide +kernel
set_option maxRecDepth 20000 in
theorem dX3_layTurn_110 : decode cX3_layTurn 110 = .ok (.iload_n 3, 1) := by decide +kernel
set_option maxRecDepth 20000 in
theorem dX3_layTurn_111 : decode cX3_layTurn 111 = .ok (.if_icmp .ne 30, 3) := by decide +kernel
set_option maxRecDepth 20000 in
theorem dX3_layTurn_114 : decode cX3_layTurn 114 = .ok (.aload_n 0, 1) := by decide +kernel
set_option maxRecDepth 20000 in
theorem dX3_layTurn_115 : decode cX3_layTurn 115 = .ok (.getfield 9, 3) := by decide +kernel
set_option maxRecDepth 20000 in
theorem dX3_layTurn_118 : decode cX3_layTurn 118 = .ok (.iload 5, 2) := by decide +kernel
set_option maxRecDepth 20000 in
theorem dX3_layTurn_120 : decode cX3_layTurn 120 = .ok (.iaload, 1) := by decide +kernel
set_option maxRecDepth 20000 in
theorem dX3_layTurn_121 : decode cX3_layTurn 121 = .ok (.iconst 1, 1) := by decide +kernel
set_option maxRecDepth 20000 in
theorem dX3_layTurn_122 : decode cX3_layTurn 122 = .ok (.iand, 1) := by decide +kernel
set_option maxRecDepth 20000 in
theorem dX3_layTurn_123 : decode cX3_layTurn 123 = .ok (.iconst 1, 1) := by decide +kernel
set_option maxRecDepth 20000 in
theorem dX3_layTurn_124 : decode cX3_layTurn 124 = .ok (.if_icmp .ne 17, 3) := by decide +kernel
set_option maxRecDepth 20000 in
theorem dX3_layTurn_127 : decode cX3_layTurn 127 = .ok (.aload_n 2, 1) := by decide +kernel
set_option maxRecDepth 20000 in
theorem dX3_layTurn_128 : decode cX3_layTurn 128 = .ok (.iload_n 3, 1) := by decide +kernel
set_option maxRecDepth 20000 in
theorem dX3_layTurn_129 : decode cX3_layTurn 129 = .ok (.aload_n 0, 1) := by decide +kernel
set_option maxRecDepth 20000 in
theorem dX3_layTurn_130 : decode cX3_layTurn 130 = .ok (.getfield 9, 3) := by decide +kernel
set_option maxRecDepth 20000 in
theorem dX3_layTurn_133 : decode cX3_layTurn 133 = .ok (.iload 5, 2) := by decide +kernel
set_option maxRecDepth 20000 in
theorem dX3_layTurn_135 : decode cX3_layTurn 135 = .ok (.iaload, 1) := by decide +kernel
set_option maxRecDepth 20000 in
theorem dX3_layTurn_136 : decode cX3_layTurn 136 = .ok (.iconst 1, 1) := by decide +kernel
set_option maxRecDepth 20000 in
theorem dX3_layTurn_137 : decode cX3_layTurn 137 = .ok (.ishr, 1) := by decide +kernel
set_option maxRecDepth 20000 in
theorem dX3_layTurn_138 : decode cX3_layTurn 138 = .ok (.invokevirtual 78, 3) := by decide +kernel
set_option maxRecDepth 20000 in
theorem dX3_layTurn_141 : decode cX3_layTurn 141 = .ok (.iinc 5 (-1), 3) := by decide +kernel
set_option maxRecDepth 20000 in
theorem dX3_layTurn_144 : decode cX3_layTurn 144 = .ok (.goto (-51), 3) := by decide +kernel
set_option maxRecDepth 20000 in
theorem dX3_layTurn_147 : decode cX3_layTurn 147 = .ok (.return_, 1) := by decide +kernel
