set_option maxRecDepth 20000 in
theorem dX1_init_0 : decode cX1_init 0 = .ok (.aload_n 0, 1) := by decide +kernel
set_option maxRecDepth 20000 in
theorem dX1_init_1 : decode cX1_init 1 = .ok (.invokespecial 3, 3) := by decide +kernel
set_option maxRecDepth 20000 in
theorem dX1_init_4 : decode cX1_init 4 = .ok (.aload_n 0, 1) := by decide +kernel
set_option maxRecDepth 20000 in
theorem dX1_init_5 : decode cX1_init 5 = .ok (.sipush 156, 3) := by decide +kernel
set_option maxRecDepth 20000 in
theorem dX1_init_8 : decode cX1_init 8 = .ok (.newarray .long, 2) := by decide +kernel
set_option maxRecDepth 20000 in
theorem dX1_init_10 : decode cX1_init 10 = .ok (.putfield 11, 3) := by decide +kernel
set_option maxRecDepth 20000 in
theorem dX1_init_13 : decode cX1_init 13 = .ok (.aload_n 0, 1) := by decide +kernel
set_option maxRecDepth 20000 in
theorem dX1_init_14 : decode cX1_init 14 = .ok (.bipush 12, 2) := by decide +kernel
set_option maxRecDepth 20000 in
theorem dX1_init_16 : decode cX1_init 16 = .ok (.newarray .int, 2) := by decide +kernel
set_option maxRecDepth 20000 in
theorem dX1_init_18 : decode cX1_init 18 = .ok (.putfield 15, 3) := by decide +kernel
set_option maxRecDepth 20000 in
theorem dX1_init_21 : decode cX1_init 21 = .ok (.aload_n 0, 1) := by decide +kernel
set_option maxRecDepth 20000 in
theorem dX1_init_22 : decode cX1_init 22 = .ok (.bipush 22, 2) := by decide +kernel
set_option maxRecDepth 20000 in
theorem dX1_init_24 : decode cX1_init 24 = .ok (.newarray .int, 2) := by decide +kernel
set_option maxRecDepth 20000 in
theorem dX1_init_26 : decode cX1_init 26 = .ok (.putfield 19, 3) := by decide +kernel
set_option maxRecDepth 20000 in
theorem dX1_init_29 : decode cX1_init 29 = .ok (.aload_n 0, 1) := by decide +kernel
set_option maxRecDepth 20000 in
theorem dX1_init_30 : decode cX1_init 30 = .ok (.bipush 44, 2) := by decide +kernel
set_option maxRecDepth 20000 in
theorem dX1_init_32 : decode cX1_init 32 = .ok (.newarray .int, 2) := by decide +kernel
set_option maxRecDepth 20000 in
theorem dX1_init_34 : decode cX1_init 34 = .ok (.putfield 22, 3) := by decide +kernel
set_option maxRecDepth 20000 in
theorem dX1_init_37 : decode cX1_init 37 = .ok (.aload_n 0, 1) := by decide +kernel
set_option maxRecDepth 20000 in
theorem dX1_init_38 : decode cX1_init 38 = .ok (.bipush 44, 2) := by decide +kernel
set_option maxRecDepth 20000 in
theorem dX1_init_40 : decode cX1_init 40 = .ok (.newarray .boolean, 2) := by decide +kernel
set_option maxRecDepth 20000 in
theorem dX1_init_42 : decode cX1_init 42 = .ok (.putfield 25, 3) := by decide +kernel
set_option maxRecDepth 20000 in
theorem dX1_init_45 : decode cX1_init 45 = .ok (.aload_n 0, 1) := by decide +kernel
set_option maxRecDepth 20000 in
theorem dX1_init_46 : decode cX1_init 46 = .ok (.iconst 0, 1) := by decide +kernel
set_option maxRecDepth 20000 in
theorem dX1_init_47 : decode cX1_init 47 = .ok (.putfield 29, 3) := by decide +kernel
set_option maxRecDepth 20000 in
theorem dX1_init_50 : decode cX1_init 50 = .ok (.aload_n 0, 1) := by decide +kernel
set_option maxRecDepth 20000 in
theorem dX1_init_51 : decode cX1_init 51 = .ok (.iconst 0, 1) := by decide +kernel
set_option maxRecDepth 20000 in
theorem dX1_init_52 : decode cX1_init 52 = .ok (.putfield 33, 3) := by decide +kernel
set_option maxRecDepth 20000 in
theorem dX1_init_55 : decode cX1_init 55 = .ok (.aload_n 0, 1) := by decide +kernel
set_option maxRecDepth 20000 in
theorem dX1_init_56 : decode cX1_init 56 = .ok (.lconst 0, 1) := by decide +kernel
set_option maxRecDepth 20000 in
theorem dX1_init_57 : decode cX1_init 57 = .ok (.putfield 36, 3) := by decide +kernel
set_option maxRecDepth 20000 in
theorem dX1_init_60 : decode cX1_init 60 = .ok (.return_, 1) := by decide +kernel
set_option maxRecDepth 20000 in
theorem dX1_solve_0 : decode cX1_solve 0 = .ok (.aload_n 1, 1) := by decide +kernel
set_option maxRecDepth 20000 in
theorem dX1_solve_1 : decode cX1_solve 1 = .ok (.aload_n 1, 1) := by decide +kernel
set_option maxRecDepth 20000 in
theorem dX1_solve_2 : decode cX1_solve 2 = .ok (.getfield 40, 3) := by decide +kernel
set_option maxRecDepth 20000 in
theorem dX1_solve_5 : decode cX1_solve 5 = .ok (.invokevirtual 45, 3) := by decide +kernel
set_option maxRecDepth 20000 in
theorem dX1_solve_8 : decode cX1_solve 8 = .ok (.ifCond .ne 4, 3) := by decide +kernel
set_option maxRecDepth 20000 in
theorem dX1_solve_11 : decode cX1_solve 11 = .ok (.return_, 1) := by decide +kernel
set_option maxRecDepth 20000 in
theorem dX1_solve_12 : decode cX1_solve 12 = .ok (.aload_n 0, 1) := by decide +kernel
set_option maxRecDepth 20000 in
theorem dX1_solve_13 : decode cX1_solve 13 = .ok (.aload_n 1, 1) := by decide +kernel
set_option maxRecDepth 20000 in
theorem dX1_solve_14 : decode cX1_solve 14 = .ok (.invokevirtual 49, 3) := by decide +kernel
set_option maxRecDepth 20000 in
theorem dX1_solve_17 : decode cX1_solve 17 = .ok (.aload_n 0, 1) := by decide +kernel
set_option maxRecDepth 20000 in
theorem dX1_solve_18 : decode cX1_solve 18 = .ok (.aload_n 1, 1) := by decide +kernel
set_option maxRecDepth 20000 in
theorem dX1_solve_19 : decode cX1_solve 19 = .ok (.getfield 53, 3) := by decide +kernel
set_option maxRecDepth 20000 in
theorem dX1_solve_22 : decode cX1_solve 22 = .ok (.invokevirtual 56, 3) := by decide +kernel
set_option maxRecDepth 20000 in
theorem dX1_solve_25 : decode cX1_solve 25 = .ok (.aload_n 0, 1) := by decide +kernel
set_option maxRecDepth 20000 in
theorem dX1_solve_26 : decode cX1_solve 26 = .ok (.aload_n 1, 1) := by decide +kernel
set_option maxRecDepth 20000 in
theorem dX1_solve_27 : decode cX1_solve 27 = .ok (.getfield 53, 3) := by decide +kernel
set_option maxRecDepth 20000 in
theorem dX1_solve_30 : decode cX1_solve 30 = .ok (.invokevirtual 60, 3) := by decide +kernel
set_option maxRecDepth 20000 in
theorem dX1_solve_33 : decode cX1_solve 33 = .ok (.aload_n 0, 1) := by decide +kernel
set_option maxRecDepth 20000 in
theorem dX1_solve_34 : decode cX1_solve 34 = .ok (.aload_n 1, 1) := by decide +kernel
set_option maxRecDepth 20000 in
theorem dX1_solve_35 : decode cX1_solve 35 = .ok (.invokevirtual 63, 3) := by decide +kernel
set_option maxRecDepth 20000 in
theorem dX1_solve_38 : decode cX1_solve 38 = .ok (.aload_n 0, 1) := by decide +kernel
set_option maxRecDepth 20000 in
theorem dX1_solve_39 : decode cX1_solve 39 = .ok (.aload_n 0, 1) := by decide +kernel
set_option maxRecDepth 20000 in
theorem dX1_solve_40 : decode cX1_solve 40 = .ok (.getfield 15, 3) := by decide +kernel
set_option maxRecDepth 20000 in
theorem dX1_solve_43 : decode cX1_solve 43 = .ok (.aload_n 1, 1) := by decide +kernel
set_option maxRecDepth 20000 in
theorem dX1_solve_44 : decode cX1_solve 44 = .ok (.getfield 66, 3) := by decide +kernel
set_option maxRecDepth 20000 in
theorem dX1_solve_47 : decode cX1_solve 47 = .ok (.aload_n 1, 1) := by decide +kernel
set_option maxRecDepth 20000 in
theorem dX1_solve_48 : decode cX1_solve 48 = .ok (.getfield 40, 3) := by decide +kernel
set_option maxRecDepth 20000 in
theorem dX1_solve_51 : decode cX1_solve 51 = .ok (.iaload, 1) := by decide +kernel
set_option maxRecDepth 20000 in
theorem dX1_solve_52 : decode cX1_solve 52 = .ok (.iaload, 1) := by decide +kernel
set_option maxRecDepth 20000 in
theorem dX1_solve_53 : decode cX1_solve 53 = .ok (.putfield 33, 3) := by decide +kernel
set_option maxRecDepth 20000 in
theorem dX1_solve_56 : decode cX1_solve 56 = .ok (.aload_n 0, 1) := by decide +kernel
set_option maxRecDepth 20000 in
theorem dX1_solve_57 : decode cX1_solve 57 = .ok (.aload_n 1, 1) := by decide +kernel
set_option maxRecDepth 20000 in
theorem dX1_solve_58 : decode cX1_solve 58 = .ok (.aload_n 2, 1) := by decide +kernel
set_option maxRecDepth 20000 in
theorem dX1_solve_59 : decode cX1_solve 59 = .ok (.invokevirtual 69, 3) := by decide +kernel
set_option maxRecDepth 20000 in
theorem dX1_solve_62 : decode cX1_solve 62 = .ok (.return_, 1) := by decide +kernel
set_option maxRecDepth 20000 in
theorem dX1_writeRows_0 : decode cX1_writeRows 0 = .ok (.iconst 0, 1) := by decide +kernel
set_option maxRecDepth 20000 in
theorem dX1_writeRows_1 : decode cX1_writeRows 1 = .ok (.istore_n 2, 1) := by decide +kernel
set_option maxRecDepth 20000 in
theorem dX1_writeRows_2 : decode cX1_writeRows 2 = .ok (.iload_n 2, 1) := by decide +kernel
set_option maxRecDepth 20000 in
theorem dX1_writeRows_3 : decode cX1_writeRows 3 = .ok (.sipush 156, 3) := by decide +kernel
set_option maxRecDepth 20000 in
theorem dX1_writeRows_6 : decode cX1_writeRows 6 = .ok (.if_icmp .ge 16, 3) := by decide +kernel
set_option maxRecDepth 20000 in
theorem dX1_writeRows_9 : decode cX1_writeRows 9 = .ok (.aload_n 0, 1) := by decide +kernel
set_option maxRecDepth 20000 in
theorem dX1_writeRows_10 : decode cX1_writeRows 10 = .ok (.getfield 11, 3) := by decide +kernel
set_option maxRecDepth 20000 in
theorem dX1_writeRows_13 : decode cX1_writeRows 13 = .ok (.iload_n 2, 1) := by decide +kernel
set_option maxRecDepth 20000 in
theorem dX1_writeRows_14 : decode cX1_writeRows 14 = .ok (.lconst 0, 1) := by decide +kernel
set_option maxRecDepth 20000 in
theorem dX1_writeRows_15 : decode cX1_writeRows 15 = .ok (.lastore, 1) := by decide +kernel
set_option maxRecDepth 20000 in
theorem dX1_writeRows_16 : decode cX1_writeRows 16 = .ok (.iinc 2 1, 3) := by decide +kernel
set_option maxRecDepth 20000 in
theorem dX1_writeRows_19 : decode cX1_writeRows 19 = .ok (.goto (-17), 3) := by decide +kernel
set_option maxRecDepth 20000 in
theorem dX1_writeRows_22 : decode cX1_writeRows 22 = .ok (.iconst 0, 1) := by decide +kernel
set_option maxRecDepth 20000 in
theorem dX1_writeRows_23 : decode cX1_writeRows 23 = .ok (.istore_n 2, 1) := by decide +kernel
set_option maxRecDepth 20000 in
theorem dX1_writeRows_24 : decode cX1_writeRows 24 = .ok (.iload_n 2, 1) := by decide +kernel
set_option maxRecDepth 20000 in
theorem dX1_writeRows_25 : decode cX1_writeRows 25 = .ok (.aload_n 1, 1) := by decide +kernel
set_option maxRecDepth 20000 in
theorem dX1_writeRows_26 : decode cX1_writeRows 26 = .ok (.getfield 73, 3) := by decide +kernel
set_option maxRecDepth 20000 in
theorem dX1_writeRows_29 : decode cX1_writeRows 29 = .ok (.if_icmp .ge 33, 3) := by decide +kernel
set_option maxRecDepth 20000 in
theorem dX1_writeRows_32 : decode cX1_writeRows 32 = .ok (.aload_n 1, 1) := by decide +kernel
set_option maxRecDepth 20000 in
theorem dX1_writeRows_33 : decode cX1_writeRows 33 = .ok (.iload_n 2, 1) := by decide +kernel
set_option maxRecDepth 20000 in
theorem dX1_writeRows_34 : decode cX1_writeRows 34 = .ok (.invokevirtual 76, 3) := by decide +kernel
set_option maxRecDepth 20000 in
theorem dX1_writeRows_37 : decode cX1_writeRows 37 = .ok (.ifCond .eq 19, 3) := by decide +kernel
set_option maxRecDepth 20000 in
theorem dX1_writeRows_40 : decode cX1_writeRows 40 = .ok (.aload_n 0, 1) := by decide +kernel
set_option maxRecDepth 20000 in
theorem dX1_writeRows_41 : decode cX1_writeRows 41 = .ok (.aload_n 1, 1) := by decide +kernel
set_option maxRecDepth 20000 in
theorem dX1_writeRows_42 : decode cX1_writeRows 42 = .ok (.getfield 66, 3) := by decide +kernel
set_option maxRecDepth 20000 in
theorem dX1_writeRows_45 : decode cX1_writeRows 45 = .ok (.iload_n 2, 1) := by decide +kernel
set_option maxRecDepth 20000 in
theorem dX1_writeRows_46 : decode cX1_writeRows 46 = .ok (.iaload, 1) := by decide +kernel
set_option maxRecDepth 20000 in
theorem dX1_writeRows_47 : decode cX1_writeRows 47 = .ok (.aload_n 1, 1) := by decide +kernel
set_option maxRecDepth 20000 in
theorem dX1_writeRows_48 : decode cX1_writeRows 48 = .ok (.getfield 79, 3) := by decide +kernel
set_option maxRecDepth 20000 in
theorem dX1_writeRows_51 : decode cX1_writeRows 51 = .ok (.iload_n 2, 1) := by decide +kernel
set_option maxRecDepth 20000 in
theorem dX1_writeRows_52 : decode cX1_writeRows 52 = .ok (.iaload, 1) := by decide +kernel
set_option maxRecDepth 20000 in
theorem dX1_writeRows_53 : decode cX1_writeRows 53 = .ok (.invokevirtual 82, 3) := by decide +kernel
set_option maxRecDepth 20000 in
theorem dX1_writeRows_56 : decode cX1_writeRows 56 = .ok (.iinc 2 1, 3) := by decide +kernel
set_option maxRecDepth 20000 in
theorem dX1_writeRows_59 : decode cX1_writeRows 59 = .ok (.goto (-35), 3) := by decide +kernel
set_option maxRecDepth 20000 in
theorem dX1_writeRows_62 : decode cX1_writeRows 62 = .ok (.aload_n 1, 1) := by decide +kernel
set_option maxRecDepth 20000 in
theorem dX1_writeRows_63 : decode cX1_writeRows 63 = .ok (.getfield 79, 3) := by decide +kernel
set_option maxRecDepth 20000 in
theorem dX1_writeRows_66 : decode cX1_writeRows 66 = .ok (.aload_n 1, 1) := by decide +kernel
set_option maxRecDepth 20000 in
theorem dX1_writeRows_67 : decode cX1_writeRows 67 = .ok (.getfield 40, 3) := by decide +kernel
set_option maxRecDepth 20000 in
theorem dX1_writeRows_70 : decode cX1_writeRows 70 = .ok (.iaload, 1) := by decide +kernel
set_option maxRecDepth 20000 in
theorem dX1_writeRows_71 : decode cX1_writeRows 71 = .ok (.istore_n 2, 1) := by decide +kernel
set_option maxRecDepth 20000 in
theorem dX1_writeRows_72 : decode cX1_writeRows 72 = .ok (.iconst 0, 1) := by decide +kernel
set_option maxRecDepth 20000 in
theorem dX1_writeRows_73 : decode cX1_writeRows 73 = .ok (.istore_n 3, 1) := by decide +kernel
set_option maxRecDepth 20000 in
theorem dX1_writeRows_74 : decode cX1_writeRows 74 = .ok (.iload_n 3, 1) := by decide +kernel
set_option maxRecDepth 20000 in
theorem dX1_writeRows_75 : decode cX1_writeRows 75 = .ok (.aload_n 1, 1) := by decide +kernel
set_option maxRecDepth 20000 in
theorem dX1_writeRows_76 : decode cX1_writeRows 76 = .ok (.getfield 53, 3) := by decide +kernel
set_option maxRecDepth 20000 in
theorem dX1_writeRows_79 : decode cX1_writeRows 79 = .ok (.if_icmp .ge 33, 3) := by decide +kernel
set_option maxRecDepth 20000 in
theorem dX1_writeRows_82 : decode cX1_writeRows 82 = .ok (.aload_n 0, 1) := by decide +kernel
set_option maxRecDepth 20000 in
theorem dX1_writeRows_83 : decode cX1_writeRows 83 = .ok (.getfield 11, 3) := by decide +kernel
set_option maxRecDepth 20000 in
theorem dX1_writeRows_86 : decode cX1_writeRows 86 = .ok (.iload_n 2, 1) := by decide +kernel
set_option maxRecDepth 20000 in
theorem dX1_writeRows_87 : decode cX1_writeRows 87 = .ok (.bipush 13, 2) := by decide +kernel
set_option maxRecDepth 20000 in
theorem dX1_writeRows_89 : decode cX1_writeRows 89 = .ok (.imul, 1) := by decide +kernel
set_option maxRecDepth 20000 in
theorem dX1_writeRows_90 : decode cX1_writeRows 90 = .ok (.iload_n 3, 1) := by decide +kernel
set_option maxRecDepth 20000 in
theorem dX1_writeRows_91 : decode cX1_writeRows 91 = .ok (.iadd, 1) := by decide +kernel
set_option maxRecDepth 20000 in
theorem dX1_writeRows_92 : decode cX1_writeRows 92 = .ok (.lconst 0, 1) := by decide +kernel
set_option maxRecDepth 20000 in
theorem dX1_writeRows_93 : decode cX1_writeRows 93 = .ok (.lastore, 1) := by decide +kernel
set_option maxRecDepth 20000 in
theorem dX1_writeRows_94 : decode cX1_writeRows 94 = .ok (.aload_n 0, 1) := by decide +kernel
set_option maxRecDepth 20000 in
theorem dX1_writeRows_95 : decode cX1_writeRows 95 = .ok (.getfield 11, 3) := by decide +kernel
set_option maxRecDepth 20000 in
theorem dX1_writeRows_98 : decode cX1_writeRows 98 = .ok (.iload_n 3, 1) := by decide +kernel
set_option maxRecDepth 20000 in
theorem dX1_writeRows_99 : decode cX1_writeRows 99 = .ok (.bipush 13, 2) := by decide +kernel
set_option maxRecDepth 20000 in
theorem dX1_writeRows_101 : decode cX1_writeRows 101 = .ok (.imul, 1) := by decide +kernel
set_option maxRecDepth 20000 in
theorem dX1_writeRows_102 : decode cX1_writeRows 102 = .ok (.iload_n 2, 1) := by decide +kernel
set_option maxRecDepth 20000 in
theorem dX1_writeRows_103 : decode cX1_writeRows 103 = .ok (.iadd, 1) := by decide +kernel
set_option maxRecDepth 20000 in
theorem dX1_writeRows_104 : decode cX1_writeRows 104 = .ok (.lconst 0, 1) := by decide +kernel
set_option maxRecDepth 20000 in
theorem dX1_writeRows_105 : decode cX1_writeRows 105 = .ok (.lastore, 1) := by decide +kernel
set_option maxRecDepth 20000 in
theorem dX1_writeRows_106 : decode cX1_writeRows 106 = .ok (.iinc 3 1, 3) := by decide +kernel
set_option maxRecDepth 20000 in
theorem dX1_writeRows_109 : decode cX1_writeRows 109 = .ok (.goto (-35), 3) := by decide +kernel
set_option maxRecDepth 20000 in
theorem dX1_writeRows_112 : decode cX1_writeRows 112 = .ok (.aload_n 0, 1) := by decide +kernel
set_option maxRecDepth 20000 in
theorem dX1_writeRows_113 : decode cX1_writeRows 113 = .ok (.getfield 11, 3) := by decide +kernel
set_option maxRecDepth 20000 in
theorem dX1_writeRows_116 : decode cX1_writeRows 116 = .ok (.iload_n 2, 1) := by decide +kernel
set_option maxRecDepth 20000 in
theorem dX1_writeRows_117 : decode cX1_writeRows 117 = .ok (.bipush 13, 2) := by decide +kernel
set_option maxRecDepth 20000 in
theorem dX1_writeRows_119 : decode cX1_writeRows 119 = .ok (.imul, 1) := by decide +kernel
set_option maxRecDepth 20000 in
theorem dX1_writeRows_120 : decode cX1_writeRows 120 = .ok (.iload_n 2, 1) := by decide +kernel
set_option maxRecDepth 20000 in
theorem dX1_writeRows_121 : decode cX1_writeRows 121 = .ok (.iadd, 1) := by decide +kernel
set_option maxRecDepth 20000 in
theorem dX1_writeRows_122 : decode cX1_writeRows 122 = .ok (.lconst 1, 1) := by decide +kernel
set_option maxRecDepth 20000 in
theorem dX1_writeRows_123 : decode cX1_writeRows 123 = .ok (.lastore, 1) := by decide +kernel
set_option maxRecDepth 20000 in
theorem dX1_writeRows_124 : decode cX1_writeRows 124 = .ok (.aload_n 0, 1) := by decide +kernel
set_option maxRecDepth 20000 in
theorem dX1_writeRows_125 : decode cX1_writeRows 125 = .ok (.getfield 11, 3) := by decide +kernel
set_option maxRecDepth 20000 in
theorem dX1_writeRows_128 : decode cX1_writeRows 128 = .ok (.aload_n 1, 1) := by decide +kernel
set_option maxRecDepth 20000 in
theorem dX1_writeRows_129 : decode cX1_writeRows 129 = .ok (.getfield 66, 3) := by decide +kernel
set_option maxRecDepth 20000 in
theorem dX1_writeRows_132 : decode cX1_writeRows 132 = .ok (.aload_n 1, 1) := by decide +kernel
set_option maxRecDepth 20000 in
theorem dX1_writeRows_133 : decode cX1_writeRows 133 = .ok (.getfield 40, 3) := by decide +kernel
set_option maxRecDepth 20000 in
theorem dX1_writeRows_136 : decode cX1_writeRows 136 = .ok (.iaload, 1) := by decide +kernel
set_option maxRecDepth 20000 in
theorem dX1_writeRows_137 : decode cX1_writeRows 137 = .ok (.bipush 13, 2) := by decide +kernel
set_option maxRecDepth 20000 in
theorem dX1_writeRows_139 : decode cX1_writeRows 139 = .ok (.imul, 1) := by decide +kernel
set_option maxRecDepth 20000 in
theorem dX1_writeRows_140 : decode cX1_writeRows 140 = .ok (.aload_n 1, 1) := by decide +kernel
set_option maxRecDepth 20000 in
theorem dX1_writeRows_141 : decode cX1_writeRows 141 = .ok (.getfield 53, 3) := by decide +kernel
set_option maxRecDepth 20000 in
theorem dX1_writeRows_144 : decode cX1_writeRows 144 = .ok (.iadd, 1) := by decide +kernel
set_option maxRecDepth 20000 in
theorem dX1_writeRows_145 : decode cX1_writeRows 145 = .ok (.lconst 1, 1) := by decide +kernel
set_option maxRecDepth 20000 in
theorem dX1_writeRows_146 : decode cX1_writeRows 146 = .ok (.lastore, 1) := by decide +kernel
set_option maxRecDepth 20000 in
theorem dX1_writeRows_147 : decode cX1_writeRows 147 = .ok (.return_, 1) := by decide +kernel
set_option maxRecDepth 20000 in
theorem dX1_writeWire_0 : decode cX1_writeWire 0 = .ok (.aload_n 0, 1) := by decide +kernel
set_option maxRecDepth 20000 in
theorem dX1_writeWire_1 : decode cX1_writeWire 1 = .ok (.getfield 11, 3) := by decide +kernel
set_option maxRecDepth 20000 in
theorem dX1_writeWire_4 : decode cX1_writeWire 4 = .ok (.iload_n 1, 1) := by decide +kernel
set_option maxRecDepth 20000 in
theorem dX1_writeWire_5 : decode cX1_writeWire 5 = .ok (.bipush 13, 2) := by decide +kernel
set_option maxRecDepth 20000 in
theorem dX1_writeWire_7 : decode cX1_writeWire 7 = .ok (.imul, 1) := by decide +kernel
set_option maxRecDepth 20000 in
theorem dX1_writeWire_8 : decode cX1_writeWire 8 = .ok (.iload_n 1, 1) := by decide +kernel
set_option maxRecDepth 20000 in
theorem dX1_writeWire_9 : decode cX1_writeWire 9 = .ok (.iadd, 1) := by decide +kernel
set_option maxRecDepth 20000 in
theorem dX1_writeWire_10 : decode cX1_writeWire 10 = .ok (.dup2, 1) := by decide +kernel
set_option maxRecDepth 20000 in
theorem dX1_writeWire_11 : decode cX1_writeWire 11 = .ok (.laload, 1) := by decide +kernel
set_option maxRecDepth 20000 in
theorem dX1_writeWire_12 : decode cX1_writeWire 12 = .ok (.lconst 1, 1) := by decide +kernel
set_option maxRecDepth 20000 in
theorem dX1_writeWire_13 : decode cX1_writeWire 13 = .ok (.ladd, 1) := by decide +kernel
set_option maxRecDepth 20000 in
theorem dX1_writeWire_14 : decode cX1_writeWire 14 = .ok (.lastore, 1) := by decide +kernel
set_option maxRecDepth 20000 in
theorem dX1_writeWire_15 : decode cX1_writeWire 15 = .ok (.aload_n 0, 1) := by decide +kernel
set_option maxRecDepth 20000 in
theorem dX1_writeWire_16 : decode cX1_writeWire 16 = .ok (.getfield 11, 3) := by decide +kernel
set_option maxRecDepth 20000 in
theorem dX1_writeWire_19 : decode cX1_writeWire 19 = .ok (.iload_n 2, 1) := by decide +kernel
set_option maxRecDepth 20000 in
theorem dX1_writeWire_20 : decode cX1_writeWire 20 = .ok (.bipush 13, 2) := by decide +kernel
set_option maxRecDepth 20000 in
theorem dX1_writeWire_22 : decode cX1_writeWire 22 = .ok (.imul, 1) := by decide +kernel
set_option maxRecDepth 20000 in
theorem dX1_writeWire_23 : decode cX1_writeWire 23 = .ok (.iload_n 2, 1) := by decide +kernel
set_option maxRecDepth 20000 in
theorem dX1_writeWire_24 : decode cX1_writeWire 24 = .ok (.iadd, 1) := by decide +kernel
set_option maxRecDepth 20000 in
theorem dX1_writeWire_25 : decode cX1_writeWire 25 = .ok (.dup2, 1) := by decide +kernel
set_option maxRecDepth 20000 in
theorem dX1_writeWire_26 : decode cX1_writeWire 26 = .ok (.laload, 1) := by decide +kernel
set_option maxRecDepth 20000 in
theorem dX1_writeWire_27 : decode cX1_writeWire 27 = .ok (.lconst 1, 1) := by decide +kernel
set_option maxRecDepth 20000 in
theorem dX1_writeWire_28 : decode cX1_writeWire 28 = .ok (.ladd, 1) := by decide +kernel
set_option maxRecDepth 20000 in
theorem dX1_writeWire_29 : decode cX1_writeWire 29 = .ok (.lastore, 1) := by decide +kernel
set_option maxRecDepth 20000 in
theorem dX1_writeWire_30 : decode cX1_writeWire 30 = .ok (.aload_n 0, 1) := by decide +kernel
set_option maxRecDepth 20000 in
theorem dX1_writeWire_31 : decode cX1_writeWire 31 = .ok (.getfield 11, 3) := by decide +kernel
set_option maxRecDepth 20000 in
theorem dX1_writeWire_34 : decode cX1_writeWire 34 = .ok (.iload_n 1, 1) := by decide +kernel
set_option maxRecDepth 20000 in
theorem dX1_writeWire_35 : decode cX1_writeWire 35 = .ok (.bipush 13, 2) := by decide +kernel
set_option maxRecDepth 20000 in
theorem dX1_writeWire_37 : decode cX1_writeWire 37 = .ok (.imul, 1) := by decide +kernel
set_option maxRecDepth 20000 in
theorem dX1_writeWire_38 : decode cX1_writeWire 38 = .ok (.iload_n 2, 1) := by decide +kernel
set_option maxRecDepth 20000 in
theorem dX1_writeWire_39 : decode cX1_writeWire 39 = .ok (.iadd, 1) := by decide +kernel
set_option maxRecDepth 20000 in
theorem dX1_writeWire_40 : decode cX1_writeWire 40 = .ok (.dup2, 1) := by decide +kernel
set_option maxRecDepth 20000 in
theorem dX1_writeWire_41 : decode cX1_writeWire 41 = .ok (.laload, 1) := by decide +kernel
set_option maxRecDepth 20000 in
theorem dX1_writeWire_42 : decode cX1_writeWire 42 = .ok (.lconst 1, 1) := by decide +kernel
set_option maxRecDepth 20000 in
theorem dX1_writeWire_43 : decode cX1_writeWire 43 = .ok (.lsub, 1) := by decide +kernel
set_option maxRecDepth 20000 in
theorem dX1_writeWire_44 : decode cX1_writeWire 44 = .ok (.lastore, 1) := by decide +kernel
set_option maxRecDepth 20000 in
theorem dX1_writeWire_45 : decode cX1_writeWire 45 = .ok (.aload_n 0, 1) := by decide +kernel
set_option maxRecDepth 20000 in
theorem dX1_writeWire_46 : decode cX1_writeWire 46 = .ok (.getfield 11, 3) := by decide +kernel
set_option maxRecDepth 20000 in
theorem dX1_writeWire_49 : decode cX1_writeWire 49 = .ok (.iload_n 2, 1) := by decide +kernel
set_option maxRecDepth 20000 in
theorem dX1_writeWire_50 : decode cX1_writeWire 50 = .ok (.bipush 13, 2) := by decide +kernel
set_option maxRecDepth 20000 in
theorem dX1_writeWire_52 : decode cX1_writeWire 52 = .ok (.imul, 1) := by decide +kernel
set_option maxRecDepth 20000 in
theorem dX1_writeWire_53 : decode cX1_writeWire 53 = .ok (.iload_n 1, 1) := by decide +kernel
set_option maxRecDepth 20000 in
theorem dX1_writeWire_54 : decode cX1_writeWire 54 = .ok (.iadd, 1) := by decide +kernel
set_option maxRecDepth 20000 in
theorem dX1_writeWire_55 : decode cX1_writeWire 55 = .ok (.dup2, 1) := by decide +kernel
set_option maxRecDepth 20000 in
theorem dX1_writeWire_56 : decode cX1_writeWire 56 = .ok (.laload, 1) := by decide +kernel
set_option maxRecDepth 20000 in
theorem dX1_writeWire_57 : decode cX1_writeWire 57 = .ok (.lconst 1, 1) := by decide +kernel
set_option maxRecDepth 20000 in
theorem dX1_writeWire_58 : decode cX1_writeWire 58 = .ok (.lsub, 1) := by decide +kernel
set_option maxRecDepth 20000 in
theorem dX1_writeWire_59 : decode cX1_writeWire 59 = .ok (.lastore, 1) := by decide +kernel
set_option maxRecDepth 20000 in
theorem dX1_writeWire_60 : decode cX1_writeWire 60 = .ok (.return_, 1) := by decide +kernel
set_option maxRecDepth 20000 in
theorem dX1_eliminate_0 : decode cX1_eliminate 0 = .ok (.lconst 1, 1) := by decide +kernel
set_option maxRecDepth 20000 in
theorem dX1_eliminate_1 : decode cX1_eliminate 1 = .ok (.lstore_n 2, 1) := by decide +kernel
set_option maxRecDepth 20000 in
theorem dX1_eliminate_2 : decode cX1_eliminate 2 = .ok (.iconst 0, 1) := by decide +kernel
set_option maxRecDepth 20000 in
theorem dX1_eliminate_3 : decode cX1_eliminate 3 = .ok (.istore 4, 2) := by decide +kernel
set_option maxRecDepth 20000 in
theorem dX1_eliminate_5 : decode cX1_eliminate 5 = .ok (.iload 4, 2) := by decide +kernel
set_option maxRecDepth 20000 in
theorem dX1_eliminate_7 : decode cX1_eliminate 7 = .ok (.iload_n 1, 1) := by decide +kernel
set_option maxRecDepth 20000 in
theorem dX1_eliminate_8 : decode cX1_eliminate 8 = .ok (.if_icmp .ge 59, 3) := by decide +kernel
set_option maxRecDepth 20000 in
theorem dX1_eliminate_11 : decode cX1_eliminate 11 = .ok (.aload_n 0, 1) := by decide +kernel
set_option maxRecDepth 20000 in
theorem dX1_eliminate_12 : decode cX1_eliminate 12 = .ok (.getfield 11, 3) := by decide +kernel
set_option maxRecDepth 20000 in
theorem dX1_eliminate_15 : decode cX1_eliminate 15 = .ok (.iload 4, 2) := by decide +kernel
set_option maxRecDepth 20000 in
theorem dX1_eliminate_17 : decode cX1_eliminate 17 = .ok (.bipush 13, 2) := by decide +kernel
set_option maxRecDepth 20000 in
theorem dX1_eliminate_19 : decode cX1_eliminate 19 = .ok (.imul, 1) := by decide +kernel
set_option maxRecDepth 20000 in
theorem dX1_eliminate_20 : decode cX1_eliminate 20 = .ok (.iload 4, 2) := by decide +kernel
set_option maxRecDepth 20000 in
theorem dX1_eliminate_22 : decode cX1_eliminate 22 = .ok (.iadd, 1) := by decide +kernel
set_option maxRecDepth 20000 in
theorem dX1_eliminate_23 : decode cX1_eliminate 23 = .ok (.laload, 1) := by decide +kernel
set_option maxRecDepth 20000 in
theorem dX1_eliminate_24 : decode cX1_eliminate 24 = .ok (.lstore 5, 2) := by decide +kernel
set_option maxRecDepth 20000 in
theorem dX1_eliminate_26 : decode cX1_eliminate 26 = .ok (.iconst 0, 1) := by decide +kernel
set_option maxRecDepth 20000 in
theorem dX1_eliminate_27 : decode cX1_eliminate 27 = .ok (.istore 7, 2) := by decide +kernel
set_option maxRecDepth 20000 in
theorem dX1_eliminate_29 : decode cX1_eliminate 29 = .ok (.iload 7, 2) := by decide +kernel
set_option maxRecDepth 20000 in
theorem dX1_eliminate_31 : decode cX1_eliminate 31 = .ok (.iload_n 1, 1) := by decide +kernel
set_option maxRecDepth 20000 in
theorem dX1_eliminate_32 : decode cX1_eliminate 32 = .ok (.if_icmp .ge 26, 3) := by decide +kernel
set_option maxRecDepth 20000 in
theorem dX1_eliminate_35 : decode cX1_eliminate 35 = .ok (.iload 7, 2) := by decide +kernel
set_option maxRecDepth 20000 in
theorem dX1_eliminate_37 : decode cX1_eliminate 37 = .ok (.iload 4, 2) := by decide +kernel
set_option maxRecDepth 20000 in
theorem dX1_eliminate_39 : decode cX1_eliminate 39 = .ok (.if_icmp .eq 13, 3) := by decide +kernel
set_option maxRecDepth 20000 in
theorem dX1_eliminate_42 : decode cX1_eliminate 42 = .ok (.aload_n 0, 1) := by decide +kernel
set_option maxRecDepth 20000 in
theorem dX1_eliminate_43 : decode cX1_eliminate 43 = .ok (.iload 7, 2) := by decide +kernel
set_option maxRecDepth 20000 in
theorem dX1_eliminate_45 : decode cX1_eliminate 45 = .ok (.iload 4, 2) := by decide +kernel
set_option maxRecDepth 20000 in
theorem dX1_eliminate_47 : decode cX1_eliminate 47 = .ok (.iload_n 1, 1) := by decide +kernel
set_option maxRecDepth 20000 in
theorem dX1_eliminate_48 : decode cX1_eliminate 48 = .ok (.lload_n 2, 1) := by decide +kernel
set_option maxRecDepth 20000 in
theorem dX1_eliminate_49 : decode cX1_eliminate 49 = .ok (.invokevirtual 86, 3) := by decide +kernel
set_option maxRecDepth 20000 in
theorem dX1_eliminate_52 : decode cX1_eliminate 52 = .ok (.iinc 7 1, 3) := by decide +kernel
set_option maxRecDepth 20000 in
theorem dX1_eliminate_55 : decode cX1_eliminate 55 = .ok (.goto (-26), 3) := by decide +kernel
set_option maxRecDepth 20000 in
theorem dX1_eliminate_58 : decode cX1_eliminate 58 = .ok (.lload 5, 2) := by decide +kernel
set_option maxRecDepth 20000 in
theorem dX1_eliminate_60 : decode cX1_eliminate 60 = .ok (.lstore_n 2, 1) := by decide +kernel
set_option maxRecDepth 20000 in
theorem dX1_eliminate_61 : decode cX1_eliminate 61 = .ok (.iinc 4 1, 3) := by decide +kernel
set_option maxRecDepth 20000 in
theorem dX1_eliminate_64 : decode cX1_eliminate 64 = .ok (.goto (-59), 3) := by decide +kernel
set_option maxRecDepth 20000 in
theorem dX1_eliminate_67 : decode cX1_eliminate 67 = .ok (.aload_n 0, 1) := by decide +kernel
set_option maxRecDepth 20000 in
theorem dX1_eliminate_68 : decode cX1_eliminate 68 = .ok (.lload_n 2, 1) := by decide +kernel
set_option maxRecDepth 20000 in
theorem dX1_eliminate_69 : decode cX1_eliminate 69 = .ok (.putfield 36, 3) := by decide +kernel
set_option maxRecDepth 20000 in
theorem dX1_eliminate_72 : decode cX1_eliminate 72 = .ok (.return_, 1) := by decide +kernel
set_option maxRecDepth 20000 in
theorem dX1_reduceRow_0 : decode cX1_reduceRow 0 = .ok (.lload 4, 2) := by decide +kernel
set_option maxRecDepth 20000 in
theorem dX1_reduceRow_2 : decode cX1_reduceRow 2 = .ok (.lconst 0, 1) := by decide +kernel
set_option maxRecDepth 20000 in
theorem dX1_reduceRow_3 : decode cX1_reduceRow 3 = .ok (.lcmp, 1) := by decide +kernel
set_option maxRecDepth 20000 in
theorem dX1_reduceRow_4 : decode cX1_reduceRow 4 = .ok (.ifCond .ne 4, 3) := by decide +kernel
set_option maxRecDepth 20000 in
theorem dX1_reduceRow_7 : decode cX1_reduceRow 7 = .ok (.return_, 1) := by decide +kernel
set_option maxRecDepth 20000 in
theorem dX1_reduceRow_8 : decode cX1_reduceRow 8 = .ok (.aload_n 0, 1) := by decide +kernel
set_option maxRecDepth 20000 in
theorem dX1_reduceRow_9 : decode cX1_reduceRow 9 = .ok (.getfield 11, 3) := by decide +kernel
set_option maxRecDepth 20000 in
theorem dX1_reduceRow_12 : decode cX1_reduceRow 12 = .ok (.iload_n 2, 1) := by decide +kernel
set_option maxRecDepth 20000 in
theorem dX1_reduceRow_13 : decode cX1_reduceRow 13 = .ok (.bipush 13, 2) := by decide +kernel
set_option maxRecDepth 20000 in
theorem dX1_reduceRow_15 : decode cX1_reduceRow 15 = .ok (.imul, 1) := by decide +kernel
set_option maxRecDepth 20000 in
theorem dX1_reduceRow_16 : decode cX1_reduceRow 16 = .ok (.iload_n 2, 1) := by decide +kernel
set_option maxRecDepth 20000 in
theorem dX1_reduceRow_17 : decode cX1_reduceRow 17 = .ok (.iadd, 1) := by decide +kernel
set_option maxRecDepth 20000 in
theorem dX1_reduceRow_18 : decode cX1_reduceRow 18 = .ok (.laload, 1) := by decide +kernel
set_option maxRecDepth 20000 in
theorem dX1_reduceRow_19 : decode cX1_reduceRow 19 = .ok (.lstore 6, 2) := by decide +kernel
set_option maxRecDepth 20000 in
theorem dX1_reduceRow_21 : decode cX1_reduceRow 21 = .ok (.aload_n 0, 1) := by decide +kernel
set_option maxRecDepth 20000 in
theorem dX1_reduceRow_22 : decode cX1_reduceRow 22 = .ok (.getfield 11, 3) := by decide +kernel
set_option maxRecDepth 20000 in
theorem dX1_reduceRow_25 : decode cX1_reduceRow 25 = .ok (.iload_n 1, 1) := by decide +kernel
set_option maxRecDepth 20000 in
theorem dX1_reduceRow_26 : decode cX1_reduceRow 26 = .ok (.bipush 13, 2) := by decide +kernel
set_option maxRecDepth 20000 in
theorem dX1_reduceRow_28 : decode cX1_reduceRow 28 = .ok (.imul, 1) := by decide +kernel
set_option maxRecDepth 20000 in
theorem dX1_reduceRow_29 : decode cX1_reduceRow 29 = .ok (.iload_n 2, 1) := by decide +kernel
set_option maxRecDepth 20000 in
theorem dX1_reduceRow_30 : decode cX1_reduceRow 30 = .ok (.iadd, 1) := by decide +kernel
set_option maxRecDepth 20000 in
theorem dX1_reduceRow_31 : decode cX1_reduceRow 31 = .ok (.laload, 1) := by decide +kernel
set_option maxRecDepth 20000 in
theorem dX1_reduceRow_32 : decode cX1_reduceRow 32 = .ok (.lstore 8, 2) := by decide +kernel
set_option maxRecDepth 20000 in
theorem dX1_reduceRow_34 : decode cX1_reduceRow 34 = .ok (.iconst 0, 1) := by decide +kernel
set_option maxRecDepth 20000 in
theorem dX1_reduceRow_35 : decode cX1_reduceRow 35 = .ok (.istore 10, 2) := by decide +kernel
set_option maxRecDepth 20000 in
theorem dX1_reduceRow_37 : decode cX1_reduceRow 37 = .ok (.iload 10, 2) := by decide +kernel
set_option maxRecDepth 20000 in
theorem dX1_reduceRow_39 : decode cX1_reduceRow 39 = .ok (.iload_n 3, 1) := by decide +kernel
set_option maxRecDepth 20000 in
theorem dX1_reduceRow_40 : decode cX1_reduceRow 40 = .ok (.if_icmp .gt 55, 3) := by decide +kernel
set_option maxRecDepth 20000 in
theorem dX1_reduceRow_43 : decode cX1_reduceRow 43 = .ok (.aload_n 0, 1) := by decide +kernel
set_option maxRecDepth 20000 in
theorem dX1_reduceRow_44 : decode cX1_reduceRow 44 = .ok (.getfield 11, 3) := by decide +kernel
set_option maxRecDepth 20000 in
theorem dX1_reduceRow_47 : decode cX1_reduceRow 47 = .ok (.iload_n 1, 1) := by decide +kernel
set_option maxRecDepth 20000 in
theorem dX1_reduceRow_48 : decode cX1_reduceRow 48 = .ok (.bipush 13, 2) := by decide +kernel
set_option maxRecDepth 20000 in
theorem dX1_reduceRow_50 : decode cX1_reduceRow 50 = .ok (.imul, 1) := by decide +kernel
set_option maxRecDepth 20000 in
theorem dX1_reduceRow_51 : decode cX1_reduceRow 51 = .ok (.iload 10, 2) := by decide +kernel
set_option maxRecDepth 20000 in
theorem dX1_reduceRow_53 : decode cX1_reduceRow 53 = .ok (.iadd, 1) := by decide +kernel
set_option maxRecDepth 20000 in
theorem dX1_reduceRow_54 : decode cX1_reduceRow 54 = .ok (.lload 6, 2) := by decide +kernel
set_option maxRecDepth 20000 in
theorem dX1_reduceRow_56 : decode cX1_reduceRow 56 = .ok (.aload_n 0, 1) := by decide +kernel
set_option maxRecDepth 20000 in
theorem dX1_reduceRow_57 : decode cX1_reduceRow 57 = .ok (.getfield 11, 3) := by decide +kernel
set_option maxRecDepth 20000 in
theorem dX1_reduceRow_60 : decode cX1_reduceRow 60 = .ok (.iload_n 1, 1) := by decide +kernel
set_option maxRecDepth 20000 in
theorem dX1_reduceRow_61 : decode cX1_reduceRow 61 = .ok (.bipush 13, 2) := by decide +kernel
set_option maxRecDepth 20000 in
theorem dX1_reduceRow_63 : decode cX1_reduceRow 63 = .ok (.imul, 1) := by decide +kernel
set_option maxRecDepth 20000 in
theorem dX1_reduceRow_64 : decode cX1_reduceRow 64 = .ok (.iload 10, 2) := by decide +kernel
set_option maxRecDepth 20000 in
theorem dX1_reduceRow_66 : decode cX1_reduceRow 66 = .ok (.iadd, 1) := by decide +kernel
set_option maxRecDepth 20000 in
theorem dX1_reduceRow_67 : decode cX1_reduceRow 67 = .ok (.laload, 1) := by decide +kernel
set_option maxRecDepth 20000 in
theorem dX1_reduceRow_68 : decode cX1_reduceRow 68 = .ok (.lmul, 1) := by decide +kernel
set_option maxRecDepth 20000 in
theorem dX1_reduceRow_69 : decode cX1_reduceRow 69 = .ok (.lload 8, 2) := by decide +kernel
set_option maxRecDepth 20000 in
theorem dX1_reduceRow_71 : decode cX1_reduceRow 71 = .ok (.aload_n 0, 1) := by decide +kernel
set_option maxRecDepth 20000 in
theorem dX1_reduceRow_72 : decode cX1_reduceRow 72 = .ok (.getfield 11, 3) := by decide +kernel
set_option maxRecDepth 20000 in
theorem dX1_reduceRow_75 : decode cX1_reduceRow 75 = .ok (.iload_n 2, 1) := by decide +kernel
set_option maxRecDepth 20000 in
theorem dX1_reduceRow_76 : decode cX1_reduceRow 76 = .ok (.bipush 13, 2) := by decide +kernel
set_option maxRecDepth 20000 in
theorem dX1_reduceRow_78 : decode cX1_reduceRow 78 = .ok (.imul, 1) := by decide +kernel
set_option maxRecDepth 20000 in
theorem dX1_reduceRow_79 : decode cX1_reduceRow 79 = .ok (.iload 10, 2) := by decide +kernel
set_option maxRecDepth 20000 in
theorem dX1_reduceRow_81 : decode cX1_reduceRow 81 = .ok (.iadd, 1) := by decide +kernel
set_option maxRecDepth 20000 in
theorem dX1_reduceRow_82 : decode cX1_reduceRow 82 = .ok (.laload, 1) := by decide +kernel
set_option maxRecDepth 20000 in
theorem dX1_reduceRow_83 : decode cX1_reduceRow 83 = .ok (.lmul, 1) := by decide +kernel
set_option maxRecDepth 20000 in
theorem dX1_reduceRow_84 : decode cX1_reduceRow 84 = .ok (.lsub, 1) := by decide +kernel
set_option maxRecDepth 20000 in
theorem dX1_reduceRow_85 : decode cX1_reduceRow 85 = .ok (.lload 4, 2) := by decide +kernel
set_option maxRecDepth 20000 in
theorem dX1_reduceRow_87 : decode cX1_reduceRow 87 = .ok (.ldiv, 1) := by decide +kernel
set_option maxRecDepth 20000 in
theorem dX1_reduceRow_88 : decode cX1_reduceRow 88 = .ok (.lastore, 1) := by decide +kernel
set_option maxRecDepth 20000 in
theorem dX1_reduceRow_89 : decode cX1_reduceRow 89 = .ok (.iinc 10 1, 3) := by decide +kernel
set_option maxRecDepth 20000 in
theorem dX1_reduceRow_92 : decode cX1_reduceRow 92 = .ok (.goto (-55), 3) := by decide +kernel
set_option maxRecDepth 20000 in
theorem dX1_reduceRow_95 : decode cX1_reduceRow 95 = .ok (.return_, 1) := by decide +kernel
set_option maxRecDepth 20000 in
theorem dX1_takeHeights_0 : decode cX1_takeHeights 0 = .ok (.lconst 0, 1) := by decide +kernel
set_option maxRecDepth 20000 in
theorem dX1_takeHeights_1 : decode cX1_takeHeights 1 = .ok (.lstore_n 2, 1) := by decide +kernel
set_option maxRecDepth 20000 in
theorem dX1_takeHeights_2 : decode cX1_takeHeights 2 = .ok (.iconst 0, 1) := by decide +kernel
set_option maxRecDepth 20000 in
theorem dX1_takeHeights_3 : decode cX1_takeHeights 3 = .ok (.istore 4, 2) := by decide +kernel
set_option maxRecDepth 20000 in
theorem dX1_takeHeights_5 : decode cX1_takeHeights 5 = .ok (.iload 4, 2) := by decide +kernel
set_option maxRecDepth 20000 in
theorem dX1_takeHeights_7 : decode cX1_takeHeights 7 = .ok (.iload_n 1, 1) := by decide +kernel
set_option maxRecDepth 20000 in
theorem dX1_takeHeights_8 : decode cX1_takeHeights 8 = .ok (.if_icmp .ge 26, 3) := by decide +kernel
set_option maxRecDepth 20000 in
theorem dX1_takeHeights_11 : decode cX1_takeHeights 11 = .ok (.lload_n 2, 1) := by decide +kernel
set_option maxRecDepth 20000 in
theorem dX1_takeHeights_12 : decode cX1_takeHeights 12 = .ok (.aload_n 0, 1) := by decide +kernel
set_option maxRecDepth 20000 in
theorem dX1_takeHeights_13 : decode cX1_takeHeights 13 = .ok (.getfield 11, 3) := by decide +kernel
set_option maxRecDepth 20000 in
theorem dX1_takeHeights_16 : decode cX1_takeHeights 16 = .ok (.iload 4, 2) := by decide +kernel
set_option maxRecDepth 20000 in
theorem dX1_takeHeights_18 : decode cX1_takeHeights 18 = .ok (.bipush 13, 2) := by decide +kernel
set_option maxRecDepth 20000 in
theorem dX1_takeHeights_20 : decode cX1_takeHeights 20 = .ok (.imul, 1) := by decide +kernel
set_option maxRecDepth 20000 in
theorem dX1_takeHeights_21 : decode cX1_takeHeights 21 = .ok (.iload_n 1, 1) := by decide +kernel
set_option maxRecDepth 20000 in
theorem dX1_takeHeights_22 : decode cX1_takeHeights 22 = .ok (.iadd, 1) := by decide +kernel
set_option maxRecDepth 20000 in
theorem dX1_takeHeights_23 : decode cX1_takeHeights 23 = .ok (.laload, 1) := by decide +kernel
set_option maxRecDepth 20000 in
theorem dX1_takeHeights_24 : decode cX1_takeHeights 24 = .ok (.invokestatic 90, 3) := by decide +kernel
set_option maxRecDepth 20000 in
theorem dX1_takeHeights_27 : decode cX1_takeHeights 27 = .ok (.lstore_n 2, 1) := by decide +kernel
set_option maxRecDepth 20000 in
theorem dX1_takeHeights_28 : decode cX1_takeHeights 28 = .ok (.iinc 4 1, 3) := by decide +kernel
set_option maxRecDepth 20000 in
theorem dX1_takeHeights_31 : decode cX1_takeHeights 31 = .ok (.goto (-26), 3) := by decide +kernel
set_option maxRecDepth 20000 in
theorem dX1_takeHeights_34 : decode cX1_takeHeights 34 = .ok (.iconst 0, 1) := by decide +kernel
set_option maxRecDepth 20000 in
theorem dX1_takeHeights_35 : decode cX1_takeHeights 35 = .ok (.istore 4, 2) := by decide +kernel
set_option maxRecDepth 20000 in
theorem dX1_takeHeights_37 : decode cX1_takeHeights 37 = .ok (.iload 4, 2) := by decide +kernel
set_option maxRecDepth 20000 in
theorem dX1_takeHeights_39 : decode cX1_takeHeights 39 = .ok (.iload_n 1, 1) := by decide +kernel
set_option maxRecDepth 20000 in
theorem dX1_takeHeights_40 : decode cX1_takeHeights 40 = .ok (.if_icmp .ge 41, 3) := by decide +kernel
set_option maxRecDepth 20000 in
theorem dX1_takeHeights_43 : decode cX1_takeHeights 43 = .ok (.aload_n 0, 1) := by decide +kernel
set_option maxRecDepth 20000 in
theorem dX1_takeHeights_44 : decode cX1_takeHeights 44 = .ok (.getfield 15, 3) := by decide +kernel
set_option maxRecDepth 20000 in
theorem dX1_takeHeights_47 : decode cX1_takeHeights 47 = .ok (.iload 4, 2) := by decide +kernel
set_option maxRecDepth 20000 in
theorem dX1_takeHeights_49 : decode cX1_takeHeights 49 = .ok (.lload_n 2, 1) := by decide +kernel
set_option maxRecDepth 20000 in
theorem dX1_takeHeights_50 : decode cX1_takeHeights 50 = .ok (.lconst 0, 1) := by decide +kernel
set_option maxRecDepth 20000 in
theorem dX1_takeHeights_51 : decode cX1_takeHeights 51 = .ok (.lcmp, 1) := by decide +kernel
set_option maxRecDepth 20000 in
theorem dX1_takeHeights_52 : decode cX1_takeHeights 52 = .ok (.ifCond .ne 7, 3) := by decide +kernel
set_option maxRecDepth 20000 in
theorem dX1_takeHeights_55 : decode cX1_takeHeights 55 = .ok (.iconst 0, 1) := by decide +kernel
set_option maxRecDepth 20000 in
theorem dX1_takeHeights_56 : decode cX1_takeHeights 56 = .ok (.goto 18, 3) := by decide +kernel
set_option maxRecDepth 20000 in
theorem dX1_takeHeights_59 : decode cX1_takeHeights 59 = .ok (.aload_n 0, 1) := by decide +kernel
set_option maxRecDepth 20000 in
theorem dX1_takeHeights_60 : decode cX1_takeHeights 60 = .ok (.getfield 11, 3) := by decide +kernel
set_option maxRecDepth 20000 in
theorem dX1_takeHeights_63 : decode cX1_takeHeights 63 = .ok (.iload 4, 2) := by decide +kernel
set_option maxRecDepth 20000 in
theorem dX1_takeHeights_65 : decode cX1_takeHeights 65 = .ok (.bipush 13, 2) := by decide +kernel
set_option maxRecDepth 20000 in
theorem dX1_takeHeights_67 : decode cX1_takeHeights 67 = .ok (.imul, 1) := by decide +kernel
set_option maxRecDepth 20000 in
theorem dX1_takeHeights_68 : decode cX1_takeHeights 68 = .ok (.iload_n 1, 1) := by decide +kernel
set_option maxRecDepth 20000 in
theorem dX1_takeHeights_69 : decode cX1_takeHeights 69 = .ok (.iadd, 1) := by decide +kernel
set_option maxRecDepth 20000 in
theorem dX1_takeHeights_70 : decode cX1_takeHeights 70 = .ok (.laload, 1) := by decide +kernel
set_option maxRecDepth 20000 in
theorem dX1_takeHeights_71 : decode cX1_takeHeights 71 = .ok (.lload_n 2, 1) := by decide +kernel
set_option maxRecDepth 20000 in
theorem dX1_takeHeights_72 : decode cX1_takeHeights 72 = .ok (.ldiv, 1) := by decide +kernel
set_option maxRecDepth 20000 in
theorem dX1_takeHeights_73 : decode cX1_takeHeights 73 = .ok (.l2i, 1) := by decide +kernel
set_option maxRecDepth 20000 in
theorem dX1_takeHeights_74 : decode cX1_takeHeights 74 = .ok (.iastore, 1) := by decide +kernel
set_option maxRecDepth 20000 in
theorem dX1_takeHeights_75 : decode cX1_takeHeights 75 = .ok (.iinc 4 1, 3) := by decide +kernel
set_option maxRecDepth 20000 in
theorem dX1_takeHeights_78 : decode cX1_takeHeights 78 = .ok (.goto (-41), 3) := by decide +kernel
set_option maxRecDepth 20000 in
theorem dX1_takeHeights_81 : decode cX1_takeHeights 81 = .ok (.return_, 1) := by decide +kernel
set_option maxRecDepth 20000 in
theorem dX1_takeCurrents_0 : decode cX1_takeCurrents 0 = .ok (.aload_n 1, 1) := by decide +kernel
set_option maxRecDepth 20000 in
theorem dX1_takeCurrents_1 : decode cX1_takeCurrents 1 = .ok (.getfield 66, 3) := by decide +kernel
set_option maxRecDepth 20000 in
theorem dX1_takeCurrents_4 : decode cX1_takeCurrents 4 = .ok (.aload_n 1, 1) := by decide +kernel
set_option maxRecDepth 20000 in
theorem dX1_takeCurrents_5 : decode cX1_takeCurrents 5 = .ok (.getfield 40, 3) := by decide +kernel
set_option maxRecDepth 20000 in
theorem dX1_takeCurrents_8 : decode cX1_takeCurrents 8 = .ok (.iaload, 1) := by decide +kernel
set_option maxRecDepth 20000 in
theorem dX1_takeCurrents_9 : decode cX1_takeCurrents 9 = .ok (.istore_n 2, 1) := by decide +kernel
set_option maxRecDepth 20000 in
theorem dX1_takeCurrents_10 : decode cX1_takeCurrents 10 = .ok (.aload_n 0, 1) := by decide +kernel
set_option maxRecDepth 20000 in
theorem dX1_takeCurrents_11 : decode cX1_takeCurrents 11 = .ok (.iconst 0, 1) := by decide +kernel
set_option maxRecDepth 20000 in
theorem dX1_takeCurrents_12 : decode cX1_takeCurrents 12 = .ok (.putfield 29, 3) := by decide +kernel
set_option maxRecDepth 20000 in
theorem dX1_takeCurrents_15 : decode cX1_takeCurrents 15 = .ok (.iconst 0, 1) := by decide +kernel
set_option maxRecDepth 20000 in
theorem dX1_takeCurrents_16 : decode cX1_takeCurrents 16 = .ok (.istore_n 3, 1) := by decide +kernel
set_option maxRecDepth 20000 in
theorem dX1_takeCurrents_17 : decode cX1_takeCurrents 17 = .ok (.iload_n 3, 1) := by decide +kernel
set_option maxRecDepth 20000 in
theorem dX1_takeCurrents_18 : decode cX1_takeCurrents 18 = .ok (.aload_n 1, 1) := by decide +kernel
set_option maxRecDepth 20000 in
theorem dX1_takeCurrents_19 : decode cX1_takeCurrents 19 = .ok (.getfield 73, 3) := by decide +kernel
set_option maxRecDepth 20000 in
theorem dX1_takeCurrents_22 : decode cX1_takeCurrents 22 = .ok (.if_icmp .ge 103, 3) := by decide +kernel
set_option maxRecDepth 20000 in
theorem dX1_takeCurrents_25 : decode cX1_takeCurrents 25 = .ok (.aload_n 1, 1) := by decide +kernel
set_option maxRecDepth 20000 in
theorem dX1_takeCurrents_26 : decode cX1_takeCurrents 26 = .ok (.getfield 66, 3) := by decide +kernel
set_option maxRecDepth 20000 in
theorem dX1_takeCurrents_29 : decode cX1_takeCurrents 29 = .ok (.iload_n 3, 1) := by decide +kernel
set_option maxRecDepth 20000 in
theorem dX1_takeCurrents_30 : decode cX1_takeCurrents 30 = .ok (.iaload, 1) := by decide +kernel
set_option maxRecDepth 20000 in
theorem dX1_takeCurrents_31 : decode cX1_takeCurrents 31 = .ok (.istore 4, 2) := by decide +kernel
set_option maxRecDepth 20000 in
theorem dX1_takeCurrents_33 : decode cX1_takeCurrents 33 = .ok (.aload_n 1, 1) := by decide +kernel
set_option maxRecDepth 20000 in
theorem dX1_takeCurrents_34 : decode cX1_takeCurrents 34 = .ok (.getfield 79, 3) := by decide +kernel
set_option maxRecDepth 20000 in
theorem dX1_takeCurrents_37 : decode cX1_takeCurrents 37 = .ok (.iload_n 3, 1) := by decide +kernel
set_option maxRecDepth 20000 in
theorem dX1_takeCurrents_38 : decode cX1_takeCurrents 38 = .ok (.iaload, 1) := by decide +kernel
set_option maxRecDepth 20000 in
theorem dX1_takeCurrents_39 : decode cX1_takeCurrents 39 = .ok (.istore 5, 2) := by decide +kernel
set_option maxRecDepth 20000 in
theorem dX1_takeCurrents_41 : decode cX1_takeCurrents 41 = .ok (.aload_n 0, 1) := by decide +kernel
set_option maxRecDepth 20000 in
theorem dX1_takeCurrents_42 : decode cX1_takeCurrents 42 = .ok (.getfield 19, 3) := by decide +kernel
set_option maxRecDepth 20000 in
theorem dX1_takeCurrents_45 : decode cX1_takeCurrents 45 = .ok (.iload_n 3, 1) := by decide +kernel
set_option maxRecDepth 20000 in
theorem dX1_takeCurrents_46 : decode cX1_takeCurrents 46 = .ok (.aload_n 1, 1) := by decide +kernel
set_option maxRecDepth 20000 in
theorem dX1_takeCurrents_47 : decode cX1_takeCurrents 47 = .ok (.iload_n 3, 1) := by decide +kernel
set_option maxRecDepth 20000 in
theorem dX1_takeCurrents_48 : decode cX1_takeCurrents 48 = .ok (.invokevirtual 76, 3) := by decide +kernel
set_option maxRecDepth 20000 in
theorem dX1_takeCurrents_51 : decode cX1_takeCurrents 51 = .ok (.ifCond .eq 21, 3) := by decide +kernel
set_option maxRecDepth 20000 in
theorem dX1_takeCurrents_54 : decode cX1_takeCurrents 54 = .ok (.aload_n 0, 1) := by decide +kernel
set_option maxRecDepth 20000 in
theorem dX1_takeCurrents_55 : decode cX1_takeCurrents 55 = .ok (.getfield 15, 3) := by decide +kernel
set_option maxRecDepth 20000 in
theorem dX1_takeCurrents_58 : decode cX1_takeCurrents 58 = .ok (.iload 4, 2) := by decide +kernel
set_option maxRecDepth 20000 in
theorem dX1_takeCurrents_60 : decode cX1_takeCurrents 60 = .ok (.iaload, 1) := by decide +kernel
set_option maxRecDepth 20000 in
theorem dX1_takeCurrents_61 : decode cX1_takeCurrents 61 = .ok (.aload_n 0, 1) := by decide +kernel
set_option maxRecDepth 20000 in
theorem dX1_takeCurrents_62 : decode cX1_takeCurrents 62 = .ok (.getfield 15, 3) := by decide +kernel
set_option maxRecDepth 20000 in
theorem dX1_takeCurrents_65 : decode cX1_takeCurrents 65 = .ok (.iload 5, 2) := by decide +kernel
set_option maxRecDepth 20000 in
theorem dX1_takeCurrents_67 : decode cX1_takeCurrents 67 = .ok (.iaload, 1) := by decide +kernel
set_option maxRecDepth 20000 in
theorem dX1_takeCurrents_68 : decode cX1_takeCurrents 68 = .ok (.isub, 1) := by decide +kernel
set_option maxRecDepth 20000 in
theorem dX1_takeCurrents_69 : decode cX1_takeCurrents 69 = .ok (.goto 4, 3) := by decide +kernel
set_option maxRecDepth 20000 in
theorem dX1_takeCurrents_72 : decode cX1_takeCurrents 72 = .ok (.iconst 0, 1) := by decide +kernel
set_option maxRecDepth 20000 in
theorem dX1_takeCurrents_73 : decode cX1_takeCurrents 73 = .ok (.iastore, 1) := by decide +kernel
set_option maxRecDepth 20000 in
theorem dX1_takeCurrents_74 : decode cX1_takeCurrents 74 = .ok (.iload 4, 2) := by decide +kernel
set_option maxRecDepth 20000 in
theorem dX1_takeCurrents_76 : decode cX1_takeCurrents 76 = .ok (.iload_n 2, 1) := by decide +kernel
set_option maxRecDepth 20000 in
theorem dX1_takeCurrents_77 : decode cX1_takeCurrents 77 = .ok (.if_icmp .ne 21, 3) := by decide +kernel
set_option maxRecDepth 20000 in
theorem dX1_takeCurrents_80 : decode cX1_takeCurrents 80 = .ok (.aload_n 0, 1) := by decide +kernel
set_option maxRecDepth 20000 in
theorem dX1_takeCurrents_81 : decode cX1_takeCurrents 81 = .ok (.dup, 1) := by decide +kernel
set_option maxRecDepth 20000 in
theorem dX1_takeCurrents_82 : decode cX1_takeCurrents 82 = .ok (.getfield 29, 3) := by decide +kernel
set_option maxRecDepth 20000 in
theorem dX1_takeCurrents_85 : decode cX1_takeCurrents 85 = .ok (.aload_n 0, 1) := by decide +kernel
set_option maxRecDepth 20000 in
theorem dX1_takeCurrents_86 : decode cX1_takeCurrents 86 = .ok (.getfield 19, 3) := by decide +kernel
set_option maxRecDepth 20000 in
theorem dX1_takeCurrents_89 : decode cX1_takeCurrents 89 = .ok (.iload_n 3, 1) := by decide +kernel
set_option maxRecDepth 20000 in
theorem dX1_takeCurrents_90 : decode cX1_takeCurrents 90 = .ok (.iaload, 1) := by decide +kernel
set_option maxRecDepth 20000 in
theorem dX1_takeCurrents_91 : decode cX1_takeCurrents 91 = .ok (.iadd, 1) := by decide +kernel
set_option maxRecDepth 20000 in
theorem dX1_takeCurrents_92 : decode cX1_takeCurrents 92 = .ok (.putfield 29, 3) := by decide +kernel
set_option maxRecDepth 20000 in
theorem dX1_takeCurrents_95 : decode cX1_takeCurrents 95 = .ok (.goto 24, 3) := by decide +kernel
set_option maxRecDepth 20000 in
theorem dX1_takeCurrents_98 : decode cX1_takeCurrents 98 = .ok (.iload 5, 2) := by decide +kernel
set_option maxRecDepth 20000 in
theorem dX1_takeCurrents_100 : decode cX1_takeCurrents 100 = .ok (.iload_n 2, 1) := by decide +kernel
set_option maxRecDepth 20000 in
theorem dX1_takeCurrents_101 : decode cX1_takeCurrents 101 = .ok (.if_icmp .ne 18, 3) := by decide +kernel
set_option maxRecDepth 20000 in
theorem dX1_takeCurrents_104 : decode cX1_takeCurrents 104 = .ok (.aload_n 0, 1) := by decide +kernel
set_option maxRecDepth 20000 in
theorem dX1_takeCurrents_105 : decode cX1_takeCurrents 105 = .ok (.dup, 1) := by decide +kernel
set_option maxRecDepth 20000 in
theorem dX1_takeCurrents_106 : decode cX1_takeCurrents 106 = .ok (.getfield 29, 3) := by decide +kernel
set_option maxRecDepth 20000 in
theorem dX1_takeCurrents_109 : decode cX1_takeCurrents 109 = .ok (.aload_n 0, 1) := by decide +kernel
set_option maxRecDepth 20000 in
theorem dX1_takeCurrents_110 : decode cX1_takeCurrents 110 = .ok (.getfield 19, 3) := by decide +kernel
set_option maxRecDepth 20000 in
theorem dX1_takeCurrents_113 : decode cX1_takeCurrents 113 = .ok (.iload_n 3, 1) := by decide +kernel
set_option maxRecDepth 20000 in
theorem dX1_takeCurrents_114 : decode cX1_takeCurrents 114 = .ok (.iaload, 1) := by decide +kernel
set_option maxRecDepth 20000 in
theorem dX1_takeCurrents_115 : decode cX1_takeCurrents 115 = .ok (.isub, 1) := by decide +kernel
set_option maxRecDepth 20000 in
theorem dX1_takeCurrents_116 : decode cX1_takeCurrents 116 = .ok (.putfield 29, 3) := by decide +kernel
set_option maxRecDepth 20000 in
theorem dX1_takeCurrents_119 : decode cX1_takeCurrents 119 = .ok (.iinc 3 1, 3) := by decide +kernel
set_option maxRecDepth 20000 in
theorem dX1_takeCurrents_122 : decode cX1_takeCurrents 122 = .ok (.goto (-105), 3) := by decide +kernel
set_option maxRecDepth 20000 in
theorem dX1_takeCurrents_125 : decode cX1_takeCurrents 125 = .ok (.return_, 1) := by decide +kernel
set_option maxRecDepth 20000 in
theorem dX1_placeFaces_0 : decode cX1_placeFaces 0 = .ok (.iconst 0, 1) := by decide +kernel
set_option maxRecDepth 20000 in
theorem dX1_placeFaces_1 : decode cX1_placeFaces 1 = .ok (.istore_n 3, 1) := by decide +kernel
set_option maxRecDepth 20000 in
theorem dX1_placeFaces_2 : decode cX1_placeFaces 2 = .ok (.iload_n 3, 1) := by decide +kernel
set_option maxRecDepth 20000 in
theorem dX1_placeFaces_3 : decode cX1_placeFaces 3 = .ok (.aload_n 2, 1) := by decide +kernel
set_option maxRecDepth 20000 in
theorem dX1_placeFaces_4 : decode cX1_placeFaces 4 = .ok (.getfield 94, 3) := by decide +kernel
set_option maxRecDepth 20000 in
theorem dX1_placeFaces_7 : decode cX1_placeFaces 7 = .ok (.if_icmp .ge 16, 3) := by decide +kernel
set_option maxRecDepth 20000 in
theorem dX1_placeFaces_10 : decode cX1_placeFaces 10 = .ok (.aload_n 0, 1) := by decide +kernel
set_option maxRecDepth 20000 in
theorem dX1_placeFaces_11 : decode cX1_placeFaces 11 = .ok (.getfield 25, 3) := by decide +kernel
set_option maxRecDepth 20000 in
theorem dX1_placeFaces_14 : decode cX1_placeFaces 14 = .ok (.iload_n 3, 1) := by decide +kernel
set_option maxRecDepth 20000 in
theorem dX1_placeFaces_15 : decode cX1_placeFaces 15 = .ok (.iconst 0, 1) := by decide +kernel
set_option maxRecDepth 20000 in
theorem dX1_placeFaces_16 : decode cX1_placeFaces 16 = .ok (.bastore, 1) := by decide +kernel
set_option maxRecDepth 20000 in
theorem dX1_placeFaces_17 : decode cX1_placeFaces 17 = .ok (.iinc 3 1, 3) := by decide +kernel
set_option maxRecDepth 20000 in
theorem dX1_placeFaces_20 : decode cX1_placeFaces 20 = .ok (.goto (-18), 3) := by decide +kernel
set_option maxRecDepth 20000 in
theorem dX1_placeFaces_23 : decode cX1_placeFaces 23 = .ok (.aload_n 0, 1) := by decide +kernel
set_option maxRecDepth 20000 in
theorem dX1_placeFaces_24 : decode cX1_placeFaces 24 = .ok (.getfield 22, 3) := by decide +kernel
set_option maxRecDepth 20000 in
theorem dX1_placeFaces_27 : decode cX1_placeFaces 27 = .ok (.aload_n 2, 1) := by decide +kernel
set_option maxRecDepth 20000 in
theorem dX1_placeFaces_28 : decode cX1_placeFaces 28 = .ok (.aload_n 1, 1) := by decide +kernel
set_option maxRecDepth 20000 in
theorem dX1_placeFaces_29 : decode cX1_placeFaces 29 = .ok (.getfield 40, 3) := by decide +kernel
set_option maxRecDepth 20000 in
theorem dX1_placeFaces_32 : decode cX1_placeFaces 32 = .ok (.invokevirtual 99, 3) := by decide +kernel
set_option maxRecDepth 20000 in
theorem dX1_placeFaces_35 : decode cX1_placeFaces 35 = .ok (.iconst 0, 1) := by decide +kernel
set_option maxRecDepth 20000 in
theorem dX1_placeFaces_36 : decode cX1_placeFaces 36 = .ok (.iastore, 1) := by decide +kernel
set_option maxRecDepth 20000 in
theorem dX1_placeFaces_37 : decode cX1_placeFaces 37 = .ok (.aload_n 0, 1) := by decide +kernel
set_option maxRecDepth 20000 in
theorem dX1_placeFaces_38 : decode cX1_placeFaces 38 = .ok (.getfield 25, 3) := by decide +kernel
set_option maxRecDepth 20000 in
theorem dX1_placeFaces_41 : decode cX1_placeFaces 41 = .ok (.aload_n 2, 1) := by decide +kernel
set_option maxRecDepth 20000 in
theorem dX1_placeFaces_42 : decode cX1_placeFaces 42 = .ok (.aload_n 1, 1) := by decide +kernel
set_option maxRecDepth 20000 in
theorem dX1_placeFaces_43 : decode cX1_placeFaces 43 = .ok (.getfield 40, 3) := by decide +kernel
set_option maxRecDepth 20000 in
theorem dX1_placeFaces_46 : decode cX1_placeFaces 46 = .ok (.invokevirtual 99, 3) := by decide +kernel
set_option maxRecDepth 20000 in
theorem dX1_placeFaces_49 : decode cX1_placeFaces 49 = .ok (.iconst 1, 1) := by decide +kernel
set_option maxRecDepth 20000 in
theorem dX1_placeFaces_50 : decode cX1_placeFaces 50 = .ok (.bastore, 1) := by decide +kernel
set_option maxRecDepth 20000 in
theorem dX1_placeFaces_51 : decode cX1_placeFaces 51 = .ok (.iconst 0, 1) := by decide +kernel
set_option maxRecDepth 20000 in
theorem dX1_placeFaces_52 : decode cX1_placeFaces 52 = .ok (.istore_n 3, 1) := by decide +kernel
set_option maxRecDepth 20000 in
theorem dX1_placeFaces_53 : decode cX1_placeFaces 53 = .ok (.iload_n 3, 1) := by decide +kernel
set_option maxRecDepth 20000 in
theorem dX1_placeFaces_54 : decode cX1_placeFaces 54 = .ok (.aload_n 2, 1) := by decide +kernel
set_option maxRecDepth 20000 in
theorem dX1_placeFaces_55 : decode cX1_placeFaces 55 = .ok (.getfield 94, 3) := by decide +kernel
set_option maxRecDepth 20000 in
theorem dX1_placeFaces_58 : decode cX1_placeFaces 58 = .ok (.if_icmp .ge 59, 3) := by decide +kernel
set_option maxRecDepth 20000 in
theorem dX1_placeFaces_61 : decode cX1_placeFaces 61 = .ok (.iconst 0, 1) := by decide +kernel
set_option maxRecDepth 20000 in
theorem dX1_placeFaces_62 : decode cX1_placeFaces 62 = .ok (.istore 4, 2) := by decide +kernel
set_option maxRecDepth 20000 in
theorem dX1_placeFaces_64 : decode cX1_placeFaces 64 = .ok (.iload 4, 2) := by decide +kernel
set_option maxRecDepth 20000 in
theorem dX1_placeFaces_66 : decode cX1_placeFaces 66 = .ok (.aload_n 1, 1) := by decide +kernel
set_option maxRecDepth 20000 in
theorem dX1_placeFaces_67 : decode cX1_placeFaces 67 = .ok (.getfield 73, 3) := by decide +kernel
set_option maxRecDepth 20000 in
theorem dX1_placeFaces_70 : decode cX1_placeFaces 70 = .ok (.if_icmp .ge 41, 3) := by decide +kernel
set_option maxRecDepth 20000 in
theorem dX1_placeFaces_73 : decode cX1_placeFaces 73 = .ok (.iload 4, 2) := by decide +kernel
set_option maxRecDepth 20000 in
theorem dX1_placeFaces_75 : decode cX1_placeFaces 75 = .ok (.aload_n 1, 1) := by decide +kernel
set_option maxRecDepth 20000 in
theorem dX1_placeFaces_76 : decode cX1_placeFaces 76 = .ok (.getfield 40, 3) := by decide +kernel
set_option maxRecDepth 20000 in
theorem dX1_placeFaces_79 : decode cX1_placeFaces 79 = .ok (.if_icmp .eq 26, 3) := by decide +kernel
set_option maxRecDepth 20000 in
theorem dX1_placeFaces_82 : decode cX1_placeFaces 82 = .ok (.aload_n 0, 1) := by decide +kernel
set_option maxRecDepth 20000 in
theorem dX1_placeFaces_83 : decode cX1_placeFaces 83 = .ok (.aload_n 2, 1) := by decide +kernel
set_option maxRecDepth 20000 in
theorem dX1_placeFaces_84 : decode cX1_placeFaces 84 = .ok (.iload 4, 2) := by decide +kernel
set_option maxRecDepth 20000 in
theorem dX1_placeFaces_86 : decode cX1_placeFaces 86 = .ok (.invokevirtual 103, 3) := by decide +kernel
set_option maxRecDepth 20000 in
theorem dX1_placeFaces_89 : decode cX1_placeFaces 89 = .ok (.aload_n 2, 1) := by decide +kernel
set_option maxRecDepth 20000 in
theorem dX1_placeFaces_90 : decode cX1_placeFaces 90 = .ok (.iload 4, 2) := by decide +kernel
set_option maxRecDepth 20000 in
theorem dX1_placeFaces_92 : decode cX1_placeFaces 92 = .ok (.invokevirtual 99, 3) := by decide +kernel
set_option maxRecDepth 20000 in
theorem dX1_placeFaces_95 : decode cX1_placeFaces 95 = .ok (.aload_n 0, 1) := by decide +kernel
set_option maxRecDepth 20000 in
theorem dX1_placeFaces_96 : decode cX1_placeFaces 96 = .ok (.getfield 19, 3) := by decide +kernel
set_option maxRecDepth 20000 in
theorem dX1_placeFaces_99 : decode cX1_placeFaces 99 = .ok (.iload 4, 2) := by decide +kernel
set_option maxRecDepth 20000 in
theorem dX1_placeFaces_101 : decode cX1_placeFaces 101 = .ok (.iaload, 1) := by decide +kernel
set_option maxRecDepth 20000 in
theorem dX1_placeFaces_102 : decode cX1_placeFaces 102 = .ok (.invokevirtual 106, 3) := by decide +kernel
set_option maxRecDepth 20000 in
theorem dX1_placeFaces_105 : decode cX1_placeFaces 105 = .ok (.iinc 4 1, 3) := by decide +kernel
set_option maxRecDepth 20000 in
theorem dX1_placeFaces_108 : decode cX1_placeFaces 108 = .ok (.goto (-44), 3) := by decide +kernel
set_option maxRecDepth 20000 in
theorem dX1_placeFaces_111 : decode cX1_placeFaces 111 = .ok (.iinc 3 1, 3) := by decide +kernel
set_option maxRecDepth 20000 in
theorem dX1_placeFaces_114 : decode cX1_placeFaces 114 = .ok (.goto (-61), 3) := by decide +kernel
set_option maxRecDepth 20000 in
theorem dX1_placeFaces_117 : decode cX1_placeFaces 117 = .ok (.return_, 1) := by decide +kernel
set_option maxRecDepth 20000 in
theorem dX1_placeAcross_0 : decode cX1_placeAcross 0 = .ok (.aload_n 0, 1) := by decide +kernel
set_option maxRecDepth 20000 in
theorem dX1_placeAcross_1 : decode cX1_placeAcross 1 = .ok (.getfield 25, 3) := by decide +kernel
set_option maxRecDepth 20000 in
theorem dX1_placeAcross_4 : decode cX1_placeAcross 4 = .ok (.iload_n 1, 1) := by decide +kernel
set_option maxRecDepth 20000 in
theorem dX1_placeAcross_5 : decode cX1_placeAcross 5 = .ok (.baload, 1) := by decide +kernel
set_option maxRecDepth 20000 in
theorem dX1_placeAcross_6 : decode cX1_placeAcross 6 = .ok (.ifCond .eq 36, 3) := by decide +kernel
set_option maxRecDepth 20000 in
theorem dX1_placeAcross_9 : decode cX1_placeAcross 9 = .ok (.aload_n 0, 1) := by decide +kernel
set_option maxRecDepth 20000 in
theorem dX1_placeAcross_10 : decode cX1_placeAcross 10 = .ok (.getfield 25, 3) := by decide +kernel
set_option maxRecDepth 20000 in
theorem dX1_placeAcross_13 : decode cX1_placeAcross 13 = .ok (.iload_n 2, 1) := by decide +kernel
set_option maxRecDepth 20000 in
theorem dX1_placeAcross_14 : decode cX1_placeAcross 14 = .ok (.baload, 1) := by decide +kernel
set_option maxRecDepth 20000 in
theorem dX1_placeAcross_15 : decode cX1_placeAcross 15 = .ok (.ifCond .ne 27, 3) := by decide +kernel
set_option maxRecDepth 20000 in
theorem dX1_placeAcross_18 : decode cX1_placeAcross 18 = .ok (.aload_n 0, 1) := by decide +kernel
set_option maxRecDepth 20000 in
theorem dX1_placeAcross_19 : decode cX1_placeAcross 19 = .ok (.getfield 22, 3) := by decide +kernel
set_option maxRecDepth 20000 in
theorem dX1_placeAcross_22 : decode cX1_placeAcross 22 = .ok (.iload_n 2, 1) := by decide +kernel
set_option maxRecDepth 20000 in
theorem dX1_placeAcross_23 : decode cX1_placeAcross 23 = .ok (.aload_n 0, 1) := by decide +kernel
set_option maxRecDepth 20000 in
theorem dX1_placeAcross_24 : decode cX1_placeAcross 24 = .ok (.getfield 22, 3) := by decide +kernel
set_option maxRecDepth 20000 in
theorem dX1_placeAcross_27 : decode cX1_placeAcross 27 = .ok (.iload_n 1, 1) := by decide +kernel
set_option maxRecDepth 20000 in
theorem dX1_placeAcross_28 : decode cX1_placeAcross 28 = .ok (.iaload, 1) := by decide +kernel
set_option maxRecDepth 20000 in
theorem dX1_placeAcross_29 : decode cX1_placeAcross 29 = .ok (.iload_n 3, 1) := by decide +kernel
set_option maxRecDepth 20000 in
theorem dX1_placeAcross_30 : decode cX1_placeAcross 30 = .ok (.iadd, 1) := by decide +kernel
set_option maxRecDepth 20000 in
theorem dX1_placeAcross_31 : decode cX1_placeAcross 31 = .ok (.iastore, 1) := by decide +kernel
set_option maxRecDepth 20000 in
theorem dX1_placeAcross_32 : decode cX1_placeAcross 32 = .ok (.aload_n 0, 1) := by decide +kernel
set_option maxRecDepth 20000 in
theorem dX1_placeAcross_33 : decode cX1_placeAcross 33 = .ok (.getfield 25, 3) := by decide +kernel
set_option maxRecDepth 20000 in
theorem dX1_placeAcross_36 : decode cX1_placeAcross 36 = .ok (.iload_n 2, 1) := by decide +kernel
set_option maxRecDepth 20000 in
theorem dX1_placeAcross_37 : decode cX1_placeAcross 37 = .ok (.iconst 1, 1) := by decide +kernel
set_option maxRecDepth 20000 in
theorem dX1_placeAcross_38 : decode cX1_placeAcross 38 = .ok (.bastore, 1) := by decide +kernel
set_option maxRecDepth 20000 in
theorem dX1_placeAcross_39 : decode cX1_placeAcross 39 = .ok (.goto 42, 3) := by decide +kernel
set_option maxRecDepth 20000 in
theorem dX1_placeAcross_42 : decode cX1_placeAcross 42 = .ok (.aload_n 0, 1) := by decide +kernel
set_option maxRecDepth 20000 in
theorem dX1_placeAcross_43 : decode cX1_placeAcross 43 = .ok (.getfield 25, 3) := by decide +kernel
set_option maxRecDepth 20000 in
theorem dX1_placeAcross_46 : decode cX1_placeAcross 46 = .ok (.iload_n 2, 1) := by decide +kernel
set_option maxRecDepth 20000 in
theorem dX1_placeAcross_47 : decode cX1_placeAcross 47 = .ok (.baload, 1) := by decide +kernel
set_option maxRecDepth 20000 in
theorem dX1_placeAcross_48 : decode cX1_placeAcross 48 = .ok (.ifCond .eq 33, 3) := by decide +kernel
set_option maxRecDepth 20000 in
theorem dX1_placeAcross_51 : decode cX1_placeAcross 51 = .ok (.aload_n 0, 1) := by decide +kernel
set_option maxRecDepth 20000 in
theorem dX1_placeAcross_52 : decode cX1_placeAcross 52 = .ok (.getfield 25, 3) := by decide +kernel
set_option maxRecDepth 20000 in
theorem dX1_placeAcross_55 : decode cX1_placeAcross 55 = .ok (.iload_n 1, 1) := by decide +kernel
set_option maxRecDepth 20000 in
theorem dX1_placeAcross_56 : decode cX1_placeAcross 56 = .ok (.baload, 1) := by decide +kernel
set_option maxRecDepth 20000 in
theorem dX1_placeAcross_57 : decode cX1_placeAcross 57 = .ok (.ifCond .ne 24, 3) := by decide +kernel
set_option maxRecDepth 20000 in
theorem dX1_placeAcross_60 : decode cX1_placeAcross 60 = .ok (.aload_n 0, 1) := by decide +kernel
set_option maxRecDepth 20000 in
theorem dX1_placeAcross_61 : decode cX1_placeAcross 61 = .ok (.getfield 22, 3) := by decide +kernel
set_option maxRecDepth 20000 in
theorem dX1_placeAcross_64 : decode cX1_placeAcross 64 = .ok (.iload_n 1, 1) := by decide +kernel
set_option maxRecDepth 20000 in
theorem dX1_placeAcross_65 : decode cX1_placeAcross 65 = .ok (.aload_n 0, 1) := by decide +kernel
set_option maxRecDepth 20000 in
theorem dX1_placeAcross_66 : decode cX1_placeAcross 66 = .ok (.getfield 22, 3) := by decide +kernel
set_option maxRecDepth 20000 in
theorem dX1_placeAcross_69 : decode cX1_placeAcross 69 = .ok (.iload_n 2, 1) := by decide +kernel
set_option maxRecDepth 20000 in
theorem dX1_placeAcross_70 : decode cX1_placeAcross 70 = .ok (.iaload, 1) := by decide +kernel
set_option maxRecDepth 20000 in
theorem dX1_placeAcross_71 : decode cX1_placeAcross 71 = .ok (.iload_n 3, 1) := by decide +kernel
set_option maxRecDepth 20000 in
theorem dX1_placeAcross_72 : decode cX1_placeAcross 72 = .ok (.isub, 1) := by decide +kernel
set_option maxRecDepth 20000 in
theorem dX1_placeAcross_73 : decode cX1_placeAcross 73 = .ok (.iastore, 1) := by decide +kernel
set_option maxRecDepth 20000 in
theorem dX1_placeAcross_74 : decode cX1_placeAcross 74 = .ok (.aload_n 0, 1) := by decide +kernel
set_option maxRecDepth 20000 in
theorem dX1_placeAcross_75 : decode cX1_placeAcross 75 = .ok (.getfield 25, 3) := by decide +kernel
set_option maxRecDepth 20000 in
theorem dX1_placeAcross_78 : decode cX1_placeAcross 78 = .ok (.iload_n 1, 1) := by decide +kernel
set_option maxRecDepth 20000 in
theorem dX1_placeAcross_79 : decode cX1_placeAcross 79 = .ok (.iconst 1, 1) := by decide +kernel
set_option maxRecDepth 20000 in
theorem dX1_placeAcross_80 : decode cX1_placeAcross 80 = .ok (.bastore, 1) := by decide +kernel
set_option maxRecDepth 20000 in
theorem dX1_placeAcross_81 : decode cX1_placeAcross 81 = .ok (.return_, 1) := by decide +kernel
set_option maxRecDepth 20000 in
theorem dX1_commonDivisor_0 : decode cX1_commonDivisor 0 = .ok (.lload_n 0, 1) := by decide +kernel
set_option maxRecDepth 20000 in
theorem dX1_commonDivisor_1 : decode cX1_commonDivisor 1 = .ok (.invokestatic 110, 3) := by decide +kernel
set_option maxRecDepth 20000 in
theorem dX1_commonDivisor_4 : decode cX1_commonDivisor 4 = .ok (.lstore 4, 2) := by decide +kernel
set_option maxRecDepth 20000 in
theorem dX1_commonDivisor_6 : decode cX1_commonDivisor 6 = .ok (.lload_n 2, 1) := by decide +kernel
set_option maxRecDepth 20000 in
theorem dX1_commonDivisor_7 : decode cX1_commonDivisor 7 = .ok (.invokestatic 110, 3) := by decide +kernel
set_option maxRecDepth 20000 in
theorem dX1_commonDivisor_10 : decode cX1_commonDivisor 10 = .ok (.lstore 6, 2) := by decide +kernel
set_option maxRecDepth 20000 in
theorem dX1_commonDivisor_12 : decode cX1_commonDivisor 12 = .ok (.iconst 0, 1) := by decide +kernel
set_option maxRecDepth 20000 in
theorem dX1_commonDivisor_13 : decode cX1_commonDivisor 13 = .ok (.istore 8, 2) := by decide +kernel
set_option maxRecDepth 20000 in
theorem dX1_commonDivisor_15 : decode cX1_commonDivisor 15 = .ok (.iload 8, 2) := by decide +kernel
set_option maxRecDepth 20000 in
theorem dX1_commonDivisor_17 : decode cX1_commonDivisor 17 = .ok (.bipush 100, 2) := by decide +kernel
set_option maxRecDepth 20000 in
theorem dX1_commonDivisor_19 : decode cX1_commonDivisor 19 = .ok (.if_icmp .ge 31, 3) := by decide +kernel
set_option maxRecDepth 20000 in
theorem dX1_commonDivisor_22 : decode cX1_commonDivisor 22 = .ok (.lload 6, 2) := by decide +kernel
set_option maxRecDepth 20000 in
theorem dX1_commonDivisor_24 : decode cX1_commonDivisor 24 = .ok (.lconst 0, 1) := by decide +kernel
set_option maxRecDepth 20000 in
theorem dX1_commonDivisor_25 : decode cX1_commonDivisor 25 = .ok (.lcmp, 1) := by decide +kernel
set_option maxRecDepth 20000 in
theorem dX1_commonDivisor_26 : decode cX1_commonDivisor 26 = .ok (.ifCond .eq 24, 3) := by decide +kernel
set_option maxRecDepth 20000 in
theorem dX1_commonDivisor_29 : decode cX1_commonDivisor 29 = .ok (.lload 4, 2) := by decide +kernel
set_option maxRecDepth 20000 in
theorem dX1_commonDivisor_31 : decode cX1_commonDivisor 31 = .ok (.lload 6, 2) := by decide +kernel
set_option maxRecDepth 20000 in
theorem dX1_commonDivisor_33 : decode cX1_commonDivisor 33 = .ok (.lrem, 1) := by decide +kernel
set_option maxRecDepth 20000 in
theorem dX1_commonDivisor_34 : decode cX1_commonDivisor 34 = .ok (.lstore 9, 2) := by decide +kernel
set_option maxRecDepth 20000 in
theorem dX1_commonDivisor_36 : decode cX1_commonDivisor 36 = .ok (.lload 6, 2) := by decide +kernel
set_option maxRecDepth 20000 in
theorem dX1_commonDivisor_38 : decode cX1_commonDivisor 38 = .ok (.lstore 4, 2) := by decide +kernel
set_option maxRecDepth 20000 in
theorem dX1_commonDivisor_40 : decode cX1_commonDivisor 40 = .ok (.lload 9, 2) := by decide +kernel
set_option maxRecDepth 20000 in
theorem dX1_commonDivisor_42 : decode cX1_commonDivisor 42 = .ok (.lstore 6, 2) := by decide +kernel
set_option maxRecDepth 20000 in
theorem dX1_commonDivisor_44 : decode cX1_commonDivisor 44 = .ok (.iinc 8 1, 3) := by decide +kernel
set_option maxRecDepth 20000 in
theorem dX1_commonDivisor_47 : decode cX1_commonDivisor 47 = .ok (.goto (-32), 3) := by decide +kernel
set_option maxRecDepth 20000 in
theorem dX1_commonDivisor_50 : decode cX1_commonDivisor 50 = .ok (.lload 4, 2) := by decide +kernel
set_option maxRecDepth 20000 in
theorem dX1_commonDivisor_52 : decode cX1_commonDivisor 52 = .ok (.lreturn, 1) := by decide +kernel
