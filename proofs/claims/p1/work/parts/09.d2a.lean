set_option maxRecDepth 20000 in
theorem dX2_init_0 : decode cX2_init 0 = .ok (.aload_n 0, 1) := by decide +kernel
set_option maxRecDepth 20000 in
theorem dX2_init_1 : decode cX2_init 1 = .ok (.invokespecial 3, 3) := by decide +kernel
set_option maxRecDepth 20000 in
theorem dX2_init_4 : decode cX2_init 4 = .ok (.aload_n 0, 1) := by decide +kernel
set_option maxRecDepth 20000 in
theorem dX2_init_5 : decode cX2_init 5 = .ok (.new 9, 3) := by decide +kernel
set_option maxRecDepth 20000 in
theorem dX2_init_8 : decode cX2_init 8 = .ok (.dup, 1) := by decide +kernel
set_option maxRecDepth 20000 in
theorem dX2_init_9 : decode cX2_init 9 = .ok (.invokespecial 11, 3) := by decide +kernel
set_option maxRecDepth 20000 in
theorem dX2_init_12 : decode cX2_init 12 = .ok (.putfield 12, 3) := by decide +kernel
set_option maxRecDepth 20000 in
theorem dX2_init_15 : decode cX2_init 15 = .ok (.aload_n 0, 1) := by decide +kernel
set_option maxRecDepth 20000 in
theorem dX2_init_16 : decode cX2_init 16 = .ok (.bipush 21, 2) := by decide +kernel
set_option maxRecDepth 20000 in
theorem dX2_init_18 : decode cX2_init 18 = .ok (.newarray .int, 2) := by decide +kernel
set_option maxRecDepth 20000 in
theorem dX2_init_20 : decode cX2_init 20 = .ok (.putfield 18, 3) := by decide +kernel
set_option maxRecDepth 20000 in
theorem dX2_init_23 : decode cX2_init 23 = .ok (.aload_n 0, 1) := by decide +kernel
set_option maxRecDepth 20000 in
theorem dX2_init_24 : decode cX2_init 24 = .ok (.iconst 0, 1) := by decide +kernel
set_option maxRecDepth 20000 in
theorem dX2_init_25 : decode cX2_init 25 = .ok (.putfield 22, 3) := by decide +kernel
set_option maxRecDepth 20000 in
theorem dX2_init_28 : decode cX2_init 28 = .ok (.aload_n 0, 1) := by decide +kernel
set_option maxRecDepth 20000 in
theorem dX2_init_29 : decode cX2_init 29 = .ok (.iconst 0, 1) := by decide +kernel
set_option maxRecDepth 20000 in
theorem dX2_init_30 : decode cX2_init 30 = .ok (.putfield 26, 3) := by decide +kernel
set_option maxRecDepth 20000 in
theorem dX2_init_33 : decode cX2_init 33 = .ok (.aload_n 0, 1) := by decide +kernel
set_option maxRecDepth 20000 in
theorem dX2_init_34 : decode cX2_init 34 = .ok (.iconst 0, 1) := by decide +kernel
set_option maxRecDepth 20000 in
theorem dX2_init_35 : decode cX2_init 35 = .ok (.putfield 30, 3) := by decide +kernel
set_option maxRecDepth 20000 in
theorem dX2_init_38 : decode cX2_init 38 = .ok (.aload_n 0, 1) := by decide +kernel
set_option maxRecDepth 20000 in
theorem dX2_init_39 : decode cX2_init 39 = .ok (.iconst 0, 1) := by decide +kernel
set_option maxRecDepth 20000 in
theorem dX2_init_40 : decode cX2_init 40 = .ok (.putfield 33, 3) := by decide +kernel
set_option maxRecDepth 20000 in
theorem dX2_init_43 : decode cX2_init 43 = .ok (.aload_n 0, 1) := by decide +kernel
set_option maxRecDepth 20000 in
theorem dX2_init_44 : decode cX2_init 44 = .ok (.iconst 0, 1) := by decide +kernel
set_option maxRecDepth 20000 in
theorem dX2_init_45 : decode cX2_init 45 = .ok (.putfield 36, 3) := by decide +kernel
set_option maxRecDepth 20000 in
theorem dX2_init_48 : decode cX2_init 48 = .ok (.aload_n 0, 1) := by decide +kernel
set_option maxRecDepth 20000 in
theorem dX2_init_49 : decode cX2_init 49 = .ok (.iconst 0, 1) := by decide +kernel
set_option maxRecDepth 20000 in
theorem dX2_init_50 : decode cX2_init 50 = .ok (.putfield 39, 3) := by decide +kernel
set_option maxRecDepth 20000 in
theorem dX2_init_53 : decode cX2_init 53 = .ok (.return_, 1) := by decide +kernel
set_option maxRecDepth 20000 in
theorem dX2_build_0 : decode cX2_build 0 = .ok (.aload_n 0, 1) := by decide +kernel
set_option maxRecDepth 20000 in
theorem dX2_build_1 : decode cX2_build 1 = .ok (.getfield 12, 3) := by decide +kernel
set_option maxRecDepth 20000 in
theorem dX2_build_4 : decode cX2_build 4 = .ok (.iconst 0, 1) := by decide +kernel
set_option maxRecDepth 20000 in
theorem dX2_build_5 : decode cX2_build 5 = .ok (.putfield 42, 3) := by decide +kernel
set_option maxRecDepth 20000 in
theorem dX2_build_8 : decode cX2_build 8 = .ok (.aload_n 0, 1) := by decide +kernel
set_option maxRecDepth 20000 in
theorem dX2_build_9 : decode cX2_build 9 = .ok (.iconst 0, 1) := by decide +kernel
set_option maxRecDepth 20000 in
theorem dX2_build_10 : decode cX2_build 10 = .ok (.putfield 22, 3) := by decide +kernel
set_option maxRecDepth 20000 in
theorem dX2_build_13 : decode cX2_build 13 = .ok (.iconst 0, 1) := by decide +kernel
set_option maxRecDepth 20000 in
theorem dX2_build_14 : decode cX2_build 14 = .ok (.istore 4, 2) := by decide +kernel
set_option maxRecDepth 20000 in
theorem dX2_build_16 : decode cX2_build 16 = .ok (.iload 4, 2) := by decide +kernel
set_option maxRecDepth 20000 in
theorem dX2_build_18 : decode cX2_build 18 = .ok (.aload_n 1, 1) := by decide +kernel
set_option maxRecDepth 20000 in
theorem dX2_build_19 : decode cX2_build 19 = .ok (.getfield 45, 3) := by decide +kernel
set_option maxRecDepth 20000 in
theorem dX2_build_22 : decode cX2_build 22 = .ok (.if_icmp .ge 140, 3) := by decide +kernel
set_option maxRecDepth 20000 in
theorem dX2_build_25 : decode cX2_build 25 = .ok (.aload_n 1, 1) := by decide +kernel
set_option maxRecDepth 20000 in
theorem dX2_build_26 : decode cX2_build 26 = .ok (.iload 4, 2) := by decide +kernel
set_option maxRecDepth 20000 in
theorem dX2_build_28 : decode cX2_build 28 = .ok (.invokevirtual 50, 3) := by decide +kernel
set_option maxRecDepth 20000 in
theorem dX2_build_31 : decode cX2_build 31 = .ok (.ifCond .eq 21, 3) := by decide +kernel
set_option maxRecDepth 20000 in
theorem dX2_build_34 : decode cX2_build 34 = .ok (.aload_n 3, 1) := by decide +kernel
set_option maxRecDepth 20000 in
theorem dX2_build_35 : decode cX2_build 35 = .ok (.getfield 54, 3) := by decide +kernel
set_option maxRecDepth 20000 in
theorem dX2_build_38 : decode cX2_build 38 = .ok (.iload 4, 2) := by decide +kernel
set_option maxRecDepth 20000 in
theorem dX2_build_40 : decode cX2_build 40 = .ok (.iaload, 1) := by decide +kernel
set_option maxRecDepth 20000 in
theorem dX2_build_41 : decode cX2_build 41 = .ok (.ifCond .ne 11, 3) := by decide +kernel
set_option maxRecDepth 20000 in
theorem dX2_build_44 : decode cX2_build 44 = .ok (.aload_n 0, 1) := by decide +kernel
set_option maxRecDepth 20000 in
theorem dX2_build_45 : decode cX2_build 45 = .ok (.iconst 1, 1) := by decide +kernel
set_option maxRecDepth 20000 in
theorem dX2_build_46 : decode cX2_build 46 = .ok (.putfield 22, 3) := by decide +kernel
set_option maxRecDepth 20000 in
theorem dX2_build_49 : decode cX2_build 49 = .ok (.goto 107, 3) := by decide +kernel
set_option maxRecDepth 20000 in
theorem dX2_build_52 : decode cX2_build 52 = .ok (.aload_n 1, 1) := by decide +kernel
set_option maxRecDepth 20000 in
theorem dX2_build_53 : decode cX2_build 53 = .ok (.iload 4, 2) := by decide +kernel
set_option maxRecDepth 20000 in
theorem dX2_build_55 : decode cX2_build 55 = .ok (.invokevirtual 50, 3) := by decide +kernel
set_option maxRecDepth 20000 in
theorem dX2_build_58 : decode cX2_build 58 = .ok (.ifCond .eq 98, 3) := by decide +kernel
set_option maxRecDepth 20000 in
theorem dX2_build_61 : decode cX2_build 61 = .ok (.aload_n 0, 1) := by decide +kernel
set_option maxRecDepth 20000 in
theorem dX2_build_62 : decode cX2_build 62 = .ok (.getfield 12, 3) := by decide +kernel
set_option maxRecDepth 20000 in
theorem dX2_build_65 : decode cX2_build 65 = .ok (.getfield 42, 3) := by decide +kernel
set_option maxRecDepth 20000 in
theorem dX2_build_68 : decode cX2_build 68 = .ok (.bipush 21, 2) := by decide +kernel
set_option maxRecDepth 20000 in
theorem dX2_build_70 : decode cX2_build 70 = .ok (.if_icmp .ge 86, 3) := by decide +kernel
set_option maxRecDepth 20000 in
theorem dX2_build_73 : decode cX2_build 73 = .ok (.aload_n 0, 1) := by decide +kernel
set_option maxRecDepth 20000 in
theorem dX2_build_74 : decode cX2_build 74 = .ok (.getfield 18, 3) := by decide +kernel
set_option maxRecDepth 20000 in
theorem dX2_build_77 : decode cX2_build 77 = .ok (.aload_n 0, 1) := by decide +kernel
set_option maxRecDepth 20000 in
theorem dX2_build_78 : decode cX2_build 78 = .ok (.getfield 12, 3) := by decide +kernel
set_option maxRecDepth 20000 in
theorem dX2_build_81 : decode cX2_build 81 = .ok (.getfield 42, 3) := by decide +kernel
set_option maxRecDepth 20000 in
theorem dX2_build_84 : decode cX2_build 84 = .ok (.iload 4, 2) := by decide +kernel
set_option maxRecDepth 20000 in
theorem dX2_build_86 : decode cX2_build 86 = .ok (.iastore, 1) := by decide +kernel
set_option maxRecDepth 20000 in
theorem dX2_build_87 : decode cX2_build 87 = .ok (.aload_n 0, 1) := by decide +kernel
set_option maxRecDepth 20000 in
theorem dX2_build_88 : decode cX2_build 88 = .ok (.getfield 12, 3) := by decide +kernel
set_option maxRecDepth 20000 in
theorem dX2_build_91 : decode cX2_build 91 = .ok (.aload_n 3, 1) := by decide +kernel
set_option maxRecDepth 20000 in
theorem dX2_build_92 : decode cX2_build 92 = .ok (.getfield 59, 3) := by decide +kernel
set_option maxRecDepth 20000 in
theorem dX2_build_95 : decode cX2_build 95 = .ok (.aload_n 2, 1) := by decide +kernel
set_option maxRecDepth 20000 in
theorem dX2_build_96 : decode cX2_build 96 = .ok (.iload 4, 2) := by decide +kernel
set_option maxRecDepth 20000 in
theorem dX2_build_98 : decode cX2_build 98 = .ok (.invokevirtual 62, 3) := by decide +kernel
set_option maxRecDepth 20000 in
theorem dX2_build_101 : decode cX2_build 101 = .ok (.iaload, 1) := by decide +kernel
set_option maxRecDepth 20000 in
theorem dX2_build_102 : decode cX2_build 102 = .ok (.aload_n 3, 1) := by decide +kernel
set_option maxRecDepth 20000 in
theorem dX2_build_103 : decode cX2_build 103 = .ok (.getfield 59, 3) := by decide +kernel
set_option maxRecDepth 20000 in
theorem dX2_build_106 : decode cX2_build 106 = .ok (.aload_n 2, 1) := by decide +kernel
set_option maxRecDepth 20000 in
theorem dX2_build_107 : decode cX2_build 107 = .ok (.iload 4, 2) := by decide +kernel
set_option maxRecDepth 20000 in
theorem dX2_build_109 : decode cX2_build 109 = .ok (.invokevirtual 68, 3) := by decide +kernel
set_option maxRecDepth 20000 in
theorem dX2_build_112 : decode cX2_build 112 = .ok (.iaload, 1) := by decide +kernel
set_option maxRecDepth 20000 in
theorem dX2_build_113 : decode cX2_build 113 = .ok (.invokestatic 71, 3) := by decide +kernel
set_option maxRecDepth 20000 in
theorem dX2_build_116 : decode cX2_build 116 = .ok (.aload_n 3, 1) := by decide +kernel
set_option maxRecDepth 20000 in
theorem dX2_build_117 : decode cX2_build 117 = .ok (.getfield 77, 3) := by decide +kernel
set_option maxRecDepth 20000 in
theorem dX2_build_120 : decode cX2_build 120 = .ok (.aload_n 1, 1) := by decide +kernel
set_option maxRecDepth 20000 in
theorem dX2_build_121 : decode cX2_build 121 = .ok (.getfield 80, 3) := by decide +kernel
set_option maxRecDepth 20000 in
theorem dX2_build_124 : decode cX2_build 124 = .ok (.iload 4, 2) := by decide +kernel
set_option maxRecDepth 20000 in
theorem dX2_build_126 : decode cX2_build 126 = .ok (.iaload, 1) := by decide +kernel
set_option maxRecDepth 20000 in
theorem dX2_build_127 : decode cX2_build 127 = .ok (.iaload, 1) := by decide +kernel
set_option maxRecDepth 20000 in
theorem dX2_build_128 : decode cX2_build 128 = .ok (.aload_n 3, 1) := by decide +kernel
set_option maxRecDepth 20000 in
theorem dX2_build_129 : decode cX2_build 129 = .ok (.getfield 77, 3) := by decide +kernel
set_option maxRecDepth 20000 in
theorem dX2_build_132 : decode cX2_build 132 = .ok (.aload_n 1, 1) := by decide +kernel
set_option maxRecDepth 20000 in
theorem dX2_build_133 : decode cX2_build 133 = .ok (.getfield 83, 3) := by decide +kernel
set_option maxRecDepth 20000 in
theorem dX2_build_136 : decode cX2_build 136 = .ok (.iload 4, 2) := by decide +kernel
set_option maxRecDepth 20000 in
theorem dX2_build_138 : decode cX2_build 138 = .ok (.iaload, 1) := by decide +kernel
set_option maxRecDepth 20000 in
theorem dX2_build_139 : decode cX2_build 139 = .ok (.iaload, 1) := by decide +kernel
set_option maxRecDepth 20000 in
theorem dX2_build_140 : decode cX2_build 140 = .ok (.invokestatic 71, 3) := by decide +kernel
set_option maxRecDepth 20000 in
theorem dX2_build_143 : decode cX2_build 143 = .ok (.aload_n 3, 1) := by decide +kernel
set_option maxRecDepth 20000 in
theorem dX2_build_144 : decode cX2_build 144 = .ok (.getfield 54, 3) := by decide +kernel
set_option maxRecDepth 20000 in
theorem dX2_build_147 : decode cX2_build 147 = .ok (.iload 4, 2) := by decide +kernel
set_option maxRecDepth 20000 in
theorem dX2_build_149 : decode cX2_build 149 = .ok (.iaload, 1) := by decide +kernel
set_option maxRecDepth 20000 in
theorem dX2_build_150 : decode cX2_build 150 = .ok (.invokestatic 86, 3) := by decide +kernel
set_option maxRecDepth 20000 in
theorem dX2_build_153 : decode cX2_build 153 = .ok (.invokevirtual 89, 3) := by decide +kernel
set_option maxRecDepth 20000 in
theorem dX2_build_156 : decode cX2_build 156 = .ok (.iinc 4 1, 3) := by decide +kernel
set_option maxRecDepth 20000 in
theorem dX2_build_159 : decode cX2_build 159 = .ok (.goto (-143), 3) := by decide +kernel
set_option maxRecDepth 20000 in
theorem dX2_build_162 : decode cX2_build 162 = .ok (.return_, 1) := by decide +kernel
set_option maxRecDepth 20000 in
theorem dX2_squareOfWire_0 : decode cX2_squareOfWire 0 = .ok (.iconst 0, 1) := by decide +kernel
set_option maxRecDepth 20000 in
theorem dX2_squareOfWire_1 : decode cX2_squareOfWire 1 = .ok (.istore_n 2, 1) := by decide +kernel
set_option maxRecDepth 20000 in
theorem dX2_squareOfWire_2 : decode cX2_squareOfWire 2 = .ok (.iload_n 2, 1) := by decide +kernel
set_option maxRecDepth 20000 in
theorem dX2_squareOfWire_3 : decode cX2_squareOfWire 3 = .ok (.aload_n 0, 1) := by decide +kernel
set_option maxRecDepth 20000 in
theorem dX2_squareOfWire_4 : decode cX2_squareOfWire 4 = .ok (.getfield 12, 3) := by decide +kernel
set_option maxRecDepth 20000 in
theorem dX2_squareOfWire_7 : decode cX2_squareOfWire 7 = .ok (.getfield 42, 3) := by decide +kernel
set_option maxRecDepth 20000 in
theorem dX2_squareOfWire_10 : decode cX2_squareOfWire 10 = .ok (.if_icmp .ge 21, 3) := by decide +kernel
set_option maxRecDepth 20000 in
theorem dX2_squareOfWire_13 : decode cX2_squareOfWire 13 = .ok (.aload_n 0, 1) := by decide +kernel
set_option maxRecDepth 20000 in
theorem dX2_squareOfWire_14 : decode cX2_squareOfWire 14 = .ok (.getfield 18, 3) := by decide +kernel
set_option maxRecDepth 20000 in
theorem dX2_squareOfWire_17 : decode cX2_squareOfWire 17 = .ok (.iload_n 2, 1) := by decide +kernel
set_option maxRecDepth 20000 in
theorem dX2_squareOfWire_18 : decode cX2_squareOfWire 18 = .ok (.iaload, 1) := by decide +kernel
set_option maxRecDepth 20000 in
theorem dX2_squareOfWire_19 : decode cX2_squareOfWire 19 = .ok (.iload_n 1, 1) := by decide +kernel
set_option maxRecDepth 20000 in
theorem dX2_squareOfWire_20 : decode cX2_squareOfWire 20 = .ok (.if_icmp .ne 5, 3) := by decide +kernel
set_option maxRecDepth 20000 in
theorem dX2_squareOfWire_23 : decode cX2_squareOfWire 23 = .ok (.iload_n 2, 1) := by decide +kernel
set_option maxRecDepth 20000 in
theorem dX2_squareOfWire_24 : decode cX2_squareOfWire 24 = .ok (.ireturn, 1) := by decide +kernel
set_option maxRecDepth 20000 in
theorem dX2_squareOfWire_25 : decode cX2_squareOfWire 25 = .ok (.iinc 2 1, 3) := by decide +kernel
set_option maxRecDepth 20000 in
theorem dX2_squareOfWire_28 : decode cX2_squareOfWire 28 = .ok (.goto (-26), 3) := by decide +kernel
set_option maxRecDepth 20000 in
theorem dX2_squareOfWire_31 : decode cX2_squareOfWire 31 = .ok (.iconst (-1), 1) := by decide +kernel
set_option maxRecDepth 20000 in
theorem dX2_squareOfWire_32 : decode cX2_squareOfWire 32 = .ok (.ireturn, 1) := by decide +kernel
set_option maxRecDepth 20000 in
theorem dX2_wireOnUnit_0 : decode cX2_wireOnUnit 0 = .ok (.iconst 0, 1) := by decide +kernel
set_option maxRecDepth 20000 in
theorem dX2_wireOnUnit_1 : decode cX2_wireOnUnit 1 = .ok (.istore_n 3, 1) := by decide +kernel
set_option maxRecDepth 20000 in
theorem dX2_wireOnUnit_2 : decode cX2_wireOnUnit 2 = .ok (.iload_n 3, 1) := by decide +kernel
set_option maxRecDepth 20000 in
theorem dX2_wireOnUnit_3 : decode cX2_wireOnUnit 3 = .ok (.aload_n 0, 1) := by decide +kernel
set_option maxRecDepth 20000 in
theorem dX2_wireOnUnit_4 : decode cX2_wireOnUnit 4 = .ok (.getfield 12, 3) := by decide +kernel
set_option maxRecDepth 20000 in
theorem dX2_wireOnUnit_7 : decode cX2_wireOnUnit 7 = .ok (.getfield 42, 3) := by decide +kernel
set_option maxRecDepth 20000 in
theorem dX2_wireOnUnit_10 : decode cX2_wireOnUnit 10 = .ok (.if_icmp .ge 29, 3) := by decide +kernel
set_option maxRecDepth 20000 in
theorem dX2_wireOnUnit_13 : decode cX2_wireOnUnit 13 = .ok (.aload_n 0, 1) := by decide +kernel
set_option maxRecDepth 20000 in
theorem dX2_wireOnUnit_14 : decode cX2_wireOnUnit 14 = .ok (.getfield 12, 3) := by decide +kernel
set_option maxRecDepth 20000 in
theorem dX2_wireOnUnit_17 : decode cX2_wireOnUnit 17 = .ok (.iload_n 3, 1) := by decide +kernel
set_option maxRecDepth 20000 in
theorem dX2_wireOnUnit_18 : decode cX2_wireOnUnit 18 = .ok (.iload_n 1, 1) := by decide +kernel
set_option maxRecDepth 20000 in
theorem dX2_wireOnUnit_19 : decode cX2_wireOnUnit 19 = .ok (.iload_n 2, 1) := by decide +kernel
set_option maxRecDepth 20000 in
theorem dX2_wireOnUnit_20 : decode cX2_wireOnUnit 20 = .ok (.invokevirtual 93, 3) := by decide +kernel
set_option maxRecDepth 20000 in
theorem dX2_wireOnUnit_23 : decode cX2_wireOnUnit 23 = .ok (.ifCond .eq 10, 3) := by decide +kernel
set_option maxRecDepth 20000 in
theorem dX2_wireOnUnit_26 : decode cX2_wireOnUnit 26 = .ok (.aload_n 0, 1) := by decide +kernel
set_option maxRecDepth 20000 in
theorem dX2_wireOnUnit_27 : decode cX2_wireOnUnit 27 = .ok (.getfield 18, 3) := by decide +kernel
set_option maxRecDepth 20000 in
theorem dX2_wireOnUnit_30 : decode cX2_wireOnUnit 30 = .ok (.iload_n 3, 1) := by decide +kernel
set_option maxRecDepth 20000 in
theorem dX2_wireOnUnit_31 : decode cX2_wireOnUnit 31 = .ok (.iaload, 1) := by decide +kernel
set_option maxRecDepth 20000 in
theorem dX2_wireOnUnit_32 : decode cX2_wireOnUnit 32 = .ok (.ireturn, 1) := by decide +kernel
set_option maxRecDepth 20000 in
theorem dX2_wireOnUnit_33 : decode cX2_wireOnUnit 33 = .ok (.iinc 3 1, 3) := by decide +kernel
set_option maxRecDepth 20000 in
theorem dX2_wireOnUnit_36 : decode cX2_wireOnUnit 36 = .ok (.goto (-34), 3) := by decide +kernel
set_option maxRecDepth 20000 in
theorem dX2_wireOnUnit_39 : decode cX2_wireOnUnit 39 = .ok (.iconst (-1), 1) := by decide +kernel
set_option maxRecDepth 20000 in
theorem dX2_wireOnUnit_40 : decode cX2_wireOnUnit 40 = .ok (.ireturn, 1) := by decide +kernel
set_option maxRecDepth 20000 in
theorem dX2_isPerfect_0 : decode cX2_isPerfect 0 = .ok (.iconst 0, 1) := by decide +kernel
set_option maxRecDepth 20000 in
theorem dX2_isPerfect_1 : decode cX2_isPerfect 1 = .ok (.istore_n 1, 1) := by decide +kernel
set_option maxRecDepth 20000 in
theorem dX2_isPerfect_2 : decode cX2_isPerfect 2 = .ok (.iload_n 1, 1) := by decide +kernel
set_option maxRecDepth 20000 in
theorem dX2_isPerfect_3 : decode cX2_isPerfect 3 = .ok (.aload_n 0, 1) := by decide +kernel
set_option maxRecDepth 20000 in
theorem dX2_isPerfect_4 : decode cX2_isPerfect 4 = .ok (.getfield 12, 3) := by decide +kernel
set_option maxRecDepth 20000 in
theorem dX2_isPerfect_7 : decode cX2_isPerfect 7 = .ok (.getfield 42, 3) := by decide +kernel
set_option maxRecDepth 20000 in
theorem dX2_isPerfect_10 : decode cX2_isPerfect 10 = .ok (.if_icmp .ge 53, 3) := by decide +kernel
set_option maxRecDepth 20000 in
theorem dX2_isPerfect_13 : decode cX2_isPerfect 13 = .ok (.iload_n 1, 1) := by decide +kernel
set_option maxRecDepth 20000 in
theorem dX2_isPerfect_14 : decode cX2_isPerfect 14 = .ok (.iconst 1, 1) := by decide +kernel
set_option maxRecDepth 20000 in
theorem dX2_isPerfect_15 : decode cX2_isPerfect 15 = .ok (.iadd, 1) := by decide +kernel
set_option maxRecDepth 20000 in
theorem dX2_isPerfect_16 : decode cX2_isPerfect 16 = .ok (.istore_n 2, 1) := by decide +kernel
set_option maxRecDepth 20000 in
theorem dX2_isPerfect_17 : decode cX2_isPerfect 17 = .ok (.iload_n 2, 1) := by decide +kernel
set_option maxRecDepth 20000 in
theorem dX2_isPerfect_18 : decode cX2_isPerfect 18 = .ok (.aload_n 0, 1) := by decide +kernel
set_option maxRecDepth 20000 in
theorem dX2_isPerfect_19 : decode cX2_isPerfect 19 = .ok (.getfield 12, 3) := by decide +kernel
set_option maxRecDepth 20000 in
theorem dX2_isPerfect_22 : decode cX2_isPerfect 22 = .ok (.getfield 42, 3) := by decide +kernel
set_option maxRecDepth 20000 in
theorem dX2_isPerfect_25 : decode cX2_isPerfect 25 = .ok (.if_icmp .ge 32, 3) := by decide +kernel
set_option maxRecDepth 20000 in
theorem dX2_isPerfect_28 : decode cX2_isPerfect 28 = .ok (.aload_n 0, 1) := by decide +kernel
set_option maxRecDepth 20000 in
theorem dX2_isPerfect_29 : decode cX2_isPerfect 29 = .ok (.getfield 12, 3) := by decide +kernel
set_option maxRecDepth 20000 in
theorem dX2_isPerfect_32 : decode cX2_isPerfect 32 = .ok (.getfield 97, 3) := by decide +kernel
set_option maxRecDepth 20000 in
theorem dX2_isPerfect_35 : decode cX2_isPerfect 35 = .ok (.iload_n 1, 1) := by decide +kernel
set_option maxRecDepth 20000 in
theorem dX2_isPerfect_36 : decode cX2_isPerfect 36 = .ok (.iaload, 1) := by decide +kernel
set_option maxRecDepth 20000 in
theorem dX2_isPerfect_37 : decode cX2_isPerfect 37 = .ok (.aload_n 0, 1) := by decide +kernel
set_option maxRecDepth 20000 in
theorem dX2_isPerfect_38 : decode cX2_isPerfect 38 = .ok (.getfield 12, 3) := by decide +kernel
set_option maxRecDepth 20000 in
theorem dX2_isPerfect_41 : decode cX2_isPerfect 41 = .ok (.getfield 97, 3) := by decide +kernel
set_option maxRecDepth 20000 in
theorem dX2_isPerfect_44 : decode cX2_isPerfect 44 = .ok (.iload_n 2, 1) := by decide +kernel
set_option maxRecDepth 20000 in
theorem dX2_isPerfect_45 : decode cX2_isPerfect 45 = .ok (.iaload, 1) := by decide +kernel
set_option maxRecDepth 20000 in
theorem dX2_isPerfect_46 : decode cX2_isPerfect 46 = .ok (.if_icmp .ne 5, 3) := by decide +kernel
set_option maxRecDepth 20000 in
theorem dX2_isPerfect_49 : decode cX2_isPerfect 49 = .ok (.iconst 0, 1) := by decide +kernel
set_option maxRecDepth 20000 in
theorem dX2_isPerfect_50 : decode cX2_isPerfect 50 = .ok (.ireturn, 1) := by decide +kernel
set_option maxRecDepth 20000 in
theorem dX2_isPerfect_51 : decode cX2_isPerfect 51 = .ok (.iinc 2 1, 3) := by decide +kernel
set_option maxRecDepth 20000 in
theorem dX2_isPerfect_54 : decode cX2_isPerfect 54 = .ok (.goto (-37), 3) := by decide +kernel
set_option maxRecDepth 20000 in
theorem dX2_isPerfect_57 : decode cX2_isPerfect 57 = .ok (.iinc 1 1, 3) := by decide +kernel
set_option maxRecDepth 20000 in
theorem dX2_isPerfect_60 : decode cX2_isPerfect 60 = .ok (.goto (-58), 3) := by decide +kernel
set_option maxRecDepth 20000 in
theorem dX2_isPerfect_63 : decode cX2_isPerfect 63 = .ok (.aload_n 0, 1) := by decide +kernel
set_option maxRecDepth 20000 in
theorem dX2_isPerfect_64 : decode cX2_isPerfect 64 = .ok (.getfield 22, 3) := by decide +kernel
set_option maxRecDepth 20000 in
theorem dX2_isPerfect_67 : decode cX2_isPerfect 67 = .ok (.ifCond .ne 7, 3) := by decide +kernel
set_option maxRecDepth 20000 in
theorem dX2_isPerfect_70 : decode cX2_isPerfect 70 = .ok (.iconst 1, 1) := by decide +kernel
set_option maxRecDepth 20000 in
theorem dX2_isPerfect_71 : decode cX2_isPerfect 71 = .ok (.goto 4, 3) := by decide +kernel
set_option maxRecDepth 20000 in
theorem dX2_isPerfect_74 : decode cX2_isPerfect 74 = .ok (.iconst 0, 1) := by decide +kernel
set_option maxRecDepth 20000 in
theorem dX2_isPerfect_75 : decode cX2_isPerfect 75 = .ok (.ireturn, 1) := by decide +kernel
set_option maxRecDepth 20000 in
theorem dX2_seekLeastInner_0 : decode cX2_seekLeastInner 0 = .ok (.aload_n 0, 1) := by decide +kernel
set_option maxRecDepth 20000 in
theorem dX2_seekLeastInner_1 : decode cX2_seekLeastInner 1 = .ok (.iconst 0, 1) := by decide +kernel
set_option maxRecDepth 20000 in
theorem dX2_seekLeastInner_2 : decode cX2_seekLeastInner 2 = .ok (.putfield 26, 3) := by decide +kernel
set_option maxRecDepth 20000 in
theorem dX2_seekLeastInner_5 : decode cX2_seekLeastInner 5 = .ok (.aload_n 0, 1) := by decide +kernel
set_option maxRecDepth 20000 in
theorem dX2_seekLeastInner_6 : decode cX2_seekLeastInner 6 = .ok (.iconst 0, 1) := by decide +kernel
set_option maxRecDepth 20000 in
theorem dX2_seekLeastInner_7 : decode cX2_seekLeastInner 7 = .ok (.putfield 30, 3) := by decide +kernel
set_option maxRecDepth 20000 in
theorem dX2_seekLeastInner_10 : decode cX2_seekLeastInner 10 = .ok (.iconst 0, 1) := by decide +kernel
set_option maxRecDepth 20000 in
theorem dX2_seekLeastInner_11 : decode cX2_seekLeastInner 11 = .ok (.istore_n 1, 1) := by decide +kernel
set_option maxRecDepth 20000 in
theorem dX2_seekLeastInner_12 : decode cX2_seekLeastInner 12 = .ok (.iload_n 1, 1) := by decide +kernel
set_option maxRecDepth 20000 in
theorem dX2_seekLeastInner_13 : decode cX2_seekLeastInner 13 = .ok (.aload_n 0, 1) := by decide +kernel
set_option maxRecDepth 20000 in
theorem dX2_seekLeastInner_14 : decode cX2_seekLeastInner 14 = .ok (.getfield 12, 3) := by decide +kernel
set_option maxRecDepth 20000 in
theorem dX2_seekLeastInner_17 : decode cX2_seekLeastInner 17 = .ok (.getfield 42, 3) := by decide +kernel
set_option maxRecDepth 20000 in
theorem dX2_seekLeastInner_20 : decode cX2_seekLeastInner 20 = .ok (.if_icmp .ge 74, 3) := by decide +kernel
set_option maxRecDepth 20000 in
theorem dX2_seekLeastInner_23 : decode cX2_seekLeastInner 23 = .ok (.iconst 0, 1) := by decide +kernel
set_option maxRecDepth 20000 in
theorem dX2_seekLeastInner_24 : decode cX2_seekLeastInner 24 = .ok (.istore_n 2, 1) := by decide +kernel
set_option maxRecDepth 20000 in
theorem dX2_seekLeastInner_25 : decode cX2_seekLeastInner 25 = .ok (.iload_n 2, 1) := by decide +kernel
set_option maxRecDepth 20000 in
theorem dX2_seekLeastInner_26 : decode cX2_seekLeastInner 26 = .ok (.aload_n 0, 1) := by decide +kernel
set_option maxRecDepth 20000 in
theorem dX2_seekLeastInner_27 : decode cX2_seekLeastInner 27 = .ok (.getfield 12, 3) := by decide +kernel
set_option maxRecDepth 20000 in
theorem dX2_seekLeastInner_30 : decode cX2_seekLeastInner 30 = .ok (.getfield 42, 3) := by decide +kernel
set_option maxRecDepth 20000 in
theorem dX2_seekLeastInner_33 : decode cX2_seekLeastInner 33 = .ok (.if_icmp .ge 55, 3) := by decide +kernel
set_option maxRecDepth 20000 in
theorem dX2_seekLeastInner_36 : decode cX2_seekLeastInner 36 = .ok (.aload_n 0, 1) := by decide +kernel
set_option maxRecDepth 20000 in
theorem dX2_seekLeastInner_37 : decode cX2_seekLeastInner 37 = .ok (.getfield 12, 3) := by decide +kernel
set_option maxRecDepth 20000 in
theorem dX2_seekLeastInner_40 : decode cX2_seekLeastInner 40 = .ok (.getfield 100, 3) := by decide +kernel
set_option maxRecDepth 20000 in
theorem dX2_seekLeastInner_43 : decode cX2_seekLeastInner 43 = .ok (.iload_n 1, 1) := by decide +kernel
set_option maxRecDepth 20000 in
theorem dX2_seekLeastInner_44 : decode cX2_seekLeastInner 44 = .ok (.iaload, 1) := by decide +kernel
set_option maxRecDepth 20000 in
theorem dX2_seekLeastInner_45 : decode cX2_seekLeastInner 45 = .ok (.aload_n 0, 1) := by decide +kernel
set_option maxRecDepth 20000 in
theorem dX2_seekLeastInner_46 : decode cX2_seekLeastInner 46 = .ok (.getfield 12, 3) := by decide +kernel
set_option maxRecDepth 20000 in
theorem dX2_seekLeastInner_49 : decode cX2_seekLeastInner 49 = .ok (.iload_n 2, 1) := by decide +kernel
set_option maxRecDepth 20000 in
theorem dX2_seekLeastInner_50 : decode cX2_seekLeastInner 50 = .ok (.invokevirtual 103, 3) := by decide +kernel
set_option maxRecDepth 20000 in
theorem dX2_seekLeastInner_53 : decode cX2_seekLeastInner 53 = .ok (.if_icmp .ge 29, 3) := by decide +kernel
set_option maxRecDepth 20000 in
theorem dX2_seekLeastInner_56 : decode cX2_seekLeastInner 56 = .ok (.aload_n 0, 1) := by decide +kernel
set_option maxRecDepth 20000 in
theorem dX2_seekLeastInner_57 : decode cX2_seekLeastInner 57 = .ok (.getfield 12, 3) := by decide +kernel
set_option maxRecDepth 20000 in
theorem dX2_seekLeastInner_60 : decode cX2_seekLeastInner 60 = .ok (.getfield 106, 3) := by decide +kernel
set_option maxRecDepth 20000 in
theorem dX2_seekLeastInner_63 : decode cX2_seekLeastInner 63 = .ok (.iload_n 1, 1) := by decide +kernel
set_option maxRecDepth 20000 in
theorem dX2_seekLeastInner_64 : decode cX2_seekLeastInner 64 = .ok (.iaload, 1) := by decide +kernel
set_option maxRecDepth 20000 in
theorem dX2_seekLeastInner_65 : decode cX2_seekLeastInner 65 = .ok (.aload_n 0, 1) := by decide +kernel
set_option maxRecDepth 20000 in
theorem dX2_seekLeastInner_66 : decode cX2_seekLeastInner 66 = .ok (.getfield 12, 3) := by decide +kernel
set_option maxRecDepth 20000 in
theorem dX2_seekLeastInner_69 : decode cX2_seekLeastInner 69 = .ok (.iload_n 2, 1) := by decide +kernel
set_option maxRecDepth 20000 in
theorem dX2_seekLeastInner_70 : decode cX2_seekLeastInner 70 = .ok (.invokevirtual 109, 3) := by decide +kernel
set_option maxRecDepth 20000 in
theorem dX2_seekLeastInner_73 : decode cX2_seekLeastInner 73 = .ok (.if_icmp .ge 9, 3) := by decide +kernel
set_option maxRecDepth 20000 in
theorem dX2_seekLeastInner_76 : decode cX2_seekLeastInner 76 = .ok (.aload_n 0, 1) := by decide +kernel
set_option maxRecDepth 20000 in
theorem dX2_seekLeastInner_77 : decode cX2_seekLeastInner 77 = .ok (.iload_n 1, 1) := by decide +kernel
set_option maxRecDepth 20000 in
theorem dX2_seekLeastInner_78 : decode cX2_seekLeastInner 78 = .ok (.iload_n 2, 1) := by decide +kernel
set_option maxRecDepth 20000 in
theorem dX2_seekLeastInner_79 : decode cX2_seekLeastInner 79 = .ok (.invokevirtual 112, 3) := by decide +kernel
set_option maxRecDepth 20000 in
theorem dX2_seekLeastInner_82 : decode cX2_seekLeastInner 82 = .ok (.iinc 2 1, 3) := by decide +kernel
set_option maxRecDepth 20000 in
theorem dX2_seekLeastInner_85 : decode cX2_seekLeastInner 85 = .ok (.goto (-60), 3) := by decide +kernel
set_option maxRecDepth 20000 in
theorem dX2_seekLeastInner_88 : decode cX2_seekLeastInner 88 = .ok (.iinc 1 1, 3) := by decide +kernel
set_option maxRecDepth 20000 in
theorem dX2_seekLeastInner_91 : decode cX2_seekLeastInner 91 = .ok (.goto (-79), 3) := by decide +kernel
set_option maxRecDepth 20000 in
theorem dX2_seekLeastInner_94 : decode cX2_seekLeastInner 94 = .ok (.return_, 1) := by decide +kernel
set_option maxRecDepth 20000 in
theorem dX2_considerInner_0 : decode cX2_considerInner 0 = .ok (.aload_n 0, 1) := by decide +kernel
set_option maxRecDepth 20000 in
theorem dX2_considerInner_1 : decode cX2_considerInner 1 = .ok (.getfield 12, 3) := by decide +kernel
set_option maxRecDepth 20000 in
theorem dX2_considerInner_4 : decode cX2_considerInner 4 = .ok (.getfield 100, 3) := by decide +kernel
set_option maxRecDepth 20000 in
theorem dX2_considerInner_7 : decode cX2_considerInner 7 = .ok (.iload_n 1, 1) := by decide +kernel
set_option maxRecDepth 20000 in
theorem dX2_considerInner_8 : decode cX2_considerInner 8 = .ok (.iaload, 1) := by decide +kernel
set_option maxRecDepth 20000 in
theorem dX2_considerInner_9 : decode cX2_considerInner 9 = .ok (.istore_n 3, 1) := by decide +kernel
set_option maxRecDepth 20000 in
theorem dX2_considerInner_10 : decode cX2_considerInner 10 = .ok (.aload_n 0, 1) := by decide +kernel
set_option maxRecDepth 20000 in
theorem dX2_considerInner_11 : decode cX2_considerInner 11 = .ok (.getfield 12, 3) := by decide +kernel
set_option maxRecDepth 20000 in
theorem dX2_considerInner_14 : decode cX2_considerInner 14 = .ok (.getfield 106, 3) := by decide +kernel
set_option maxRecDepth 20000 in
theorem dX2_considerInner_17 : decode cX2_considerInner 17 = .ok (.iload_n 1, 1) := by decide +kernel
set_option maxRecDepth 20000 in
theorem dX2_considerInner_18 : decode cX2_considerInner 18 = .ok (.iaload, 1) := by decide +kernel
set_option maxRecDepth 20000 in
theorem dX2_considerInner_19 : decode cX2_considerInner 19 = .ok (.istore 4, 2) := by decide +kernel
set_option maxRecDepth 20000 in
theorem dX2_considerInner_21 : decode cX2_considerInner 21 = .ok (.aload_n 0, 1) := by decide +kernel
set_option maxRecDepth 20000 in
theorem dX2_considerInner_22 : decode cX2_considerInner 22 = .ok (.getfield 12, 3) := by decide +kernel
set_option maxRecDepth 20000 in
theorem dX2_considerInner_25 : decode cX2_considerInner 25 = .ok (.iload_n 2, 1) := by decide +kernel
set_option maxRecDepth 20000 in
theorem dX2_considerInner_26 : decode cX2_considerInner 26 = .ok (.invokevirtual 103, 3) := by decide +kernel
set_option maxRecDepth 20000 in
theorem dX2_considerInner_29 : decode cX2_considerInner 29 = .ok (.iload_n 3, 1) := by decide +kernel
set_option maxRecDepth 20000 in
theorem dX2_considerInner_30 : decode cX2_considerInner 30 = .ok (.isub, 1) := by decide +kernel
set_option maxRecDepth 20000 in
theorem dX2_considerInner_31 : decode cX2_considerInner 31 = .ok (.istore 5, 2) := by decide +kernel
set_option maxRecDepth 20000 in
theorem dX2_considerInner_33 : decode cX2_considerInner 33 = .ok (.aload_n 0, 1) := by decide +kernel
set_option maxRecDepth 20000 in
theorem dX2_considerInner_34 : decode cX2_considerInner 34 = .ok (.iload_n 3, 1) := by decide +kernel
set_option maxRecDepth 20000 in
theorem dX2_considerInner_35 : decode cX2_considerInner 35 = .ok (.iload 4, 2) := by decide +kernel
set_option maxRecDepth 20000 in
theorem dX2_considerInner_37 : decode cX2_considerInner 37 = .ok (.aload_n 0, 1) := by decide +kernel
set_option maxRecDepth 20000 in
theorem dX2_considerInner_38 : decode cX2_considerInner 38 = .ok (.getfield 12, 3) := by decide +kernel
set_option maxRecDepth 20000 in
theorem dX2_considerInner_41 : decode cX2_considerInner 41 = .ok (.iload_n 2, 1) := by decide +kernel
set_option maxRecDepth 20000 in
theorem dX2_considerInner_42 : decode cX2_considerInner 42 = .ok (.invokevirtual 103, 3) := by decide +kernel
set_option maxRecDepth 20000 in
theorem dX2_considerInner_45 : decode cX2_considerInner 45 = .ok (.aload_n 0, 1) := by decide +kernel
set_option maxRecDepth 20000 in
theorem dX2_considerInner_46 : decode cX2_considerInner 46 = .ok (.getfield 12, 3) := by decide +kernel
set_option maxRecDepth 20000 in
theorem dX2_considerInner_49 : decode cX2_considerInner 49 = .ok (.iload_n 2, 1) := by decide +kernel
set_option maxRecDepth 20000 in
theorem dX2_considerInner_50 : decode cX2_considerInner 50 = .ok (.invokevirtual 109, 3) := by decide +kernel
set_option maxRecDepth 20000 in
theorem dX2_considerInner_53 : decode cX2_considerInner 53 = .ok (.invokevirtual 116, 3) := by decide +kernel
set_option maxRecDepth 20000 in
theorem dX2_considerInner_56 : decode cX2_considerInner 56 = .ok (.istore 6, 2) := by decide +kernel
set_option maxRecDepth 20000 in
theorem dX2_considerInner_58 : decode cX2_considerInner 58 = .ok (.iload 6, 2) := by decide +kernel
set_option maxRecDepth 20000 in
theorem dX2_considerInner_60 : decode cX2_considerInner 60 = .ok (.invokestatic 120, 3) := by decide +kernel
set_option maxRecDepth 20000 in
theorem dX2_considerInner_63 : decode cX2_considerInner 63 = .ok (.istore 7, 2) := by decide +kernel
set_option maxRecDepth 20000 in
theorem dX2_considerInner_65 : decode cX2_considerInner 65 = .ok (.iload 7, 2) := by decide +kernel
set_option maxRecDepth 20000 in
theorem dX2_considerInner_67 : decode cX2_considerInner 67 = .ok (.iconst 2, 1) := by decide +kernel
set_option maxRecDepth 20000 in
theorem dX2_considerInner_68 : decode cX2_considerInner 68 = .ok (.if_icmp .lt 58, 3) := by decide +kernel
set_option maxRecDepth 20000 in
theorem dX2_considerInner_71 : decode cX2_considerInner 71 = .ok (.iload 7, 2) := by decide +kernel
set_option maxRecDepth 20000 in
theorem dX2_considerInner_73 : decode cX2_considerInner 73 = .ok (.aload_n 0, 1) := by decide +kernel
set_option maxRecDepth 20000 in
theorem dX2_considerInner_74 : decode cX2_considerInner 74 = .ok (.getfield 12, 3) := by decide +kernel
set_option maxRecDepth 20000 in
theorem dX2_considerInner_77 : decode cX2_considerInner 77 = .ok (.getfield 42, 3) := by decide +kernel
set_option maxRecDepth 20000 in
theorem dX2_considerInner_80 : decode cX2_considerInner 80 = .ok (.if_icmp .ge 46, 3) := by decide +kernel
set_option maxRecDepth 20000 in
theorem dX2_considerInner_83 : decode cX2_considerInner 83 = .ok (.aload_n 0, 1) := by decide +kernel
set_option maxRecDepth 20000 in
theorem dX2_considerInner_84 : decode cX2_considerInner 84 = .ok (.iload 7, 2) := by decide +kernel
set_option maxRecDepth 20000 in
theorem dX2_considerInner_86 : decode cX2_considerInner 86 = .ok (.iload_n 3, 1) := by decide +kernel
set_option maxRecDepth 20000 in
theorem dX2_considerInner_87 : decode cX2_considerInner 87 = .ok (.iload 4, 2) := by decide +kernel
set_option maxRecDepth 20000 in
theorem dX2_considerInner_89 : decode cX2_considerInner 89 = .ok (.iload 5, 2) := by decide +kernel
set_option maxRecDepth 20000 in
theorem dX2_considerInner_91 : decode cX2_considerInner 91 = .ok (.invokevirtual 125, 3) := by decide +kernel
set_option maxRecDepth 20000 in
theorem dX2_considerInner_94 : decode cX2_considerInner 94 = .ok (.ifCond .eq 32, 3) := by decide +kernel
set_option maxRecDepth 20000 in
theorem dX2_considerInner_97 : decode cX2_considerInner 97 = .ok (.aload_n 0, 1) := by decide +kernel
set_option maxRecDepth 20000 in
theorem dX2_considerInner_98 : decode cX2_considerInner 98 = .ok (.iload 6, 2) := by decide +kernel
set_option maxRecDepth 20000 in
theorem dX2_considerInner_100 : decode cX2_considerInner 100 = .ok (.putfield 26, 3) := by decide +kernel
set_option maxRecDepth 20000 in
theorem dX2_considerInner_103 : decode cX2_considerInner 103 = .ok (.aload_n 0, 1) := by decide +kernel
set_option maxRecDepth 20000 in
theorem dX2_considerInner_104 : decode cX2_considerInner 104 = .ok (.iload 7, 2) := by decide +kernel
set_option maxRecDepth 20000 in
theorem dX2_considerInner_106 : decode cX2_considerInner 106 = .ok (.putfield 30, 3) := by decide +kernel
set_option maxRecDepth 20000 in
theorem dX2_considerInner_109 : decode cX2_considerInner 109 = .ok (.aload_n 0, 1) := by decide +kernel
set_option maxRecDepth 20000 in
theorem dX2_considerInner_110 : decode cX2_considerInner 110 = .ok (.iload_n 3, 1) := by decide +kernel
set_option maxRecDepth 20000 in
theorem dX2_considerInner_111 : decode cX2_considerInner 111 = .ok (.putfield 33, 3) := by decide +kernel
set_option maxRecDepth 20000 in
theorem dX2_considerInner_114 : decode cX2_considerInner 114 = .ok (.aload_n 0, 1) := by decide +kernel
set_option maxRecDepth 20000 in
theorem dX2_considerInner_115 : decode cX2_considerInner 115 = .ok (.iload 4, 2) := by decide +kernel
set_option maxRecDepth 20000 in
theorem dX2_considerInner_117 : decode cX2_considerInner 117 = .ok (.putfield 36, 3) := by decide +kernel
set_option maxRecDepth 20000 in
theorem dX2_considerInner_120 : decode cX2_considerInner 120 = .ok (.aload_n 0, 1) := by decide +kernel
set_option maxRecDepth 20000 in
theorem dX2_considerInner_121 : decode cX2_considerInner 121 = .ok (.iload 5, 2) := by decide +kernel
set_option maxRecDepth 20000 in
theorem dX2_considerInner_123 : decode cX2_considerInner 123 = .ok (.putfield 39, 3) := by decide +kernel
set_option maxRecDepth 20000 in
theorem dX2_considerInner_126 : decode cX2_considerInner 126 = .ok (.return_, 1) := by decide +kernel
set_option maxRecDepth 20000 in
theorem dX2_setBetween_0 : decode cX2_setBetween 0 = .ok (.iconst 0, 1) := by decide +kernel
set_option maxRecDepth 20000 in
theorem dX2_setBetween_1 : decode cX2_setBetween 1 = .ok (.istore 5, 2) := by decide +kernel
set_option maxRecDepth 20000 in
theorem dX2_setBetween_3 : decode cX2_setBetween 3 = .ok (.iconst 0, 1) := by decide +kernel
set_option maxRecDepth 20000 in
theorem dX2_setBetween_4 : decode cX2_setBetween 4 = .ok (.istore 6, 2) := by decide +kernel
set_option maxRecDepth 20000 in
theorem dX2_setBetween_6 : decode cX2_setBetween 6 = .ok (.iload 6, 2) := by decide +kernel
set_option maxRecDepth 20000 in
theorem dX2_setBetween_8 : decode cX2_setBetween 8 = .ok (.aload_n 0, 1) := by decide +kernel
set_option maxRecDepth 20000 in
theorem dX2_setBetween_9 : decode cX2_setBetween 9 = .ok (.getfield 12, 3) := by decide +kernel
set_option maxRecDepth 20000 in
theorem dX2_setBetween_12 : decode cX2_setBetween 12 = .ok (.getfield 42, 3) := by decide +kernel
set_option maxRecDepth 20000 in
theorem dX2_setBetween_15 : decode cX2_setBetween 15 = .ok (.if_icmp .ge 163, 3) := by decide +kernel
set_option maxRecDepth 20000 in
theorem dX2_setBetween_18 : decode cX2_setBetween 18 = .ok (.aload_n 0, 1) := by decide +kernel
set_option maxRecDepth 20000 in
theorem dX2_setBetween_19 : decode cX2_setBetween 19 = .ok (.getfield 12, 3) := by decide +kernel
set_option maxRecDepth 20000 in
theorem dX2_setBetween_22 : decode cX2_setBetween 22 = .ok (.iload 6, 2) := by decide +kernel
set_option maxRecDepth 20000 in
theorem dX2_setBetween_24 : decode cX2_setBetween 24 = .ok (.invokevirtual 103, 3) := by decide +kernel
set_option maxRecDepth 20000 in
theorem dX2_setBetween_27 : decode cX2_setBetween 27 = .ok (.iload_n 1, 1) := by decide +kernel
set_option maxRecDepth 20000 in
theorem dX2_setBetween_28 : decode cX2_setBetween 28 = .ok (.if_icmp .le 45, 3) := by decide +kernel
set_option maxRecDepth 20000 in
theorem dX2_setBetween_31 : decode cX2_setBetween 31 = .ok (.aload_n 0, 1) := by decide +kernel
set_option maxRecDepth 20000 in
theorem dX2_setBetween_32 : decode cX2_setBetween 32 = .ok (.getfield 12, 3) := by decide +kernel
set_option maxRecDepth 20000 in
theorem dX2_setBetween_35 : decode cX2_setBetween 35 = .ok (.getfield 100, 3) := by decide +kernel
set_option maxRecDepth 20000 in
theorem dX2_setBetween_38 : decode cX2_setBetween 38 = .ok (.iload 6, 2) := by decide +kernel
set_option maxRecDepth 20000 in
theorem dX2_setBetween_40 : decode cX2_setBetween 40 = .ok (.iaload, 1) := by decide +kernel
set_option maxRecDepth 20000 in
theorem dX2_setBetween_41 : decode cX2_setBetween 41 = .ok (.iload_n 3, 1) := by decide +kernel
set_option maxRecDepth 20000 in
theorem dX2_setBetween_42 : decode cX2_setBetween 42 = .ok (.if_icmp .ge 31, 3) := by decide +kernel
set_option maxRecDepth 20000 in
theorem dX2_setBetween_45 : decode cX2_setBetween 45 = .ok (.aload_n 0, 1) := by decide +kernel
set_option maxRecDepth 20000 in
theorem dX2_setBetween_46 : decode cX2_setBetween 46 = .ok (.getfield 12, 3) := by decide +kernel
set_option maxRecDepth 20000 in
theorem dX2_setBetween_49 : decode cX2_setBetween 49 = .ok (.iload 6, 2) := by decide +kernel
set_option maxRecDepth 20000 in
theorem dX2_setBetween_51 : decode cX2_setBetween 51 = .ok (.invokevirtual 109, 3) := by decide +kernel
set_option maxRecDepth 20000 in
theorem dX2_setBetween_54 : decode cX2_setBetween 54 = .ok (.iload_n 2, 1) := by decide +kernel
set_option maxRecDepth 20000 in
theorem dX2_setBetween_55 : decode cX2_setBetween 55 = .ok (.if_icmp .le 18, 3) := by decide +kernel
set_option maxRecDepth 20000 in
theorem dX2_setBetween_58 : decode cX2_setBetween 58 = .ok (.aload_n 0, 1) := by decide +kernel
set_option maxRecDepth 20000 in
theorem dX2_setBetween_59 : decode cX2_setBetween 59 = .ok (.getfield 12, 3) := by decide +kernel
set_option maxRecDepth 20000 in
theorem dX2_setBetween_62 : decode cX2_setBetween 62 = .ok (.getfield 106, 3) := by decide +kernel
set_option maxRecDepth 20000 in
theorem dX2_setBetween_65 : decode cX2_setBetween 65 = .ok (.iload 6, 2) := by decide +kernel
set_option maxRecDepth 20000 in
theorem dX2_setBetween_67 : decode cX2_setBetween 67 = .ok (.iaload, 1) := by decide +kernel
set_option maxRecDepth 20000 in
theorem dX2_setBetween_68 : decode cX2_setBetween 68 = .ok (.iload 4, 2) := by decide +kernel
set_option maxRecDepth 20000 in
theorem dX2_setBetween_70 : decode cX2_setBetween 70 = .ok (.if_icmp .lt 7, 3) := by decide +kernel
set_option maxRecDepth 20000 in
theorem dX2_setBetween_73 : decode cX2_setBetween 73 = .ok (.iconst 1, 1) := by decide +kernel
set_option maxRecDepth 20000 in
theorem dX2_setBetween_74 : decode cX2_setBetween 74 = .ok (.goto 4, 3) := by decide +kernel
set_option maxRecDepth 20000 in
theorem dX2_setBetween_77 : decode cX2_setBetween 77 = .ok (.iconst 0, 1) := by decide +kernel
set_option maxRecDepth 20000 in
theorem dX2_setBetween_78 : decode cX2_setBetween 78 = .ok (.istore 7, 2) := by decide +kernel
set_option maxRecDepth 20000 in
theorem dX2_setBetween_80 : decode cX2_setBetween 80 = .ok (.aload_n 0, 1) := by decide +kernel
set_option maxRecDepth 20000 in
theorem dX2_setBetween_81 : decode cX2_setBetween 81 = .ok (.getfield 12, 3) := by decide +kernel
set_option maxRecDepth 20000 in
theorem dX2_setBetween_84 : decode cX2_setBetween 84 = .ok (.getfield 100, 3) := by decide +kernel
set_option maxRecDepth 20000 in
theorem dX2_setBetween_87 : decode cX2_setBetween 87 = .ok (.iload 6, 2) := by decide +kernel
set_option maxRecDepth 20000 in
theorem dX2_setBetween_89 : decode cX2_setBetween 89 = .ok (.iaload, 1) := by decide +kernel
set_option maxRecDepth 20000 in
theorem dX2_setBetween_90 : decode cX2_setBetween 90 = .ok (.iload_n 1, 1) := by decide +kernel
set_option maxRecDepth 20000 in
theorem dX2_setBetween_91 : decode cX2_setBetween 91 = .ok (.if_icmp .lt 48, 3) := by decide +kernel
set_option maxRecDepth 20000 in
theorem dX2_setBetween_94 : decode cX2_setBetween 94 = .ok (.aload_n 0, 1) := by decide +kernel
set_option maxRecDepth 20000 in
theorem dX2_setBetween_95 : decode cX2_setBetween 95 = .ok (.getfield 12, 3) := by decide +kernel
set_option maxRecDepth 20000 in
theorem dX2_setBetween_98 : decode cX2_setBetween 98 = .ok (.iload 6, 2) := by decide +kernel
set_option maxRecDepth 20000 in
theorem dX2_setBetween_100 : decode cX2_setBetween 100 = .ok (.invokevirtual 103, 3) := by decide +kernel
set_option maxRecDepth 20000 in
theorem dX2_setBetween_103 : decode cX2_setBetween 103 = .ok (.iload_n 3, 1) := by decide +kernel
set_option maxRecDepth 20000 in
theorem dX2_setBetween_104 : decode cX2_setBetween 104 = .ok (.if_icmp .gt 35, 3) := by decide +kernel
set_option maxRecDepth 20000 in
theorem dX2_setBetween_107 : decode cX2_setBetween 107 = .ok (.aload_n 0, 1) := by decide +kernel
set_option maxRecDepth 20000 in
theorem dX2_setBetween_108 : decode cX2_setBetween 108 = .ok (.getfield 12, 3) := by decide +kernel
set_option maxRecDepth 20000 in
theorem dX2_setBetween_111 : decode cX2_setBetween 111 = .ok (.getfield 106, 3) := by decide +kernel
set_option maxRecDepth 20000 in
theorem dX2_setBetween_114 : decode cX2_setBetween 114 = .ok (.iload 6, 2) := by decide +kernel
set_option maxRecDepth 20000 in
theorem dX2_setBetween_116 : decode cX2_setBetween 116 = .ok (.iaload, 1) := by decide +kernel
set_option maxRecDepth 20000 in
theorem dX2_setBetween_117 : decode cX2_setBetween 117 = .ok (.iload_n 2, 1) := by decide +kernel
set_option maxRecDepth 20000 in
theorem dX2_setBetween_118 : decode cX2_setBetween 118 = .ok (.if_icmp .lt 21, 3) := by decide +kernel
set_option maxRecDepth 20000 in
theorem dX2_setBetween_121 : decode cX2_setBetween 121 = .ok (.aload_n 0, 1) := by decide +kernel
set_option maxRecDepth 20000 in
theorem dX2_setBetween_122 : decode cX2_setBetween 122 = .ok (.getfield 12, 3) := by decide +kernel
set_option maxRecDepth 20000 in
theorem dX2_setBetween_125 : decode cX2_setBetween 125 = .ok (.iload 6, 2) := by decide +kernel
set_option maxRecDepth 20000 in
theorem dX2_setBetween_127 : decode cX2_setBetween 127 = .ok (.invokevirtual 109, 3) := by decide +kernel
set_option maxRecDepth 20000 in
theorem dX2_setBetween_130 : decode cX2_setBetween 130 = .ok (.iload 4, 2) := by decide +kernel
set_option maxRecDepth 20000 in
theorem dX2_setBetween_132 : decode cX2_setBetween 132 = .ok (.if_icmp .gt 7, 3) := by decide +kernel
set_option maxRecDepth 20000 in
theorem dX2_setBetween_135 : decode cX2_setBetween 135 = .ok (.iconst 1, 1) := by decide +kernel
set_option maxRecDepth 20000 in
theorem dX2_setBetween_136 : decode cX2_setBetween 136 = .ok (.goto 4, 3) := by decide +kernel
set_option maxRecDepth 20000 in
theorem dX2_setBetween_139 : decode cX2_setBetween 139 = .ok (.iconst 0, 1) := by decide +kernel
set_option maxRecDepth 20000 in
theorem dX2_setBetween_140 : decode cX2_setBetween 140 = .ok (.istore 8, 2) := by decide +kernel
set_option maxRecDepth 20000 in
theorem dX2_setBetween_142 : decode cX2_setBetween 142 = .ok (.iload 7, 2) := by decide +kernel
set_option maxRecDepth 20000 in
theorem dX2_setBetween_144 : decode cX2_setBetween 144 = .ok (.ifCond .ne 10, 3) := by decide +kernel
set_option maxRecDepth 20000 in
theorem dX2_setBetween_147 : decode cX2_setBetween 147 = .ok (.iload 8, 2) := by decide +kernel
set_option maxRecDepth 20000 in
theorem dX2_setBetween_149 : decode cX2_setBetween 149 = .ok (.ifCond .ne 5, 3) := by decide +kernel
set_option maxRecDepth 20000 in
theorem dX2_setBetween_152 : decode cX2_setBetween 152 = .ok (.iconst 0, 1) := by decide +kernel
set_option maxRecDepth 20000 in
theorem dX2_setBetween_153 : decode cX2_setBetween 153 = .ok (.ireturn, 1) := by decide +kernel
set_option maxRecDepth 20000 in
theorem dX2_setBetween_154 : decode cX2_setBetween 154 = .ok (.iload 5, 2) := by decide +kernel
set_option maxRecDepth 20000 in
theorem dX2_setBetween_156 : decode cX2_setBetween 156 = .ok (.iload 8, 2) := by decide +kernel
set_option maxRecDepth 20000 in
theorem dX2_setBetween_158 : decode cX2_setBetween 158 = .ok (.ifCond .eq 10, 3) := by decide +kernel
set_option maxRecDepth 20000 in
theorem dX2_setBetween_161 : decode cX2_setBetween 161 = .ok (.iconst 1, 1) := by decide +kernel
set_option maxRecDepth 20000 in
theorem dX2_setBetween_162 : decode cX2_setBetween 162 = .ok (.iload 6, 2) := by decide +kernel
set_option maxRecDepth 20000 in
theorem dX2_setBetween_164 : decode cX2_setBetween 164 = .ok (.ishl, 1) := by decide +kernel
set_option maxRecDepth 20000 in
theorem dX2_setBetween_165 : decode cX2_setBetween 165 = .ok (.goto 4, 3) := by decide +kernel
set_option maxRecDepth 20000 in
theorem dX2_setBetween_168 : decode cX2_setBetween 168 = .ok (.iconst 0, 1) := by decide +kernel
set_option maxRecDepth 20000 in
theorem dX2_setBetween_169 : decode cX2_setBetween 169 = .ok (.ior, 1) := by decide +kernel
set_option maxRecDepth 20000 in
theorem dX2_setBetween_170 : decode cX2_setBetween 170 = .ok (.istore 5, 2) := by decide +kernel
set_option maxRecDepth 20000 in
theorem dX2_setBetween_172 : decode cX2_setBetween 172 = .ok (.iinc 6 1, 3) := by decide +kernel
set_option maxRecDepth 20000 in
theorem dX2_setBetween_175 : decode cX2_setBetween 175 = .ok (.goto (-169), 3) := by decide +kernel
set_option maxRecDepth 20000 in
theorem dX2_setBetween_178 : decode cX2_setBetween 178 = .ok (.iload 5, 2) := by decide +kernel
set_option maxRecDepth 20000 in
theorem dX2_setBetween_180 : decode cX2_setBetween 180 = .ok (.ireturn, 1) := by decide +kernel
set_option maxRecDepth 20000 in
theorem dX2_isLesserInner_0 : decode cX2_isLesserInner 0 = .ok (.aload_n 0, 1) := by decide +kernel
set_option maxRecDepth 20000 in
theorem dX2_isLesserInner_1 : decode cX2_isLesserInner 1 = .ok (.getfield 30, 3) := by decide +kernel
set_option maxRecDepth 20000 in
theorem dX2_isLesserInner_4 : decode cX2_isLesserInner 4 = .ok (.ifCond .eq 11, 3) := by decide +kernel
set_option maxRecDepth 20000 in
theorem dX2_isLesserInner_7 : decode cX2_isLesserInner 7 = .ok (.iload_n 1, 1) := by decide +kernel
set_option maxRecDepth 20000 in
theorem dX2_isLesserInner_8 : decode cX2_isLesserInner 8 = .ok (.aload_n 0, 1) := by decide +kernel
set_option maxRecDepth 20000 in
theorem dX2_isLesserInner_9 : decode cX2_isLesserInner 9 = .ok (.getfield 30, 3) := by decide +kernel
set_option maxRecDepth 20000 in
theorem dX2_isLesserInner_12 : decode cX2_isLesserInner 12 = .ok (.if_icmp .eq 24, 3) := by decide +kernel
set_option maxRecDepth 20000 in
theorem dX2_isLesserInner_15 : decode cX2_isLesserInner 15 = .ok (.aload_n 0, 1) := by decide +kernel
set_option maxRecDepth 20000 in
theorem dX2_isLesserInner_16 : decode cX2_isLesserInner 16 = .ok (.getfield 30, 3) := by decide +kernel
set_option maxRecDepth 20000 in
theorem dX2_isLesserInner_19 : decode cX2_isLesserInner 19 = .ok (.ifCond .eq 11, 3) := by decide +kernel
set_option maxRecDepth 20000 in
theorem dX2_isLesserInner_22 : decode cX2_isLesserInner 22 = .ok (.iload_n 1, 1) := by decide +kernel
set_option maxRecDepth 20000 in
theorem dX2_isLesserInner_23 : decode cX2_isLesserInner 23 = .ok (.aload_n 0, 1) := by decide +kernel
set_option maxRecDepth 20000 in
theorem dX2_isLesserInner_24 : decode cX2_isLesserInner 24 = .ok (.getfield 30, 3) := by decide +kernel
set_option maxRecDepth 20000 in
theorem dX2_isLesserInner_27 : decode cX2_isLesserInner 27 = .ok (.if_icmp .ge 7, 3) := by decide +kernel
set_option maxRecDepth 20000 in
theorem dX2_isLesserInner_30 : decode cX2_isLesserInner 30 = .ok (.iconst 1, 1) := by decide +kernel
set_option maxRecDepth 20000 in
theorem dX2_isLesserInner_31 : decode cX2_isLesserInner 31 = .ok (.goto 4, 3) := by decide +kernel
set_option maxRecDepth 20000 in
theorem dX2_isLesserInner_34 : decode cX2_isLesserInner 34 = .ok (.iconst 0, 1) := by decide +kernel
set_option maxRecDepth 20000 in
theorem dX2_isLesserInner_35 : decode cX2_isLesserInner 35 = .ok (.ireturn, 1) := by decide +kernel
set_option maxRecDepth 20000 in
theorem dX2_isLesserInner_36 : decode cX2_isLesserInner 36 = .ok (.iload_n 2, 1) := by decide +kernel
set_option maxRecDepth 20000 in
theorem dX2_isLesserInner_37 : decode cX2_isLesserInner 37 = .ok (.aload_n 0, 1) := by decide +kernel
set_option maxRecDepth 20000 in
theorem dX2_isLesserInner_38 : decode cX2_isLesserInner 38 = .ok (.getfield 33, 3) := by decide +kernel
set_option maxRecDepth 20000 in
theorem dX2_isLesserInner_41 : decode cX2_isLesserInner 41 = .ok (.if_icmp .eq 17, 3) := by decide +kernel
set_option maxRecDepth 20000 in
theorem dX2_isLesserInner_44 : decode cX2_isLesserInner 44 = .ok (.iload_n 2, 1) := by decide +kernel
set_option maxRecDepth 20000 in
theorem dX2_isLesserInner_45 : decode cX2_isLesserInner 45 = .ok (.aload_n 0, 1) := by decide +kernel
set_option maxRecDepth 20000 in
theorem dX2_isLesserInner_46 : decode cX2_isLesserInner 46 = .ok (.getfield 33, 3) := by decide +kernel
set_option maxRecDepth 20000 in
theorem dX2_isLesserInner_49 : decode cX2_isLesserInner 49 = .ok (.if_icmp .ge 7, 3) := by decide +kernel
set_option maxRecDepth 20000 in
theorem dX2_isLesserInner_52 : decode cX2_isLesserInner 52 = .ok (.iconst 1, 1) := by decide +kernel
set_option maxRecDepth 20000 in
theorem dX2_isLesserInner_53 : decode cX2_isLesserInner 53 = .ok (.goto 4, 3) := by decide +kernel
set_option maxRecDepth 20000 in
theorem dX2_isLesserInner_56 : decode cX2_isLesserInner 56 = .ok (.iconst 0, 1) := by decide +kernel
set_option maxRecDepth 20000 in
theorem dX2_isLesserInner_57 : decode cX2_isLesserInner 57 = .ok (.ireturn, 1) := by decide +kernel
set_option maxRecDepth 20000 in
theorem dX2_isLesserInner_58 : decode cX2_isLesserInner 58 = .ok (.iload_n 3, 1) := by decide +kernel
set_option maxRecDepth 20000 in
theorem dX2_isLesserInner_59 : decode cX2_isLesserInner 59 = .ok (.aload_n 0, 1) := by decide +kernel
set_option maxRecDepth 20000 in
theorem dX2_isLesserInner_60 : decode cX2_isLesserInner 60 = .ok (.getfield 36, 3) := by decide +kernel
set_option maxRecDepth 20000 in
theorem dX2_isLesserInner_63 : decode cX2_isLesserInner 63 = .ok (.if_icmp .eq 19, 3) := by decide +kernel
set_option maxRecDepth 20000 in
theorem dX2_isLesserInner_66 : decode cX2_isLesserInner 66 = .ok (.iload_n 3, 1) := by decide +kernel
set_option maxRecDepth 20000 in
theorem dX2_isLesserInner_67 : decode cX2_isLesserInner 67 = .ok (.aload_n 0, 1) := by decide +kernel
set_option maxRecDepth 20000 in
theorem dX2_isLesserInner_68 : decode cX2_isLesserInner 68 = .ok (.getfield 36, 3) := by decide +kernel
set_option maxRecDepth 20000 in
theorem dX2_isLesserInner_71 : decode cX2_isLesserInner 71 = .ok (.if_icmp .ge 7, 3) := by decide +kernel
set_option maxRecDepth 20000 in
theorem dX2_isLesserInner_74 : decode cX2_isLesserInner 74 = .ok (.iconst 1, 1) := by decide +kernel
set_option maxRecDepth 20000 in
theorem dX2_isLesserInner_75 : decode cX2_isLesserInner 75 = .ok (.goto 21, 3) := by decide +kernel
set_option maxRecDepth 20000 in
theorem dX2_isLesserInner_78 : decode cX2_isLesserInner 78 = .ok (.iconst 0, 1) := by decide +kernel
set_option maxRecDepth 20000 in
theorem dX2_isLesserInner_79 : decode cX2_isLesserInner 79 = .ok (.goto 17, 3) := by decide +kernel
set_option maxRecDepth 20000 in
theorem dX2_isLesserInner_82 : decode cX2_isLesserInner 82 = .ok (.iload 4, 2) := by decide +kernel
set_option maxRecDepth 20000 in
theorem dX2_isLesserInner_84 : decode cX2_isLesserInner 84 = .ok (.aload_n 0, 1) := by decide +kernel
set_option maxRecDepth 20000 in
theorem dX2_isLesserInner_85 : decode cX2_isLesserInner 85 = .ok (.getfield 39, 3) := by decide +kernel
set_option maxRecDepth 20000 in
theorem dX2_isLesserInner_88 : decode cX2_isLesserInner 88 = .ok (.if_icmp .ge 7, 3) := by decide +kernel
set_option maxRecDepth 20000 in
theorem dX2_isLesserInner_91 : decode cX2_isLesserInner 91 = .ok (.iconst 1, 1) := by decide +kernel
set_option maxRecDepth 20000 in
theorem dX2_isLesserInner_92 : decode cX2_isLesserInner 92 = .ok (.goto 4, 3) := by decide +kernel
set_option maxRecDepth 20000 in
theorem dX2_isLesserInner_95 : decode cX2_isLesserInner 95 = .ok (.iconst 0, 1) := by decide +kernel
set_option maxRecDepth 20000 in
theorem dX2_isLesserInner_96 : decode cX2_isLesserInner 96 = .ok (.ireturn, 1) := by decide +kernel
set_option maxRecDepth 20000 in
theorem dX2_innerWire_0 : decode cX2_innerWire 0 = .ok (.iconst 0, 1) := by decide +kernel
set_option maxRecDepth 20000 in
theorem dX2_innerWire_1 : decode cX2_innerWire 1 = .ok (.istore_n 2, 1) := by decide +kernel
set_option maxRecDepth 20000 in
theorem dX2_innerWire_2 : decode cX2_innerWire 2 = .ok (.iconst 0, 1) := by decide +kernel
set_option maxRecDepth 20000 in
theorem dX2_innerWire_3 : decode cX2_innerWire 3 = .ok (.istore_n 3, 1) := by decide +kernel
set_option maxRecDepth 20000 in
theorem dX2_innerWire_4 : decode cX2_innerWire 4 = .ok (.iload_n 3, 1) := by decide +kernel
set_option maxRecDepth 20000 in
theorem dX2_innerWire_5 : decode cX2_innerWire 5 = .ok (.aload_n 0, 1) := by decide +kernel
set_option maxRecDepth 20000 in
theorem dX2_innerWire_6 : decode cX2_innerWire 6 = .ok (.getfield 12, 3) := by decide +kernel
set_option maxRecDepth 20000 in
theorem dX2_innerWire_9 : decode cX2_innerWire 9 = .ok (.getfield 42, 3) := by decide +kernel
set_option maxRecDepth 20000 in
theorem dX2_innerWire_12 : decode cX2_innerWire 12 = .ok (.if_icmp .ge 36, 3) := by decide +kernel
set_option maxRecDepth 20000 in
theorem dX2_innerWire_15 : decode cX2_innerWire 15 = .ok (.aload_n 0, 1) := by decide +kernel
set_option maxRecDepth 20000 in
theorem dX2_innerWire_16 : decode cX2_innerWire 16 = .ok (.getfield 26, 3) := by decide +kernel
set_option maxRecDepth 20000 in
theorem dX2_innerWire_19 : decode cX2_innerWire 19 = .ok (.iload_n 3, 1) := by decide +kernel
set_option maxRecDepth 20000 in
theorem dX2_innerWire_20 : decode cX2_innerWire 20 = .ok (.ishr, 1) := by decide +kernel
set_option maxRecDepth 20000 in
theorem dX2_innerWire_21 : decode cX2_innerWire 21 = .ok (.iconst 1, 1) := by decide +kernel
set_option maxRecDepth 20000 in
theorem dX2_innerWire_22 : decode cX2_innerWire 22 = .ok (.iand, 1) := by decide +kernel
set_option maxRecDepth 20000 in
theorem dX2_innerWire_23 : decode cX2_innerWire 23 = .ok (.iconst 1, 1) := by decide +kernel
set_option maxRecDepth 20000 in
theorem dX2_innerWire_24 : decode cX2_innerWire 24 = .ok (.if_icmp .ne 18, 3) := by decide +kernel
set_option maxRecDepth 20000 in
theorem dX2_innerWire_27 : decode cX2_innerWire 27 = .ok (.iload_n 2, 1) := by decide +kernel
set_option maxRecDepth 20000 in
theorem dX2_innerWire_28 : decode cX2_innerWire 28 = .ok (.iload_n 1, 1) := by decide +kernel
set_option maxRecDepth 20000 in
theorem dX2_innerWire_29 : decode cX2_innerWire 29 = .ok (.if_icmp .ne 10, 3) := by decide +kernel
set_option maxRecDepth 20000 in
theorem dX2_innerWire_32 : decode cX2_innerWire 32 = .ok (.aload_n 0, 1) := by decide +kernel
set_option maxRecDepth 20000 in
theorem dX2_innerWire_33 : decode cX2_innerWire 33 = .ok (.getfield 18, 3) := by decide +kernel
set_option maxRecDepth 20000 in
theorem dX2_innerWire_36 : decode cX2_innerWire 36 = .ok (.iload_n 3, 1) := by decide +kernel
set_option maxRecDepth 20000 in
theorem dX2_innerWire_37 : decode cX2_innerWire 37 = .ok (.iaload, 1) := by decide +kernel
set_option maxRecDepth 20000 in
theorem dX2_innerWire_38 : decode cX2_innerWire 38 = .ok (.ireturn, 1) := by decide +kernel
set_option maxRecDepth 20000 in
theorem dX2_innerWire_39 : decode cX2_innerWire 39 = .ok (.iinc 2 1, 3) := by decide +kernel
set_option maxRecDepth 20000 in
theorem dX2_innerWire_42 : decode cX2_innerWire 42 = .ok (.iinc 3 1, 3) := by decide +kernel
set_option maxRecDepth 20000 in
theorem dX2_innerWire_45 : decode cX2_innerWire 45 = .ok (.goto (-41), 3) := by decide +kernel
set_option maxRecDepth 20000 in
theorem dX2_innerWire_48 : decode cX2_innerWire 48 = .ok (.iconst (-1), 1) := by decide +kernel
set_option maxRecDepth 20000 in
theorem dX2_innerWire_49 : decode cX2_innerWire 49 = .ok (.ireturn, 1) := by decide +kernel
