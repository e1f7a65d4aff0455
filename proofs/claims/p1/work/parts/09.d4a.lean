set_option maxRecDepth 20000 in
theorem dX4_init_0 : decode cX4_init 0 = .ok (.aload_n 0, 1) := by decide +kernel
set_option maxRecDepth 20000 in
theorem dX4_init_1 : decode cX4_init 1 = .ok (.invokespecial 3, 3) := by decide +kernel
set_option maxRecDepth 20000 in
theorem dX4_init_4 : decode cX4_init 4 = .ok (.aload_n 0, 1) := by decide +kernel
set_option maxRecDepth 20000 in
theorem dX4_init_5 : decode cX4_init 5 = .ok (.bipush 22, 2) := by decide +kernel
set_option maxRecDepth 20000 in
theorem dX4_init_7 : decode cX4_init 7 = .ok (.newarray .int, 2) := by decide +kernel
set_option maxRecDepth 20000 in
theorem dX4_init_9 : decode cX4_init 9 = .ok (.putfield 9, 3) := by decide +kernel
set_option maxRecDepth 20000 in
theorem dX4_init_12 : decode cX4_init 12 = .ok (.aload_n 0, 1) := by decide +kernel
set_option maxRecDepth 20000 in
theorem dX4_init_13 : decode cX4_init 13 = .ok (.bipush 22, 2) := by decide +kernel
set_option maxRecDepth 20000 in
theorem dX4_init_15 : decode cX4_init 15 = .ok (.newarray .int, 2) := by decide +kernel
set_option maxRecDepth 20000 in
theorem dX4_init_17 : decode cX4_init 17 = .ok (.putfield 15, 3) := by decide +kernel
set_option maxRecDepth 20000 in
theorem dX4_init_20 : decode cX4_init 20 = .ok (.aload_n 0, 1) := by decide +kernel
set_option maxRecDepth 20000 in
theorem dX4_init_21 : decode cX4_init 21 = .ok (.bipush 22, 2) := by decide +kernel
set_option maxRecDepth 20000 in
theorem dX4_init_23 : decode cX4_init 23 = .ok (.newarray .boolean, 2) := by decide +kernel
set_option maxRecDepth 20000 in
theorem dX4_init_25 : decode cX4_init 25 = .ok (.putfield 18, 3) := by decide +kernel
set_option maxRecDepth 20000 in
theorem dX4_init_28 : decode cX4_init 28 = .ok (.aload_n 0, 1) := by decide +kernel
set_option maxRecDepth 20000 in
theorem dX4_init_29 : decode cX4_init 29 = .ok (.bipush 22, 2) := by decide +kernel
set_option maxRecDepth 20000 in
theorem dX4_init_31 : decode cX4_init 31 = .ok (.newarray .int, 2) := by decide +kernel
set_option maxRecDepth 20000 in
theorem dX4_init_33 : decode cX4_init 33 = .ok (.putfield 22, 3) := by decide +kernel
set_option maxRecDepth 20000 in
theorem dX4_init_36 : decode cX4_init 36 = .ok (.aload_n 0, 1) := by decide +kernel
set_option maxRecDepth 20000 in
theorem dX4_init_37 : decode cX4_init 37 = .ok (.bipush 12, 2) := by decide +kernel
set_option maxRecDepth 20000 in
theorem dX4_init_39 : decode cX4_init 39 = .ok (.newarray .int, 2) := by decide +kernel
set_option maxRecDepth 20000 in
theorem dX4_init_41 : decode cX4_init 41 = .ok (.putfield 25, 3) := by decide +kernel
set_option maxRecDepth 20000 in
theorem dX4_init_44 : decode cX4_init 44 = .ok (.aload_n 0, 1) := by decide +kernel
set_option maxRecDepth 20000 in
theorem dX4_init_45 : decode cX4_init 45 = .ok (.bipush 12, 2) := by decide +kernel
set_option maxRecDepth 20000 in
theorem dX4_init_47 : decode cX4_init 47 = .ok (.newarray .int, 2) := by decide +kernel
set_option maxRecDepth 20000 in
theorem dX4_init_49 : decode cX4_init 49 = .ok (.putfield 28, 3) := by decide +kernel
set_option maxRecDepth 20000 in
theorem dX4_init_52 : decode cX4_init 52 = .ok (.aload_n 0, 1) := by decide +kernel
set_option maxRecDepth 20000 in
theorem dX4_init_53 : decode cX4_init 53 = .ok (.sipush 264, 3) := by decide +kernel
set_option maxRecDepth 20000 in
theorem dX4_init_56 : decode cX4_init 56 = .ok (.newarray .int, 2) := by decide +kernel
set_option maxRecDepth 20000 in
theorem dX4_init_58 : decode cX4_init 58 = .ok (.putfield 31, 3) := by decide +kernel
set_option maxRecDepth 20000 in
theorem dX4_init_61 : decode cX4_init 61 = .ok (.aload_n 0, 1) := by decide +kernel
set_option maxRecDepth 20000 in
theorem dX4_init_62 : decode cX4_init 62 = .ok (.iconst 0, 1) := by decide +kernel
set_option maxRecDepth 20000 in
theorem dX4_init_63 : decode cX4_init 63 = .ok (.putfield 34, 3) := by decide +kernel
set_option maxRecDepth 20000 in
theorem dX4_init_66 : decode cX4_init 66 = .ok (.aload_n 0, 1) := by decide +kernel
set_option maxRecDepth 20000 in
theorem dX4_init_67 : decode cX4_init 67 = .ok (.iconst 0, 1) := by decide +kernel
set_option maxRecDepth 20000 in
theorem dX4_init_68 : decode cX4_init 68 = .ok (.putfield 38, 3) := by decide +kernel
set_option maxRecDepth 20000 in
theorem dX4_init_71 : decode cX4_init 71 = .ok (.aload_n 0, 1) := by decide +kernel
set_option maxRecDepth 20000 in
theorem dX4_init_72 : decode cX4_init 72 = .ok (.iconst (-1), 1) := by decide +kernel
set_option maxRecDepth 20000 in
theorem dX4_init_73 : decode cX4_init 73 = .ok (.putfield 41, 3) := by decide +kernel
set_option maxRecDepth 20000 in
theorem dX4_init_76 : decode cX4_init 76 = .ok (.return_, 1) := by decide +kernel
set_option maxRecDepth 20000 in
theorem dX4_makeEmpty_0 : decode cX4_makeEmpty 0 = .ok (.aload_n 0, 1) := by decide +kernel
set_option maxRecDepth 20000 in
theorem dX4_makeEmpty_1 : decode cX4_makeEmpty 1 = .ok (.iconst 0, 1) := by decide +kernel
set_option maxRecDepth 20000 in
theorem dX4_makeEmpty_2 : decode cX4_makeEmpty 2 = .ok (.putfield 34, 3) := by decide +kernel
set_option maxRecDepth 20000 in
theorem dX4_makeEmpty_5 : decode cX4_makeEmpty 5 = .ok (.aload_n 0, 1) := by decide +kernel
set_option maxRecDepth 20000 in
theorem dX4_makeEmpty_6 : decode cX4_makeEmpty 6 = .ok (.iconst 0, 1) := by decide +kernel
set_option maxRecDepth 20000 in
theorem dX4_makeEmpty_7 : decode cX4_makeEmpty 7 = .ok (.putfield 38, 3) := by decide +kernel
set_option maxRecDepth 20000 in
theorem dX4_makeEmpty_10 : decode cX4_makeEmpty 10 = .ok (.aload_n 0, 1) := by decide +kernel
set_option maxRecDepth 20000 in
theorem dX4_makeEmpty_11 : decode cX4_makeEmpty 11 = .ok (.iconst (-1), 1) := by decide +kernel
set_option maxRecDepth 20000 in
theorem dX4_makeEmpty_12 : decode cX4_makeEmpty 12 = .ok (.putfield 41, 3) := by decide +kernel
set_option maxRecDepth 20000 in
theorem dX4_makeEmpty_15 : decode cX4_makeEmpty 15 = .ok (.return_, 1) := by decide +kernel
set_option maxRecDepth 20000 in
theorem dX4_takeFrom_0 : decode cX4_takeFrom 0 = .ok (.aload_n 0, 1) := by decide +kernel
set_option maxRecDepth 20000 in
theorem dX4_takeFrom_1 : decode cX4_takeFrom 1 = .ok (.aload_n 1, 1) := by decide +kernel
set_option maxRecDepth 20000 in
theorem dX4_takeFrom_2 : decode cX4_takeFrom 2 = .ok (.getfield 34, 3) := by decide +kernel
set_option maxRecDepth 20000 in
theorem dX4_takeFrom_5 : decode cX4_takeFrom 5 = .ok (.putfield 34, 3) := by decide +kernel
set_option maxRecDepth 20000 in
theorem dX4_takeFrom_8 : decode cX4_takeFrom 8 = .ok (.aload_n 0, 1) := by decide +kernel
set_option maxRecDepth 20000 in
theorem dX4_takeFrom_9 : decode cX4_takeFrom 9 = .ok (.aload_n 1, 1) := by decide +kernel
set_option maxRecDepth 20000 in
theorem dX4_takeFrom_10 : decode cX4_takeFrom 10 = .ok (.getfield 38, 3) := by decide +kernel
set_option maxRecDepth 20000 in
theorem dX4_takeFrom_13 : decode cX4_takeFrom 13 = .ok (.putfield 38, 3) := by decide +kernel
set_option maxRecDepth 20000 in
theorem dX4_takeFrom_16 : decode cX4_takeFrom 16 = .ok (.aload_n 0, 1) := by decide +kernel
set_option maxRecDepth 20000 in
theorem dX4_takeFrom_17 : decode cX4_takeFrom 17 = .ok (.aload_n 1, 1) := by decide +kernel
set_option maxRecDepth 20000 in
theorem dX4_takeFrom_18 : decode cX4_takeFrom 18 = .ok (.getfield 41, 3) := by decide +kernel
set_option maxRecDepth 20000 in
theorem dX4_takeFrom_21 : decode cX4_takeFrom 21 = .ok (.putfield 41, 3) := by decide +kernel
set_option maxRecDepth 20000 in
theorem dX4_takeFrom_24 : decode cX4_takeFrom 24 = .ok (.aload_n 1, 1) := by decide +kernel
set_option maxRecDepth 20000 in
theorem dX4_takeFrom_25 : decode cX4_takeFrom 25 = .ok (.getfield 9, 3) := by decide +kernel
set_option maxRecDepth 20000 in
theorem dX4_takeFrom_28 : decode cX4_takeFrom 28 = .ok (.iconst 0, 1) := by decide +kernel
set_option maxRecDepth 20000 in
theorem dX4_takeFrom_29 : decode cX4_takeFrom 29 = .ok (.aload_n 0, 1) := by decide +kernel
set_option maxRecDepth 20000 in
theorem dX4_takeFrom_30 : decode cX4_takeFrom 30 = .ok (.getfield 9, 3) := by decide +kernel
set_option maxRecDepth 20000 in
theorem dX4_takeFrom_33 : decode cX4_takeFrom 33 = .ok (.iconst 0, 1) := by decide +kernel
set_option maxRecDepth 20000 in
theorem dX4_takeFrom_34 : decode cX4_takeFrom 34 = .ok (.bipush 22, 2) := by decide +kernel
set_option maxRecDepth 20000 in
theorem dX4_takeFrom_36 : decode cX4_takeFrom 36 = .ok (.invokestatic 44, 3) := by decide +kernel
set_option maxRecDepth 20000 in
theorem dX4_takeFrom_39 : decode cX4_takeFrom 39 = .ok (.aload_n 1, 1) := by decide +kernel
set_option maxRecDepth 20000 in
theorem dX4_takeFrom_40 : decode cX4_takeFrom 40 = .ok (.getfield 15, 3) := by decide +kernel
set_option maxRecDepth 20000 in
theorem dX4_takeFrom_43 : decode cX4_takeFrom 43 = .ok (.iconst 0, 1) := by decide +kernel
set_option maxRecDepth 20000 in
theorem dX4_takeFrom_44 : decode cX4_takeFrom 44 = .ok (.aload_n 0, 1) := by decide +kernel
set_option maxRecDepth 20000 in
theorem dX4_takeFrom_45 : decode cX4_takeFrom 45 = .ok (.getfield 15, 3) := by decide +kernel
set_option maxRecDepth 20000 in
theorem dX4_takeFrom_48 : decode cX4_takeFrom 48 = .ok (.iconst 0, 1) := by decide +kernel
set_option maxRecDepth 20000 in
theorem dX4_takeFrom_49 : decode cX4_takeFrom 49 = .ok (.bipush 22, 2) := by decide +kernel
set_option maxRecDepth 20000 in
theorem dX4_takeFrom_51 : decode cX4_takeFrom 51 = .ok (.invokestatic 44, 3) := by decide +kernel
set_option maxRecDepth 20000 in
theorem dX4_takeFrom_54 : decode cX4_takeFrom 54 = .ok (.aload_n 1, 1) := by decide +kernel
set_option maxRecDepth 20000 in
theorem dX4_takeFrom_55 : decode cX4_takeFrom 55 = .ok (.getfield 18, 3) := by decide +kernel
set_option maxRecDepth 20000 in
theorem dX4_takeFrom_58 : decode cX4_takeFrom 58 = .ok (.iconst 0, 1) := by decide +kernel
set_option maxRecDepth 20000 in
theorem dX4_takeFrom_59 : decode cX4_takeFrom 59 = .ok (.aload_n 0, 1) := by decide +kernel
set_option maxRecDepth 20000 in
theorem dX4_takeFrom_60 : decode cX4_takeFrom 60 = .ok (.getfield 18, 3) := by decide +kernel
set_option maxRecDepth 20000 in
theorem dX4_takeFrom_63 : decode cX4_takeFrom 63 = .ok (.iconst 0, 1) := by decide +kernel
set_option maxRecDepth 20000 in
theorem dX4_takeFrom_64 : decode cX4_takeFrom 64 = .ok (.bipush 22, 2) := by decide +kernel
set_option maxRecDepth 20000 in
theorem dX4_takeFrom_66 : decode cX4_takeFrom 66 = .ok (.invokestatic 44, 3) := by decide +kernel
set_option maxRecDepth 20000 in
theorem dX4_takeFrom_69 : decode cX4_takeFrom 69 = .ok (.aload_n 1, 1) := by decide +kernel
set_option maxRecDepth 20000 in
theorem dX4_takeFrom_70 : decode cX4_takeFrom 70 = .ok (.getfield 22, 3) := by decide +kernel
set_option maxRecDepth 20000 in
theorem dX4_takeFrom_73 : decode cX4_takeFrom 73 = .ok (.iconst 0, 1) := by decide +kernel
set_option maxRecDepth 20000 in
theorem dX4_takeFrom_74 : decode cX4_takeFrom 74 = .ok (.aload_n 0, 1) := by decide +kernel
set_option maxRecDepth 20000 in
theorem dX4_takeFrom_75 : decode cX4_takeFrom 75 = .ok (.getfield 22, 3) := by decide +kernel
set_option maxRecDepth 20000 in
theorem dX4_takeFrom_78 : decode cX4_takeFrom 78 = .ok (.iconst 0, 1) := by decide +kernel
set_option maxRecDepth 20000 in
theorem dX4_takeFrom_79 : decode cX4_takeFrom 79 = .ok (.bipush 22, 2) := by decide +kernel
set_option maxRecDepth 20000 in
theorem dX4_takeFrom_81 : decode cX4_takeFrom 81 = .ok (.invokestatic 44, 3) := by decide +kernel
set_option maxRecDepth 20000 in
theorem dX4_takeFrom_84 : decode cX4_takeFrom 84 = .ok (.aload_n 1, 1) := by decide +kernel
set_option maxRecDepth 20000 in
theorem dX4_takeFrom_85 : decode cX4_takeFrom 85 = .ok (.getfield 25, 3) := by decide +kernel
set_option maxRecDepth 20000 in
theorem dX4_takeFrom_88 : decode cX4_takeFrom 88 = .ok (.iconst 0, 1) := by decide +kernel
set_option maxRecDepth 20000 in
theorem dX4_takeFrom_89 : decode cX4_takeFrom 89 = .ok (.aload_n 0, 1) := by decide +kernel
set_option maxRecDepth 20000 in
theorem dX4_takeFrom_90 : decode cX4_takeFrom 90 = .ok (.getfield 25, 3) := by decide +kernel
set_option maxRecDepth 20000 in
theorem dX4_takeFrom_93 : decode cX4_takeFrom 93 = .ok (.iconst 0, 1) := by decide +kernel
set_option maxRecDepth 20000 in
theorem dX4_takeFrom_94 : decode cX4_takeFrom 94 = .ok (.bipush 12, 2) := by decide +kernel
set_option maxRecDepth 20000 in
theorem dX4_takeFrom_96 : decode cX4_takeFrom 96 = .ok (.invokestatic 44, 3) := by decide +kernel
set_option maxRecDepth 20000 in
theorem dX4_takeFrom_99 : decode cX4_takeFrom 99 = .ok (.aload_n 1, 1) := by decide +kernel
set_option maxRecDepth 20000 in
theorem dX4_takeFrom_100 : decode cX4_takeFrom 100 = .ok (.getfield 28, 3) := by decide +kernel
set_option maxRecDepth 20000 in
theorem dX4_takeFrom_103 : decode cX4_takeFrom 103 = .ok (.iconst 0, 1) := by decide +kernel
set_option maxRecDepth 20000 in
theorem dX4_takeFrom_104 : decode cX4_takeFrom 104 = .ok (.aload_n 0, 1) := by decide +kernel
set_option maxRecDepth 20000 in
theorem dX4_takeFrom_105 : decode cX4_takeFrom 105 = .ok (.getfield 28, 3) := by decide +kernel
set_option maxRecDepth 20000 in
theorem dX4_takeFrom_108 : decode cX4_takeFrom 108 = .ok (.iconst 0, 1) := by decide +kernel
set_option maxRecDepth 20000 in
theorem dX4_takeFrom_109 : decode cX4_takeFrom 109 = .ok (.bipush 12, 2) := by decide +kernel
set_option maxRecDepth 20000 in
theorem dX4_takeFrom_111 : decode cX4_takeFrom 111 = .ok (.invokestatic 44, 3) := by decide +kernel
set_option maxRecDepth 20000 in
theorem dX4_takeFrom_114 : decode cX4_takeFrom 114 = .ok (.aload_n 1, 1) := by decide +kernel
set_option maxRecDepth 20000 in
theorem dX4_takeFrom_115 : decode cX4_takeFrom 115 = .ok (.getfield 31, 3) := by decide +kernel
set_option maxRecDepth 20000 in
theorem dX4_takeFrom_118 : decode cX4_takeFrom 118 = .ok (.iconst 0, 1) := by decide +kernel
set_option maxRecDepth 20000 in
theorem dX4_takeFrom_119 : decode cX4_takeFrom 119 = .ok (.aload_n 0, 1) := by decide +kernel
set_option maxRecDepth 20000 in
theorem dX4_takeFrom_120 : decode cX4_takeFrom 120 = .ok (.getfield 31, 3) := by decide +kernel
set_option maxRecDepth 20000 in
theorem dX4_takeFrom_123 : decode cX4_takeFrom 123 = .ok (.iconst 0, 1) := by decide +kernel
set_option maxRecDepth 20000 in
theorem dX4_takeFrom_124 : decode cX4_takeFrom 124 = .ok (.sipush 264, 3) := by decide +kernel
set_option maxRecDepth 20000 in
theorem dX4_takeFrom_127 : decode cX4_takeFrom 127 = .ok (.invokestatic 44, 3) := by decide +kernel
set_option maxRecDepth 20000 in
theorem dX4_takeFrom_130 : decode cX4_takeFrom 130 = .ok (.return_, 1) := by decide +kernel
set_option maxRecDepth 20000 in
theorem dX4_isKnot_0 : decode cX4_isKnot 0 = .ok (.iload_n 1, 1) := by decide +kernel
set_option maxRecDepth 20000 in
theorem dX4_isKnot_1 : decode cX4_isKnot 1 = .ok (.ifCond .lt 15, 3) := by decide +kernel
set_option maxRecDepth 20000 in
theorem dX4_isKnot_4 : decode cX4_isKnot 4 = .ok (.iload_n 1, 1) := by decide +kernel
set_option maxRecDepth 20000 in
theorem dX4_isKnot_5 : decode cX4_isKnot 5 = .ok (.aload_n 0, 1) := by decide +kernel
set_option maxRecDepth 20000 in
theorem dX4_isKnot_6 : decode cX4_isKnot 6 = .ok (.getfield 34, 3) := by decide +kernel
set_option maxRecDepth 20000 in
theorem dX4_isKnot_9 : decode cX4_isKnot 9 = .ok (.if_icmp .ge 7, 3) := by decide +kernel
set_option maxRecDepth 20000 in
theorem dX4_isKnot_12 : decode cX4_isKnot 12 = .ok (.iconst 1, 1) := by decide +kernel
set_option maxRecDepth 20000 in
theorem dX4_isKnot_13 : decode cX4_isKnot 13 = .ok (.goto 4, 3) := by decide +kernel
set_option maxRecDepth 20000 in
theorem dX4_isKnot_16 : decode cX4_isKnot 16 = .ok (.iconst 0, 1) := by decide +kernel
set_option maxRecDepth 20000 in
theorem dX4_isKnot_17 : decode cX4_isKnot 17 = .ok (.ireturn, 1) := by decide +kernel
set_option maxRecDepth 20000 in
theorem dX4_isWire_0 : decode cX4_isWire 0 = .ok (.iload_n 1, 1) := by decide +kernel
set_option maxRecDepth 20000 in
theorem dX4_isWire_1 : decode cX4_isWire 1 = .ok (.ifCond .lt 15, 3) := by decide +kernel
set_option maxRecDepth 20000 in
theorem dX4_isWire_4 : decode cX4_isWire 4 = .ok (.iload_n 1, 1) := by decide +kernel
set_option maxRecDepth 20000 in
theorem dX4_isWire_5 : decode cX4_isWire 5 = .ok (.aload_n 0, 1) := by decide +kernel
set_option maxRecDepth 20000 in
theorem dX4_isWire_6 : decode cX4_isWire 6 = .ok (.getfield 38, 3) := by decide +kernel
set_option maxRecDepth 20000 in
theorem dX4_isWire_9 : decode cX4_isWire 9 = .ok (.if_icmp .ge 7, 3) := by decide +kernel
set_option maxRecDepth 20000 in
theorem dX4_isWire_12 : decode cX4_isWire 12 = .ok (.iconst 1, 1) := by decide +kernel
set_option maxRecDepth 20000 in
theorem dX4_isWire_13 : decode cX4_isWire 13 = .ok (.goto 4, 3) := by decide +kernel
set_option maxRecDepth 20000 in
theorem dX4_isWire_16 : decode cX4_isWire 16 = .ok (.iconst 0, 1) := by decide +kernel
set_option maxRecDepth 20000 in
theorem dX4_isWire_17 : decode cX4_isWire 17 = .ok (.ireturn, 1) := by decide +kernel
set_option maxRecDepth 20000 in
theorem dX4_isPlain_0 : decode cX4_isPlain 0 = .ok (.iload_n 1, 1) := by decide +kernel
set_option maxRecDepth 20000 in
theorem dX4_isPlain_1 : decode cX4_isPlain 1 = .ok (.aload_n 0, 1) := by decide +kernel
set_option maxRecDepth 20000 in
theorem dX4_isPlain_2 : decode cX4_isPlain 2 = .ok (.getfield 41, 3) := by decide +kernel
set_option maxRecDepth 20000 in
theorem dX4_isPlain_5 : decode cX4_isPlain 5 = .ok (.if_icmp .eq 16, 3) := by decide +kernel
set_option maxRecDepth 20000 in
theorem dX4_isPlain_8 : decode cX4_isPlain 8 = .ok (.aload_n 0, 1) := by decide +kernel
set_option maxRecDepth 20000 in
theorem dX4_isPlain_9 : decode cX4_isPlain 9 = .ok (.getfield 18, 3) := by decide +kernel
set_option maxRecDepth 20000 in
theorem dX4_isPlain_12 : decode cX4_isPlain 12 = .ok (.iload_n 1, 1) := by decide +kernel
set_option maxRecDepth 20000 in
theorem dX4_isPlain_13 : decode cX4_isPlain 13 = .ok (.baload, 1) := by decide +kernel
set_option maxRecDepth 20000 in
theorem dX4_isPlain_14 : decode cX4_isPlain 14 = .ok (.ifCond .ne 7, 3) := by decide +kernel
set_option maxRecDepth 20000 in
theorem dX4_isPlain_17 : decode cX4_isPlain 17 = .ok (.iconst 1, 1) := by decide +kernel
set_option maxRecDepth 20000 in
theorem dX4_isPlain_18 : decode cX4_isPlain 18 = .ok (.goto 4, 3) := by decide +kernel
set_option maxRecDepth 20000 in
theorem dX4_isPlain_21 : decode cX4_isPlain 21 = .ok (.iconst 0, 1) := by decide +kernel
set_option maxRecDepth 20000 in
theorem dX4_isPlain_22 : decode cX4_isPlain 22 = .ok (.ireturn, 1) := by decide +kernel
set_option maxRecDepth 20000 in
theorem dX4_endsAt_0 : decode cX4_endsAt 0 = .ok (.aload_n 0, 1) := by decide +kernel
set_option maxRecDepth 20000 in
theorem dX4_endsAt_1 : decode cX4_endsAt 1 = .ok (.getfield 9, 3) := by decide +kernel
set_option maxRecDepth 20000 in
theorem dX4_endsAt_4 : decode cX4_endsAt 4 = .ok (.iload_n 1, 1) := by decide +kernel
set_option maxRecDepth 20000 in
theorem dX4_endsAt_5 : decode cX4_endsAt 5 = .ok (.iaload, 1) := by decide +kernel
set_option maxRecDepth 20000 in
theorem dX4_endsAt_6 : decode cX4_endsAt 6 = .ok (.iload_n 2, 1) := by decide +kernel
set_option maxRecDepth 20000 in
theorem dX4_endsAt_7 : decode cX4_endsAt 7 = .ok (.if_icmp .eq 13, 3) := by decide +kernel
set_option maxRecDepth 20000 in
theorem dX4_endsAt_10 : decode cX4_endsAt 10 = .ok (.aload_n 0, 1) := by decide +kernel
set_option maxRecDepth 20000 in
theorem dX4_endsAt_11 : decode cX4_endsAt 11 = .ok (.getfield 15, 3) := by decide +kernel
set_option maxRecDepth 20000 in
theorem dX4_endsAt_14 : decode cX4_endsAt 14 = .ok (.iload_n 1, 1) := by decide +kernel
set_option maxRecDepth 20000 in
theorem dX4_endsAt_15 : decode cX4_endsAt 15 = .ok (.iaload, 1) := by decide +kernel
set_option maxRecDepth 20000 in
theorem dX4_endsAt_16 : decode cX4_endsAt 16 = .ok (.iload_n 2, 1) := by decide +kernel
set_option maxRecDepth 20000 in
theorem dX4_endsAt_17 : decode cX4_endsAt 17 = .ok (.if_icmp .ne 7, 3) := by decide +kernel
set_option maxRecDepth 20000 in
theorem dX4_endsAt_20 : decode cX4_endsAt 20 = .ok (.iconst 1, 1) := by decide +kernel
set_option maxRecDepth 20000 in
theorem dX4_endsAt_21 : decode cX4_endsAt 21 = .ok (.goto 4, 3) := by decide +kernel
set_option maxRecDepth 20000 in
theorem dX4_endsAt_24 : decode cX4_endsAt 24 = .ok (.iconst 0, 1) := by decide +kernel
set_option maxRecDepth 20000 in
theorem dX4_endsAt_25 : decode cX4_endsAt 25 = .ok (.ireturn, 1) := by decide +kernel
set_option maxRecDepth 20000 in
theorem dX4_addKnot_0 : decode cX4_addKnot 0 = .ok (.aload_n 0, 1) := by decide +kernel
set_option maxRecDepth 20000 in
theorem dX4_addKnot_1 : decode cX4_addKnot 1 = .ok (.getfield 28, 3) := by decide +kernel
set_option maxRecDepth 20000 in
theorem dX4_addKnot_4 : decode cX4_addKnot 4 = .ok (.aload_n 0, 1) := by decide +kernel
set_option maxRecDepth 20000 in
theorem dX4_addKnot_5 : decode cX4_addKnot 5 = .ok (.getfield 34, 3) := by decide +kernel
set_option maxRecDepth 20000 in
theorem dX4_addKnot_8 : decode cX4_addKnot 8 = .ok (.iconst 0, 1) := by decide +kernel
set_option maxRecDepth 20000 in
theorem dX4_addKnot_9 : decode cX4_addKnot 9 = .ok (.iastore, 1) := by decide +kernel
set_option maxRecDepth 20000 in
theorem dX4_addKnot_10 : decode cX4_addKnot 10 = .ok (.aload_n 0, 1) := by decide +kernel
set_option maxRecDepth 20000 in
theorem dX4_addKnot_11 : decode cX4_addKnot 11 = .ok (.getfield 25, 3) := by decide +kernel
set_option maxRecDepth 20000 in
theorem dX4_addKnot_14 : decode cX4_addKnot 14 = .ok (.aload_n 0, 1) := by decide +kernel
set_option maxRecDepth 20000 in
theorem dX4_addKnot_15 : decode cX4_addKnot 15 = .ok (.getfield 34, 3) := by decide +kernel
set_option maxRecDepth 20000 in
theorem dX4_addKnot_18 : decode cX4_addKnot 18 = .ok (.iconst 0, 1) := by decide +kernel
set_option maxRecDepth 20000 in
theorem dX4_addKnot_19 : decode cX4_addKnot 19 = .ok (.iastore, 1) := by decide +kernel
set_option maxRecDepth 20000 in
theorem dX4_addKnot_20 : decode cX4_addKnot 20 = .ok (.aload_n 0, 1) := by decide +kernel
set_option maxRecDepth 20000 in
theorem dX4_addKnot_21 : decode cX4_addKnot 21 = .ok (.dup, 1) := by decide +kernel
set_option maxRecDepth 20000 in
theorem dX4_addKnot_22 : decode cX4_addKnot 22 = .ok (.getfield 34, 3) := by decide +kernel
set_option maxRecDepth 20000 in
theorem dX4_addKnot_25 : decode cX4_addKnot 25 = .ok (.iconst 1, 1) := by decide +kernel
set_option maxRecDepth 20000 in
theorem dX4_addKnot_26 : decode cX4_addKnot 26 = .ok (.iadd, 1) := by decide +kernel
set_option maxRecDepth 20000 in
theorem dX4_addKnot_27 : decode cX4_addKnot 27 = .ok (.putfield 34, 3) := by decide +kernel
set_option maxRecDepth 20000 in
theorem dX4_addKnot_30 : decode cX4_addKnot 30 = .ok (.aload_n 0, 1) := by decide +kernel
set_option maxRecDepth 20000 in
theorem dX4_addKnot_31 : decode cX4_addKnot 31 = .ok (.getfield 34, 3) := by decide +kernel
set_option maxRecDepth 20000 in
theorem dX4_addKnot_34 : decode cX4_addKnot 34 = .ok (.iconst 1, 1) := by decide +kernel
set_option maxRecDepth 20000 in
theorem dX4_addKnot_35 : decode cX4_addKnot 35 = .ok (.isub, 1) := by decide +kernel
set_option maxRecDepth 20000 in
theorem dX4_addKnot_36 : decode cX4_addKnot 36 = .ok (.ireturn, 1) := by decide +kernel
set_option maxRecDepth 20000 in
theorem dX4_addWire_0 : decode cX4_addWire 0 = .ok (.aload_n 0, 1) := by decide +kernel
set_option maxRecDepth 20000 in
theorem dX4_addWire_1 : decode cX4_addWire 1 = .ok (.getfield 9, 3) := by decide +kernel
set_option maxRecDepth 20000 in
theorem dX4_addWire_4 : decode cX4_addWire 4 = .ok (.aload_n 0, 1) := by decide +kernel
set_option maxRecDepth 20000 in
theorem dX4_addWire_5 : decode cX4_addWire 5 = .ok (.getfield 38, 3) := by decide +kernel
set_option maxRecDepth 20000 in
theorem dX4_addWire_8 : decode cX4_addWire 8 = .ok (.iload_n 1, 1) := by decide +kernel
set_option maxRecDepth 20000 in
theorem dX4_addWire_9 : decode cX4_addWire 9 = .ok (.iastore, 1) := by decide +kernel
set_option maxRecDepth 20000 in
theorem dX4_addWire_10 : decode cX4_addWire 10 = .ok (.aload_n 0, 1) := by decide +kernel
set_option maxRecDepth 20000 in
theorem dX4_addWire_11 : decode cX4_addWire 11 = .ok (.getfield 15, 3) := by decide +kernel
set_option maxRecDepth 20000 in
theorem dX4_addWire_14 : decode cX4_addWire 14 = .ok (.aload_n 0, 1) := by decide +kernel
set_option maxRecDepth 20000 in
theorem dX4_addWire_15 : decode cX4_addWire 15 = .ok (.getfield 38, 3) := by decide +kernel
set_option maxRecDepth 20000 in
theorem dX4_addWire_18 : decode cX4_addWire 18 = .ok (.iload_n 2, 1) := by decide +kernel
set_option maxRecDepth 20000 in
theorem dX4_addWire_19 : decode cX4_addWire 19 = .ok (.iastore, 1) := by decide +kernel
set_option maxRecDepth 20000 in
theorem dX4_addWire_20 : decode cX4_addWire 20 = .ok (.aload_n 0, 1) := by decide +kernel
set_option maxRecDepth 20000 in
theorem dX4_addWire_21 : decode cX4_addWire 21 = .ok (.getfield 18, 3) := by decide +kernel
set_option maxRecDepth 20000 in
theorem dX4_addWire_24 : decode cX4_addWire 24 = .ok (.aload_n 0, 1) := by decide +kernel
set_option maxRecDepth 20000 in
theorem dX4_addWire_25 : decode cX4_addWire 25 = .ok (.getfield 38, 3) := by decide +kernel
set_option maxRecDepth 20000 in
theorem dX4_addWire_28 : decode cX4_addWire 28 = .ok (.iconst 0, 1) := by decide +kernel
set_option maxRecDepth 20000 in
theorem dX4_addWire_29 : decode cX4_addWire 29 = .ok (.bastore, 1) := by decide +kernel
set_option maxRecDepth 20000 in
theorem dX4_addWire_30 : decode cX4_addWire 30 = .ok (.aload_n 0, 1) := by decide +kernel
set_option maxRecDepth 20000 in
theorem dX4_addWire_31 : decode cX4_addWire 31 = .ok (.getfield 22, 3) := by decide +kernel
set_option maxRecDepth 20000 in
theorem dX4_addWire_34 : decode cX4_addWire 34 = .ok (.aload_n 0, 1) := by decide +kernel
set_option maxRecDepth 20000 in
theorem dX4_addWire_35 : decode cX4_addWire 35 = .ok (.getfield 38, 3) := by decide +kernel
set_option maxRecDepth 20000 in
theorem dX4_addWire_38 : decode cX4_addWire 38 = .ok (.iconst 0, 1) := by decide +kernel
set_option maxRecDepth 20000 in
theorem dX4_addWire_39 : decode cX4_addWire 39 = .ok (.iastore, 1) := by decide +kernel
set_option maxRecDepth 20000 in
theorem dX4_addWire_40 : decode cX4_addWire 40 = .ok (.aload_n 0, 1) := by decide +kernel
set_option maxRecDepth 20000 in
theorem dX4_addWire_41 : decode cX4_addWire 41 = .ok (.dup, 1) := by decide +kernel
set_option maxRecDepth 20000 in
theorem dX4_addWire_42 : decode cX4_addWire 42 = .ok (.getfield 38, 3) := by decide +kernel
set_option maxRecDepth 20000 in
theorem dX4_addWire_45 : decode cX4_addWire 45 = .ok (.iconst 1, 1) := by decide +kernel
set_option maxRecDepth 20000 in
theorem dX4_addWire_46 : decode cX4_addWire 46 = .ok (.iadd, 1) := by decide +kernel
set_option maxRecDepth 20000 in
theorem dX4_addWire_47 : decode cX4_addWire 47 = .ok (.putfield 38, 3) := by decide +kernel
set_option maxRecDepth 20000 in
theorem dX4_addWire_50 : decode cX4_addWire 50 = .ok (.aload_n 0, 1) := by decide +kernel
set_option maxRecDepth 20000 in
theorem dX4_addWire_51 : decode cX4_addWire 51 = .ok (.getfield 38, 3) := by decide +kernel
set_option maxRecDepth 20000 in
theorem dX4_addWire_54 : decode cX4_addWire 54 = .ok (.iconst 1, 1) := by decide +kernel
set_option maxRecDepth 20000 in
theorem dX4_addWire_55 : decode cX4_addWire 55 = .ok (.isub, 1) := by decide +kernel
set_option maxRecDepth 20000 in
theorem dX4_addWire_56 : decode cX4_addWire 56 = .ok (.ireturn, 1) := by decide +kernel
set_option maxRecDepth 20000 in
theorem dX4_wireInTurn_0 : decode cX4_wireInTurn 0 = .ok (.aload_n 0, 1) := by decide +kernel
set_option maxRecDepth 20000 in
theorem dX4_wireInTurn_1 : decode cX4_wireInTurn 1 = .ok (.getfield 31, 3) := by decide +kernel
set_option maxRecDepth 20000 in
theorem dX4_wireInTurn_4 : decode cX4_wireInTurn 4 = .ok (.iload_n 1, 1) := by decide +kernel
set_option maxRecDepth 20000 in
theorem dX4_wireInTurn_5 : decode cX4_wireInTurn 5 = .ok (.bipush 22, 2) := by decide +kernel
set_option maxRecDepth 20000 in
theorem dX4_wireInTurn_7 : decode cX4_wireInTurn 7 = .ok (.imul, 1) := by decide +kernel
set_option maxRecDepth 20000 in
theorem dX4_wireInTurn_8 : decode cX4_wireInTurn 8 = .ok (.iload_n 2, 1) := by decide +kernel
set_option maxRecDepth 20000 in
theorem dX4_wireInTurn_9 : decode cX4_wireInTurn 9 = .ok (.iadd, 1) := by decide +kernel
set_option maxRecDepth 20000 in
theorem dX4_wireInTurn_10 : decode cX4_wireInTurn 10 = .ok (.iaload, 1) := by decide +kernel
set_option maxRecDepth 20000 in
theorem dX4_wireInTurn_11 : decode cX4_wireInTurn 11 = .ok (.ireturn, 1) := by decide +kernel
set_option maxRecDepth 20000 in
theorem dX4_addToTurn_0 : decode cX4_addToTurn 0 = .ok (.aload_n 0, 1) := by decide +kernel
set_option maxRecDepth 20000 in
theorem dX4_addToTurn_1 : decode cX4_addToTurn 1 = .ok (.getfield 28, 3) := by decide +kernel
set_option maxRecDepth 20000 in
theorem dX4_addToTurn_4 : decode cX4_addToTurn 4 = .ok (.iload_n 1, 1) := by decide +kernel
set_option maxRecDepth 20000 in
theorem dX4_addToTurn_5 : decode cX4_addToTurn 5 = .ok (.iaload, 1) := by decide +kernel
set_option maxRecDepth 20000 in
theorem dX4_addToTurn_6 : decode cX4_addToTurn 6 = .ok (.bipush 22, 2) := by decide +kernel
set_option maxRecDepth 20000 in
theorem dX4_addToTurn_8 : decode cX4_addToTurn 8 = .ok (.if_icmp .ge 30, 3) := by decide +kernel
set_option maxRecDepth 20000 in
theorem dX4_addToTurn_11 : decode cX4_addToTurn 11 = .ok (.aload_n 0, 1) := by decide +kernel
set_option maxRecDepth 20000 in
theorem dX4_addToTurn_12 : decode cX4_addToTurn 12 = .ok (.getfield 31, 3) := by decide +kernel
set_option maxRecDepth 20000 in
theorem dX4_addToTurn_15 : decode cX4_addToTurn 15 = .ok (.iload_n 1, 1) := by decide +kernel
set_option maxRecDepth 20000 in
theorem dX4_addToTurn_16 : decode cX4_addToTurn 16 = .ok (.bipush 22, 2) := by decide +kernel
set_option maxRecDepth 20000 in
theorem dX4_addToTurn_18 : decode cX4_addToTurn 18 = .ok (.imul, 1) := by decide +kernel
set_option maxRecDepth 20000 in
theorem dX4_addToTurn_19 : decode cX4_addToTurn 19 = .ok (.aload_n 0, 1) := by decide +kernel
set_option maxRecDepth 20000 in
theorem dX4_addToTurn_20 : decode cX4_addToTurn 20 = .ok (.getfield 28, 3) := by decide +kernel
set_option maxRecDepth 20000 in
theorem dX4_addToTurn_23 : decode cX4_addToTurn 23 = .ok (.iload_n 1, 1) := by decide +kernel
set_option maxRecDepth 20000 in
theorem dX4_addToTurn_24 : decode cX4_addToTurn 24 = .ok (.iaload, 1) := by decide +kernel
set_option maxRecDepth 20000 in
theorem dX4_addToTurn_25 : decode cX4_addToTurn 25 = .ok (.iadd, 1) := by decide +kernel
set_option maxRecDepth 20000 in
theorem dX4_addToTurn_26 : decode cX4_addToTurn 26 = .ok (.iload_n 2, 1) := by decide +kernel
set_option maxRecDepth 20000 in
theorem dX4_addToTurn_27 : decode cX4_addToTurn 27 = .ok (.iastore, 1) := by decide +kernel
set_option maxRecDepth 20000 in
theorem dX4_addToTurn_28 : decode cX4_addToTurn 28 = .ok (.aload_n 0, 1) := by decide +kernel
set_option maxRecDepth 20000 in
theorem dX4_addToTurn_29 : decode cX4_addToTurn 29 = .ok (.getfield 28, 3) := by decide +kernel
set_option maxRecDepth 20000 in
theorem dX4_addToTurn_32 : decode cX4_addToTurn 32 = .ok (.iload_n 1, 1) := by decide +kernel
set_option maxRecDepth 20000 in
theorem dX4_addToTurn_33 : decode cX4_addToTurn 33 = .ok (.dup2, 1) := by decide +kernel
set_option maxRecDepth 20000 in
theorem dX4_addToTurn_34 : decode cX4_addToTurn 34 = .ok (.iaload, 1) := by decide +kernel
set_option maxRecDepth 20000 in
theorem dX4_addToTurn_35 : decode cX4_addToTurn 35 = .ok (.iconst 1, 1) := by decide +kernel
set_option maxRecDepth 20000 in
theorem dX4_addToTurn_36 : decode cX4_addToTurn 36 = .ok (.iadd, 1) := by decide +kernel
set_option maxRecDepth 20000 in
theorem dX4_addToTurn_37 : decode cX4_addToTurn 37 = .ok (.iastore, 1) := by decide +kernel
set_option maxRecDepth 20000 in
theorem dX4_addToTurn_38 : decode cX4_addToTurn 38 = .ok (.return_, 1) := by decide +kernel
set_option maxRecDepth 20000 in
theorem dX4_spotInTurn_0 : decode cX4_spotInTurn 0 = .ok (.iconst 0, 1) := by decide +kernel
set_option maxRecDepth 20000 in
theorem dX4_spotInTurn_1 : decode cX4_spotInTurn 1 = .ok (.istore_n 3, 1) := by decide +kernel
set_option maxRecDepth 20000 in
theorem dX4_spotInTurn_2 : decode cX4_spotInTurn 2 = .ok (.iload_n 3, 1) := by decide +kernel
set_option maxRecDepth 20000 in
theorem dX4_spotInTurn_3 : decode cX4_spotInTurn 3 = .ok (.aload_n 0, 1) := by decide +kernel
set_option maxRecDepth 20000 in
theorem dX4_spotInTurn_4 : decode cX4_spotInTurn 4 = .ok (.getfield 28, 3) := by decide +kernel
set_option maxRecDepth 20000 in
theorem dX4_spotInTurn_7 : decode cX4_spotInTurn 7 = .ok (.iload_n 1, 1) := by decide +kernel
set_option maxRecDepth 20000 in
theorem dX4_spotInTurn_8 : decode cX4_spotInTurn 8 = .ok (.iaload, 1) := by decide +kernel
set_option maxRecDepth 20000 in
theorem dX4_spotInTurn_9 : decode cX4_spotInTurn 9 = .ok (.if_icmp .ge 26, 3) := by decide +kernel
set_option maxRecDepth 20000 in
theorem dX4_spotInTurn_12 : decode cX4_spotInTurn 12 = .ok (.aload_n 0, 1) := by decide +kernel
set_option maxRecDepth 20000 in
theorem dX4_spotInTurn_13 : decode cX4_spotInTurn 13 = .ok (.getfield 31, 3) := by decide +kernel
set_option maxRecDepth 20000 in
theorem dX4_spotInTurn_16 : decode cX4_spotInTurn 16 = .ok (.iload_n 1, 1) := by decide +kernel
set_option maxRecDepth 20000 in
theorem dX4_spotInTurn_17 : decode cX4_spotInTurn 17 = .ok (.bipush 22, 2) := by decide +kernel
set_option maxRecDepth 20000 in
theorem dX4_spotInTurn_19 : decode cX4_spotInTurn 19 = .ok (.imul, 1) := by decide +kernel
set_option maxRecDepth 20000 in
theorem dX4_spotInTurn_20 : decode cX4_spotInTurn 20 = .ok (.iload_n 3, 1) := by decide +kernel
set_option maxRecDepth 20000 in
theorem dX4_spotInTurn_21 : decode cX4_spotInTurn 21 = .ok (.iadd, 1) := by decide +kernel
set_option maxRecDepth 20000 in
theorem dX4_spotInTurn_22 : decode cX4_spotInTurn 22 = .ok (.iaload, 1) := by decide +kernel
set_option maxRecDepth 20000 in
theorem dX4_spotInTurn_23 : decode cX4_spotInTurn 23 = .ok (.iload_n 2, 1) := by decide +kernel
set_option maxRecDepth 20000 in
theorem dX4_spotInTurn_24 : decode cX4_spotInTurn 24 = .ok (.if_icmp .ne 5, 3) := by decide +kernel
set_option maxRecDepth 20000 in
theorem dX4_spotInTurn_27 : decode cX4_spotInTurn 27 = .ok (.iload_n 3, 1) := by decide +kernel
set_option maxRecDepth 20000 in
theorem dX4_spotInTurn_28 : decode cX4_spotInTurn 28 = .ok (.ireturn, 1) := by decide +kernel
set_option maxRecDepth 20000 in
theorem dX4_spotInTurn_29 : decode cX4_spotInTurn 29 = .ok (.iinc 3 1, 3) := by decide +kernel
set_option maxRecDepth 20000 in
theorem dX4_spotInTurn_32 : decode cX4_spotInTurn 32 = .ok (.goto (-30), 3) := by decide +kernel
set_option maxRecDepth 20000 in
theorem dX4_spotInTurn_35 : decode cX4_spotInTurn 35 = .ok (.iconst (-1), 1) := by decide +kernel
set_option maxRecDepth 20000 in
theorem dX4_spotInTurn_36 : decode cX4_spotInTurn 36 = .ok (.ireturn, 1) := by decide +kernel
set_option maxRecDepth 20000 in
theorem dX4_reverseTurn_0 : decode cX4_reverseTurn 0 = .ok (.iload_n 1, 1) := by decide +kernel
set_option maxRecDepth 20000 in
theorem dX4_reverseTurn_1 : decode cX4_reverseTurn 1 = .ok (.bipush 22, 2) := by decide +kernel
set_option maxRecDepth 20000 in
theorem dX4_reverseTurn_3 : decode cX4_reverseTurn 3 = .ok (.imul, 1) := by decide +kernel
set_option maxRecDepth 20000 in
theorem dX4_reverseTurn_4 : decode cX4_reverseTurn 4 = .ok (.istore_n 2, 1) := by decide +kernel
set_option maxRecDepth 20000 in
theorem dX4_reverseTurn_5 : decode cX4_reverseTurn 5 = .ok (.iload_n 2, 1) := by decide +kernel
set_option maxRecDepth 20000 in
theorem dX4_reverseTurn_6 : decode cX4_reverseTurn 6 = .ok (.aload_n 0, 1) := by decide +kernel
set_option maxRecDepth 20000 in
theorem dX4_reverseTurn_7 : decode cX4_reverseTurn 7 = .ok (.getfield 28, 3) := by decide +kernel
set_option maxRecDepth 20000 in
theorem dX4_reverseTurn_10 : decode cX4_reverseTurn 10 = .ok (.iload_n 1, 1) := by decide +kernel
set_option maxRecDepth 20000 in
theorem dX4_reverseTurn_11 : decode cX4_reverseTurn 11 = .ok (.iaload, 1) := by decide +kernel
set_option maxRecDepth 20000 in
theorem dX4_reverseTurn_12 : decode cX4_reverseTurn 12 = .ok (.iadd, 1) := by decide +kernel
set_option maxRecDepth 20000 in
theorem dX4_reverseTurn_13 : decode cX4_reverseTurn 13 = .ok (.iconst 1, 1) := by decide +kernel
set_option maxRecDepth 20000 in
theorem dX4_reverseTurn_14 : decode cX4_reverseTurn 14 = .ok (.isub, 1) := by decide +kernel
set_option maxRecDepth 20000 in
theorem dX4_reverseTurn_15 : decode cX4_reverseTurn 15 = .ok (.istore_n 3, 1) := by decide +kernel
set_option maxRecDepth 20000 in
theorem dX4_reverseTurn_16 : decode cX4_reverseTurn 16 = .ok (.iload_n 2, 1) := by decide +kernel
set_option maxRecDepth 20000 in
theorem dX4_reverseTurn_17 : decode cX4_reverseTurn 17 = .ok (.iload_n 3, 1) := by decide +kernel
set_option maxRecDepth 20000 in
theorem dX4_reverseTurn_18 : decode cX4_reverseTurn 18 = .ok (.if_icmp .ge 40, 3) := by decide +kernel
set_option maxRecDepth 20000 in
theorem dX4_reverseTurn_21 : decode cX4_reverseTurn 21 = .ok (.aload_n 0, 1) := by decide +kernel
set_option maxRecDepth 20000 in
theorem dX4_reverseTurn_22 : decode cX4_reverseTurn 22 = .ok (.getfield 31, 3) := by decide +kernel
set_option maxRecDepth 20000 in
theorem dX4_reverseTurn_25 : decode cX4_reverseTurn 25 = .ok (.iload_n 2, 1) := by decide +kernel
set_option maxRecDepth 20000 in
theorem dX4_reverseTurn_26 : decode cX4_reverseTurn 26 = .ok (.iaload, 1) := by decide +kernel
set_option maxRecDepth 20000 in
theorem dX4_reverseTurn_27 : decode cX4_reverseTurn 27 = .ok (.istore 4, 2) := by decide +kernel
set_option maxRecDepth 20000 in
theorem dX4_reverseTurn_29 : decode cX4_reverseTurn 29 = .ok (.aload_n 0, 1) := by decide +kernel
set_option maxRecDepth 20000 in
theorem dX4_reverseTurn_30 : decode cX4_reverseTurn 30 = .ok (.getfield 31, 3) := by decide +kernel
set_option maxRecDepth 20000 in
theorem dX4_reverseTurn_33 : decode cX4_reverseTurn 33 = .ok (.iload_n 2, 1) := by decide +kernel
set_option maxRecDepth 20000 in
theorem dX4_reverseTurn_34 : decode cX4_reverseTurn 34 = .ok (.aload_n 0, 1) := by decide +kernel
set_option maxRecDepth 20000 in
theorem dX4_reverseTurn_35 : decode cX4_reverseTurn 35 = .ok (.getfield 31, 3) := by decide +kernel
set_option maxRecDepth 20000 in
theorem dX4_reverseTurn_38 : decode cX4_reverseTurn 38 = .ok (.iload_n 3, 1) := by decide +kernel
set_option maxRecDepth 20000 in
theorem dX4_reverseTurn_39 : decode cX4_reverseTurn 39 = .ok (.iaload, 1) := by decide +kernel
set_option maxRecDepth 20000 in
theorem dX4_reverseTurn_40 : decode cX4_reverseTurn 40 = .ok (.iastore, 1) := by decide +kernel
set_option maxRecDepth 20000 in
theorem dX4_reverseTurn_41 : decode cX4_reverseTurn 41 = .ok (.aload_n 0, 1) := by decide +kernel
set_option maxRecDepth 20000 in
theorem dX4_reverseTurn_42 : decode cX4_reverseTurn 42 = .ok (.getfield 31, 3) := by decide +kernel
set_option maxRecDepth 20000 in
theorem dX4_reverseTurn_45 : decode cX4_reverseTurn 45 = .ok (.iload_n 3, 1) := by decide +kernel
set_option maxRecDepth 20000 in
theorem dX4_reverseTurn_46 : decode cX4_reverseTurn 46 = .ok (.iload 4, 2) := by decide +kernel
set_option maxRecDepth 20000 in
theorem dX4_reverseTurn_48 : decode cX4_reverseTurn 48 = .ok (.iastore, 1) := by decide +kernel
set_option maxRecDepth 20000 in
theorem dX4_reverseTurn_49 : decode cX4_reverseTurn 49 = .ok (.iinc 2 1, 3) := by decide +kernel
set_option maxRecDepth 20000 in
theorem dX4_reverseTurn_52 : decode cX4_reverseTurn 52 = .ok (.iinc 3 (-1), 3) := by decide +kernel
set_option maxRecDepth 20000 in
theorem dX4_reverseTurn_55 : decode cX4_reverseTurn 55 = .ok (.goto (-39), 3) := by decide +kernel
set_option maxRecDepth 20000 in
theorem dX4_reverseTurn_58 : decode cX4_reverseTurn 58 = .ok (.return_, 1) := by decide +kernel
set_option maxRecDepth 20000 in
theorem dX4_hasWholeTurns_0 : decode cX4_hasWholeTurns 0 = .ok (.iconst 0, 1) := by decide +kernel
set_option maxRecDepth 20000 in
theorem dX4_hasWholeTurns_1 : decode cX4_hasWholeTurns 1 = .ok (.istore_n 1, 1) := by decide +kernel
set_option maxRecDepth 20000 in
theorem dX4_hasWholeTurns_2 : decode cX4_hasWholeTurns 2 = .ok (.iload_n 1, 1) := by decide +kernel
set_option maxRecDepth 20000 in
theorem dX4_hasWholeTurns_3 : decode cX4_hasWholeTurns 3 = .ok (.aload_n 0, 1) := by decide +kernel
set_option maxRecDepth 20000 in
theorem dX4_hasWholeTurns_4 : decode cX4_hasWholeTurns 4 = .ok (.getfield 34, 3) := by decide +kernel
set_option maxRecDepth 20000 in
theorem dX4_hasWholeTurns_7 : decode cX4_hasWholeTurns 7 = .ok (.if_icmp .ge 56, 3) := by decide +kernel
set_option maxRecDepth 20000 in
theorem dX4_hasWholeTurns_10 : decode cX4_hasWholeTurns 10 = .ok (.iconst 0, 1) := by decide +kernel
set_option maxRecDepth 20000 in
theorem dX4_hasWholeTurns_11 : decode cX4_hasWholeTurns 11 = .ok (.istore_n 2, 1) := by decide +kernel
set_option maxRecDepth 20000 in
theorem dX4_hasWholeTurns_12 : decode cX4_hasWholeTurns 12 = .ok (.iconst 0, 1) := by decide +kernel
set_option maxRecDepth 20000 in
theorem dX4_hasWholeTurns_13 : decode cX4_hasWholeTurns 13 = .ok (.istore_n 3, 1) := by decide +kernel
set_option maxRecDepth 20000 in
theorem dX4_hasWholeTurns_14 : decode cX4_hasWholeTurns 14 = .ok (.iload_n 3, 1) := by decide +kernel
set_option maxRecDepth 20000 in
theorem dX4_hasWholeTurns_15 : decode cX4_hasWholeTurns 15 = .ok (.aload_n 0, 1) := by decide +kernel
set_option maxRecDepth 20000 in
theorem dX4_hasWholeTurns_16 : decode cX4_hasWholeTurns 16 = .ok (.getfield 38, 3) := by decide +kernel
set_option maxRecDepth 20000 in
theorem dX4_hasWholeTurns_19 : decode cX4_hasWholeTurns 19 = .ok (.if_icmp .ge 26, 3) := by decide +kernel
set_option maxRecDepth 20000 in
theorem dX4_hasWholeTurns_22 : decode cX4_hasWholeTurns 22 = .ok (.iload_n 2, 1) := by decide +kernel
set_option maxRecDepth 20000 in
theorem dX4_hasWholeTurns_23 : decode cX4_hasWholeTurns 23 = .ok (.aload_n 0, 1) := by decide +kernel
set_option maxRecDepth 20000 in
theorem dX4_hasWholeTurns_24 : decode cX4_hasWholeTurns 24 = .ok (.iload_n 3, 1) := by decide +kernel
set_option maxRecDepth 20000 in
theorem dX4_hasWholeTurns_25 : decode cX4_hasWholeTurns 25 = .ok (.iload_n 1, 1) := by decide +kernel
set_option maxRecDepth 20000 in
theorem dX4_hasWholeTurns_26 : decode cX4_hasWholeTurns 26 = .ok (.invokevirtual 50, 3) := by decide +kernel
set_option maxRecDepth 20000 in
theorem dX4_hasWholeTurns_29 : decode cX4_hasWholeTurns 29 = .ok (.ifCond .eq 7, 3) := by decide +kernel
set_option maxRecDepth 20000 in
theorem dX4_hasWholeTurns_32 : decode cX4_hasWholeTurns 32 = .ok (.iconst 1, 1) := by decide +kernel
set_option maxRecDepth 20000 in
theorem dX4_hasWholeTurns_33 : decode cX4_hasWholeTurns 33 = .ok (.goto 4, 3) := by decide +kernel
set_option maxRecDepth 20000 in
theorem dX4_hasWholeTurns_36 : decode cX4_hasWholeTurns 36 = .ok (.iconst 0, 1) := by decide +kernel
set_option maxRecDepth 20000 in
theorem dX4_hasWholeTurns_37 : decode cX4_hasWholeTurns 37 = .ok (.iadd, 1) := by decide +kernel
set_option maxRecDepth 20000 in
theorem dX4_hasWholeTurns_38 : decode cX4_hasWholeTurns 38 = .ok (.istore_n 2, 1) := by decide +kernel
set_option maxRecDepth 20000 in
theorem dX4_hasWholeTurns_39 : decode cX4_hasWholeTurns 39 = .ok (.iinc 3 1, 3) := by decide +kernel
set_option maxRecDepth 20000 in
theorem dX4_hasWholeTurns_42 : decode cX4_hasWholeTurns 42 = .ok (.goto (-28), 3) := by decide +kernel
set_option maxRecDepth 20000 in
theorem dX4_hasWholeTurns_45 : decode cX4_hasWholeTurns 45 = .ok (.iload_n 2, 1) := by decide +kernel
set_option maxRecDepth 20000 in
theorem dX4_hasWholeTurns_46 : decode cX4_hasWholeTurns 46 = .ok (.aload_n 0, 1) := by decide +kernel
set_option maxRecDepth 20000 in
theorem dX4_hasWholeTurns_47 : decode cX4_hasWholeTurns 47 = .ok (.getfield 28, 3) := by decide +kernel
set_option maxRecDepth 20000 in
theorem dX4_hasWholeTurns_50 : decode cX4_hasWholeTurns 50 = .ok (.iload_n 1, 1) := by decide +kernel
set_option maxRecDepth 20000 in
theorem dX4_hasWholeTurns_51 : decode cX4_hasWholeTurns 51 = .ok (.iaload, 1) := by decide +kernel
set_option maxRecDepth 20000 in
theorem dX4_hasWholeTurns_52 : decode cX4_hasWholeTurns 52 = .ok (.if_icmp .eq 5, 3) := by decide +kernel
set_option maxRecDepth 20000 in
theorem dX4_hasWholeTurns_55 : decode cX4_hasWholeTurns 55 = .ok (.iconst 0, 1) := by decide +kernel
set_option maxRecDepth 20000 in
theorem dX4_hasWholeTurns_56 : decode cX4_hasWholeTurns 56 = .ok (.ireturn, 1) := by decide +kernel
set_option maxRecDepth 20000 in
theorem dX4_hasWholeTurns_57 : decode cX4_hasWholeTurns 57 = .ok (.iinc 1 1, 3) := by decide +kernel
set_option maxRecDepth 20000 in
theorem dX4_hasWholeTurns_60 : decode cX4_hasWholeTurns 60 = .ok (.goto (-58), 3) := by decide +kernel
set_option maxRecDepth 20000 in
theorem dX4_hasWholeTurns_63 : decode cX4_hasWholeTurns 63 = .ok (.iconst 1, 1) := by decide +kernel
set_option maxRecDepth 20000 in
theorem dX4_hasWholeTurns_64 : decode cX4_hasWholeTurns 64 = .ok (.ireturn, 1) := by decide +kernel
set_option maxRecDepth 20000 in
theorem dX4_hasCutWire_0 : decode cX4_hasCutWire 0 = .ok (.iconst 0, 1) := by decide +kernel
set_option maxRecDepth 20000 in
theorem dX4_hasCutWire_1 : decode cX4_hasCutWire 1 = .ok (.istore_n 1, 1) := by decide +kernel
set_option maxRecDepth 20000 in
theorem dX4_hasCutWire_2 : decode cX4_hasCutWire 2 = .ok (.iload_n 1, 1) := by decide +kernel
set_option maxRecDepth 20000 in
theorem dX4_hasCutWire_3 : decode cX4_hasCutWire 3 = .ok (.aload_n 0, 1) := by decide +kernel
set_option maxRecDepth 20000 in
theorem dX4_hasCutWire_4 : decode cX4_hasCutWire 4 = .ok (.getfield 38, 3) := by decide +kernel
set_option maxRecDepth 20000 in
theorem dX4_hasCutWire_7 : decode cX4_hasCutWire 7 = .ok (.if_icmp .ge 20, 3) := by decide +kernel
set_option maxRecDepth 20000 in
theorem dX4_hasCutWire_10 : decode cX4_hasCutWire 10 = .ok (.aload_n 0, 1) := by decide +kernel
set_option maxRecDepth 20000 in
theorem dX4_hasCutWire_11 : decode cX4_hasCutWire 11 = .ok (.getfield 18, 3) := by decide +kernel
set_option maxRecDepth 20000 in
theorem dX4_hasCutWire_14 : decode cX4_hasCutWire 14 = .ok (.iload_n 1, 1) := by decide +kernel
set_option maxRecDepth 20000 in
theorem dX4_hasCutWire_15 : decode cX4_hasCutWire 15 = .ok (.baload, 1) := by decide +kernel
set_option maxRecDepth 20000 in
theorem dX4_hasCutWire_16 : decode cX4_hasCutWire 16 = .ok (.ifCond .eq 5, 3) := by decide +kernel
set_option maxRecDepth 20000 in
theorem dX4_hasCutWire_19 : decode cX4_hasCutWire 19 = .ok (.iconst 1, 1) := by decide +kernel
set_option maxRecDepth 20000 in
theorem dX4_hasCutWire_20 : decode cX4_hasCutWire 20 = .ok (.ireturn, 1) := by decide +kernel
set_option maxRecDepth 20000 in
theorem dX4_hasCutWire_21 : decode cX4_hasCutWire 21 = .ok (.iinc 1 1, 3) := by decide +kernel
set_option maxRecDepth 20000 in
theorem dX4_hasCutWire_24 : decode cX4_hasCutWire 24 = .ok (.goto (-22), 3) := by decide +kernel
set_option maxRecDepth 20000 in
theorem dX4_hasCutWire_27 : decode cX4_hasCutWire 27 = .ok (.iconst 0, 1) := by decide +kernel
set_option maxRecDepth 20000 in
theorem dX4_hasCutWire_28 : decode cX4_hasCutWire 28 = .ok (.ireturn, 1) := by decide +kernel
set_option maxRecDepth 20000 in
theorem dX4_hangsTogether_0 : decode cX4_hangsTogether 0 = .ok (.iconst 1, 1) := by decide +kernel
set_option maxRecDepth 20000 in
theorem dX4_hangsTogether_1 : decode cX4_hangsTogether 1 = .ok (.istore_n 2, 1) := by decide +kernel
set_option maxRecDepth 20000 in
theorem dX4_hangsTogether_2 : decode cX4_hangsTogether 2 = .ok (.iconst 0, 1) := by decide +kernel
set_option maxRecDepth 20000 in
theorem dX4_hangsTogether_3 : decode cX4_hangsTogether 3 = .ok (.istore_n 3, 1) := by decide +kernel
set_option maxRecDepth 20000 in
theorem dX4_hangsTogether_4 : decode cX4_hangsTogether 4 = .ok (.iload_n 3, 1) := by decide +kernel
set_option maxRecDepth 20000 in
theorem dX4_hangsTogether_5 : decode cX4_hangsTogether 5 = .ok (.aload_n 0, 1) := by decide +kernel
set_option maxRecDepth 20000 in
theorem dX4_hangsTogether_6 : decode cX4_hangsTogether 6 = .ok (.getfield 34, 3) := by decide +kernel
set_option maxRecDepth 20000 in
theorem dX4_hangsTogether_9 : decode cX4_hangsTogether 9 = .ok (.if_icmp .ge 73, 3) := by decide +kernel
set_option maxRecDepth 20000 in
theorem dX4_hangsTogether_12 : decode cX4_hangsTogether 12 = .ok (.iconst 0, 1) := by decide +kernel
set_option maxRecDepth 20000 in
theorem dX4_hangsTogether_13 : decode cX4_hangsTogether 13 = .ok (.istore 4, 2) := by decide +kernel
set_option maxRecDepth 20000 in
theorem dX4_hangsTogether_15 : decode cX4_hangsTogether 15 = .ok (.iload 4, 2) := by decide +kernel
set_option maxRecDepth 20000 in
theorem dX4_hangsTogether_17 : decode cX4_hangsTogether 17 = .ok (.aload_n 0, 1) := by decide +kernel
set_option maxRecDepth 20000 in
theorem dX4_hangsTogether_18 : decode cX4_hangsTogether 18 = .ok (.getfield 38, 3) := by decide +kernel
set_option maxRecDepth 20000 in
theorem dX4_hangsTogether_21 : decode cX4_hangsTogether 21 = .ok (.if_icmp .ge 55, 3) := by decide +kernel
set_option maxRecDepth 20000 in
theorem dX4_hangsTogether_24 : decode cX4_hangsTogether 24 = .ok (.iconst 1, 1) := by decide +kernel
set_option maxRecDepth 20000 in
theorem dX4_hangsTogether_25 : decode cX4_hangsTogether 25 = .ok (.aload_n 0, 1) := by decide +kernel
set_option maxRecDepth 20000 in
theorem dX4_hangsTogether_26 : decode cX4_hangsTogether 26 = .ok (.getfield 9, 3) := by decide +kernel
set_option maxRecDepth 20000 in
theorem dX4_hangsTogether_29 : decode cX4_hangsTogether 29 = .ok (.iload 4, 2) := by decide +kernel
set_option maxRecDepth 20000 in
theorem dX4_hangsTogether_31 : decode cX4_hangsTogether 31 = .ok (.iaload, 1) := by decide +kernel
set_option maxRecDepth 20000 in
theorem dX4_hangsTogether_32 : decode cX4_hangsTogether 32 = .ok (.ishl, 1) := by decide +kernel
set_option maxRecDepth 20000 in
theorem dX4_hangsTogether_33 : decode cX4_hangsTogether 33 = .ok (.iconst 1, 1) := by decide +kernel
set_option maxRecDepth 20000 in
theorem dX4_hangsTogether_34 : decode cX4_hangsTogether 34 = .ok (.aload_n 0, 1) := by decide +kernel
set_option maxRecDepth 20000 in
theorem dX4_hangsTogether_35 : decode cX4_hangsTogether 35 = .ok (.getfield 15, 3) := by decide +kernel
set_option maxRecDepth 20000 in
theorem dX4_hangsTogether_38 : decode cX4_hangsTogether 38 = .ok (.iload 4, 2) := by decide +kernel
set_option maxRecDepth 20000 in
theorem dX4_hangsTogether_40 : decode cX4_hangsTogether 40 = .ok (.iaload, 1) := by decide +kernel
set_option maxRecDepth 20000 in
theorem dX4_hangsTogether_41 : decode cX4_hangsTogether 41 = .ok (.ishl, 1) := by decide +kernel
set_option maxRecDepth 20000 in
theorem dX4_hangsTogether_42 : decode cX4_hangsTogether 42 = .ok (.ior, 1) := by decide +kernel
set_option maxRecDepth 20000 in
theorem dX4_hangsTogether_43 : decode cX4_hangsTogether 43 = .ok (.istore 5, 2) := by decide +kernel
set_option maxRecDepth 20000 in
theorem dX4_hangsTogether_45 : decode cX4_hangsTogether 45 = .ok (.iload_n 2, 1) := by decide +kernel
set_option maxRecDepth 20000 in
theorem dX4_hangsTogether_46 : decode cX4_hangsTogether 46 = .ok (.iload 5, 2) := by decide +kernel
set_option maxRecDepth 20000 in
theorem dX4_hangsTogether_48 : decode cX4_hangsTogether 48 = .ok (.iand, 1) := by decide +kernel
set_option maxRecDepth 20000 in
theorem dX4_hangsTogether_49 : decode cX4_hangsTogether 49 = .ok (.ifCond .eq 21, 3) := by decide +kernel
set_option maxRecDepth 20000 in
theorem dX4_hangsTogether_52 : decode cX4_hangsTogether 52 = .ok (.aload_n 0, 1) := by decide +kernel
set_option maxRecDepth 20000 in
theorem dX4_hangsTogether_53 : decode cX4_hangsTogether 53 = .ok (.iload 4, 2) := by decide +kernel
set_option maxRecDepth 20000 in
theorem dX4_hangsTogether_55 : decode cX4_hangsTogether 55 = .ok (.invokevirtual 54, 3) := by decide +kernel
set_option maxRecDepth 20000 in
theorem dX4_hangsTogether_58 : decode cX4_hangsTogether 58 = .ok (.ifCond .ne 7, 3) := by decide +kernel
set_option maxRecDepth 20000 in
theorem dX4_hangsTogether_61 : decode cX4_hangsTogether 61 = .ok (.iload_n 1, 1) := by decide +kernel
set_option maxRecDepth 20000 in
theorem dX4_hangsTogether_62 : decode cX4_hangsTogether 62 = .ok (.ifCond .ne 8, 3) := by decide +kernel
set_option maxRecDepth 20000 in
theorem dX4_hangsTogether_65 : decode cX4_hangsTogether 65 = .ok (.iload_n 2, 1) := by decide +kernel
set_option maxRecDepth 20000 in
theorem dX4_hangsTogether_66 : decode cX4_hangsTogether 66 = .ok (.iload 5, 2) := by decide +kernel
set_option maxRecDepth 20000 in
theorem dX4_hangsTogether_68 : decode cX4_hangsTogether 68 = .ok (.ior, 1) := by decide +kernel
set_option maxRecDepth 20000 in
theorem dX4_hangsTogether_69 : decode cX4_hangsTogether 69 = .ok (.istore_n 2, 1) := by decide +kernel
set_option maxRecDepth 20000 in
theorem dX4_hangsTogether_70 : decode cX4_hangsTogether 70 = .ok (.iinc 4 1, 3) := by decide +kernel
set_option maxRecDepth 20000 in
theorem dX4_hangsTogether_73 : decode cX4_hangsTogether 73 = .ok (.goto (-58), 3) := by decide +kernel
set_option maxRecDepth 20000 in
theorem dX4_hangsTogether_76 : decode cX4_hangsTogether 76 = .ok (.iinc 3 1, 3) := by decide +kernel
set_option maxRecDepth 20000 in
theorem dX4_hangsTogether_79 : decode cX4_hangsTogether 79 = .ok (.goto (-75), 3) := by decide +kernel
set_option maxRecDepth 20000 in
theorem dX4_hangsTogether_82 : decode cX4_hangsTogether 82 = .ok (.iload_n 2, 1) := by decide +kernel
set_option maxRecDepth 20000 in
theorem dX4_hangsTogether_83 : decode cX4_hangsTogether 83 = .ok (.iconst 1, 1) := by decide +kernel
set_option maxRecDepth 20000 in
theorem dX4_hangsTogether_84 : decode cX4_hangsTogether 84 = .ok (.aload_n 0, 1) := by decide +kernel
set_option maxRecDepth 20000 in
theorem dX4_hangsTogether_85 : decode cX4_hangsTogether 85 = .ok (.getfield 34, 3) := by decide +kernel
set_option maxRecDepth 20000 in
theorem dX4_hangsTogether_88 : decode cX4_hangsTogether 88 = .ok (.ishl, 1) := by decide +kernel
set_option maxRecDepth 20000 in
theorem dX4_hangsTogether_89 : decode cX4_hangsTogether 89 = .ok (.iconst 1, 1) := by decide +kernel
set_option maxRecDepth 20000 in
theorem dX4_hangsTogether_90 : decode cX4_hangsTogether 90 = .ok (.isub, 1) := by decide +kernel
set_option maxRecDepth 20000 in
theorem dX4_hangsTogether_91 : decode cX4_hangsTogether 91 = .ok (.if_icmp .ne 7, 3) := by decide +kernel
set_option maxRecDepth 20000 in
theorem dX4_hangsTogether_94 : decode cX4_hangsTogether 94 = .ok (.iconst 1, 1) := by decide +kernel
set_option maxRecDepth 20000 in
theorem dX4_hangsTogether_95 : decode cX4_hangsTogether 95 = .ok (.goto 4, 3) := by decide +kernel
set_option maxRecDepth 20000 in
theorem dX4_hangsTogether_98 : decode cX4_hangsTogether 98 = .ok (.iconst 0, 1) := by decide +kernel
set_option maxRecDepth 20000 in
theorem dX4_hangsTogether_99 : decode cX4_hangsTogether 99 = .ok (.ireturn, 1) := by decide +kernel
set_option maxRecDepth 20000 in
theorem dX4_dartBehind_0 : decode cX4_dartBehind 0 = .ok (.iload_n 1, 1) := by decide +kernel
set_option maxRecDepth 20000 in
theorem dX4_dartBehind_1 : decode cX4_dartBehind 1 = .ok (.iconst 1, 1) := by decide +kernel
set_option maxRecDepth 20000 in
theorem dX4_dartBehind_2 : decode cX4_dartBehind 2 = .ok (.ishr, 1) := by decide +kernel
set_option maxRecDepth 20000 in
theorem dX4_dartBehind_3 : decode cX4_dartBehind 3 = .ok (.istore_n 2, 1) := by decide +kernel
set_option maxRecDepth 20000 in
theorem dX4_dartBehind_4 : decode cX4_dartBehind 4 = .ok (.iload_n 1, 1) := by decide +kernel
set_option maxRecDepth 20000 in
theorem dX4_dartBehind_5 : decode cX4_dartBehind 5 = .ok (.iconst 1, 1) := by decide +kernel
set_option maxRecDepth 20000 in
theorem dX4_dartBehind_6 : decode cX4_dartBehind 6 = .ok (.iand, 1) := by decide +kernel
set_option maxRecDepth 20000 in
theorem dX4_dartBehind_7 : decode cX4_dartBehind 7 = .ok (.ifCond .ne 12, 3) := by decide +kernel
set_option maxRecDepth 20000 in
theorem dX4_dartBehind_10 : decode cX4_dartBehind 10 = .ok (.aload_n 0, 1) := by decide +kernel
set_option maxRecDepth 20000 in
theorem dX4_dartBehind_11 : decode cX4_dartBehind 11 = .ok (.getfield 15, 3) := by decide +kernel
set_option maxRecDepth 20000 in
theorem dX4_dartBehind_14 : decode cX4_dartBehind 14 = .ok (.iload_n 2, 1) := by decide +kernel
set_option maxRecDepth 20000 in
theorem dX4_dartBehind_15 : decode cX4_dartBehind 15 = .ok (.iaload, 1) := by decide +kernel
set_option maxRecDepth 20000 in
theorem dX4_dartBehind_16 : decode cX4_dartBehind 16 = .ok (.goto 9, 3) := by decide +kernel
set_option maxRecDepth 20000 in
theorem dX4_dartBehind_19 : decode cX4_dartBehind 19 = .ok (.aload_n 0, 1) := by decide +kernel
set_option maxRecDepth 20000 in
theorem dX4_dartBehind_20 : decode cX4_dartBehind 20 = .ok (.getfield 9, 3) := by decide +kernel
set_option maxRecDepth 20000 in
theorem dX4_dartBehind_23 : decode cX4_dartBehind 23 = .ok (.iload_n 2, 1) := by decide +kernel
set_option maxRecDepth 20000 in
theorem dX4_dartBehind_24 : decode cX4_dartBehind 24 = .ok (.iaload, 1) := by decide +kernel
set_option maxRecDepth 20000 in
theorem dX4_dartBehind_25 : decode cX4_dartBehind 25 = .ok (.istore_n 3, 1) := by decide +kernel
set_option maxRecDepth 20000 in
theorem dX4_dartBehind_26 : decode cX4_dartBehind 26 = .ok (.aload_n 0, 1) := by decide +kernel
set_option maxRecDepth 20000 in
theorem dX4_dartBehind_27 : decode cX4_dartBehind 27 = .ok (.iload_n 3, 1) := by decide +kernel
set_option maxRecDepth 20000 in
theorem dX4_dartBehind_28 : decode cX4_dartBehind 28 = .ok (.iload_n 2, 1) := by decide +kernel
set_option maxRecDepth 20000 in
theorem dX4_dartBehind_29 : decode cX4_dartBehind 29 = .ok (.invokevirtual 58, 3) := by decide +kernel
set_option maxRecDepth 20000 in
theorem dX4_dartBehind_32 : decode cX4_dartBehind 32 = .ok (.iconst 1, 1) := by decide +kernel
set_option maxRecDepth 20000 in
theorem dX4_dartBehind_33 : decode cX4_dartBehind 33 = .ok (.iadd, 1) := by decide +kernel
set_option maxRecDepth 20000 in
theorem dX4_dartBehind_34 : decode cX4_dartBehind 34 = .ok (.istore 4, 2) := by decide +kernel
set_option maxRecDepth 20000 in
theorem dX4_dartBehind_36 : decode cX4_dartBehind 36 = .ok (.aload_n 0, 1) := by decide +kernel
set_option maxRecDepth 20000 in
theorem dX4_dartBehind_37 : decode cX4_dartBehind 37 = .ok (.iload_n 3, 1) := by decide +kernel
set_option maxRecDepth 20000 in
theorem dX4_dartBehind_38 : decode cX4_dartBehind 38 = .ok (.iload 4, 2) := by decide +kernel
set_option maxRecDepth 20000 in
theorem dX4_dartBehind_40 : decode cX4_dartBehind 40 = .ok (.aload_n 0, 1) := by decide +kernel
set_option maxRecDepth 20000 in
theorem dX4_dartBehind_41 : decode cX4_dartBehind 41 = .ok (.getfield 28, 3) := by decide +kernel
set_option maxRecDepth 20000 in
theorem dX4_dartBehind_44 : decode cX4_dartBehind 44 = .ok (.iload_n 3, 1) := by decide +kernel
set_option maxRecDepth 20000 in
theorem dX4_dartBehind_45 : decode cX4_dartBehind 45 = .ok (.iaload, 1) := by decide +kernel
set_option maxRecDepth 20000 in
theorem dX4_dartBehind_46 : decode cX4_dartBehind 46 = .ok (.if_icmp .ge 8, 3) := by decide +kernel
set_option maxRecDepth 20000 in
theorem dX4_dartBehind_49 : decode cX4_dartBehind 49 = .ok (.iload 4, 2) := by decide +kernel
set_option maxRecDepth 20000 in
theorem dX4_dartBehind_51 : decode cX4_dartBehind 51 = .ok (.goto 4, 3) := by decide +kernel
set_option maxRecDepth 20000 in
theorem dX4_dartBehind_54 : decode cX4_dartBehind 54 = .ok (.iconst 0, 1) := by decide +kernel
set_option maxRecDepth 20000 in
theorem dX4_dartBehind_55 : decode cX4_dartBehind 55 = .ok (.invokevirtual 62, 3) := by decide +kernel
set_option maxRecDepth 20000 in
theorem dX4_dartBehind_58 : decode cX4_dartBehind 58 = .ok (.istore 5, 2) := by decide +kernel
set_option maxRecDepth 20000 in
theorem dX4_dartBehind_60 : decode cX4_dartBehind 60 = .ok (.aload_n 0, 1) := by decide +kernel
set_option maxRecDepth 20000 in
theorem dX4_dartBehind_61 : decode cX4_dartBehind 61 = .ok (.getfield 9, 3) := by decide +kernel
set_option maxRecDepth 20000 in
theorem dX4_dartBehind_64 : decode cX4_dartBehind 64 = .ok (.iload 5, 2) := by decide +kernel
set_option maxRecDepth 20000 in
theorem dX4_dartBehind_66 : decode cX4_dartBehind 66 = .ok (.iaload, 1) := by decide +kernel
set_option maxRecDepth 20000 in
theorem dX4_dartBehind_67 : decode cX4_dartBehind 67 = .ok (.iload_n 3, 1) := by decide +kernel
set_option maxRecDepth 20000 in
theorem dX4_dartBehind_68 : decode cX4_dartBehind 68 = .ok (.if_icmp .ne 10, 3) := by decide +kernel
set_option maxRecDepth 20000 in
theorem dX4_dartBehind_71 : decode cX4_dartBehind 71 = .ok (.iconst 2, 1) := by decide +kernel
set_option maxRecDepth 20000 in
theorem dX4_dartBehind_72 : decode cX4_dartBehind 72 = .ok (.iload 5, 2) := by decide +kernel
set_option maxRecDepth 20000 in
theorem dX4_dartBehind_74 : decode cX4_dartBehind 74 = .ok (.imul, 1) := by decide +kernel
set_option maxRecDepth 20000 in
theorem dX4_dartBehind_75 : decode cX4_dartBehind 75 = .ok (.goto 9, 3) := by decide +kernel
set_option maxRecDepth 20000 in
theorem dX4_dartBehind_78 : decode cX4_dartBehind 78 = .ok (.iconst 2, 1) := by decide +kernel
set_option maxRecDepth 20000 in
theorem dX4_dartBehind_79 : decode cX4_dartBehind 79 = .ok (.iload 5, 2) := by decide +kernel
set_option maxRecDepth 20000 in
theorem dX4_dartBehind_81 : decode cX4_dartBehind 81 = .ok (.imul, 1) := by decide +kernel
set_option maxRecDepth 20000 in
theorem dX4_dartBehind_82 : decode cX4_dartBehind 82 = .ok (.iconst 1, 1) := by decide +kernel
set_option maxRecDepth 20000 in
theorem dX4_dartBehind_83 : decode cX4_dartBehind 83 = .ok (.iadd, 1) := by decide +kernel
set_option maxRecDepth 20000 in
theorem dX4_dartBehind_84 : decode cX4_dartBehind 84 = .ok (.ireturn, 1) := by decide +kernel
set_option maxRecDepth 20000 in
theorem dX4_wireClaimedWrong_0 : decode cX4_wireClaimedWrong 0 = .ok (.iconst 0, 1) := by decide +kernel
set_option maxRecDepth 20000 in
theorem dX4_wireClaimedWrong_1 : decode cX4_wireClaimedWrong 1 = .ok (.istore_n 1, 1) := by decide +kernel
set_option maxRecDepth 20000 in
theorem dX4_wireClaimedWrong_2 : decode cX4_wireClaimedWrong 2 = .ok (.iload_n 1, 1) := by decide +kernel
set_option maxRecDepth 20000 in
theorem dX4_wireClaimedWrong_3 : decode cX4_wireClaimedWrong 3 = .ok (.aload_n 0, 1) := by decide +kernel
set_option maxRecDepth 20000 in
theorem dX4_wireClaimedWrong_4 : decode cX4_wireClaimedWrong 4 = .ok (.getfield 38, 3) := by decide +kernel
set_option maxRecDepth 20000 in
theorem dX4_wireClaimedWrong_7 : decode cX4_wireClaimedWrong 7 = .ok (.if_icmp .ge 61, 3) := by decide +kernel
set_option maxRecDepth 20000 in
theorem dX4_wireClaimedWrong_10 : decode cX4_wireClaimedWrong 10 = .ok (.aload_n 0, 1) := by decide +kernel
set_option maxRecDepth 20000 in
theorem dX4_wireClaimedWrong_11 : decode cX4_wireClaimedWrong 11 = .ok (.iload_n 1, 1) := by decide +kernel
set_option maxRecDepth 20000 in
theorem dX4_wireClaimedWrong_12 : decode cX4_wireClaimedWrong 12 = .ok (.invokevirtual 54, 3) := by decide +kernel
set_option maxRecDepth 20000 in
theorem dX4_wireClaimedWrong_15 : decode cX4_wireClaimedWrong 15 = .ok (.ifCond .eq 31, 3) := by decide +kernel
set_option maxRecDepth 20000 in
theorem dX4_wireClaimedWrong_18 : decode cX4_wireClaimedWrong 18 = .ok (.aload_n 0, 1) := by decide +kernel
set_option maxRecDepth 20000 in
theorem dX4_wireClaimedWrong_19 : decode cX4_wireClaimedWrong 19 = .ok (.getfield 25, 3) := by decide +kernel
set_option maxRecDepth 20000 in
theorem dX4_wireClaimedWrong_22 : decode cX4_wireClaimedWrong 22 = .ok (.aload_n 0, 1) := by decide +kernel
set_option maxRecDepth 20000 in
theorem dX4_wireClaimedWrong_23 : decode cX4_wireClaimedWrong 23 = .ok (.getfield 9, 3) := by decide +kernel
set_option maxRecDepth 20000 in
theorem dX4_wireClaimedWrong_26 : decode cX4_wireClaimedWrong 26 = .ok (.iload_n 1, 1) := by decide +kernel
set_option maxRecDepth 20000 in
theorem dX4_wireClaimedWrong_27 : decode cX4_wireClaimedWrong 27 = .ok (.iaload, 1) := by decide +kernel
set_option maxRecDepth 20000 in
theorem dX4_wireClaimedWrong_28 : decode cX4_wireClaimedWrong 28 = .ok (.iaload, 1) := by decide +kernel
set_option maxRecDepth 20000 in
theorem dX4_wireClaimedWrong_29 : decode cX4_wireClaimedWrong 29 = .ok (.i2l, 1) := by decide +kernel
set_option maxRecDepth 20000 in
theorem dX4_wireClaimedWrong_30 : decode cX4_wireClaimedWrong 30 = .ok (.aload_n 0, 1) := by decide +kernel
set_option maxRecDepth 20000 in
theorem dX4_wireClaimedWrong_31 : decode cX4_wireClaimedWrong 31 = .ok (.getfield 25, 3) := by decide +kernel
set_option maxRecDepth 20000 in
theorem dX4_wireClaimedWrong_34 : decode cX4_wireClaimedWrong 34 = .ok (.aload_n 0, 1) := by decide +kernel
set_option maxRecDepth 20000 in
theorem dX4_wireClaimedWrong_35 : decode cX4_wireClaimedWrong 35 = .ok (.getfield 15, 3) := by decide +kernel
set_option maxRecDepth 20000 in
theorem dX4_wireClaimedWrong_38 : decode cX4_wireClaimedWrong 38 = .ok (.iload_n 1, 1) := by decide +kernel
set_option maxRecDepth 20000 in
theorem dX4_wireClaimedWrong_39 : decode cX4_wireClaimedWrong 39 = .ok (.iaload, 1) := by decide +kernel
set_option maxRecDepth 20000 in
theorem dX4_wireClaimedWrong_40 : decode cX4_wireClaimedWrong 40 = .ok (.iaload, 1) := by decide +kernel
set_option maxRecDepth 20000 in
theorem dX4_wireClaimedWrong_41 : decode cX4_wireClaimedWrong 41 = .ok (.i2l, 1) := by decide +kernel
set_option maxRecDepth 20000 in
theorem dX4_wireClaimedWrong_42 : decode cX4_wireClaimedWrong 42 = .ok (.lsub, 1) := by decide +kernel
set_option maxRecDepth 20000 in
theorem dX4_wireClaimedWrong_43 : decode cX4_wireClaimedWrong 43 = .ok (.goto 4, 3) := by decide +kernel
set_option maxRecDepth 20000 in
theorem dX4_wireClaimedWrong_46 : decode cX4_wireClaimedWrong 46 = .ok (.lconst 0, 1) := by decide +kernel
set_option maxRecDepth 20000 in
theorem dX4_wireClaimedWrong_47 : decode cX4_wireClaimedWrong 47 = .ok (.lstore_n 2, 1) := by decide +kernel
set_option maxRecDepth 20000 in
theorem dX4_wireClaimedWrong_48 : decode cX4_wireClaimedWrong 48 = .ok (.aload_n 0, 1) := by decide +kernel
set_option maxRecDepth 20000 in
theorem dX4_wireClaimedWrong_49 : decode cX4_wireClaimedWrong 49 = .ok (.getfield 22, 3) := by decide +kernel
set_option maxRecDepth 20000 in
theorem dX4_wireClaimedWrong_52 : decode cX4_wireClaimedWrong 52 = .ok (.iload_n 1, 1) := by decide +kernel
set_option maxRecDepth 20000 in
theorem dX4_wireClaimedWrong_53 : decode cX4_wireClaimedWrong 53 = .ok (.iaload, 1) := by decide +kernel
set_option maxRecDepth 20000 in
theorem dX4_wireClaimedWrong_54 : decode cX4_wireClaimedWrong 54 = .ok (.i2l, 1) := by decide +kernel
set_option maxRecDepth 20000 in
theorem dX4_wireClaimedWrong_55 : decode cX4_wireClaimedWrong 55 = .ok (.lload_n 2, 1) := by decide +kernel
set_option maxRecDepth 20000 in
theorem dX4_wireClaimedWrong_56 : decode cX4_wireClaimedWrong 56 = .ok (.lcmp, 1) := by decide +kernel
set_option maxRecDepth 20000 in
theorem dX4_wireClaimedWrong_57 : decode cX4_wireClaimedWrong 57 = .ok (.ifCond .eq 5, 3) := by decide +kernel
set_option maxRecDepth 20000 in
theorem dX4_wireClaimedWrong_60 : decode cX4_wireClaimedWrong 60 = .ok (.iload_n 1, 1) := by decide +kernel
set_option maxRecDepth 20000 in
theorem dX4_wireClaimedWrong_61 : decode cX4_wireClaimedWrong 61 = .ok (.ireturn, 1) := by decide +kernel
set_option maxRecDepth 20000 in
theorem dX4_wireClaimedWrong_62 : decode cX4_wireClaimedWrong 62 = .ok (.iinc 1 1, 3) := by decide +kernel
set_option maxRecDepth 20000 in
theorem dX4_wireClaimedWrong_65 : decode cX4_wireClaimedWrong 65 = .ok (.goto (-63), 3) := by decide +kernel
set_option maxRecDepth 20000 in
theorem dX4_wireClaimedWrong_68 : decode cX4_wireClaimedWrong 68 = .ok (.iconst (-1), 1) := by decide +kernel
set_option maxRecDepth 20000 in
theorem dX4_wireClaimedWrong_69 : decode cX4_wireClaimedWrong 69 = .ok (.ireturn, 1) := by decide +kernel
set_option maxRecDepth 20000 in
theorem dX4_knotClaimedUneven_0 : decode cX4_knotClaimedUneven 0 = .ok (.iconst 0, 1) := by decide +kernel
set_option maxRecDepth 20000 in
theorem dX4_knotClaimedUneven_1 : decode cX4_knotClaimedUneven 1 = .ok (.istore_n 1, 1) := by decide +kernel
set_option maxRecDepth 20000 in
theorem dX4_knotClaimedUneven_2 : decode cX4_knotClaimedUneven 2 = .ok (.iload_n 1, 1) := by decide +kernel
set_option maxRecDepth 20000 in
theorem dX4_knotClaimedUneven_3 : decode cX4_knotClaimedUneven 3 = .ok (.aload_n 0, 1) := by decide +kernel
set_option maxRecDepth 20000 in
theorem dX4_knotClaimedUneven_4 : decode cX4_knotClaimedUneven 4 = .ok (.getfield 34, 3) := by decide +kernel
set_option maxRecDepth 20000 in
theorem dX4_knotClaimedUneven_7 : decode cX4_knotClaimedUneven 7 = .ok (.if_icmp .ge 41, 3) := by decide +kernel
set_option maxRecDepth 20000 in
theorem dX4_knotClaimedUneven_10 : decode cX4_knotClaimedUneven 10 = .ok (.aload_n 0, 1) := by decide +kernel
set_option maxRecDepth 20000 in
theorem dX4_knotClaimedUneven_11 : decode cX4_knotClaimedUneven 11 = .ok (.getfield 41, 3) := by decide +kernel
set_option maxRecDepth 20000 in
theorem dX4_knotClaimedUneven_14 : decode cX4_knotClaimedUneven 14 = .ok (.iconst (-1), 1) := by decide +kernel
set_option maxRecDepth 20000 in
theorem dX4_knotClaimedUneven_15 : decode cX4_knotClaimedUneven 15 = .ok (.if_icmp .eq 27, 3) := by decide +kernel
set_option maxRecDepth 20000 in
theorem dX4_knotClaimedUneven_18 : decode cX4_knotClaimedUneven 18 = .ok (.aload_n 0, 1) := by decide +kernel
set_option maxRecDepth 20000 in
theorem dX4_knotClaimedUneven_19 : decode cX4_knotClaimedUneven 19 = .ok (.aload_n 0, 1) := by decide +kernel
set_option maxRecDepth 20000 in
theorem dX4_knotClaimedUneven_20 : decode cX4_knotClaimedUneven 20 = .ok (.getfield 41, 3) := by decide +kernel
set_option maxRecDepth 20000 in
theorem dX4_knotClaimedUneven_23 : decode cX4_knotClaimedUneven 23 = .ok (.iload_n 1, 1) := by decide +kernel
set_option maxRecDepth 20000 in
theorem dX4_knotClaimedUneven_24 : decode cX4_knotClaimedUneven 24 = .ok (.invokevirtual 50, 3) := by decide +kernel
set_option maxRecDepth 20000 in
theorem dX4_knotClaimedUneven_27 : decode cX4_knotClaimedUneven 27 = .ok (.ifCond .ne 15, 3) := by decide +kernel
set_option maxRecDepth 20000 in
theorem dX4_knotClaimedUneven_30 : decode cX4_knotClaimedUneven 30 = .ok (.aload_n 0, 1) := by decide +kernel
set_option maxRecDepth 20000 in
theorem dX4_knotClaimedUneven_31 : decode cX4_knotClaimedUneven 31 = .ok (.iload_n 1, 1) := by decide +kernel
set_option maxRecDepth 20000 in
theorem dX4_knotClaimedUneven_32 : decode cX4_knotClaimedUneven 32 = .ok (.invokevirtual 65, 3) := by decide +kernel
set_option maxRecDepth 20000 in
theorem dX4_knotClaimedUneven_35 : decode cX4_knotClaimedUneven 35 = .ok (.lconst 0, 1) := by decide +kernel
set_option maxRecDepth 20000 in
theorem dX4_knotClaimedUneven_36 : decode cX4_knotClaimedUneven 36 = .ok (.lcmp, 1) := by decide +kernel
set_option maxRecDepth 20000 in
theorem dX4_knotClaimedUneven_37 : decode cX4_knotClaimedUneven 37 = .ok (.ifCond .eq 5, 3) := by decide +kernel
set_option maxRecDepth 20000 in
theorem dX4_knotClaimedUneven_40 : decode cX4_knotClaimedUneven 40 = .ok (.iload_n 1, 1) := by decide +kernel
set_option maxRecDepth 20000 in
theorem dX4_knotClaimedUneven_41 : decode cX4_knotClaimedUneven 41 = .ok (.ireturn, 1) := by decide +kernel
set_option maxRecDepth 20000 in
theorem dX4_knotClaimedUneven_42 : decode cX4_knotClaimedUneven 42 = .ok (.iinc 1 1, 3) := by decide +kernel
set_option maxRecDepth 20000 in
theorem dX4_knotClaimedUneven_45 : decode cX4_knotClaimedUneven 45 = .ok (.goto (-43), 3) := by decide +kernel
set_option maxRecDepth 20000 in
theorem dX4_knotClaimedUneven_48 : decode cX4_knotClaimedUneven 48 = .ok (.iconst (-1), 1) := by decide +kernel
set_option maxRecDepth 20000 in
theorem dX4_knotClaimedUneven_49 : decode cX4_knotClaimedUneven 49 = .ok (.ireturn, 1) := by decide +kernel
set_option maxRecDepth 20000 in
theorem dX4_claimedOutflow_0 : decode cX4_claimedOutflow 0 = .ok (.lconst 0, 1) := by decide +kernel
set_option maxRecDepth 20000 in
theorem dX4_claimedOutflow_1 : decode cX4_claimedOutflow 1 = .ok (.lstore_n 2, 1) := by decide +kernel
set_option maxRecDepth 20000 in
theorem dX4_claimedOutflow_2 : decode cX4_claimedOutflow 2 = .ok (.iconst 0, 1) := by decide +kernel
set_option maxRecDepth 20000 in
theorem dX4_claimedOutflow_3 : decode cX4_claimedOutflow 3 = .ok (.istore 4, 2) := by decide +kernel
set_option maxRecDepth 20000 in
theorem dX4_claimedOutflow_5 : decode cX4_claimedOutflow 5 = .ok (.iload 4, 2) := by decide +kernel
set_option maxRecDepth 20000 in
theorem dX4_claimedOutflow_7 : decode cX4_claimedOutflow 7 = .ok (.aload_n 0, 1) := by decide +kernel
set_option maxRecDepth 20000 in
theorem dX4_claimedOutflow_8 : decode cX4_claimedOutflow 8 = .ok (.getfield 38, 3) := by decide +kernel
set_option maxRecDepth 20000 in
theorem dX4_claimedOutflow_11 : decode cX4_claimedOutflow 11 = .ok (.if_icmp .ge 56, 3) := by decide +kernel
set_option maxRecDepth 20000 in
theorem dX4_claimedOutflow_14 : decode cX4_claimedOutflow 14 = .ok (.aload_n 0, 1) := by decide +kernel
set_option maxRecDepth 20000 in
theorem dX4_claimedOutflow_15 : decode cX4_claimedOutflow 15 = .ok (.getfield 9, 3) := by decide +kernel
set_option maxRecDepth 20000 in
theorem dX4_claimedOutflow_18 : decode cX4_claimedOutflow 18 = .ok (.iload 4, 2) := by decide +kernel
set_option maxRecDepth 20000 in
theorem dX4_claimedOutflow_20 : decode cX4_claimedOutflow 20 = .ok (.iaload, 1) := by decide +kernel
set_option maxRecDepth 20000 in
theorem dX4_claimedOutflow_21 : decode cX4_claimedOutflow 21 = .ok (.iload_n 1, 1) := by decide +kernel
set_option maxRecDepth 20000 in
theorem dX4_claimedOutflow_22 : decode cX4_claimedOutflow 22 = .ok (.if_icmp .ne 17, 3) := by decide +kernel
set_option maxRecDepth 20000 in
theorem dX4_claimedOutflow_25 : decode cX4_claimedOutflow 25 = .ok (.lload_n 2, 1) := by decide +kernel
set_option maxRecDepth 20000 in
theorem dX4_claimedOutflow_26 : decode cX4_claimedOutflow 26 = .ok (.aload_n 0, 1) := by decide +kernel
set_option maxRecDepth 20000 in
theorem dX4_claimedOutflow_27 : decode cX4_claimedOutflow 27 = .ok (.getfield 22, 3) := by decide +kernel
set_option maxRecDepth 20000 in
theorem dX4_claimedOutflow_30 : decode cX4_claimedOutflow 30 = .ok (.iload 4, 2) := by decide +kernel
set_option maxRecDepth 20000 in
theorem dX4_claimedOutflow_32 : decode cX4_claimedOutflow 32 = .ok (.iaload, 1) := by decide +kernel
set_option maxRecDepth 20000 in
theorem dX4_claimedOutflow_33 : decode cX4_claimedOutflow 33 = .ok (.i2l, 1) := by decide +kernel
set_option maxRecDepth 20000 in
theorem dX4_claimedOutflow_34 : decode cX4_claimedOutflow 34 = .ok (.ladd, 1) := by decide +kernel
set_option maxRecDepth 20000 in
theorem dX4_claimedOutflow_35 : decode cX4_claimedOutflow 35 = .ok (.lstore_n 2, 1) := by decide +kernel
set_option maxRecDepth 20000 in
theorem dX4_claimedOutflow_36 : decode cX4_claimedOutflow 36 = .ok (.goto 25, 3) := by decide +kernel
set_option maxRecDepth 20000 in
theorem dX4_claimedOutflow_39 : decode cX4_claimedOutflow 39 = .ok (.aload_n 0, 1) := by decide +kernel
set_option maxRecDepth 20000 in
theorem dX4_claimedOutflow_40 : decode cX4_claimedOutflow 40 = .ok (.getfield 15, 3) := by decide +kernel
set_option maxRecDepth 20000 in
theorem dX4_claimedOutflow_43 : decode cX4_claimedOutflow 43 = .ok (.iload 4, 2) := by decide +kernel
set_option maxRecDepth 20000 in
theorem dX4_claimedOutflow_45 : decode cX4_claimedOutflow 45 = .ok (.iaload, 1) := by decide +kernel
set_option maxRecDepth 20000 in
theorem dX4_claimedOutflow_46 : decode cX4_claimedOutflow 46 = .ok (.iload_n 1, 1) := by decide +kernel
set_option maxRecDepth 20000 in
theorem dX4_claimedOutflow_47 : decode cX4_claimedOutflow 47 = .ok (.if_icmp .ne 14, 3) := by decide +kernel
set_option maxRecDepth 20000 in
theorem dX4_claimedOutflow_50 : decode cX4_claimedOutflow 50 = .ok (.lload_n 2, 1) := by decide +kernel
set_option maxRecDepth 20000 in
theorem dX4_claimedOutflow_51 : decode cX4_claimedOutflow 51 = .ok (.aload_n 0, 1) := by decide +kernel
set_option maxRecDepth 20000 in
theorem dX4_claimedOutflow_52 : decode cX4_claimedOutflow 52 = .ok (.getfield 22, 3) := by decide +kernel
set_option maxRecDepth 20000 in
theorem dX4_claimedOutflow_55 : decode cX4_claimedOutflow 55 = .ok (.iload 4, 2) := by decide +kernel
set_option maxRecDepth 20000 in
theorem dX4_claimedOutflow_57 : decode cX4_claimedOutflow 57 = .ok (.iaload, 1) := by decide +kernel
set_option maxRecDepth 20000 in
theorem dX4_claimedOutflow_58 : decode cX4_claimedOutflow 58 = .ok (.i2l, 1) := by decide +kernel
set_option maxRecDepth 20000 in
theorem dX4_claimedOutflow_59 : decode cX4_claimedOutflow 59 = .ok (.lsub, 1) := by decide +kernel
set_option maxRecDepth 20000 in
theorem dX4_claimedOutflow_60 : decode cX4_claimedOutflow 60 = .ok (.lstore_n 2, 1) := by decide +kernel
set_option maxRecDepth 20000 in
theorem dX4_claimedOutflow_61 : decode cX4_claimedOutflow 61 = .ok (.iinc 4 1, 3) := by decide +kernel
set_option maxRecDepth 20000 in
theorem dX4_claimedOutflow_64 : decode cX4_claimedOutflow 64 = .ok (.goto (-59), 3) := by decide +kernel
set_option maxRecDepth 20000 in
theorem dX4_claimedOutflow_67 : decode cX4_claimedOutflow 67 = .ok (.lload_n 2, 1) := by decide +kernel
set_option maxRecDepth 20000 in
theorem dX4_claimedOutflow_68 : decode cX4_claimedOutflow 68 = .ok (.lreturn, 1) := by decide +kernel
