set_option maxRecDepth 20000 in
theorem dX0_init_0 : decode cX0_init 0 = .ok (.aload_n 0, 1) := by decide +kernel
set_option maxRecDepth 20000 in
theorem dX0_init_1 : decode cX0_init 1 = .ok (.invokespecial 3, 3) := by decide +kernel
set_option maxRecDepth 20000 in
theorem dX0_init_4 : decode cX0_init 4 = .ok (.aload_n 0, 1) := by decide +kernel
set_option maxRecDepth 20000 in
theorem dX0_init_5 : decode cX0_init 5 = .ok (.bipush 44, 2) := by decide +kernel
set_option maxRecDepth 20000 in
theorem dX0_init_7 : decode cX0_init 7 = .ok (.newarray .int, 2) := by decide +kernel
set_option maxRecDepth 20000 in
theorem dX0_init_9 : decode cX0_init 9 = .ok (.putfield 9, 3) := by decide +kernel
set_option maxRecDepth 20000 in
theorem dX0_init_12 : decode cX0_init 12 = .ok (.aload_n 0, 1) := by decide +kernel
set_option maxRecDepth 20000 in
theorem dX0_init_13 : decode cX0_init 13 = .ok (.bipush 44, 2) := by decide +kernel
set_option maxRecDepth 20000 in
theorem dX0_init_15 : decode cX0_init 15 = .ok (.newarray .int, 2) := by decide +kernel
set_option maxRecDepth 20000 in
theorem dX0_init_17 : decode cX0_init 17 = .ok (.putfield 15, 3) := by decide +kernel
set_option maxRecDepth 20000 in
theorem dX0_init_20 : decode cX0_init 20 = .ok (.aload_n 0, 1) := by decide +kernel
set_option maxRecDepth 20000 in
theorem dX0_init_21 : decode cX0_init 21 = .ok (.iconst 0, 1) := by decide +kernel
set_option maxRecDepth 20000 in
theorem dX0_init_22 : decode cX0_init 22 = .ok (.putfield 18, 3) := by decide +kernel
set_option maxRecDepth 20000 in
theorem dX0_init_25 : decode cX0_init 25 = .ok (.return_, 1) := by decide +kernel
set_option maxRecDepth 20000 in
theorem dX0_trace_0 : decode cX0_trace 0 = .ok (.iconst 2, 1) := by decide +kernel
set_option maxRecDepth 20000 in
theorem dX0_trace_1 : decode cX0_trace 1 = .ok (.aload_n 1, 1) := by decide +kernel
set_option maxRecDepth 20000 in
theorem dX0_trace_2 : decode cX0_trace 2 = .ok (.getfield 22, 3) := by decide +kernel
set_option maxRecDepth 20000 in
theorem dX0_trace_5 : decode cX0_trace 5 = .ok (.imul, 1) := by decide +kernel
set_option maxRecDepth 20000 in
theorem dX0_trace_6 : decode cX0_trace 6 = .ok (.istore_n 2, 1) := by decide +kernel
set_option maxRecDepth 20000 in
theorem dX0_trace_7 : decode cX0_trace 7 = .ok (.aload_n 0, 1) := by decide +kernel
set_option maxRecDepth 20000 in
theorem dX0_trace_8 : decode cX0_trace 8 = .ok (.iconst 0, 1) := by decide +kernel
set_option maxRecDepth 20000 in
theorem dX0_trace_9 : decode cX0_trace 9 = .ok (.putfield 18, 3) := by decide +kernel
set_option maxRecDepth 20000 in
theorem dX0_trace_12 : decode cX0_trace 12 = .ok (.iconst 0, 1) := by decide +kernel
set_option maxRecDepth 20000 in
theorem dX0_trace_13 : decode cX0_trace 13 = .ok (.istore_n 3, 1) := by decide +kernel
set_option maxRecDepth 20000 in
theorem dX0_trace_14 : decode cX0_trace 14 = .ok (.iload_n 3, 1) := by decide +kernel
set_option maxRecDepth 20000 in
theorem dX0_trace_15 : decode cX0_trace 15 = .ok (.iload_n 2, 1) := by decide +kernel
set_option maxRecDepth 20000 in
theorem dX0_trace_16 : decode cX0_trace 16 = .ok (.if_icmp .ge 16, 3) := by decide +kernel
set_option maxRecDepth 20000 in
theorem dX0_trace_19 : decode cX0_trace 19 = .ok (.aload_n 0, 1) := by decide +kernel
set_option maxRecDepth 20000 in
theorem dX0_trace_20 : decode cX0_trace 20 = .ok (.getfield 9, 3) := by decide +kernel
set_option maxRecDepth 20000 in
theorem dX0_trace_23 : decode cX0_trace 23 = .ok (.iload_n 3, 1) := by decide +kernel
set_option maxRecDepth 20000 in
theorem dX0_trace_24 : decode cX0_trace 24 = .ok (.iconst (-1), 1) := by decide +kernel
set_option maxRecDepth 20000 in
theorem dX0_trace_25 : decode cX0_trace 25 = .ok (.iastore, 1) := by decide +kernel
set_option maxRecDepth 20000 in
theorem dX0_trace_26 : decode cX0_trace 26 = .ok (.iinc 3 1, 3) := by decide +kernel
set_option maxRecDepth 20000 in
theorem dX0_trace_29 : decode cX0_trace 29 = .ok (.goto (-15), 3) := by decide +kernel
set_option maxRecDepth 20000 in
theorem dX0_trace_32 : decode cX0_trace 32 = .ok (.iconst 0, 1) := by decide +kernel
set_option maxRecDepth 20000 in
theorem dX0_trace_33 : decode cX0_trace 33 = .ok (.istore_n 3, 1) := by decide +kernel
set_option maxRecDepth 20000 in
theorem dX0_trace_34 : decode cX0_trace 34 = .ok (.iload_n 3, 1) := by decide +kernel
set_option maxRecDepth 20000 in
theorem dX0_trace_35 : decode cX0_trace 35 = .ok (.iload_n 2, 1) := by decide +kernel
set_option maxRecDepth 20000 in
theorem dX0_trace_36 : decode cX0_trace 36 = .ok (.if_icmp .ge 36, 3) := by decide +kernel
set_option maxRecDepth 20000 in
theorem dX0_trace_39 : decode cX0_trace 39 = .ok (.aload_n 0, 1) := by decide +kernel
set_option maxRecDepth 20000 in
theorem dX0_trace_40 : decode cX0_trace 40 = .ok (.getfield 9, 3) := by decide +kernel
set_option maxRecDepth 20000 in
theorem dX0_trace_43 : decode cX0_trace 43 = .ok (.iload_n 3, 1) := by decide +kernel
set_option maxRecDepth 20000 in
theorem dX0_trace_44 : decode cX0_trace 44 = .ok (.iaload, 1) := by decide +kernel
set_option maxRecDepth 20000 in
theorem dX0_trace_45 : decode cX0_trace 45 = .ok (.iconst (-1), 1) := by decide +kernel
set_option maxRecDepth 20000 in
theorem dX0_trace_46 : decode cX0_trace 46 = .ok (.if_icmp .ne 20, 3) := by decide +kernel
set_option maxRecDepth 20000 in
theorem dX0_trace_49 : decode cX0_trace 49 = .ok (.aload_n 0, 1) := by decide +kernel
set_option maxRecDepth 20000 in
theorem dX0_trace_50 : decode cX0_trace 50 = .ok (.aload_n 1, 1) := by decide +kernel
set_option maxRecDepth 20000 in
theorem dX0_trace_51 : decode cX0_trace 51 = .ok (.iload_n 3, 1) := by decide +kernel
set_option maxRecDepth 20000 in
theorem dX0_trace_52 : decode cX0_trace 52 = .ok (.iload_n 2, 1) := by decide +kernel
set_option maxRecDepth 20000 in
theorem dX0_trace_53 : decode cX0_trace 53 = .ok (.invokevirtual 27, 3) := by decide +kernel
set_option maxRecDepth 20000 in
theorem dX0_trace_56 : decode cX0_trace 56 = .ok (.aload_n 0, 1) := by decide +kernel
set_option maxRecDepth 20000 in
theorem dX0_trace_57 : decode cX0_trace 57 = .ok (.dup, 1) := by decide +kernel
set_option maxRecDepth 20000 in
theorem dX0_trace_58 : decode cX0_trace 58 = .ok (.getfield 18, 3) := by decide +kernel
set_option maxRecDepth 20000 in
theorem dX0_trace_61 : decode cX0_trace 61 = .ok (.iconst 1, 1) := by decide +kernel
set_option maxRecDepth 20000 in
theorem dX0_trace_62 : decode cX0_trace 62 = .ok (.iadd, 1) := by decide +kernel
set_option maxRecDepth 20000 in
theorem dX0_trace_63 : decode cX0_trace 63 = .ok (.putfield 18, 3) := by decide +kernel
set_option maxRecDepth 20000 in
theorem dX0_trace_66 : decode cX0_trace 66 = .ok (.iinc 3 1, 3) := by decide +kernel
set_option maxRecDepth 20000 in
theorem dX0_trace_69 : decode cX0_trace 69 = .ok (.goto (-35), 3) := by decide +kernel
set_option maxRecDepth 20000 in
theorem dX0_trace_72 : decode cX0_trace 72 = .ok (.return_, 1) := by decide +kernel
set_option maxRecDepth 20000 in
theorem dX0_traceRing_0 : decode cX0_traceRing 0 = .ok (.iload_n 2, 1) := by decide +kernel
set_option maxRecDepth 20000 in
theorem dX0_traceRing_1 : decode cX0_traceRing 1 = .ok (.istore 4, 2) := by decide +kernel
set_option maxRecDepth 20000 in
theorem dX0_traceRing_3 : decode cX0_traceRing 3 = .ok (.iconst 0, 1) := by decide +kernel
set_option maxRecDepth 20000 in
theorem dX0_traceRing_4 : decode cX0_traceRing 4 = .ok (.istore 5, 2) := by decide +kernel
set_option maxRecDepth 20000 in
theorem dX0_traceRing_6 : decode cX0_traceRing 6 = .ok (.iload 5, 2) := by decide +kernel
set_option maxRecDepth 20000 in
theorem dX0_traceRing_8 : decode cX0_traceRing 8 = .ok (.iload_n 3, 1) := by decide +kernel
set_option maxRecDepth 20000 in
theorem dX0_traceRing_9 : decode cX0_traceRing 9 = .ok (.if_icmp .ge 52, 3) := by decide +kernel
set_option maxRecDepth 20000 in
theorem dX0_traceRing_12 : decode cX0_traceRing 12 = .ok (.aload_n 0, 1) := by decide +kernel
set_option maxRecDepth 20000 in
theorem dX0_traceRing_13 : decode cX0_traceRing 13 = .ok (.getfield 9, 3) := by decide +kernel
set_option maxRecDepth 20000 in
theorem dX0_traceRing_16 : decode cX0_traceRing 16 = .ok (.iload 4, 2) := by decide +kernel
set_option maxRecDepth 20000 in
theorem dX0_traceRing_18 : decode cX0_traceRing 18 = .ok (.iaload, 1) := by decide +kernel
set_option maxRecDepth 20000 in
theorem dX0_traceRing_19 : decode cX0_traceRing 19 = .ok (.iconst (-1), 1) := by decide +kernel
set_option maxRecDepth 20000 in
theorem dX0_traceRing_20 : decode cX0_traceRing 20 = .ok (.if_icmp .ne 41, 3) := by decide +kernel
set_option maxRecDepth 20000 in
theorem dX0_traceRing_23 : decode cX0_traceRing 23 = .ok (.aload_n 1, 1) := by decide +kernel
set_option maxRecDepth 20000 in
theorem dX0_traceRing_24 : decode cX0_traceRing 24 = .ok (.iload 4, 2) := by decide +kernel
set_option maxRecDepth 20000 in
theorem dX0_traceRing_26 : decode cX0_traceRing 26 = .ok (.invokevirtual 31, 3) := by decide +kernel
set_option maxRecDepth 20000 in
theorem dX0_traceRing_29 : decode cX0_traceRing 29 = .ok (.istore 6, 2) := by decide +kernel
set_option maxRecDepth 20000 in
theorem dX0_traceRing_31 : decode cX0_traceRing 31 = .ok (.aload_n 0, 1) := by decide +kernel
set_option maxRecDepth 20000 in
theorem dX0_traceRing_32 : decode cX0_traceRing 32 = .ok (.getfield 9, 3) := by decide +kernel
set_option maxRecDepth 20000 in
theorem dX0_traceRing_35 : decode cX0_traceRing 35 = .ok (.iload 4, 2) := by decide +kernel
set_option maxRecDepth 20000 in
theorem dX0_traceRing_37 : decode cX0_traceRing 37 = .ok (.aload_n 0, 1) := by decide +kernel
set_option maxRecDepth 20000 in
theorem dX0_traceRing_38 : decode cX0_traceRing 38 = .ok (.getfield 18, 3) := by decide +kernel
set_option maxRecDepth 20000 in
theorem dX0_traceRing_41 : decode cX0_traceRing 41 = .ok (.iastore, 1) := by decide +kernel
set_option maxRecDepth 20000 in
theorem dX0_traceRing_42 : decode cX0_traceRing 42 = .ok (.aload_n 0, 1) := by decide +kernel
set_option maxRecDepth 20000 in
theorem dX0_traceRing_43 : decode cX0_traceRing 43 = .ok (.getfield 15, 3) := by decide +kernel
set_option maxRecDepth 20000 in
theorem dX0_traceRing_46 : decode cX0_traceRing 46 = .ok (.iload 6, 2) := by decide +kernel
set_option maxRecDepth 20000 in
theorem dX0_traceRing_48 : decode cX0_traceRing 48 = .ok (.iload 4, 2) := by decide +kernel
set_option maxRecDepth 20000 in
theorem dX0_traceRing_50 : decode cX0_traceRing 50 = .ok (.iastore, 1) := by decide +kernel
set_option maxRecDepth 20000 in
theorem dX0_traceRing_51 : decode cX0_traceRing 51 = .ok (.iload 6, 2) := by decide +kernel
set_option maxRecDepth 20000 in
theorem dX0_traceRing_53 : decode cX0_traceRing 53 = .ok (.istore 4, 2) := by decide +kernel
set_option maxRecDepth 20000 in
theorem dX0_traceRing_55 : decode cX0_traceRing 55 = .ok (.iinc 5 1, 3) := by decide +kernel
set_option maxRecDepth 20000 in
theorem dX0_traceRing_58 : decode cX0_traceRing 58 = .ok (.goto (-52), 3) := by decide +kernel
set_option maxRecDepth 20000 in
theorem dX0_traceRing_61 : decode cX0_traceRing 61 = .ok (.return_, 1) := by decide +kernel
set_option maxRecDepth 20000 in
theorem dX0_rightOf_0 : decode cX0_rightOf 0 = .ok (.aload_n 0, 1) := by decide +kernel
set_option maxRecDepth 20000 in
theorem dX0_rightOf_1 : decode cX0_rightOf 1 = .ok (.getfield 9, 3) := by decide +kernel
set_option maxRecDepth 20000 in
theorem dX0_rightOf_4 : decode cX0_rightOf 4 = .ok (.iconst 2, 1) := by decide +kernel
set_option maxRecDepth 20000 in
theorem dX0_rightOf_5 : decode cX0_rightOf 5 = .ok (.iload_n 1, 1) := by decide +kernel
set_option maxRecDepth 20000 in
theorem dX0_rightOf_6 : decode cX0_rightOf 6 = .ok (.imul, 1) := by decide +kernel
set_option maxRecDepth 20000 in
theorem dX0_rightOf_7 : decode cX0_rightOf 7 = .ok (.iaload, 1) := by decide +kernel
set_option maxRecDepth 20000 in
theorem dX0_rightOf_8 : decode cX0_rightOf 8 = .ok (.ireturn, 1) := by decide +kernel
set_option maxRecDepth 20000 in
theorem dX0_leftOf_0 : decode cX0_leftOf 0 = .ok (.aload_n 0, 1) := by decide +kernel
set_option maxRecDepth 20000 in
theorem dX0_leftOf_1 : decode cX0_leftOf 1 = .ok (.getfield 9, 3) := by decide +kernel
set_option maxRecDepth 20000 in
theorem dX0_leftOf_4 : decode cX0_leftOf 4 = .ok (.iconst 2, 1) := by decide +kernel
set_option maxRecDepth 20000 in
theorem dX0_leftOf_5 : decode cX0_leftOf 5 = .ok (.iload_n 1, 1) := by decide +kernel
set_option maxRecDepth 20000 in
theorem dX0_leftOf_6 : decode cX0_leftOf 6 = .ok (.imul, 1) := by decide +kernel
set_option maxRecDepth 20000 in
theorem dX0_leftOf_7 : decode cX0_leftOf 7 = .ok (.iconst 1, 1) := by decide +kernel
set_option maxRecDepth 20000 in
theorem dX0_leftOf_8 : decode cX0_leftOf 8 = .ok (.iadd, 1) := by decide +kernel
set_option maxRecDepth 20000 in
theorem dX0_leftOf_9 : decode cX0_leftOf 9 = .ok (.iaload, 1) := by decide +kernel
set_option maxRecDepth 20000 in
theorem dX0_leftOf_10 : decode cX0_leftOf 10 = .ok (.ireturn, 1) := by decide +kernel
set_option maxRecDepth 20000 in
theorem dX0_hasWireWithinOneFace_0 : decode cX0_hasWireWithinOneFace 0 = .ok (.iconst 0, 1) := by decide +kernel
set_option maxRecDepth 20000 in
theorem dX0_hasWireWithinOneFace_1 : decode cX0_hasWireWithinOneFace 1 = .ok (.istore_n 2, 1) := by decide +kernel
set_option maxRecDepth 20000 in
theorem dX0_hasWireWithinOneFace_2 : decode cX0_hasWireWithinOneFace 2 = .ok (.iload_n 2, 1) := by decide +kernel
set_option maxRecDepth 20000 in
theorem dX0_hasWireWithinOneFace_3 : decode cX0_hasWireWithinOneFace 3 = .ok (.iload_n 1, 1) := by decide +kernel
set_option maxRecDepth 20000 in
theorem dX0_hasWireWithinOneFace_4 : decode cX0_hasWireWithinOneFace 4 = .ok (.if_icmp .ge 24, 3) := by decide +kernel
set_option maxRecDepth 20000 in
theorem dX0_hasWireWithinOneFace_7 : decode cX0_hasWireWithinOneFace 7 = .ok (.aload_n 0, 1) := by decide +kernel
set_option maxRecDepth 20000 in
theorem dX0_hasWireWithinOneFace_8 : decode cX0_hasWireWithinOneFace 8 = .ok (.iload_n 2, 1) := by decide +kernel
set_option maxRecDepth 20000 in
theorem dX0_hasWireWithinOneFace_9 : decode cX0_hasWireWithinOneFace 9 = .ok (.invokevirtual 35, 3) := by decide +kernel
set_option maxRecDepth 20000 in
theorem dX0_hasWireWithinOneFace_12 : decode cX0_hasWireWithinOneFace 12 = .ok (.aload_n 0, 1) := by decide +kernel
set_option maxRecDepth 20000 in
theorem dX0_hasWireWithinOneFace_13 : decode cX0_hasWireWithinOneFace 13 = .ok (.iload_n 2, 1) := by decide +kernel
set_option maxRecDepth 20000 in
theorem dX0_hasWireWithinOneFace_14 : decode cX0_hasWireWithinOneFace 14 = .ok (.invokevirtual 38, 3) := by decide +kernel
set_option maxRecDepth 20000 in
theorem dX0_hasWireWithinOneFace_17 : decode cX0_hasWireWithinOneFace 17 = .ok (.if_icmp .ne 5, 3) := by decide +kernel
set_option maxRecDepth 20000 in
theorem dX0_hasWireWithinOneFace_20 : decode cX0_hasWireWithinOneFace 20 = .ok (.iconst 1, 1) := by decide +kernel
set_option maxRecDepth 20000 in
theorem dX0_hasWireWithinOneFace_21 : decode cX0_hasWireWithinOneFace 21 = .ok (.ireturn, 1) := by decide +kernel
set_option maxRecDepth 20000 in
theorem dX0_hasWireWithinOneFace_22 : decode cX0_hasWireWithinOneFace 22 = .ok (.iinc 2 1, 3) := by decide +kernel
set_option maxRecDepth 20000 in
theorem dX0_hasWireWithinOneFace_25 : decode cX0_hasWireWithinOneFace 25 = .ok (.goto (-23), 3) := by decide +kernel
set_option maxRecDepth 20000 in
theorem dX0_hasWireWithinOneFace_28 : decode cX0_hasWireWithinOneFace 28 = .ok (.iconst 0, 1) := by decide +kernel
set_option maxRecDepth 20000 in
theorem dX0_hasWireWithinOneFace_29 : decode cX0_hasWireWithinOneFace 29 = .ok (.ireturn, 1) := by decide +kernel
set_option maxRecDepth 20000 in
theorem dX0_makeKnotsOfFaces_0 : decode cX0_makeKnotsOfFaces 0 = .ok (.aload_n 1, 1) := by decide +kernel
set_option maxRecDepth 20000 in
theorem dX0_makeKnotsOfFaces_1 : decode cX0_makeKnotsOfFaces 1 = .ok (.iconst 0, 1) := by decide +kernel
set_option maxRecDepth 20000 in
theorem dX0_makeKnotsOfFaces_2 : decode cX0_makeKnotsOfFaces 2 = .ok (.putfield 41, 3) := by decide +kernel
set_option maxRecDepth 20000 in
theorem dX0_makeKnotsOfFaces_5 : decode cX0_makeKnotsOfFaces 5 = .ok (.iconst 0, 1) := by decide +kernel
set_option maxRecDepth 20000 in
theorem dX0_makeKnotsOfFaces_6 : decode cX0_makeKnotsOfFaces 6 = .ok (.istore_n 2, 1) := by decide +kernel
set_option maxRecDepth 20000 in
theorem dX0_makeKnotsOfFaces_7 : decode cX0_makeKnotsOfFaces 7 = .ok (.iload_n 2, 1) := by decide +kernel
set_option maxRecDepth 20000 in
theorem dX0_makeKnotsOfFaces_8 : decode cX0_makeKnotsOfFaces 8 = .ok (.aload_n 0, 1) := by decide +kernel
set_option maxRecDepth 20000 in
theorem dX0_makeKnotsOfFaces_9 : decode cX0_makeKnotsOfFaces 9 = .ok (.getfield 18, 3) := by decide +kernel
set_option maxRecDepth 20000 in
theorem dX0_makeKnotsOfFaces_12 : decode cX0_makeKnotsOfFaces 12 = .ok (.if_icmp .ge 20, 3) := by decide +kernel
set_option maxRecDepth 20000 in
theorem dX0_makeKnotsOfFaces_15 : decode cX0_makeKnotsOfFaces 15 = .ok (.iload_n 2, 1) := by decide +kernel
set_option maxRecDepth 20000 in
theorem dX0_makeKnotsOfFaces_16 : decode cX0_makeKnotsOfFaces 16 = .ok (.bipush 12, 2) := by decide +kernel
set_option maxRecDepth 20000 in
theorem dX0_makeKnotsOfFaces_18 : decode cX0_makeKnotsOfFaces 18 = .ok (.if_icmp .ge 14, 3) := by decide +kernel
set_option maxRecDepth 20000 in
theorem dX0_makeKnotsOfFaces_21 : decode cX0_makeKnotsOfFaces 21 = .ok (.aload_n 1, 1) := by decide +kernel
set_option maxRecDepth 20000 in
theorem dX0_makeKnotsOfFaces_22 : decode cX0_makeKnotsOfFaces 22 = .ok (.invokevirtual 44, 3) := by decide +kernel
set_option maxRecDepth 20000 in
theorem dX0_makeKnotsOfFaces_25 : decode cX0_makeKnotsOfFaces 25 = .ok (.pop, 1) := by decide +kernel
set_option maxRecDepth 20000 in
theorem dX0_makeKnotsOfFaces_26 : decode cX0_makeKnotsOfFaces 26 = .ok (.iinc 2 1, 3) := by decide +kernel
set_option maxRecDepth 20000 in
theorem dX0_makeKnotsOfFaces_29 : decode cX0_makeKnotsOfFaces 29 = .ok (.goto (-22), 3) := by decide +kernel
set_option maxRecDepth 20000 in
theorem dX0_makeKnotsOfFaces_32 : decode cX0_makeKnotsOfFaces 32 = .ok (.iconst 0, 1) := by decide +kernel
set_option maxRecDepth 20000 in
theorem dX0_makeKnotsOfFaces_33 : decode cX0_makeKnotsOfFaces 33 = .ok (.istore_n 2, 1) := by decide +kernel
set_option maxRecDepth 20000 in
theorem dX0_makeKnotsOfFaces_34 : decode cX0_makeKnotsOfFaces 34 = .ok (.iload_n 2, 1) := by decide +kernel
set_option maxRecDepth 20000 in
theorem dX0_makeKnotsOfFaces_35 : decode cX0_makeKnotsOfFaces 35 = .ok (.aload_n 1, 1) := by decide +kernel
set_option maxRecDepth 20000 in
theorem dX0_makeKnotsOfFaces_36 : decode cX0_makeKnotsOfFaces 36 = .ok (.getfield 22, 3) := by decide +kernel
set_option maxRecDepth 20000 in
theorem dX0_makeKnotsOfFaces_39 : decode cX0_makeKnotsOfFaces 39 = .ok (.if_icmp .ge 38, 3) := by decide +kernel
set_option maxRecDepth 20000 in
theorem dX0_makeKnotsOfFaces_42 : decode cX0_makeKnotsOfFaces 42 = .ok (.aload_n 1, 1) := by decide +kernel
set_option maxRecDepth 20000 in
theorem dX0_makeKnotsOfFaces_43 : decode cX0_makeKnotsOfFaces 43 = .ok (.getfield 48, 3) := by decide +kernel
set_option maxRecDepth 20000 in
theorem dX0_makeKnotsOfFaces_46 : decode cX0_makeKnotsOfFaces 46 = .ok (.iload_n 2, 1) := by decide +kernel
set_option maxRecDepth 20000 in
theorem dX0_makeKnotsOfFaces_47 : decode cX0_makeKnotsOfFaces 47 = .ok (.aload_n 0, 1) := by decide +kernel
set_option maxRecDepth 20000 in
theorem dX0_makeKnotsOfFaces_48 : decode cX0_makeKnotsOfFaces 48 = .ok (.iload_n 2, 1) := by decide +kernel
set_option maxRecDepth 20000 in
theorem dX0_makeKnotsOfFaces_49 : decode cX0_makeKnotsOfFaces 49 = .ok (.invokevirtual 35, 3) := by decide +kernel
set_option maxRecDepth 20000 in
theorem dX0_makeKnotsOfFaces_52 : decode cX0_makeKnotsOfFaces 52 = .ok (.iastore, 1) := by decide +kernel
set_option maxRecDepth 20000 in
theorem dX0_makeKnotsOfFaces_53 : decode cX0_makeKnotsOfFaces 53 = .ok (.aload_n 1, 1) := by decide +kernel
set_option maxRecDepth 20000 in
theorem dX0_makeKnotsOfFaces_54 : decode cX0_makeKnotsOfFaces 54 = .ok (.getfield 51, 3) := by decide +kernel
set_option maxRecDepth 20000 in
theorem dX0_makeKnotsOfFaces_57 : decode cX0_makeKnotsOfFaces 57 = .ok (.iload_n 2, 1) := by decide +kernel
set_option maxRecDepth 20000 in
theorem dX0_makeKnotsOfFaces_58 : decode cX0_makeKnotsOfFaces 58 = .ok (.aload_n 0, 1) := by decide +kernel
set_option maxRecDepth 20000 in
theorem dX0_makeKnotsOfFaces_59 : decode cX0_makeKnotsOfFaces 59 = .ok (.iload_n 2, 1) := by decide +kernel
set_option maxRecDepth 20000 in
theorem dX0_makeKnotsOfFaces_60 : decode cX0_makeKnotsOfFaces 60 = .ok (.invokevirtual 38, 3) := by decide +kernel
set_option maxRecDepth 20000 in
theorem dX0_makeKnotsOfFaces_63 : decode cX0_makeKnotsOfFaces 63 = .ok (.iastore, 1) := by decide +kernel
set_option maxRecDepth 20000 in
theorem dX0_makeKnotsOfFaces_64 : decode cX0_makeKnotsOfFaces 64 = .ok (.aload_n 1, 1) := by decide +kernel
set_option maxRecDepth 20000 in
theorem dX0_makeKnotsOfFaces_65 : decode cX0_makeKnotsOfFaces 65 = .ok (.getfield 54, 3) := by decide +kernel
set_option maxRecDepth 20000 in
theorem dX0_makeKnotsOfFaces_68 : decode cX0_makeKnotsOfFaces 68 = .ok (.iload_n 2, 1) := by decide +kernel
set_option maxRecDepth 20000 in
theorem dX0_makeKnotsOfFaces_69 : decode cX0_makeKnotsOfFaces 69 = .ok (.iconst 0, 1) := by decide +kernel
set_option maxRecDepth 20000 in
theorem dX0_makeKnotsOfFaces_70 : decode cX0_makeKnotsOfFaces 70 = .ok (.iastore, 1) := by decide +kernel
set_option maxRecDepth 20000 in
theorem dX0_makeKnotsOfFaces_71 : decode cX0_makeKnotsOfFaces 71 = .ok (.iinc 2 1, 3) := by decide +kernel
set_option maxRecDepth 20000 in
theorem dX0_makeKnotsOfFaces_74 : decode cX0_makeKnotsOfFaces 74 = .ok (.goto (-40), 3) := by decide +kernel
set_option maxRecDepth 20000 in
theorem dX0_makeKnotsOfFaces_77 : decode cX0_makeKnotsOfFaces 77 = .ok (.iconst 0, 1) := by decide +kernel
set_option maxRecDepth 20000 in
theorem dX0_makeKnotsOfFaces_78 : decode cX0_makeKnotsOfFaces 78 = .ok (.istore_n 2, 1) := by decide +kernel
set_option maxRecDepth 20000 in
theorem dX0_makeKnotsOfFaces_79 : decode cX0_makeKnotsOfFaces 79 = .ok (.iconst 0, 1) := by decide +kernel
set_option maxRecDepth 20000 in
theorem dX0_makeKnotsOfFaces_80 : decode cX0_makeKnotsOfFaces 80 = .ok (.istore_n 3, 1) := by decide +kernel
set_option maxRecDepth 20000 in
theorem dX0_makeKnotsOfFaces_81 : decode cX0_makeKnotsOfFaces 81 = .ok (.iload_n 3, 1) := by decide +kernel
set_option maxRecDepth 20000 in
theorem dX0_makeKnotsOfFaces_82 : decode cX0_makeKnotsOfFaces 82 = .ok (.iconst 2, 1) := by decide +kernel
set_option maxRecDepth 20000 in
theorem dX0_makeKnotsOfFaces_83 : decode cX0_makeKnotsOfFaces 83 = .ok (.aload_n 1, 1) := by decide +kernel
set_option maxRecDepth 20000 in
theorem dX0_makeKnotsOfFaces_84 : decode cX0_makeKnotsOfFaces 84 = .ok (.getfield 22, 3) := by decide +kernel
set_option maxRecDepth 20000 in
theorem dX0_makeKnotsOfFaces_87 : decode cX0_makeKnotsOfFaces 87 = .ok (.imul, 1) := by decide +kernel
set_option maxRecDepth 20000 in
theorem dX0_makeKnotsOfFaces_88 : decode cX0_makeKnotsOfFaces 88 = .ok (.if_icmp .ge 36, 3) := by decide +kernel
set_option maxRecDepth 20000 in
theorem dX0_makeKnotsOfFaces_91 : decode cX0_makeKnotsOfFaces 91 = .ok (.iload_n 2, 1) := by decide +kernel
set_option maxRecDepth 20000 in
theorem dX0_makeKnotsOfFaces_92 : decode cX0_makeKnotsOfFaces 92 = .ok (.aload_n 1, 1) := by decide +kernel
set_option maxRecDepth 20000 in
theorem dX0_makeKnotsOfFaces_93 : decode cX0_makeKnotsOfFaces 93 = .ok (.getfield 41, 3) := by decide +kernel
set_option maxRecDepth 20000 in
theorem dX0_makeKnotsOfFaces_96 : decode cX0_makeKnotsOfFaces 96 = .ok (.if_icmp .ge 28, 3) := by decide +kernel
set_option maxRecDepth 20000 in
theorem dX0_makeKnotsOfFaces_99 : decode cX0_makeKnotsOfFaces 99 = .ok (.aload_n 0, 1) := by decide +kernel
set_option maxRecDepth 20000 in
theorem dX0_makeKnotsOfFaces_100 : decode cX0_makeKnotsOfFaces 100 = .ok (.getfield 9, 3) := by decide +kernel
set_option maxRecDepth 20000 in
theorem dX0_makeKnotsOfFaces_103 : decode cX0_makeKnotsOfFaces 103 = .ok (.iload_n 3, 1) := by decide +kernel
set_option maxRecDepth 20000 in
theorem dX0_makeKnotsOfFaces_104 : decode cX0_makeKnotsOfFaces 104 = .ok (.iaload, 1) := by decide +kernel
set_option maxRecDepth 20000 in
theorem dX0_makeKnotsOfFaces_105 : decode cX0_makeKnotsOfFaces 105 = .ok (.iload_n 2, 1) := by decide +kernel
set_option maxRecDepth 20000 in
theorem dX0_makeKnotsOfFaces_106 : decode cX0_makeKnotsOfFaces 106 = .ok (.if_icmp .ne 12, 3) := by decide +kernel
set_option maxRecDepth 20000 in
theorem dX0_makeKnotsOfFaces_109 : decode cX0_makeKnotsOfFaces 109 = .ok (.aload_n 0, 1) := by decide +kernel
set_option maxRecDepth 20000 in
theorem dX0_makeKnotsOfFaces_110 : decode cX0_makeKnotsOfFaces 110 = .ok (.aload_n 1, 1) := by decide +kernel
set_option maxRecDepth 20000 in
theorem dX0_makeKnotsOfFaces_111 : decode cX0_makeKnotsOfFaces 111 = .ok (.iload_n 3, 1) := by decide +kernel
set_option maxRecDepth 20000 in
theorem dX0_makeKnotsOfFaces_112 : decode cX0_makeKnotsOfFaces 112 = .ok (.invokevirtual 57, 3) := by decide +kernel
set_option maxRecDepth 20000 in
theorem dX0_makeKnotsOfFaces_115 : decode cX0_makeKnotsOfFaces 115 = .ok (.iinc 2 1, 3) := by decide +kernel
set_option maxRecDepth 20000 in
theorem dX0_makeKnotsOfFaces_118 : decode cX0_makeKnotsOfFaces 118 = .ok (.iinc 3 1, 3) := by decide +kernel
set_option maxRecDepth 20000 in
theorem dX0_makeKnotsOfFaces_121 : decode cX0_makeKnotsOfFaces 121 = .ok (.goto (-40), 3) := by decide +kernel
set_option maxRecDepth 20000 in
theorem dX0_makeKnotsOfFaces_124 : decode cX0_makeKnotsOfFaces 124 = .ok (.return_, 1) := by decide +kernel
set_option maxRecDepth 20000 in
theorem dX0_layRing_0 : decode cX0_layRing 0 = .ok (.aload_n 0, 1) := by decide +kernel
set_option maxRecDepth 20000 in
theorem dX0_layRing_1 : decode cX0_layRing 1 = .ok (.getfield 9, 3) := by decide +kernel
set_option maxRecDepth 20000 in
theorem dX0_layRing_4 : decode cX0_layRing 4 = .ok (.iload_n 2, 1) := by decide +kernel
set_option maxRecDepth 20000 in
theorem dX0_layRing_5 : decode cX0_layRing 5 = .ok (.iaload, 1) := by decide +kernel
set_option maxRecDepth 20000 in
theorem dX0_layRing_6 : decode cX0_layRing 6 = .ok (.istore_n 3, 1) := by decide +kernel
set_option maxRecDepth 20000 in
theorem dX0_layRing_7 : decode cX0_layRing 7 = .ok (.iload_n 2, 1) := by decide +kernel
set_option maxRecDepth 20000 in
theorem dX0_layRing_8 : decode cX0_layRing 8 = .ok (.istore 4, 2) := by decide +kernel
set_option maxRecDepth 20000 in
theorem dX0_layRing_10 : decode cX0_layRing 10 = .ok (.iconst 0, 1) := by decide +kernel
set_option maxRecDepth 20000 in
theorem dX0_layRing_11 : decode cX0_layRing 11 = .ok (.istore 5, 2) := by decide +kernel
set_option maxRecDepth 20000 in
theorem dX0_layRing_13 : decode cX0_layRing 13 = .ok (.iload 5, 2) := by decide +kernel
set_option maxRecDepth 20000 in
theorem dX0_layRing_15 : decode cX0_layRing 15 = .ok (.ifCond .eq 16, 3) := by decide +kernel
set_option maxRecDepth 20000 in
theorem dX0_layRing_18 : decode cX0_layRing 18 = .ok (.iload 5, 2) := by decide +kernel
set_option maxRecDepth 20000 in
theorem dX0_layRing_20 : decode cX0_layRing 20 = .ok (.bipush 44, 2) := by decide +kernel
set_option maxRecDepth 20000 in
theorem dX0_layRing_22 : decode cX0_layRing 22 = .ok (.if_icmp .ge 33, 3) := by decide +kernel
set_option maxRecDepth 20000 in
theorem dX0_layRing_25 : decode cX0_layRing 25 = .ok (.iload 4, 2) := by decide +kernel
set_option maxRecDepth 20000 in
theorem dX0_layRing_27 : decode cX0_layRing 27 = .ok (.iload_n 2, 1) := by decide +kernel
set_option maxRecDepth 20000 in
theorem dX0_layRing_28 : decode cX0_layRing 28 = .ok (.if_icmp .eq 27, 3) := by decide +kernel
set_option maxRecDepth 20000 in
theorem dX0_layRing_31 : decode cX0_layRing 31 = .ok (.aload_n 1, 1) := by decide +kernel
set_option maxRecDepth 20000 in
theorem dX0_layRing_32 : decode cX0_layRing 32 = .ok (.iload_n 3, 1) := by decide +kernel
set_option maxRecDepth 20000 in
theorem dX0_layRing_33 : decode cX0_layRing 33 = .ok (.iload 4, 2) := by decide +kernel
set_option maxRecDepth 20000 in
theorem dX0_layRing_35 : decode cX0_layRing 35 = .ok (.iconst 1, 1) := by decide +kernel
set_option maxRecDepth 20000 in
theorem dX0_layRing_36 : decode cX0_layRing 36 = .ok (.ishr, 1) := by decide +kernel
set_option maxRecDepth 20000 in
theorem dX0_layRing_37 : decode cX0_layRing 37 = .ok (.invokevirtual 61, 3) := by decide +kernel
set_option maxRecDepth 20000 in
theorem dX0_layRing_40 : decode cX0_layRing 40 = .ok (.aload_n 0, 1) := by decide +kernel
set_option maxRecDepth 20000 in
theorem dX0_layRing_41 : decode cX0_layRing 41 = .ok (.getfield 15, 3) := by decide +kernel
set_option maxRecDepth 20000 in
theorem dX0_layRing_44 : decode cX0_layRing 44 = .ok (.iload 4, 2) := by decide +kernel
set_option maxRecDepth 20000 in
theorem dX0_layRing_46 : decode cX0_layRing 46 = .ok (.iaload, 1) := by decide +kernel
set_option maxRecDepth 20000 in
theorem dX0_layRing_47 : decode cX0_layRing 47 = .ok (.istore 4, 2) := by decide +kernel
set_option maxRecDepth 20000 in
theorem dX0_layRing_49 : decode cX0_layRing 49 = .ok (.iinc 5 1, 3) := by decide +kernel
set_option maxRecDepth 20000 in
theorem dX0_layRing_52 : decode cX0_layRing 52 = .ok (.goto (-39), 3) := by decide +kernel
set_option maxRecDepth 20000 in
theorem dX0_layRing_55 : decode cX0_layRing 55 = .ok (.return_, 1) := by decide +kernel
