set_option maxRecDepth 20000 in
theorem dX5_init_0 : decode cX5_init 0 = .ok (.aload_n 0, 1) := by decide +kernel
set_option maxRecDepth 20000 in
theorem dX5_init_1 : decode cX5_init 1 = .ok (.invokespecial 3, 3) := by decide +kernel
set_option maxRecDepth 20000 in
theorem dX5_init_4 : decode cX5_init 4 = .ok (.aload_n 0, 1) := by decide +kernel
set_option maxRecDepth 20000 in
theorem dX5_init_5 : decode cX5_init 5 = .ok (.bipush 21, 2) := by decide +kernel
set_option maxRecDepth 20000 in
theorem dX5_init_7 : decode cX5_init 7 = .ok (.newarray .int, 2) := by decide +kernel
set_option maxRecDepth 20000 in
theorem dX5_init_9 : decode cX5_init 9 = .ok (.putfield 9, 3) := by decide +kernel
set_option maxRecDepth 20000 in
theorem dX5_init_12 : decode cX5_init 12 = .ok (.aload_n 0, 1) := by decide +kernel
set_option maxRecDepth 20000 in
theorem dX5_init_13 : decode cX5_init 13 = .ok (.bipush 21, 2) := by decide +kernel
set_option maxRecDepth 20000 in
theorem dX5_init_15 : decode cX5_init 15 = .ok (.newarray .int, 2) := by decide +kernel
set_option maxRecDepth 20000 in
theorem dX5_init_17 : decode cX5_init 17 = .ok (.putfield 15, 3) := by decide +kernel
set_option maxRecDepth 20000 in
theorem dX5_init_20 : decode cX5_init 20 = .ok (.aload_n 0, 1) := by decide +kernel
set_option maxRecDepth 20000 in
theorem dX5_init_21 : decode cX5_init 21 = .ok (.bipush 21, 2) := by decide +kernel
set_option maxRecDepth 20000 in
theorem dX5_init_23 : decode cX5_init 23 = .ok (.newarray .int, 2) := by decide +kernel
set_option maxRecDepth 20000 in
theorem dX5_init_25 : decode cX5_init 25 = .ok (.putfield 18, 3) := by decide +kernel
set_option maxRecDepth 20000 in
theorem dX5_init_28 : decode cX5_init 28 = .ok (.aload_n 0, 1) := by decide +kernel
set_option maxRecDepth 20000 in
theorem dX5_init_29 : decode cX5_init 29 = .ok (.iconst 0, 1) := by decide +kernel
set_option maxRecDepth 20000 in
theorem dX5_init_30 : decode cX5_init 30 = .ok (.putfield 21, 3) := by decide +kernel
set_option maxRecDepth 20000 in
theorem dX5_init_33 : decode cX5_init 33 = .ok (.return_, 1) := by decide +kernel
set_option maxRecDepth 20000 in
theorem dX5_canBe_0 : decode cX5_canBe 0 = .ok (.iload_n 1, 1) := by decide +kernel
set_option maxRecDepth 20000 in
theorem dX5_canBe_1 : decode cX5_canBe 1 = .ok (.iload_n 0, 1) := by decide +kernel
set_option maxRecDepth 20000 in
theorem dX5_canBe_2 : decode cX5_canBe 2 = .ok (.iconst 2, 1) := by decide +kernel
set_option maxRecDepth 20000 in
theorem dX5_canBe_3 : decode cX5_canBe 3 = .ok (.if_icmp .ne 7, 3) := by decide +kernel
set_option maxRecDepth 20000 in
theorem dX5_canBe_6 : decode cX5_canBe 6 = .ok (.iconst 1, 1) := by decide +kernel
set_option maxRecDepth 20000 in
theorem dX5_canBe_7 : decode cX5_canBe 7 = .ok (.goto 4, 3) := by decide +kernel
set_option maxRecDepth 20000 in
theorem dX5_canBe_10 : decode cX5_canBe 10 = .ok (.iconst 0, 1) := by decide +kernel
set_option maxRecDepth 20000 in
theorem dX5_canBe_11 : decode cX5_canBe 11 = .ok (.if_icmp .lt 13, 3) := by decide +kernel
set_option maxRecDepth 20000 in
theorem dX5_canBe_14 : decode cX5_canBe 14 = .ok (.iload_n 1, 1) := by decide +kernel
set_option maxRecDepth 20000 in
theorem dX5_canBe_15 : decode cX5_canBe 15 = .ok (.ldc 25, 2) := by decide +kernel
set_option maxRecDepth 20000 in
theorem dX5_canBe_17 : decode cX5_canBe 17 = .ok (.if_icmp .gt 7, 3) := by decide +kernel
set_option maxRecDepth 20000 in
theorem dX5_canBe_20 : decode cX5_canBe 20 = .ok (.iconst 1, 1) := by decide +kernel
set_option maxRecDepth 20000 in
theorem dX5_canBe_21 : decode cX5_canBe 21 = .ok (.goto 4, 3) := by decide +kernel
set_option maxRecDepth 20000 in
theorem dX5_canBe_24 : decode cX5_canBe 24 = .ok (.iconst 0, 1) := by decide +kernel
set_option maxRecDepth 20000 in
theorem dX5_canBe_25 : decode cX5_canBe 25 = .ok (.ireturn, 1) := by decide +kernel
set_option maxRecDepth 20000 in
theorem dX5_add_0 : decode cX5_add 0 = .ok (.aload_n 0, 1) := by decide +kernel
set_option maxRecDepth 20000 in
theorem dX5_add_1 : decode cX5_add 1 = .ok (.getfield 21, 3) := by decide +kernel
set_option maxRecDepth 20000 in
theorem dX5_add_4 : decode cX5_add 4 = .ok (.bipush 21, 2) := by decide +kernel
set_option maxRecDepth 20000 in
theorem dX5_add_6 : decode cX5_add 6 = .ok (.if_icmp .ge 43, 3) := by decide +kernel
set_option maxRecDepth 20000 in
theorem dX5_add_9 : decode cX5_add 9 = .ok (.aload_n 0, 1) := by decide +kernel
set_option maxRecDepth 20000 in
theorem dX5_add_10 : decode cX5_add 10 = .ok (.getfield 9, 3) := by decide +kernel
set_option maxRecDepth 20000 in
theorem dX5_add_13 : decode cX5_add 13 = .ok (.aload_n 0, 1) := by decide +kernel
set_option maxRecDepth 20000 in
theorem dX5_add_14 : decode cX5_add 14 = .ok (.getfield 21, 3) := by decide +kernel
set_option maxRecDepth 20000 in
theorem dX5_add_17 : decode cX5_add 17 = .ok (.iload_n 1, 1) := by decide +kernel
set_option maxRecDepth 20000 in
theorem dX5_add_18 : decode cX5_add 18 = .ok (.iastore, 1) := by decide +kernel
set_option maxRecDepth 20000 in
theorem dX5_add_19 : decode cX5_add 19 = .ok (.aload_n 0, 1) := by decide +kernel
set_option maxRecDepth 20000 in
theorem dX5_add_20 : decode cX5_add 20 = .ok (.getfield 15, 3) := by decide +kernel
set_option maxRecDepth 20000 in
theorem dX5_add_23 : decode cX5_add 23 = .ok (.aload_n 0, 1) := by decide +kernel
set_option maxRecDepth 20000 in
theorem dX5_add_24 : decode cX5_add 24 = .ok (.getfield 21, 3) := by decide +kernel
set_option maxRecDepth 20000 in
theorem dX5_add_27 : decode cX5_add 27 = .ok (.iload_n 2, 1) := by decide +kernel
set_option maxRecDepth 20000 in
theorem dX5_add_28 : decode cX5_add 28 = .ok (.iastore, 1) := by decide +kernel
set_option maxRecDepth 20000 in
theorem dX5_add_29 : decode cX5_add 29 = .ok (.aload_n 0, 1) := by decide +kernel
set_option maxRecDepth 20000 in
theorem dX5_add_30 : decode cX5_add 30 = .ok (.getfield 18, 3) := by decide +kernel
set_option maxRecDepth 20000 in
theorem dX5_add_33 : decode cX5_add 33 = .ok (.aload_n 0, 1) := by decide +kernel
set_option maxRecDepth 20000 in
theorem dX5_add_34 : decode cX5_add 34 = .ok (.getfield 21, 3) := by decide +kernel
set_option maxRecDepth 20000 in
theorem dX5_add_37 : decode cX5_add 37 = .ok (.iload_n 3, 1) := by decide +kernel
set_option maxRecDepth 20000 in
theorem dX5_add_38 : decode cX5_add 38 = .ok (.iastore, 1) := by decide +kernel
set_option maxRecDepth 20000 in
theorem dX5_add_39 : decode cX5_add 39 = .ok (.aload_n 0, 1) := by decide +kernel
set_option maxRecDepth 20000 in
theorem dX5_add_40 : decode cX5_add 40 = .ok (.dup, 1) := by decide +kernel
set_option maxRecDepth 20000 in
theorem dX5_add_41 : decode cX5_add 41 = .ok (.getfield 21, 3) := by decide +kernel
set_option maxRecDepth 20000 in
theorem dX5_add_44 : decode cX5_add 44 = .ok (.iconst 1, 1) := by decide +kernel
set_option maxRecDepth 20000 in
theorem dX5_add_45 : decode cX5_add 45 = .ok (.iadd, 1) := by decide +kernel
set_option maxRecDepth 20000 in
theorem dX5_add_46 : decode cX5_add 46 = .ok (.putfield 21, 3) := by decide +kernel
set_option maxRecDepth 20000 in
theorem dX5_add_49 : decode cX5_add 49 = .ok (.return_, 1) := by decide +kernel
set_option maxRecDepth 20000 in
theorem dX5_takeFrom_0 : decode cX5_takeFrom 0 = .ok (.aload_n 0, 1) := by decide +kernel
set_option maxRecDepth 20000 in
theorem dX5_takeFrom_1 : decode cX5_takeFrom 1 = .ok (.aload_n 1, 1) := by decide +kernel
set_option maxRecDepth 20000 in
theorem dX5_takeFrom_2 : decode cX5_takeFrom 2 = .ok (.getfield 21, 3) := by decide +kernel
set_option maxRecDepth 20000 in
theorem dX5_takeFrom_5 : decode cX5_takeFrom 5 = .ok (.putfield 21, 3) := by decide +kernel
set_option maxRecDepth 20000 in
theorem dX5_takeFrom_8 : decode cX5_takeFrom 8 = .ok (.aload_n 1, 1) := by decide +kernel
set_option maxRecDepth 20000 in
theorem dX5_takeFrom_9 : decode cX5_takeFrom 9 = .ok (.getfield 9, 3) := by decide +kernel
set_option maxRecDepth 20000 in
theorem dX5_takeFrom_12 : decode cX5_takeFrom 12 = .ok (.iconst 0, 1) := by decide +kernel
set_option maxRecDepth 20000 in
theorem dX5_takeFrom_13 : decode cX5_takeFrom 13 = .ok (.aload_n 0, 1) := by decide +kernel
set_option maxRecDepth 20000 in
theorem dX5_takeFrom_14 : decode cX5_takeFrom 14 = .ok (.getfield 9, 3) := by decide +kernel
set_option maxRecDepth 20000 in
theorem dX5_takeFrom_17 : decode cX5_takeFrom 17 = .ok (.iconst 0, 1) := by decide +kernel
set_option maxRecDepth 20000 in
theorem dX5_takeFrom_18 : decode cX5_takeFrom 18 = .ok (.bipush 21, 2) := by decide +kernel
set_option maxRecDepth 20000 in
theorem dX5_takeFrom_20 : decode cX5_takeFrom 20 = .ok (.invokestatic 26, 3) := by decide +kernel
set_option maxRecDepth 20000 in
theorem dX5_takeFrom_23 : decode cX5_takeFrom 23 = .ok (.aload_n 1, 1) := by decide +kernel
set_option maxRecDepth 20000 in
theorem dX5_takeFrom_24 : decode cX5_takeFrom 24 = .ok (.getfield 15, 3) := by decide +kernel
set_option maxRecDepth 20000 in
theorem dX5_takeFrom_27 : decode cX5_takeFrom 27 = .ok (.iconst 0, 1) := by decide +kernel
set_option maxRecDepth 20000 in
theorem dX5_takeFrom_28 : decode cX5_takeFrom 28 = .ok (.aload_n 0, 1) := by decide +kernel
set_option maxRecDepth 20000 in
theorem dX5_takeFrom_29 : decode cX5_takeFrom 29 = .ok (.getfield 15, 3) := by decide +kernel
set_option maxRecDepth 20000 in
theorem dX5_takeFrom_32 : decode cX5_takeFrom 32 = .ok (.iconst 0, 1) := by decide +kernel
set_option maxRecDepth 20000 in
theorem dX5_takeFrom_33 : decode cX5_takeFrom 33 = .ok (.bipush 21, 2) := by decide +kernel
set_option maxRecDepth 20000 in
theorem dX5_takeFrom_35 : decode cX5_takeFrom 35 = .ok (.invokestatic 26, 3) := by decide +kernel
set_option maxRecDepth 20000 in
theorem dX5_takeFrom_38 : decode cX5_takeFrom 38 = .ok (.aload_n 1, 1) := by decide +kernel
set_option maxRecDepth 20000 in
theorem dX5_takeFrom_39 : decode cX5_takeFrom 39 = .ok (.getfield 18, 3) := by decide +kernel
set_option maxRecDepth 20000 in
theorem dX5_takeFrom_42 : decode cX5_takeFrom 42 = .ok (.iconst 0, 1) := by decide +kernel
set_option maxRecDepth 20000 in
theorem dX5_takeFrom_43 : decode cX5_takeFrom 43 = .ok (.aload_n 0, 1) := by decide +kernel
set_option maxRecDepth 20000 in
theorem dX5_takeFrom_44 : decode cX5_takeFrom 44 = .ok (.getfield 18, 3) := by decide +kernel
set_option maxRecDepth 20000 in
theorem dX5_takeFrom_47 : decode cX5_takeFrom 47 = .ok (.iconst 0, 1) := by decide +kernel
set_option maxRecDepth 20000 in
theorem dX5_takeFrom_48 : decode cX5_takeFrom 48 = .ok (.bipush 21, 2) := by decide +kernel
set_option maxRecDepth 20000 in
theorem dX5_takeFrom_50 : decode cX5_takeFrom 50 = .ok (.invokestatic 26, 3) := by decide +kernel
set_option maxRecDepth 20000 in
theorem dX5_takeFrom_53 : decode cX5_takeFrom 53 = .ok (.return_, 1) := by decide +kernel
set_option maxRecDepth 20000 in
theorem dX5_tellOne_0 : decode cX5_tellOne 0 = .ok (.iload_n 2, 1) := by decide +kernel
set_option maxRecDepth 20000 in
theorem dX5_tellOne_1 : decode cX5_tellOne 1 = .ok (.ifCond .ne 12, 3) := by decide +kernel
set_option maxRecDepth 20000 in
theorem dX5_tellOne_4 : decode cX5_tellOne 4 = .ok (.aload_n 0, 1) := by decide +kernel
set_option maxRecDepth 20000 in
theorem dX5_tellOne_5 : decode cX5_tellOne 5 = .ok (.getfield 9, 3) := by decide +kernel
set_option maxRecDepth 20000 in
theorem dX5_tellOne_8 : decode cX5_tellOne 8 = .ok (.iload_n 1, 1) := by decide +kernel
set_option maxRecDepth 20000 in
theorem dX5_tellOne_9 : decode cX5_tellOne 9 = .ok (.iaload, 1) := by decide +kernel
set_option maxRecDepth 20000 in
theorem dX5_tellOne_10 : decode cX5_tellOne 10 = .ok (.goto 23, 3) := by decide +kernel
set_option maxRecDepth 20000 in
theorem dX5_tellOne_13 : decode cX5_tellOne 13 = .ok (.iload_n 2, 1) := by decide +kernel
set_option maxRecDepth 20000 in
theorem dX5_tellOne_14 : decode cX5_tellOne 14 = .ok (.iconst 1, 1) := by decide +kernel
set_option maxRecDepth 20000 in
theorem dX5_tellOne_15 : decode cX5_tellOne 15 = .ok (.if_icmp .ne 12, 3) := by decide +kernel
set_option maxRecDepth 20000 in
theorem dX5_tellOne_18 : decode cX5_tellOne 18 = .ok (.aload_n 0, 1) := by decide +kernel
set_option maxRecDepth 20000 in
theorem dX5_tellOne_19 : decode cX5_tellOne 19 = .ok (.getfield 15, 3) := by decide +kernel
set_option maxRecDepth 20000 in
theorem dX5_tellOne_22 : decode cX5_tellOne 22 = .ok (.iload_n 1, 1) := by decide +kernel
set_option maxRecDepth 20000 in
theorem dX5_tellOne_23 : decode cX5_tellOne 23 = .ok (.iaload, 1) := by decide +kernel
set_option maxRecDepth 20000 in
theorem dX5_tellOne_24 : decode cX5_tellOne 24 = .ok (.goto 9, 3) := by decide +kernel
set_option maxRecDepth 20000 in
theorem dX5_tellOne_27 : decode cX5_tellOne 27 = .ok (.aload_n 0, 1) := by decide +kernel
set_option maxRecDepth 20000 in
theorem dX5_tellOne_28 : decode cX5_tellOne 28 = .ok (.getfield 18, 3) := by decide +kernel
set_option maxRecDepth 20000 in
theorem dX5_tellOne_31 : decode cX5_tellOne 31 = .ok (.iload_n 1, 1) := by decide +kernel
set_option maxRecDepth 20000 in
theorem dX5_tellOne_32 : decode cX5_tellOne 32 = .ok (.iaload, 1) := by decide +kernel
set_option maxRecDepth 20000 in
theorem dX5_tellOne_33 : decode cX5_tellOne 33 = .ok (.ireturn, 1) := by decide +kernel
set_option maxRecDepth 20000 in
theorem dX5_setOne_0 : decode cX5_setOne 0 = .ok (.iload_n 2, 1) := by decide +kernel
set_option maxRecDepth 20000 in
theorem dX5_setOne_1 : decode cX5_setOne 1 = .ok (.ifCond .ne 13, 3) := by decide +kernel
set_option maxRecDepth 20000 in
theorem dX5_setOne_4 : decode cX5_setOne 4 = .ok (.aload_n 0, 1) := by decide +kernel
set_option maxRecDepth 20000 in
theorem dX5_setOne_5 : decode cX5_setOne 5 = .ok (.getfield 9, 3) := by decide +kernel
set_option maxRecDepth 20000 in
theorem dX5_setOne_8 : decode cX5_setOne 8 = .ok (.iload_n 1, 1) := by decide +kernel
set_option maxRecDepth 20000 in
theorem dX5_setOne_9 : decode cX5_setOne 9 = .ok (.iload_n 3, 1) := by decide +kernel
set_option maxRecDepth 20000 in
theorem dX5_setOne_10 : decode cX5_setOne 10 = .ok (.iastore, 1) := by decide +kernel
set_option maxRecDepth 20000 in
theorem dX5_setOne_11 : decode cX5_setOne 11 = .ok (.goto 25, 3) := by decide +kernel
set_option maxRecDepth 20000 in
theorem dX5_setOne_14 : decode cX5_setOne 14 = .ok (.iload_n 2, 1) := by decide +kernel
set_option maxRecDepth 20000 in
theorem dX5_setOne_15 : decode cX5_setOne 15 = .ok (.iconst 1, 1) := by decide +kernel
set_option maxRecDepth 20000 in
theorem dX5_setOne_16 : decode cX5_setOne 16 = .ok (.if_icmp .ne 13, 3) := by decide +kernel
set_option maxRecDepth 20000 in
theorem dX5_setOne_19 : decode cX5_setOne 19 = .ok (.aload_n 0, 1) := by decide +kernel
set_option maxRecDepth 20000 in
theorem dX5_setOne_20 : decode cX5_setOne 20 = .ok (.getfield 15, 3) := by decide +kernel
set_option maxRecDepth 20000 in
theorem dX5_setOne_23 : decode cX5_setOne 23 = .ok (.iload_n 1, 1) := by decide +kernel
set_option maxRecDepth 20000 in
theorem dX5_setOne_24 : decode cX5_setOne 24 = .ok (.iload_n 3, 1) := by decide +kernel
set_option maxRecDepth 20000 in
theorem dX5_setOne_25 : decode cX5_setOne 25 = .ok (.iastore, 1) := by decide +kernel
set_option maxRecDepth 20000 in
theorem dX5_setOne_26 : decode cX5_setOne 26 = .ok (.goto 10, 3) := by decide +kernel
set_option maxRecDepth 20000 in
theorem dX5_setOne_29 : decode cX5_setOne 29 = .ok (.aload_n 0, 1) := by decide +kernel
set_option maxRecDepth 20000 in
theorem dX5_setOne_30 : decode cX5_setOne 30 = .ok (.getfield 18, 3) := by decide +kernel
set_option maxRecDepth 20000 in
theorem dX5_setOne_33 : decode cX5_setOne 33 = .ok (.iload_n 1, 1) := by decide +kernel
set_option maxRecDepth 20000 in
theorem dX5_setOne_34 : decode cX5_setOne 34 = .ok (.iload_n 3, 1) := by decide +kernel
set_option maxRecDepth 20000 in
theorem dX5_setOne_35 : decode cX5_setOne 35 = .ok (.iastore, 1) := by decide +kernel
set_option maxRecDepth 20000 in
theorem dX5_setOne_36 : decode cX5_setOne 36 = .ok (.return_, 1) := by decide +kernel
set_option maxRecDepth 20000 in
theorem dX5_right_0 : decode cX5_right 0 = .ok (.aload_n 0, 1) := by decide +kernel
set_option maxRecDepth 20000 in
theorem dX5_right_1 : decode cX5_right 1 = .ok (.getfield 9, 3) := by decide +kernel
set_option maxRecDepth 20000 in
theorem dX5_right_4 : decode cX5_right 4 = .ok (.iload_n 1, 1) := by decide +kernel
set_option maxRecDepth 20000 in
theorem dX5_right_5 : decode cX5_right 5 = .ok (.iaload, 1) := by decide +kernel
set_option maxRecDepth 20000 in
theorem dX5_right_6 : decode cX5_right 6 = .ok (.aload_n 0, 1) := by decide +kernel
set_option maxRecDepth 20000 in
theorem dX5_right_7 : decode cX5_right 7 = .ok (.getfield 18, 3) := by decide +kernel
set_option maxRecDepth 20000 in
theorem dX5_right_10 : decode cX5_right 10 = .ok (.iload_n 1, 1) := by decide +kernel
set_option maxRecDepth 20000 in
theorem dX5_right_11 : decode cX5_right 11 = .ok (.iaload, 1) := by decide +kernel
set_option maxRecDepth 20000 in
theorem dX5_right_12 : decode cX5_right 12 = .ok (.iadd, 1) := by decide +kernel
set_option maxRecDepth 20000 in
theorem dX5_right_13 : decode cX5_right 13 = .ok (.ireturn, 1) := by decide +kernel
set_option maxRecDepth 20000 in
theorem dX5_top_0 : decode cX5_top 0 = .ok (.aload_n 0, 1) := by decide +kernel
set_option maxRecDepth 20000 in
theorem dX5_top_1 : decode cX5_top 1 = .ok (.getfield 15, 3) := by decide +kernel
set_option maxRecDepth 20000 in
theorem dX5_top_4 : decode cX5_top 4 = .ok (.iload_n 1, 1) := by decide +kernel
set_option maxRecDepth 20000 in
theorem dX5_top_5 : decode cX5_top 5 = .ok (.iaload, 1) := by decide +kernel
set_option maxRecDepth 20000 in
theorem dX5_top_6 : decode cX5_top 6 = .ok (.aload_n 0, 1) := by decide +kernel
set_option maxRecDepth 20000 in
theorem dX5_top_7 : decode cX5_top 7 = .ok (.getfield 18, 3) := by decide +kernel
set_option maxRecDepth 20000 in
theorem dX5_top_10 : decode cX5_top 10 = .ok (.iload_n 1, 1) := by decide +kernel
set_option maxRecDepth 20000 in
theorem dX5_top_11 : decode cX5_top 11 = .ok (.iaload, 1) := by decide +kernel
set_option maxRecDepth 20000 in
theorem dX5_top_12 : decode cX5_top 12 = .ok (.iadd, 1) := by decide +kernel
set_option maxRecDepth 20000 in
theorem dX5_top_13 : decode cX5_top 13 = .ok (.ireturn, 1) := by decide +kernel
set_option maxRecDepth 20000 in
theorem dX5_covers_0 : decode cX5_covers 0 = .ok (.aload_n 0, 1) := by decide +kernel
set_option maxRecDepth 20000 in
theorem dX5_covers_1 : decode cX5_covers 1 = .ok (.getfield 9, 3) := by decide +kernel
set_option maxRecDepth 20000 in
theorem dX5_covers_4 : decode cX5_covers 4 = .ok (.iload_n 1, 1) := by decide +kernel
set_option maxRecDepth 20000 in
theorem dX5_covers_5 : decode cX5_covers 5 = .ok (.iaload, 1) := by decide +kernel
set_option maxRecDepth 20000 in
theorem dX5_covers_6 : decode cX5_covers 6 = .ok (.iload_n 2, 1) := by decide +kernel
set_option maxRecDepth 20000 in
theorem dX5_covers_7 : decode cX5_covers 7 = .ok (.if_icmp .gt 35, 3) := by decide +kernel
set_option maxRecDepth 20000 in
theorem dX5_covers_10 : decode cX5_covers 10 = .ok (.iload_n 2, 1) := by decide +kernel
set_option maxRecDepth 20000 in
theorem dX5_covers_11 : decode cX5_covers 11 = .ok (.aload_n 0, 1) := by decide +kernel
set_option maxRecDepth 20000 in
theorem dX5_covers_12 : decode cX5_covers 12 = .ok (.iload_n 1, 1) := by decide +kernel
set_option maxRecDepth 20000 in
theorem dX5_covers_13 : decode cX5_covers 13 = .ok (.invokevirtual 32, 3) := by decide +kernel
set_option maxRecDepth 20000 in
theorem dX5_covers_16 : decode cX5_covers 16 = .ok (.if_icmp .ge 26, 3) := by decide +kernel
set_option maxRecDepth 20000 in
theorem dX5_covers_19 : decode cX5_covers 19 = .ok (.aload_n 0, 1) := by decide +kernel
set_option maxRecDepth 20000 in
theorem dX5_covers_20 : decode cX5_covers 20 = .ok (.getfield 15, 3) := by decide +kernel
set_option maxRecDepth 20000 in
theorem dX5_covers_23 : decode cX5_covers 23 = .ok (.iload_n 1, 1) := by decide +kernel
set_option maxRecDepth 20000 in
theorem dX5_covers_24 : decode cX5_covers 24 = .ok (.iaload, 1) := by decide +kernel
set_option maxRecDepth 20000 in
theorem dX5_covers_25 : decode cX5_covers 25 = .ok (.iload_n 3, 1) := by decide +kernel
set_option maxRecDepth 20000 in
theorem dX5_covers_26 : decode cX5_covers 26 = .ok (.if_icmp .gt 16, 3) := by decide +kernel
set_option maxRecDepth 20000 in
theorem dX5_covers_29 : decode cX5_covers 29 = .ok (.iload_n 3, 1) := by decide +kernel
set_option maxRecDepth 20000 in
theorem dX5_covers_30 : decode cX5_covers 30 = .ok (.aload_n 0, 1) := by decide +kernel
set_option maxRecDepth 20000 in
theorem dX5_covers_31 : decode cX5_covers 31 = .ok (.iload_n 1, 1) := by decide +kernel
set_option maxRecDepth 20000 in
theorem dX5_covers_32 : decode cX5_covers 32 = .ok (.invokevirtual 36, 3) := by decide +kernel
set_option maxRecDepth 20000 in
theorem dX5_covers_35 : decode cX5_covers 35 = .ok (.if_icmp .ge 7, 3) := by decide +kernel
set_option maxRecDepth 20000 in
theorem dX5_covers_38 : decode cX5_covers 38 = .ok (.iconst 1, 1) := by decide +kernel
set_option maxRecDepth 20000 in
theorem dX5_covers_39 : decode cX5_covers 39 = .ok (.goto 4, 3) := by decide +kernel
set_option maxRecDepth 20000 in
theorem dX5_covers_42 : decode cX5_covers 42 = .ok (.iconst 0, 1) := by decide +kernel
set_option maxRecDepth 20000 in
theorem dX5_covers_43 : decode cX5_covers 43 = .ok (.ireturn, 1) := by decide +kernel
set_option maxRecDepth 20000 in
theorem dX5_overlap_0 : decode cX5_overlap 0 = .ok (.aload_n 0, 1) := by decide +kernel
set_option maxRecDepth 20000 in
theorem dX5_overlap_1 : decode cX5_overlap 1 = .ok (.getfield 9, 3) := by decide +kernel
set_option maxRecDepth 20000 in
theorem dX5_overlap_4 : decode cX5_overlap 4 = .ok (.iload_n 1, 1) := by decide +kernel
set_option maxRecDepth 20000 in
theorem dX5_overlap_5 : decode cX5_overlap 5 = .ok (.iaload, 1) := by decide +kernel
set_option maxRecDepth 20000 in
theorem dX5_overlap_6 : decode cX5_overlap 6 = .ok (.aload_n 0, 1) := by decide +kernel
set_option maxRecDepth 20000 in
theorem dX5_overlap_7 : decode cX5_overlap 7 = .ok (.iload_n 2, 1) := by decide +kernel
set_option maxRecDepth 20000 in
theorem dX5_overlap_8 : decode cX5_overlap 8 = .ok (.invokevirtual 32, 3) := by decide +kernel
set_option maxRecDepth 20000 in
theorem dX5_overlap_11 : decode cX5_overlap 11 = .ok (.if_icmp .ge 49, 3) := by decide +kernel
set_option maxRecDepth 20000 in
theorem dX5_overlap_14 : decode cX5_overlap 14 = .ok (.aload_n 0, 1) := by decide +kernel
set_option maxRecDepth 20000 in
theorem dX5_overlap_15 : decode cX5_overlap 15 = .ok (.getfield 9, 3) := by decide +kernel
set_option maxRecDepth 20000 in
theorem dX5_overlap_18 : decode cX5_overlap 18 = .ok (.iload_n 2, 1) := by decide +kernel
set_option maxRecDepth 20000 in
theorem dX5_overlap_19 : decode cX5_overlap 19 = .ok (.iaload, 1) := by decide +kernel
set_option maxRecDepth 20000 in
theorem dX5_overlap_20 : decode cX5_overlap 20 = .ok (.aload_n 0, 1) := by decide +kernel
set_option maxRecDepth 20000 in
theorem dX5_overlap_21 : decode cX5_overlap 21 = .ok (.iload_n 1, 1) := by decide +kernel
set_option maxRecDepth 20000 in
theorem dX5_overlap_22 : decode cX5_overlap 22 = .ok (.invokevirtual 32, 3) := by decide +kernel
set_option maxRecDepth 20000 in
theorem dX5_overlap_25 : decode cX5_overlap 25 = .ok (.if_icmp .ge 35, 3) := by decide +kernel
set_option maxRecDepth 20000 in
theorem dX5_overlap_28 : decode cX5_overlap 28 = .ok (.aload_n 0, 1) := by decide +kernel
set_option maxRecDepth 20000 in
theorem dX5_overlap_29 : decode cX5_overlap 29 = .ok (.getfield 15, 3) := by decide +kernel
set_option maxRecDepth 20000 in
theorem dX5_overlap_32 : decode cX5_overlap 32 = .ok (.iload_n 1, 1) := by decide +kernel
set_option maxRecDepth 20000 in
theorem dX5_overlap_33 : decode cX5_overlap 33 = .ok (.iaload, 1) := by decide +kernel
set_option maxRecDepth 20000 in
theorem dX5_overlap_34 : decode cX5_overlap 34 = .ok (.aload_n 0, 1) := by decide +kernel
set_option maxRecDepth 20000 in
theorem dX5_overlap_35 : decode cX5_overlap 35 = .ok (.iload_n 2, 1) := by decide +kernel
set_option maxRecDepth 20000 in
theorem dX5_overlap_36 : decode cX5_overlap 36 = .ok (.invokevirtual 36, 3) := by decide +kernel
set_option maxRecDepth 20000 in
theorem dX5_overlap_39 : decode cX5_overlap 39 = .ok (.if_icmp .ge 21, 3) := by decide +kernel
set_option maxRecDepth 20000 in
theorem dX5_overlap_42 : decode cX5_overlap 42 = .ok (.aload_n 0, 1) := by decide +kernel
set_option maxRecDepth 20000 in
theorem dX5_overlap_43 : decode cX5_overlap 43 = .ok (.getfield 15, 3) := by decide +kernel
set_option maxRecDepth 20000 in
theorem dX5_overlap_46 : decode cX5_overlap 46 = .ok (.iload_n 2, 1) := by decide +kernel
set_option maxRecDepth 20000 in
theorem dX5_overlap_47 : decode cX5_overlap 47 = .ok (.iaload, 1) := by decide +kernel
set_option maxRecDepth 20000 in
theorem dX5_overlap_48 : decode cX5_overlap 48 = .ok (.aload_n 0, 1) := by decide +kernel
set_option maxRecDepth 20000 in
theorem dX5_overlap_49 : decode cX5_overlap 49 = .ok (.iload_n 1, 1) := by decide +kernel
set_option maxRecDepth 20000 in
theorem dX5_overlap_50 : decode cX5_overlap 50 = .ok (.invokevirtual 36, 3) := by decide +kernel
set_option maxRecDepth 20000 in
theorem dX5_overlap_53 : decode cX5_overlap 53 = .ok (.if_icmp .ge 7, 3) := by decide +kernel
set_option maxRecDepth 20000 in
theorem dX5_overlap_56 : decode cX5_overlap 56 = .ok (.iconst 1, 1) := by decide +kernel
set_option maxRecDepth 20000 in
theorem dX5_overlap_57 : decode cX5_overlap 57 = .ok (.goto 4, 3) := by decide +kernel
set_option maxRecDepth 20000 in
theorem dX5_overlap_60 : decode cX5_overlap 60 = .ok (.iconst 0, 1) := by decide +kernel
set_option maxRecDepth 20000 in
theorem dX5_overlap_61 : decode cX5_overlap 61 = .ok (.ireturn, 1) := by decide +kernel
set_option maxRecDepth 20000 in
theorem dX5_findFault_0 : decode cX5_findFault 0 = .ok (.iconst 0, 1) := by decide +kernel
set_option maxRecDepth 20000 in
theorem dX5_findFault_1 : decode cX5_findFault 1 = .ok (.istore_n 3, 1) := by decide +kernel
set_option maxRecDepth 20000 in
theorem dX5_findFault_2 : decode cX5_findFault 2 = .ok (.iload_n 3, 1) := by decide +kernel
set_option maxRecDepth 20000 in
theorem dX5_findFault_3 : decode cX5_findFault 3 = .ok (.aload_n 0, 1) := by decide +kernel
set_option maxRecDepth 20000 in
theorem dX5_findFault_4 : decode cX5_findFault 4 = .ok (.getfield 21, 3) := by decide +kernel
set_option maxRecDepth 20000 in
theorem dX5_findFault_7 : decode cX5_findFault 7 = .ok (.if_icmp .ge 32, 3) := by decide +kernel
set_option maxRecDepth 20000 in
theorem dX5_findFault_10 : decode cX5_findFault 10 = .ok (.aload_n 0, 1) := by decide +kernel
set_option maxRecDepth 20000 in
theorem dX5_findFault_11 : decode cX5_findFault 11 = .ok (.iload_n 3, 1) := by decide +kernel
set_option maxRecDepth 20000 in
theorem dX5_findFault_12 : decode cX5_findFault 12 = .ok (.invokevirtual 32, 3) := by decide +kernel
set_option maxRecDepth 20000 in
theorem dX5_findFault_15 : decode cX5_findFault 15 = .ok (.iload_n 1, 1) := by decide +kernel
set_option maxRecDepth 20000 in
theorem dX5_findFault_16 : decode cX5_findFault 16 = .ok (.if_icmp .gt 12, 3) := by decide +kernel
set_option maxRecDepth 20000 in
theorem dX5_findFault_19 : decode cX5_findFault 19 = .ok (.aload_n 0, 1) := by decide +kernel
set_option maxRecDepth 20000 in
theorem dX5_findFault_20 : decode cX5_findFault 20 = .ok (.iload_n 3, 1) := by decide +kernel
set_option maxRecDepth 20000 in
theorem dX5_findFault_21 : decode cX5_findFault 21 = .ok (.invokevirtual 36, 3) := by decide +kernel
set_option maxRecDepth 20000 in
theorem dX5_findFault_24 : decode cX5_findFault 24 = .ok (.iload_n 2, 1) := by decide +kernel
set_option maxRecDepth 20000 in
theorem dX5_findFault_25 : decode cX5_findFault 25 = .ok (.if_icmp .le 8, 3) := by decide +kernel
set_option maxRecDepth 20000 in
theorem dX5_findFault_28 : decode cX5_findFault 28 = .ok (.bipush 100, 2) := by decide +kernel
set_option maxRecDepth 20000 in
theorem dX5_findFault_30 : decode cX5_findFault 30 = .ok (.iload_n 3, 1) := by decide +kernel
set_option maxRecDepth 20000 in
theorem dX5_findFault_31 : decode cX5_findFault 31 = .ok (.iadd, 1) := by decide +kernel
set_option maxRecDepth 20000 in
theorem dX5_findFault_32 : decode cX5_findFault 32 = .ok (.ireturn, 1) := by decide +kernel
set_option maxRecDepth 20000 in
theorem dX5_findFault_33 : decode cX5_findFault 33 = .ok (.iinc 3 1, 3) := by decide +kernel
set_option maxRecDepth 20000 in
theorem dX5_findFault_36 : decode cX5_findFault 36 = .ok (.goto (-34), 3) := by decide +kernel
set_option maxRecDepth 20000 in
theorem dX5_findFault_39 : decode cX5_findFault 39 = .ok (.iconst 0, 1) := by decide +kernel
set_option maxRecDepth 20000 in
theorem dX5_findFault_40 : decode cX5_findFault 40 = .ok (.istore_n 3, 1) := by decide +kernel
set_option maxRecDepth 20000 in
theorem dX5_findFault_41 : decode cX5_findFault 41 = .ok (.iload_n 3, 1) := by decide +kernel
set_option maxRecDepth 20000 in
theorem dX5_findFault_42 : decode cX5_findFault 42 = .ok (.aload_n 0, 1) := by decide +kernel
set_option maxRecDepth 20000 in
theorem dX5_findFault_43 : decode cX5_findFault 43 = .ok (.getfield 21, 3) := by decide +kernel
set_option maxRecDepth 20000 in
theorem dX5_findFault_46 : decode cX5_findFault 46 = .ok (.if_icmp .ge 51, 3) := by decide +kernel
set_option maxRecDepth 20000 in
theorem dX5_findFault_49 : decode cX5_findFault 49 = .ok (.iload_n 3, 1) := by decide +kernel
set_option maxRecDepth 20000 in
theorem dX5_findFault_50 : decode cX5_findFault 50 = .ok (.iconst 1, 1) := by decide +kernel
set_option maxRecDepth 20000 in
theorem dX5_findFault_51 : decode cX5_findFault 51 = .ok (.iadd, 1) := by decide +kernel
set_option maxRecDepth 20000 in
theorem dX5_findFault_52 : decode cX5_findFault 52 = .ok (.istore 4, 2) := by decide +kernel
set_option maxRecDepth 20000 in
theorem dX5_findFault_54 : decode cX5_findFault 54 = .ok (.iload 4, 2) := by decide +kernel
set_option maxRecDepth 20000 in
theorem dX5_findFault_56 : decode cX5_findFault 56 = .ok (.aload_n 0, 1) := by decide +kernel
set_option maxRecDepth 20000 in
theorem dX5_findFault_57 : decode cX5_findFault 57 = .ok (.getfield 21, 3) := by decide +kernel
set_option maxRecDepth 20000 in
theorem dX5_findFault_60 : decode cX5_findFault 60 = .ok (.if_icmp .ge 31, 3) := by decide +kernel
set_option maxRecDepth 20000 in
theorem dX5_findFault_63 : decode cX5_findFault 63 = .ok (.aload_n 0, 1) := by decide +kernel
set_option maxRecDepth 20000 in
theorem dX5_findFault_64 : decode cX5_findFault 64 = .ok (.iload_n 3, 1) := by decide +kernel
set_option maxRecDepth 20000 in
theorem dX5_findFault_65 : decode cX5_findFault 65 = .ok (.iload 4, 2) := by decide +kernel
set_option maxRecDepth 20000 in
theorem dX5_findFault_67 : decode cX5_findFault 67 = .ok (.invokevirtual 39, 3) := by decide +kernel
set_option maxRecDepth 20000 in
theorem dX5_findFault_70 : decode cX5_findFault 70 = .ok (.ifCond .eq 15, 3) := by decide +kernel
set_option maxRecDepth 20000 in
theorem dX5_findFault_73 : decode cX5_findFault 73 = .ok (.sipush 1000, 3) := by decide +kernel
set_option maxRecDepth 20000 in
theorem dX5_findFault_76 : decode cX5_findFault 76 = .ok (.bipush 30, 2) := by decide +kernel
set_option maxRecDepth 20000 in
theorem dX5_findFault_78 : decode cX5_findFault 78 = .ok (.iload_n 3, 1) := by decide +kernel
set_option maxRecDepth 20000 in
theorem dX5_findFault_79 : decode cX5_findFault 79 = .ok (.imul, 1) := by decide +kernel
set_option maxRecDepth 20000 in
theorem dX5_findFault_80 : decode cX5_findFault 80 = .ok (.iadd, 1) := by decide +kernel
set_option maxRecDepth 20000 in
theorem dX5_findFault_81 : decode cX5_findFault 81 = .ok (.iload 4, 2) := by decide +kernel
set_option maxRecDepth 20000 in
theorem dX5_findFault_83 : decode cX5_findFault 83 = .ok (.iadd, 1) := by decide +kernel
set_option maxRecDepth 20000 in
theorem dX5_findFault_84 : decode cX5_findFault 84 = .ok (.ireturn, 1) := by decide +kernel
set_option maxRecDepth 20000 in
theorem dX5_findFault_85 : decode cX5_findFault 85 = .ok (.iinc 4 1, 3) := by decide +kernel
set_option maxRecDepth 20000 in
theorem dX5_findFault_88 : decode cX5_findFault 88 = .ok (.goto (-34), 3) := by decide +kernel
set_option maxRecDepth 20000 in
theorem dX5_findFault_91 : decode cX5_findFault 91 = .ok (.iinc 3 1, 3) := by decide +kernel
set_option maxRecDepth 20000 in
theorem dX5_findFault_94 : decode cX5_findFault 94 = .ok (.goto (-53), 3) := by decide +kernel
set_option maxRecDepth 20000 in
theorem dX5_findFault_97 : decode cX5_findFault 97 = .ok (.aload_n 0, 1) := by decide +kernel
set_option maxRecDepth 20000 in
theorem dX5_findFault_98 : decode cX5_findFault 98 = .ok (.invokevirtual 43, 3) := by decide +kernel
set_option maxRecDepth 20000 in
theorem dX5_findFault_101 : decode cX5_findFault 101 = .ok (.iload_n 1, 1) := by decide +kernel
set_option maxRecDepth 20000 in
theorem dX5_findFault_102 : decode cX5_findFault 102 = .ok (.i2l, 1) := by decide +kernel
set_option maxRecDepth 20000 in
theorem dX5_findFault_103 : decode cX5_findFault 103 = .ok (.iload_n 2, 1) := by decide +kernel
set_option maxRecDepth 20000 in
theorem dX5_findFault_104 : decode cX5_findFault 104 = .ok (.i2l, 1) := by decide +kernel
set_option maxRecDepth 20000 in
theorem dX5_findFault_105 : decode cX5_findFault 105 = .ok (.lmul, 1) := by decide +kernel
set_option maxRecDepth 20000 in
theorem dX5_findFault_106 : decode cX5_findFault 106 = .ok (.lcmp, 1) := by decide +kernel
set_option maxRecDepth 20000 in
theorem dX5_findFault_107 : decode cX5_findFault 107 = .ok (.ifCond .ne 7, 3) := by decide +kernel
set_option maxRecDepth 20000 in
theorem dX5_findFault_110 : decode cX5_findFault 110 = .ok (.iconst 0, 1) := by decide +kernel
set_option maxRecDepth 20000 in
theorem dX5_findFault_111 : decode cX5_findFault 111 = .ok (.goto 4, 3) := by decide +kernel
set_option maxRecDepth 20000 in
theorem dX5_findFault_114 : decode cX5_findFault 114 = .ok (.iconst 3, 1) := by decide +kernel
set_option maxRecDepth 20000 in
theorem dX5_findFault_115 : decode cX5_findFault 115 = .ok (.ireturn, 1) := by decide +kernel
set_option maxRecDepth 20000 in
theorem dX5_area_0 : decode cX5_area 0 = .ok (.lconst 0, 1) := by decide +kernel
set_option maxRecDepth 20000 in
theorem dX5_area_1 : decode cX5_area 1 = .ok (.lstore_n 1, 1) := by decide +kernel
set_option maxRecDepth 20000 in
theorem dX5_area_2 : decode cX5_area 2 = .ok (.iconst 0, 1) := by decide +kernel
set_option maxRecDepth 20000 in
theorem dX5_area_3 : decode cX5_area 3 = .ok (.istore_n 3, 1) := by decide +kernel
set_option maxRecDepth 20000 in
theorem dX5_area_4 : decode cX5_area 4 = .ok (.iload_n 3, 1) := by decide +kernel
set_option maxRecDepth 20000 in
theorem dX5_area_5 : decode cX5_area 5 = .ok (.aload_n 0, 1) := by decide +kernel
set_option maxRecDepth 20000 in
theorem dX5_area_6 : decode cX5_area 6 = .ok (.getfield 21, 3) := by decide +kernel
set_option maxRecDepth 20000 in
theorem dX5_area_9 : decode cX5_area 9 = .ok (.if_icmp .ge 27, 3) := by decide +kernel
set_option maxRecDepth 20000 in
theorem dX5_area_12 : decode cX5_area 12 = .ok (.lload_n 1, 1) := by decide +kernel
set_option maxRecDepth 20000 in
theorem dX5_area_13 : decode cX5_area 13 = .ok (.aload_n 0, 1) := by decide +kernel
set_option maxRecDepth 20000 in
theorem dX5_area_14 : decode cX5_area 14 = .ok (.getfield 18, 3) := by decide +kernel
set_option maxRecDepth 20000 in
theorem dX5_area_17 : decode cX5_area 17 = .ok (.iload_n 3, 1) := by decide +kernel
set_option maxRecDepth 20000 in
theorem dX5_area_18 : decode cX5_area 18 = .ok (.iaload, 1) := by decide +kernel
set_option maxRecDepth 20000 in
theorem dX5_area_19 : decode cX5_area 19 = .ok (.i2l, 1) := by decide +kernel
set_option maxRecDepth 20000 in
theorem dX5_area_20 : decode cX5_area 20 = .ok (.aload_n 0, 1) := by decide +kernel
set_option maxRecDepth 20000 in
theorem dX5_area_21 : decode cX5_area 21 = .ok (.getfield 18, 3) := by decide +kernel
set_option maxRecDepth 20000 in
theorem dX5_area_24 : decode cX5_area 24 = .ok (.iload_n 3, 1) := by decide +kernel
set_option maxRecDepth 20000 in
theorem dX5_area_25 : decode cX5_area 25 = .ok (.iaload, 1) := by decide +kernel
set_option maxRecDepth 20000 in
theorem dX5_area_26 : decode cX5_area 26 = .ok (.i2l, 1) := by decide +kernel
set_option maxRecDepth 20000 in
theorem dX5_area_27 : decode cX5_area 27 = .ok (.lmul, 1) := by decide +kernel
set_option maxRecDepth 20000 in
theorem dX5_area_28 : decode cX5_area 28 = .ok (.ladd, 1) := by decide +kernel
set_option maxRecDepth 20000 in
theorem dX5_area_29 : decode cX5_area 29 = .ok (.lstore_n 1, 1) := by decide +kernel
set_option maxRecDepth 20000 in
theorem dX5_area_30 : decode cX5_area 30 = .ok (.iinc 3 1, 3) := by decide +kernel
set_option maxRecDepth 20000 in
theorem dX5_area_33 : decode cX5_area 33 = .ok (.goto (-29), 3) := by decide +kernel
set_option maxRecDepth 20000 in
theorem dX5_area_36 : decode cX5_area 36 = .ok (.lload_n 1, 1) := by decide +kernel
set_option maxRecDepth 20000 in
theorem dX5_area_37 : decode cX5_area 37 = .ok (.lreturn, 1) := by decide +kernel
