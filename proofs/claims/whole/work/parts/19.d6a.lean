set_option maxRecDepth 20000 in
theorem dX6_init_0 : decode cX6_init 0 = .ok (.aload_n 0, 1) := by decide +kernel
set_option maxRecDepth 20000 in
theorem dX6_init_1 : decode cX6_init 1 = .ok (.invokespecial 3, 3) := by decide +kernel
set_option maxRecDepth 20000 in
theorem dX6_init_4 : decode cX6_init 4 = .ok (.aload_n 0, 1) := by decide +kernel
set_option maxRecDepth 20000 in
theorem dX6_init_5 : decode cX6_init 5 = .ok (.new 9, 3) := by decide +kernel
set_option maxRecDepth 20000 in
theorem dX6_init_8 : decode cX6_init 8 = .ok (.dup, 1) := by decide +kernel
set_option maxRecDepth 20000 in
theorem dX6_init_9 : decode cX6_init 9 = .ok (.invokespecial 11, 3) := by decide +kernel
set_option maxRecDepth 20000 in
theorem dX6_init_12 : decode cX6_init 12 = .ok (.putfield 12, 3) := by decide +kernel
set_option maxRecDepth 20000 in
theorem dX6_init_15 : decode cX6_init 15 = .ok (.aload_n 0, 1) := by decide +kernel
set_option maxRecDepth 20000 in
theorem dX6_init_16 : decode cX6_init 16 = .ok (.aconst_null, 1) := by decide +kernel
set_option maxRecDepth 20000 in
theorem dX6_init_17 : decode cX6_init 17 = .ok (.putfield 16, 3) := by decide +kernel
set_option maxRecDepth 20000 in
theorem dX6_init_20 : decode cX6_init 20 = .ok (.aload_n 0, 1) := by decide +kernel
set_option maxRecDepth 20000 in
theorem dX6_init_21 : decode cX6_init 21 = .ok (.new 19, 3) := by decide +kernel
set_option maxRecDepth 20000 in
theorem dX6_init_24 : decode cX6_init 24 = .ok (.dup, 1) := by decide +kernel
set_option maxRecDepth 20000 in
theorem dX6_init_25 : decode cX6_init 25 = .ok (.invokespecial 21, 3) := by decide +kernel
set_option maxRecDepth 20000 in
theorem dX6_init_28 : decode cX6_init 28 = .ok (.putfield 22, 3) := by decide +kernel
set_option maxRecDepth 20000 in
theorem dX6_init_31 : decode cX6_init 31 = .ok (.aload_n 0, 1) := by decide +kernel
set_option maxRecDepth 20000 in
theorem dX6_init_32 : decode cX6_init 32 = .ok (.new 26, 3) := by decide +kernel
set_option maxRecDepth 20000 in
theorem dX6_init_35 : decode cX6_init 35 = .ok (.dup, 1) := by decide +kernel
set_option maxRecDepth 20000 in
theorem dX6_init_36 : decode cX6_init 36 = .ok (.invokespecial 28, 3) := by decide +kernel
set_option maxRecDepth 20000 in
theorem dX6_init_39 : decode cX6_init 39 = .ok (.putfield 29, 3) := by decide +kernel
set_option maxRecDepth 20000 in
theorem dX6_init_42 : decode cX6_init 42 = .ok (.aload_n 0, 1) := by decide +kernel
set_option maxRecDepth 20000 in
theorem dX6_init_43 : decode cX6_init 43 = .ok (.new 33, 3) := by decide +kernel
set_option maxRecDepth 20000 in
theorem dX6_init_46 : decode cX6_init 46 = .ok (.dup, 1) := by decide +kernel
set_option maxRecDepth 20000 in
theorem dX6_init_47 : decode cX6_init 47 = .ok (.invokespecial 35, 3) := by decide +kernel
set_option maxRecDepth 20000 in
theorem dX6_init_50 : decode cX6_init 50 = .ok (.putfield 36, 3) := by decide +kernel
set_option maxRecDepth 20000 in
theorem dX6_init_53 : decode cX6_init 53 = .ok (.aload_n 0, 1) := by decide +kernel
set_option maxRecDepth 20000 in
theorem dX6_init_54 : decode cX6_init 54 = .ok (.new 40, 3) := by decide +kernel
set_option maxRecDepth 20000 in
theorem dX6_init_57 : decode cX6_init 57 = .ok (.dup, 1) := by decide +kernel
set_option maxRecDepth 20000 in
theorem dX6_init_58 : decode cX6_init 58 = .ok (.invokespecial 42, 3) := by decide +kernel
set_option maxRecDepth 20000 in
theorem dX6_init_61 : decode cX6_init 61 = .ok (.putfield 43, 3) := by decide +kernel
set_option maxRecDepth 20000 in
theorem dX6_init_64 : decode cX6_init 64 = .ok (.aload_n 0, 1) := by decide +kernel
set_option maxRecDepth 20000 in
theorem dX6_init_65 : decode cX6_init 65 = .ok (.new 47, 3) := by decide +kernel
set_option maxRecDepth 20000 in
theorem dX6_init_68 : decode cX6_init 68 = .ok (.dup, 1) := by decide +kernel
set_option maxRecDepth 20000 in
theorem dX6_init_69 : decode cX6_init 69 = .ok (.invokespecial 49, 3) := by decide +kernel
set_option maxRecDepth 20000 in
theorem dX6_init_72 : decode cX6_init 72 = .ok (.putfield 50, 3) := by decide +kernel
set_option maxRecDepth 20000 in
theorem dX6_init_75 : decode cX6_init 75 = .ok (.return_, 1) := by decide +kernel
set_option maxRecDepth 20000 in
theorem dX6_knot_0 : decode cX6_knot 0 = .ok (.aload_n 0, 1) := by decide +kernel
set_option maxRecDepth 20000 in
theorem dX6_knot_1 : decode cX6_knot 1 = .ok (.getfield 12, 3) := by decide +kernel
set_option maxRecDepth 20000 in
theorem dX6_knot_4 : decode cX6_knot 4 = .ok (.getfield 54, 3) := by decide +kernel
set_option maxRecDepth 20000 in
theorem dX6_knot_7 : decode cX6_knot 7 = .ok (.bipush 12, 2) := by decide +kernel
set_option maxRecDepth 20000 in
theorem dX6_knot_9 : decode cX6_knot 9 = .ok (.if_icmp .lt 6, 3) := by decide +kernel
set_option maxRecDepth 20000 in
theorem dX6_knot_12 : decode cX6_knot 12 = .ok (.ldc 58, 2) := by decide +kernel
set_option maxRecDepth 20000 in
theorem dX6_knot_14 : decode cX6_knot 14 = .ok (.ireturn, 1) := by decide +kernel
set_option maxRecDepth 20000 in
theorem dX6_knot_15 : decode cX6_knot 15 = .ok (.aload_n 0, 1) := by decide +kernel
set_option maxRecDepth 20000 in
theorem dX6_knot_16 : decode cX6_knot 16 = .ok (.getfield 12, 3) := by decide +kernel
set_option maxRecDepth 20000 in
theorem dX6_knot_19 : decode cX6_knot 19 = .ok (.invokevirtual 59, 3) := by decide +kernel
set_option maxRecDepth 20000 in
theorem dX6_knot_22 : decode cX6_knot 22 = .ok (.ireturn, 1) := by decide +kernel
set_option maxRecDepth 20000 in
theorem dX6_wire_0 : decode cX6_wire 0 = .ok (.aload_n 0, 1) := by decide +kernel
set_option maxRecDepth 20000 in
theorem dX6_wire_1 : decode cX6_wire 1 = .ok (.getfield 12, 3) := by decide +kernel
set_option maxRecDepth 20000 in
theorem dX6_wire_4 : decode cX6_wire 4 = .ok (.iload_n 1, 1) := by decide +kernel
set_option maxRecDepth 20000 in
theorem dX6_wire_5 : decode cX6_wire 5 = .ok (.invokevirtual 63, 3) := by decide +kernel
set_option maxRecDepth 20000 in
theorem dX6_wire_8 : decode cX6_wire 8 = .ok (.ifCond .eq 31, 3) := by decide +kernel
set_option maxRecDepth 20000 in
theorem dX6_wire_11 : decode cX6_wire 11 = .ok (.aload_n 0, 1) := by decide +kernel
set_option maxRecDepth 20000 in
theorem dX6_wire_12 : decode cX6_wire 12 = .ok (.getfield 12, 3) := by decide +kernel
set_option maxRecDepth 20000 in
theorem dX6_wire_15 : decode cX6_wire 15 = .ok (.iload_n 2, 1) := by decide +kernel
set_option maxRecDepth 20000 in
theorem dX6_wire_16 : decode cX6_wire 16 = .ok (.invokevirtual 63, 3) := by decide +kernel
set_option maxRecDepth 20000 in
theorem dX6_wire_19 : decode cX6_wire 19 = .ok (.ifCond .eq 20, 3) := by decide +kernel
set_option maxRecDepth 20000 in
theorem dX6_wire_22 : decode cX6_wire 22 = .ok (.iload_n 1, 1) := by decide +kernel
set_option maxRecDepth 20000 in
theorem dX6_wire_23 : decode cX6_wire 23 = .ok (.iload_n 2, 1) := by decide +kernel
set_option maxRecDepth 20000 in
theorem dX6_wire_24 : decode cX6_wire 24 = .ok (.if_icmp .eq 15, 3) := by decide +kernel
set_option maxRecDepth 20000 in
theorem dX6_wire_27 : decode cX6_wire 27 = .ok (.aload_n 0, 1) := by decide +kernel
set_option maxRecDepth 20000 in
theorem dX6_wire_28 : decode cX6_wire 28 = .ok (.getfield 12, 3) := by decide +kernel
set_option maxRecDepth 20000 in
theorem dX6_wire_31 : decode cX6_wire 31 = .ok (.getfield 67, 3) := by decide +kernel
set_option maxRecDepth 20000 in
theorem dX6_wire_34 : decode cX6_wire 34 = .ok (.bipush 22, 2) := by decide +kernel
set_option maxRecDepth 20000 in
theorem dX6_wire_36 : decode cX6_wire 36 = .ok (.if_icmp .lt 6, 3) := by decide +kernel
set_option maxRecDepth 20000 in
theorem dX6_wire_39 : decode cX6_wire 39 = .ok (.ldc 58, 2) := by decide +kernel
set_option maxRecDepth 20000 in
theorem dX6_wire_41 : decode cX6_wire 41 = .ok (.ireturn, 1) := by decide +kernel
set_option maxRecDepth 20000 in
theorem dX6_wire_42 : decode cX6_wire 42 = .ok (.aload_n 0, 1) := by decide +kernel
set_option maxRecDepth 20000 in
theorem dX6_wire_43 : decode cX6_wire 43 = .ok (.getfield 12, 3) := by decide +kernel
set_option maxRecDepth 20000 in
theorem dX6_wire_46 : decode cX6_wire 46 = .ok (.iload_n 1, 1) := by decide +kernel
set_option maxRecDepth 20000 in
theorem dX6_wire_47 : decode cX6_wire 47 = .ok (.iload_n 2, 1) := by decide +kernel
set_option maxRecDepth 20000 in
theorem dX6_wire_48 : decode cX6_wire 48 = .ok (.invokevirtual 70, 3) := by decide +kernel
set_option maxRecDepth 20000 in
theorem dX6_wire_51 : decode cX6_wire 51 = .ok (.ireturn, 1) := by decide +kernel
set_option maxRecDepth 20000 in
theorem dX6_battery_0 : decode cX6_battery 0 = .ok (.iload_n 1, 1) := by decide +kernel
set_option maxRecDepth 20000 in
theorem dX6_battery_1 : decode cX6_battery 1 = .ok (.iconst (-1), 1) := by decide +kernel
set_option maxRecDepth 20000 in
theorem dX6_battery_2 : decode cX6_battery 2 = .ok (.if_icmp .eq 17, 3) := by decide +kernel
set_option maxRecDepth 20000 in
theorem dX6_battery_5 : decode cX6_battery 5 = .ok (.aload_n 0, 1) := by decide +kernel
set_option maxRecDepth 20000 in
theorem dX6_battery_6 : decode cX6_battery 6 = .ok (.getfield 12, 3) := by decide +kernel
set_option maxRecDepth 20000 in
theorem dX6_battery_9 : decode cX6_battery 9 = .ok (.iload_n 1, 1) := by decide +kernel
set_option maxRecDepth 20000 in
theorem dX6_battery_10 : decode cX6_battery 10 = .ok (.invokevirtual 74, 3) := by decide +kernel
set_option maxRecDepth 20000 in
theorem dX6_battery_13 : decode cX6_battery 13 = .ok (.ifCond .ne 6, 3) := by decide +kernel
set_option maxRecDepth 20000 in
theorem dX6_battery_16 : decode cX6_battery 16 = .ok (.ldc 58, 2) := by decide +kernel
set_option maxRecDepth 20000 in
theorem dX6_battery_18 : decode cX6_battery 18 = .ok (.ireturn, 1) := by decide +kernel
set_option maxRecDepth 20000 in
theorem dX6_battery_19 : decode cX6_battery 19 = .ok (.aload_n 0, 1) := by decide +kernel
set_option maxRecDepth 20000 in
theorem dX6_battery_20 : decode cX6_battery 20 = .ok (.getfield 12, 3) := by decide +kernel
set_option maxRecDepth 20000 in
theorem dX6_battery_23 : decode cX6_battery 23 = .ok (.getfield 77, 3) := by decide +kernel
set_option maxRecDepth 20000 in
theorem dX6_battery_26 : decode cX6_battery 26 = .ok (.istore_n 2, 1) := by decide +kernel
set_option maxRecDepth 20000 in
theorem dX6_battery_27 : decode cX6_battery 27 = .ok (.aload_n 0, 1) := by decide +kernel
set_option maxRecDepth 20000 in
theorem dX6_battery_28 : decode cX6_battery 28 = .ok (.getfield 12, 3) := by decide +kernel
set_option maxRecDepth 20000 in
theorem dX6_battery_31 : decode cX6_battery 31 = .ok (.iload_n 1, 1) := by decide +kernel
set_option maxRecDepth 20000 in
theorem dX6_battery_32 : decode cX6_battery 32 = .ok (.putfield 77, 3) := by decide +kernel
set_option maxRecDepth 20000 in
theorem dX6_battery_35 : decode cX6_battery 35 = .ok (.iload_n 1, 1) := by decide +kernel
set_option maxRecDepth 20000 in
theorem dX6_battery_36 : decode cX6_battery 36 = .ok (.iconst (-1), 1) := by decide +kernel
set_option maxRecDepth 20000 in
theorem dX6_battery_37 : decode cX6_battery 37 = .ok (.if_icmp .eq 13, 3) := by decide +kernel
set_option maxRecDepth 20000 in
theorem dX6_battery_40 : decode cX6_battery 40 = .ok (.aload_n 0, 1) := by decide +kernel
set_option maxRecDepth 20000 in
theorem dX6_battery_41 : decode cX6_battery 41 = .ok (.getfield 12, 3) := by decide +kernel
set_option maxRecDepth 20000 in
theorem dX6_battery_44 : decode cX6_battery 44 = .ok (.getfield 80, 3) := by decide +kernel
set_option maxRecDepth 20000 in
theorem dX6_battery_47 : decode cX6_battery 47 = .ok (.iload_n 1, 1) := by decide +kernel
set_option maxRecDepth 20000 in
theorem dX6_battery_48 : decode cX6_battery 48 = .ok (.iconst 0, 1) := by decide +kernel
set_option maxRecDepth 20000 in
theorem dX6_battery_49 : decode cX6_battery 49 = .ok (.bastore, 1) := by decide +kernel
set_option maxRecDepth 20000 in
theorem dX6_battery_50 : decode cX6_battery 50 = .ok (.iload_n 2, 1) := by decide +kernel
set_option maxRecDepth 20000 in
theorem dX6_battery_51 : decode cX6_battery 51 = .ok (.ireturn, 1) := by decide +kernel
set_option maxRecDepth 20000 in
theorem dX6_cut_0 : decode cX6_cut 0 = .ok (.aload_n 0, 1) := by decide +kernel
set_option maxRecDepth 20000 in
theorem dX6_cut_1 : decode cX6_cut 1 = .ok (.getfield 12, 3) := by decide +kernel
set_option maxRecDepth 20000 in
theorem dX6_cut_4 : decode cX6_cut 4 = .ok (.iload_n 1, 1) := by decide +kernel
set_option maxRecDepth 20000 in
theorem dX6_cut_5 : decode cX6_cut 5 = .ok (.invokevirtual 74, 3) := by decide +kernel
set_option maxRecDepth 20000 in
theorem dX6_cut_8 : decode cX6_cut 8 = .ok (.ifCond .eq 14, 3) := by decide +kernel
set_option maxRecDepth 20000 in
theorem dX6_cut_11 : decode cX6_cut 11 = .ok (.iload_n 1, 1) := by decide +kernel
set_option maxRecDepth 20000 in
theorem dX6_cut_12 : decode cX6_cut 12 = .ok (.aload_n 0, 1) := by decide +kernel
set_option maxRecDepth 20000 in
theorem dX6_cut_13 : decode cX6_cut 13 = .ok (.getfield 12, 3) := by decide +kernel
set_option maxRecDepth 20000 in
theorem dX6_cut_16 : decode cX6_cut 16 = .ok (.getfield 77, 3) := by decide +kernel
set_option maxRecDepth 20000 in
theorem dX6_cut_19 : decode cX6_cut 19 = .ok (.if_icmp .ne 6, 3) := by decide +kernel
set_option maxRecDepth 20000 in
theorem dX6_cut_22 : decode cX6_cut 22 = .ok (.ldc 58, 2) := by decide +kernel
set_option maxRecDepth 20000 in
theorem dX6_cut_24 : decode cX6_cut 24 = .ok (.ireturn, 1) := by decide +kernel
set_option maxRecDepth 20000 in
theorem dX6_cut_25 : decode cX6_cut 25 = .ok (.aload_n 0, 1) := by decide +kernel
set_option maxRecDepth 20000 in
theorem dX6_cut_26 : decode cX6_cut 26 = .ok (.getfield 12, 3) := by decide +kernel
set_option maxRecDepth 20000 in
theorem dX6_cut_29 : decode cX6_cut 29 = .ok (.getfield 80, 3) := by decide +kernel
set_option maxRecDepth 20000 in
theorem dX6_cut_32 : decode cX6_cut 32 = .ok (.iload_n 1, 1) := by decide +kernel
set_option maxRecDepth 20000 in
theorem dX6_cut_33 : decode cX6_cut 33 = .ok (.baload, 1) := by decide +kernel
set_option maxRecDepth 20000 in
theorem dX6_cut_34 : decode cX6_cut 34 = .ok (.ifCond .eq 7, 3) := by decide +kernel
set_option maxRecDepth 20000 in
theorem dX6_cut_37 : decode cX6_cut 37 = .ok (.iconst 1, 1) := by decide +kernel
set_option maxRecDepth 20000 in
theorem dX6_cut_38 : decode cX6_cut 38 = .ok (.goto 4, 3) := by decide +kernel
set_option maxRecDepth 20000 in
theorem dX6_cut_41 : decode cX6_cut 41 = .ok (.iconst 0, 1) := by decide +kernel
set_option maxRecDepth 20000 in
theorem dX6_cut_42 : decode cX6_cut 42 = .ok (.istore_n 3, 1) := by decide +kernel
set_option maxRecDepth 20000 in
theorem dX6_cut_43 : decode cX6_cut 43 = .ok (.aload_n 0, 1) := by decide +kernel
set_option maxRecDepth 20000 in
theorem dX6_cut_44 : decode cX6_cut 44 = .ok (.getfield 12, 3) := by decide +kernel
set_option maxRecDepth 20000 in
theorem dX6_cut_47 : decode cX6_cut 47 = .ok (.getfield 80, 3) := by decide +kernel
set_option maxRecDepth 20000 in
theorem dX6_cut_50 : decode cX6_cut 50 = .ok (.iload_n 1, 1) := by decide +kernel
set_option maxRecDepth 20000 in
theorem dX6_cut_51 : decode cX6_cut 51 = .ok (.iload_n 2, 1) := by decide +kernel
set_option maxRecDepth 20000 in
theorem dX6_cut_52 : decode cX6_cut 52 = .ok (.bastore, 1) := by decide +kernel
set_option maxRecDepth 20000 in
theorem dX6_cut_53 : decode cX6_cut 53 = .ok (.iload_n 3, 1) := by decide +kernel
set_option maxRecDepth 20000 in
theorem dX6_cut_54 : decode cX6_cut 54 = .ok (.ireturn, 1) := by decide +kernel
set_option maxRecDepth 20000 in
theorem dX6_lay_0 : decode cX6_lay 0 = .ok (.aload_n 0, 1) := by decide +kernel
set_option maxRecDepth 20000 in
theorem dX6_lay_1 : decode cX6_lay 1 = .ok (.getfield 12, 3) := by decide +kernel
set_option maxRecDepth 20000 in
theorem dX6_lay_4 : decode cX6_lay 4 = .ok (.iload_n 1, 1) := by decide +kernel
set_option maxRecDepth 20000 in
theorem dX6_lay_5 : decode cX6_lay 5 = .ok (.invokevirtual 63, 3) := by decide +kernel
set_option maxRecDepth 20000 in
theorem dX6_lay_8 : decode cX6_lay 8 = .ok (.ifCond .eq 39, 3) := by decide +kernel
set_option maxRecDepth 20000 in
theorem dX6_lay_11 : decode cX6_lay 11 = .ok (.aload_n 0, 1) := by decide +kernel
set_option maxRecDepth 20000 in
theorem dX6_lay_12 : decode cX6_lay 12 = .ok (.getfield 12, 3) := by decide +kernel
set_option maxRecDepth 20000 in
theorem dX6_lay_15 : decode cX6_lay 15 = .ok (.iload_n 2, 1) := by decide +kernel
set_option maxRecDepth 20000 in
theorem dX6_lay_16 : decode cX6_lay 16 = .ok (.invokevirtual 74, 3) := by decide +kernel
set_option maxRecDepth 20000 in
theorem dX6_lay_19 : decode cX6_lay 19 = .ok (.ifCond .eq 28, 3) := by decide +kernel
set_option maxRecDepth 20000 in
theorem dX6_lay_22 : decode cX6_lay 22 = .ok (.aload_n 0, 1) := by decide +kernel
set_option maxRecDepth 20000 in
theorem dX6_lay_23 : decode cX6_lay 23 = .ok (.getfield 12, 3) := by decide +kernel
set_option maxRecDepth 20000 in
theorem dX6_lay_26 : decode cX6_lay 26 = .ok (.iload_n 2, 1) := by decide +kernel
set_option maxRecDepth 20000 in
theorem dX6_lay_27 : decode cX6_lay 27 = .ok (.iload_n 1, 1) := by decide +kernel
set_option maxRecDepth 20000 in
theorem dX6_lay_28 : decode cX6_lay 28 = .ok (.invokevirtual 84, 3) := by decide +kernel
set_option maxRecDepth 20000 in
theorem dX6_lay_31 : decode cX6_lay 31 = .ok (.ifCond .eq 16, 3) := by decide +kernel
set_option maxRecDepth 20000 in
theorem dX6_lay_34 : decode cX6_lay 34 = .ok (.aload_n 0, 1) := by decide +kernel
set_option maxRecDepth 20000 in
theorem dX6_lay_35 : decode cX6_lay 35 = .ok (.getfield 12, 3) := by decide +kernel
set_option maxRecDepth 20000 in
theorem dX6_lay_38 : decode cX6_lay 38 = .ok (.iload_n 1, 1) := by decide +kernel
set_option maxRecDepth 20000 in
theorem dX6_lay_39 : decode cX6_lay 39 = .ok (.iload_n 2, 1) := by decide +kernel
set_option maxRecDepth 20000 in
theorem dX6_lay_40 : decode cX6_lay 40 = .ok (.invokevirtual 88, 3) := by decide +kernel
set_option maxRecDepth 20000 in
theorem dX6_lay_43 : decode cX6_lay 43 = .ok (.iconst (-1), 1) := by decide +kernel
set_option maxRecDepth 20000 in
theorem dX6_lay_44 : decode cX6_lay 44 = .ok (.if_icmp .eq 6, 3) := by decide +kernel
set_option maxRecDepth 20000 in
theorem dX6_lay_47 : decode cX6_lay 47 = .ok (.ldc 58, 2) := by decide +kernel
set_option maxRecDepth 20000 in
theorem dX6_lay_49 : decode cX6_lay 49 = .ok (.ireturn, 1) := by decide +kernel
set_option maxRecDepth 20000 in
theorem dX6_lay_50 : decode cX6_lay 50 = .ok (.aload_n 0, 1) := by decide +kernel
set_option maxRecDepth 20000 in
theorem dX6_lay_51 : decode cX6_lay 51 = .ok (.getfield 12, 3) := by decide +kernel
set_option maxRecDepth 20000 in
theorem dX6_lay_54 : decode cX6_lay 54 = .ok (.iload_n 1, 1) := by decide +kernel
set_option maxRecDepth 20000 in
theorem dX6_lay_55 : decode cX6_lay 55 = .ok (.iload_n 2, 1) := by decide +kernel
set_option maxRecDepth 20000 in
theorem dX6_lay_56 : decode cX6_lay 56 = .ok (.invokevirtual 91, 3) := by decide +kernel
set_option maxRecDepth 20000 in
theorem dX6_lay_59 : decode cX6_lay 59 = .ok (.aload_n 0, 1) := by decide +kernel
set_option maxRecDepth 20000 in
theorem dX6_lay_60 : decode cX6_lay 60 = .ok (.getfield 12, 3) := by decide +kernel
set_option maxRecDepth 20000 in
theorem dX6_lay_63 : decode cX6_lay 63 = .ok (.getfield 95, 3) := by decide +kernel
set_option maxRecDepth 20000 in
theorem dX6_lay_66 : decode cX6_lay 66 = .ok (.iload_n 1, 1) := by decide +kernel
set_option maxRecDepth 20000 in
theorem dX6_lay_67 : decode cX6_lay 67 = .ok (.iaload, 1) := by decide +kernel
set_option maxRecDepth 20000 in
theorem dX6_lay_68 : decode cX6_lay 68 = .ok (.ireturn, 1) := by decide +kernel
set_option maxRecDepth 20000 in
theorem dX6_bare_0 : decode cX6_bare 0 = .ok (.aload_n 0, 1) := by decide +kernel
set_option maxRecDepth 20000 in
theorem dX6_bare_1 : decode cX6_bare 1 = .ok (.getfield 12, 3) := by decide +kernel
set_option maxRecDepth 20000 in
theorem dX6_bare_4 : decode cX6_bare 4 = .ok (.iload_n 1, 1) := by decide +kernel
set_option maxRecDepth 20000 in
theorem dX6_bare_5 : decode cX6_bare 5 = .ok (.invokevirtual 63, 3) := by decide +kernel
set_option maxRecDepth 20000 in
theorem dX6_bare_8 : decode cX6_bare 8 = .ok (.ifCond .ne 6, 3) := by decide +kernel
set_option maxRecDepth 20000 in
theorem dX6_bare_11 : decode cX6_bare 11 = .ok (.ldc 58, 2) := by decide +kernel
set_option maxRecDepth 20000 in
theorem dX6_bare_13 : decode cX6_bare 13 = .ok (.ireturn, 1) := by decide +kernel
set_option maxRecDepth 20000 in
theorem dX6_bare_14 : decode cX6_bare 14 = .ok (.aload_n 0, 1) := by decide +kernel
set_option maxRecDepth 20000 in
theorem dX6_bare_15 : decode cX6_bare 15 = .ok (.getfield 12, 3) := by decide +kernel
set_option maxRecDepth 20000 in
theorem dX6_bare_18 : decode cX6_bare 18 = .ok (.getfield 95, 3) := by decide +kernel
set_option maxRecDepth 20000 in
theorem dX6_bare_21 : decode cX6_bare 21 = .ok (.iload_n 1, 1) := by decide +kernel
set_option maxRecDepth 20000 in
theorem dX6_bare_22 : decode cX6_bare 22 = .ok (.iaload, 1) := by decide +kernel
set_option maxRecDepth 20000 in
theorem dX6_bare_23 : decode cX6_bare 23 = .ok (.istore_n 2, 1) := by decide +kernel
set_option maxRecDepth 20000 in
theorem dX6_bare_24 : decode cX6_bare 24 = .ok (.aload_n 0, 1) := by decide +kernel
set_option maxRecDepth 20000 in
theorem dX6_bare_25 : decode cX6_bare 25 = .ok (.getfield 12, 3) := by decide +kernel
set_option maxRecDepth 20000 in
theorem dX6_bare_28 : decode cX6_bare 28 = .ok (.getfield 95, 3) := by decide +kernel
set_option maxRecDepth 20000 in
theorem dX6_bare_31 : decode cX6_bare 31 = .ok (.iload_n 1, 1) := by decide +kernel
set_option maxRecDepth 20000 in
theorem dX6_bare_32 : decode cX6_bare 32 = .ok (.iconst 0, 1) := by decide +kernel
set_option maxRecDepth 20000 in
theorem dX6_bare_33 : decode cX6_bare 33 = .ok (.iastore, 1) := by decide +kernel
set_option maxRecDepth 20000 in
theorem dX6_bare_34 : decode cX6_bare 34 = .ok (.iload_n 2, 1) := by decide +kernel
set_option maxRecDepth 20000 in
theorem dX6_bare_35 : decode cX6_bare 35 = .ok (.ireturn, 1) := by decide +kernel
set_option maxRecDepth 20000 in
theorem dX6_mirror_0 : decode cX6_mirror 0 = .ok (.iconst 0, 1) := by decide +kernel
set_option maxRecDepth 20000 in
theorem dX6_mirror_1 : decode cX6_mirror 1 = .ok (.istore_n 1, 1) := by decide +kernel
set_option maxRecDepth 20000 in
theorem dX6_mirror_2 : decode cX6_mirror 2 = .ok (.iload_n 1, 1) := by decide +kernel
set_option maxRecDepth 20000 in
theorem dX6_mirror_3 : decode cX6_mirror 3 = .ok (.aload_n 0, 1) := by decide +kernel
set_option maxRecDepth 20000 in
theorem dX6_mirror_4 : decode cX6_mirror 4 = .ok (.getfield 12, 3) := by decide +kernel
set_option maxRecDepth 20000 in
theorem dX6_mirror_7 : decode cX6_mirror 7 = .ok (.getfield 54, 3) := by decide +kernel
set_option maxRecDepth 20000 in
theorem dX6_mirror_10 : decode cX6_mirror 10 = .ok (.if_icmp .ge 17, 3) := by decide +kernel
set_option maxRecDepth 20000 in
theorem dX6_mirror_13 : decode cX6_mirror 13 = .ok (.aload_n 0, 1) := by decide +kernel
set_option maxRecDepth 20000 in
theorem dX6_mirror_14 : decode cX6_mirror 14 = .ok (.getfield 12, 3) := by decide +kernel
set_option maxRecDepth 20000 in
theorem dX6_mirror_17 : decode cX6_mirror 17 = .ok (.iload_n 1, 1) := by decide +kernel
set_option maxRecDepth 20000 in
theorem dX6_mirror_18 : decode cX6_mirror 18 = .ok (.invokevirtual 99, 3) := by decide +kernel
set_option maxRecDepth 20000 in
theorem dX6_mirror_21 : decode cX6_mirror 21 = .ok (.iinc 1 1, 3) := by decide +kernel
set_option maxRecDepth 20000 in
theorem dX6_mirror_24 : decode cX6_mirror 24 = .ok (.goto (-22), 3) := by decide +kernel
set_option maxRecDepth 20000 in
theorem dX6_mirror_27 : decode cX6_mirror 27 = .ok (.aload_n 0, 1) := by decide +kernel
set_option maxRecDepth 20000 in
theorem dX6_mirror_28 : decode cX6_mirror 28 = .ok (.getfield 12, 3) := by decide +kernel
set_option maxRecDepth 20000 in
theorem dX6_mirror_31 : decode cX6_mirror 31 = .ok (.getfield 54, 3) := by decide +kernel
set_option maxRecDepth 20000 in
theorem dX6_mirror_34 : decode cX6_mirror 34 = .ok (.ireturn, 1) := by decide +kernel
set_option maxRecDepth 20000 in
theorem dX6_about_0 : decode cX6_about 0 = .ok (.aload_n 0, 1) := by decide +kernel
set_option maxRecDepth 20000 in
theorem dX6_about_1 : decode cX6_about 1 = .ok (.invokevirtual 103, 3) := by decide +kernel
set_option maxRecDepth 20000 in
theorem dX6_about_4 : decode cX6_about 4 = .ok (.ifCond .ne 42, 3) := by decide +kernel
set_option maxRecDepth 20000 in
theorem dX6_about_7 : decode cX6_about 7 = .ok (.aload_n 0, 1) := by decide +kernel
set_option maxRecDepth 20000 in
theorem dX6_about_8 : decode cX6_about 8 = .ok (.getfield 12, 3) := by decide +kernel
set_option maxRecDepth 20000 in
theorem dX6_about_11 : decode cX6_about 11 = .ok (.invokevirtual 106, 3) := by decide +kernel
set_option maxRecDepth 20000 in
theorem dX6_about_14 : decode cX6_about 14 = .ok (.ifCond .ne 32, 3) := by decide +kernel
set_option maxRecDepth 20000 in
theorem dX6_about_17 : decode cX6_about 17 = .ok (.aload_n 0, 1) := by decide +kernel
set_option maxRecDepth 20000 in
theorem dX6_about_18 : decode cX6_about 18 = .ok (.getfield 22, 3) := by decide +kernel
set_option maxRecDepth 20000 in
theorem dX6_about_21 : decode cX6_about 21 = .ok (.aload_n 0, 1) := by decide +kernel
set_option maxRecDepth 20000 in
theorem dX6_about_22 : decode cX6_about 22 = .ok (.getfield 12, 3) := by decide +kernel
set_option maxRecDepth 20000 in
theorem dX6_about_25 : decode cX6_about 25 = .ok (.getfield 67, 3) := by decide +kernel
set_option maxRecDepth 20000 in
theorem dX6_about_28 : decode cX6_about 28 = .ok (.invokevirtual 110, 3) := by decide +kernel
set_option maxRecDepth 20000 in
theorem dX6_about_31 : decode cX6_about 31 = .ok (.ifCond .ne 15, 3) := by decide +kernel
set_option maxRecDepth 20000 in
theorem dX6_about_34 : decode cX6_about 34 = .ok (.aload_n 0, 1) := by decide +kernel
set_option maxRecDepth 20000 in
theorem dX6_about_35 : decode cX6_about 35 = .ok (.getfield 22, 3) := by decide +kernel
set_option maxRecDepth 20000 in
theorem dX6_about_38 : decode cX6_about 38 = .ok (.getfield 113, 3) := by decide +kernel
set_option maxRecDepth 20000 in
theorem dX6_about_41 : decode cX6_about 41 = .ok (.bipush 12, 2) := by decide +kernel
set_option maxRecDepth 20000 in
theorem dX6_about_43 : decode cX6_about 43 = .ok (.if_icmp .le 6, 3) := by decide +kernel
set_option maxRecDepth 20000 in
theorem dX6_about_46 : decode cX6_about 46 = .ok (.ldc 58, 2) := by decide +kernel
set_option maxRecDepth 20000 in
theorem dX6_about_48 : decode cX6_about 48 = .ok (.ireturn, 1) := by decide +kernel
set_option maxRecDepth 20000 in
theorem dX6_about_49 : decode cX6_about 49 = .ok (.aload_n 0, 1) := by decide +kernel
set_option maxRecDepth 20000 in
theorem dX6_about_50 : decode cX6_about 50 = .ok (.getfield 22, 3) := by decide +kernel
set_option maxRecDepth 20000 in
theorem dX6_about_53 : decode cX6_about 53 = .ok (.aload_n 0, 1) := by decide +kernel
set_option maxRecDepth 20000 in
theorem dX6_about_54 : decode cX6_about 54 = .ok (.getfield 12, 3) := by decide +kernel
set_option maxRecDepth 20000 in
theorem dX6_about_57 : decode cX6_about 57 = .ok (.invokevirtual 116, 3) := by decide +kernel
set_option maxRecDepth 20000 in
theorem dX6_about_60 : decode cX6_about 60 = .ok (.aload_n 0, 1) := by decide +kernel
set_option maxRecDepth 20000 in
theorem dX6_about_61 : decode cX6_about 61 = .ok (.getfield 12, 3) := by decide +kernel
set_option maxRecDepth 20000 in
theorem dX6_about_64 : decode cX6_about 64 = .ok (.getfield 54, 3) := by decide +kernel
set_option maxRecDepth 20000 in
theorem dX6_about_67 : decode cX6_about 67 = .ok (.ireturn, 1) := by decide +kernel
set_option maxRecDepth 20000 in
theorem dX6_clear_0 : decode cX6_clear 0 = .ok (.aload_n 0, 1) := by decide +kernel
set_option maxRecDepth 20000 in
theorem dX6_clear_1 : decode cX6_clear 1 = .ok (.getfield 12, 3) := by decide +kernel
set_option maxRecDepth 20000 in
theorem dX6_clear_4 : decode cX6_clear 4 = .ok (.getfield 67, 3) := by decide +kernel
set_option maxRecDepth 20000 in
theorem dX6_clear_7 : decode cX6_clear 7 = .ok (.istore_n 1, 1) := by decide +kernel
set_option maxRecDepth 20000 in
theorem dX6_clear_8 : decode cX6_clear 8 = .ok (.aload_n 0, 1) := by decide +kernel
set_option maxRecDepth 20000 in
theorem dX6_clear_9 : decode cX6_clear 9 = .ok (.getfield 12, 3) := by decide +kernel
set_option maxRecDepth 20000 in
theorem dX6_clear_12 : decode cX6_clear 12 = .ok (.invokevirtual 120, 3) := by decide +kernel
set_option maxRecDepth 20000 in
theorem dX6_clear_15 : decode cX6_clear 15 = .ok (.iload_n 1, 1) := by decide +kernel
set_option maxRecDepth 20000 in
theorem dX6_clear_16 : decode cX6_clear 16 = .ok (.ireturn, 1) := by decide +kernel
set_option maxRecDepth 20000 in
theorem dX6_keep_0 : decode cX6_keep 0 = .ok (.aload_n 0, 1) := by decide +kernel
set_option maxRecDepth 20000 in
theorem dX6_keep_1 : decode cX6_keep 1 = .ok (.getfield 16, 3) := by decide +kernel
set_option maxRecDepth 20000 in
theorem dX6_keep_4 : decode cX6_keep 4 = .ok (.ifnonnull 14, 3) := by decide +kernel
set_option maxRecDepth 20000 in
theorem dX6_keep_7 : decode cX6_keep 7 = .ok (.aload_n 0, 1) := by decide +kernel
set_option maxRecDepth 20000 in
theorem dX6_keep_8 : decode cX6_keep 8 = .ok (.new 9, 3) := by decide +kernel
set_option maxRecDepth 20000 in
theorem dX6_keep_11 : decode cX6_keep 11 = .ok (.dup, 1) := by decide +kernel
set_option maxRecDepth 20000 in
theorem dX6_keep_12 : decode cX6_keep 12 = .ok (.invokespecial 11, 3) := by decide +kernel
set_option maxRecDepth 20000 in
theorem dX6_keep_15 : decode cX6_keep 15 = .ok (.putfield 16, 3) := by decide +kernel
set_option maxRecDepth 20000 in
theorem dX6_keep_18 : decode cX6_keep 18 = .ok (.aload_n 0, 1) := by decide +kernel
set_option maxRecDepth 20000 in
theorem dX6_keep_19 : decode cX6_keep 19 = .ok (.getfield 16, 3) := by decide +kernel
set_option maxRecDepth 20000 in
theorem dX6_keep_22 : decode cX6_keep 22 = .ok (.aload_n 0, 1) := by decide +kernel
set_option maxRecDepth 20000 in
theorem dX6_keep_23 : decode cX6_keep 23 = .ok (.getfield 12, 3) := by decide +kernel
set_option maxRecDepth 20000 in
theorem dX6_keep_26 : decode cX6_keep 26 = .ok (.invokevirtual 123, 3) := by decide +kernel
set_option maxRecDepth 20000 in
theorem dX6_keep_29 : decode cX6_keep 29 = .ok (.aload_n 0, 1) := by decide +kernel
set_option maxRecDepth 20000 in
theorem dX6_keep_30 : decode cX6_keep 30 = .ok (.getfield 12, 3) := by decide +kernel
set_option maxRecDepth 20000 in
theorem dX6_keep_33 : decode cX6_keep 33 = .ok (.getfield 67, 3) := by decide +kernel
set_option maxRecDepth 20000 in
theorem dX6_keep_36 : decode cX6_keep 36 = .ok (.ireturn, 1) := by decide +kernel
set_option maxRecDepth 20000 in
theorem dX6_back_0 : decode cX6_back 0 = .ok (.aload_n 0, 1) := by decide +kernel
set_option maxRecDepth 20000 in
theorem dX6_back_1 : decode cX6_back 1 = .ok (.getfield 16, 3) := by decide +kernel
set_option maxRecDepth 20000 in
theorem dX6_back_4 : decode cX6_back 4 = .ok (.ifnonnull 6, 3) := by decide +kernel
set_option maxRecDepth 20000 in
theorem dX6_back_7 : decode cX6_back 7 = .ok (.ldc 58, 2) := by decide +kernel
set_option maxRecDepth 20000 in
theorem dX6_back_9 : decode cX6_back 9 = .ok (.ireturn, 1) := by decide +kernel
set_option maxRecDepth 20000 in
theorem dX6_back_10 : decode cX6_back 10 = .ok (.aload_n 0, 1) := by decide +kernel
set_option maxRecDepth 20000 in
theorem dX6_back_11 : decode cX6_back 11 = .ok (.getfield 12, 3) := by decide +kernel
set_option maxRecDepth 20000 in
theorem dX6_back_14 : decode cX6_back 14 = .ok (.aload_n 0, 1) := by decide +kernel
set_option maxRecDepth 20000 in
theorem dX6_back_15 : decode cX6_back 15 = .ok (.getfield 16, 3) := by decide +kernel
set_option maxRecDepth 20000 in
theorem dX6_back_18 : decode cX6_back 18 = .ok (.invokevirtual 123, 3) := by decide +kernel
set_option maxRecDepth 20000 in
theorem dX6_back_21 : decode cX6_back 21 = .ok (.aload_n 0, 1) := by decide +kernel
set_option maxRecDepth 20000 in
theorem dX6_back_22 : decode cX6_back 22 = .ok (.getfield 12, 3) := by decide +kernel
set_option maxRecDepth 20000 in
theorem dX6_back_25 : decode cX6_back 25 = .ok (.getfield 67, 3) := by decide +kernel
set_option maxRecDepth 20000 in
theorem dX6_back_28 : decode cX6_back 28 = .ok (.ireturn, 1) := by decide +kernel
set_option maxRecDepth 20000 in
theorem dX6_cause_0 : decode cX6_cause 0 = .ok (.aload_n 0, 1) := by decide +kernel
set_option maxRecDepth 20000 in
theorem dX6_cause_1 : decode cX6_cause 1 = .ok (.invokevirtual 103, 3) := by decide +kernel
set_option maxRecDepth 20000 in
theorem dX6_cause_4 : decode cX6_cause 4 = .ok (.ireturn, 1) := by decide +kernel
set_option maxRecDepth 20000 in
theorem dX6_of_0 : decode cX6_of 0 = .ok (.aload_n 0, 1) := by decide +kernel
set_option maxRecDepth 20000 in
theorem dX6_of_1 : decode cX6_of 1 = .ok (.getfield 12, 3) := by decide +kernel
set_option maxRecDepth 20000 in
theorem dX6_of_4 : decode cX6_of 4 = .ok (.iload_n 1, 1) := by decide +kernel
set_option maxRecDepth 20000 in
theorem dX6_of_5 : decode cX6_of 5 = .ok (.invokevirtual 74, 3) := by decide +kernel
set_option maxRecDepth 20000 in
theorem dX6_of_8 : decode cX6_of 8 = .ok (.ifCond .ne 6, 3) := by decide +kernel
set_option maxRecDepth 20000 in
theorem dX6_of_11 : decode cX6_of 11 = .ok (.ldc 58, 2) := by decide +kernel
set_option maxRecDepth 20000 in
theorem dX6_of_13 : decode cX6_of 13 = .ok (.ireturn, 1) := by decide +kernel
set_option maxRecDepth 20000 in
theorem dX6_of_14 : decode cX6_of 14 = .ok (.iload_n 2, 1) := by decide +kernel
set_option maxRecDepth 20000 in
theorem dX6_of_15 : decode cX6_of 15 = .ok (.tableswitch 78 0 2 #[25, 35, 45], 25) := by decide +kernel
set_option maxRecDepth 20000 in
theorem dX6_of_40 : decode cX6_of 40 = .ok (.aload_n 0, 1) := by decide +kernel
set_option maxRecDepth 20000 in
theorem dX6_of_41 : decode cX6_of 41 = .ok (.getfield 12, 3) := by decide +kernel
set_option maxRecDepth 20000 in
theorem dX6_of_44 : decode cX6_of 44 = .ok (.getfield 126, 3) := by decide +kernel
set_option maxRecDepth 20000 in
theorem dX6_of_47 : decode cX6_of 47 = .ok (.iload_n 1, 1) := by decide +kernel
set_option maxRecDepth 20000 in
theorem dX6_of_48 : decode cX6_of 48 = .ok (.iaload, 1) := by decide +kernel
set_option maxRecDepth 20000 in
theorem dX6_of_49 : decode cX6_of 49 = .ok (.ireturn, 1) := by decide +kernel
set_option maxRecDepth 20000 in
theorem dX6_of_50 : decode cX6_of 50 = .ok (.aload_n 0, 1) := by decide +kernel
set_option maxRecDepth 20000 in
theorem dX6_of_51 : decode cX6_of 51 = .ok (.getfield 12, 3) := by decide +kernel
set_option maxRecDepth 20000 in
theorem dX6_of_54 : decode cX6_of 54 = .ok (.getfield 129, 3) := by decide +kernel
set_option maxRecDepth 20000 in
theorem dX6_of_57 : decode cX6_of 57 = .ok (.iload_n 1, 1) := by decide +kernel
set_option maxRecDepth 20000 in
theorem dX6_of_58 : decode cX6_of 58 = .ok (.iaload, 1) := by decide +kernel
set_option maxRecDepth 20000 in
theorem dX6_of_59 : decode cX6_of 59 = .ok (.ireturn, 1) := by decide +kernel
set_option maxRecDepth 20000 in
theorem dX6_of_60 : decode cX6_of 60 = .ok (.iload_n 1, 1) := by decide +kernel
set_option maxRecDepth 20000 in
theorem dX6_of_61 : decode cX6_of 61 = .ok (.aload_n 0, 1) := by decide +kernel
set_option maxRecDepth 20000 in
theorem dX6_of_62 : decode cX6_of 62 = .ok (.getfield 12, 3) := by decide +kernel
set_option maxRecDepth 20000 in
theorem dX6_of_65 : decode cX6_of 65 = .ok (.getfield 77, 3) := by decide +kernel
set_option maxRecDepth 20000 in
theorem dX6_of_68 : decode cX6_of 68 = .ok (.if_icmp .ne 7, 3) := by decide +kernel
set_option maxRecDepth 20000 in
theorem dX6_of_71 : decode cX6_of 71 = .ok (.iconst 2, 1) := by decide +kernel
set_option maxRecDepth 20000 in
theorem dX6_of_72 : decode cX6_of 72 = .ok (.goto 20, 3) := by decide +kernel
set_option maxRecDepth 20000 in
theorem dX6_of_75 : decode cX6_of 75 = .ok (.aload_n 0, 1) := by decide +kernel
set_option maxRecDepth 20000 in
theorem dX6_of_76 : decode cX6_of 76 = .ok (.getfield 12, 3) := by decide +kernel
set_option maxRecDepth 20000 in
theorem dX6_of_79 : decode cX6_of 79 = .ok (.getfield 80, 3) := by decide +kernel
set_option maxRecDepth 20000 in
theorem dX6_of_82 : decode cX6_of 82 = .ok (.iload_n 1, 1) := by decide +kernel
set_option maxRecDepth 20000 in
theorem dX6_of_83 : decode cX6_of 83 = .ok (.baload, 1) := by decide +kernel
set_option maxRecDepth 20000 in
theorem dX6_of_84 : decode cX6_of 84 = .ok (.ifCond .eq 7, 3) := by decide +kernel
set_option maxRecDepth 20000 in
theorem dX6_of_87 : decode cX6_of 87 = .ok (.iconst 1, 1) := by decide +kernel
set_option maxRecDepth 20000 in
theorem dX6_of_88 : decode cX6_of 88 = .ok (.goto 4, 3) := by decide +kernel
set_option maxRecDepth 20000 in
theorem dX6_of_91 : decode cX6_of 91 = .ok (.iconst 0, 1) := by decide +kernel
set_option maxRecDepth 20000 in
theorem dX6_of_92 : decode cX6_of 92 = .ok (.ireturn, 1) := by decide +kernel
set_option maxRecDepth 20000 in
theorem dX6_of_93 : decode cX6_of 93 = .ok (.ldc 58, 2) := by decide +kernel
set_option maxRecDepth 20000 in
theorem dX6_of_95 : decode cX6_of 95 = .ok (.ireturn, 1) := by decide +kernel
set_option maxRecDepth 20000 in
theorem dX6_turn_0 : decode cX6_turn 0 = .ok (.aload_n 0, 1) := by decide +kernel
set_option maxRecDepth 20000 in
theorem dX6_turn_1 : decode cX6_turn 1 = .ok (.getfield 12, 3) := by decide +kernel
set_option maxRecDepth 20000 in
theorem dX6_turn_4 : decode cX6_turn 4 = .ok (.iload_n 1, 1) := by decide +kernel
set_option maxRecDepth 20000 in
theorem dX6_turn_5 : decode cX6_turn 5 = .ok (.invokevirtual 63, 3) := by decide +kernel
set_option maxRecDepth 20000 in
theorem dX6_turn_8 : decode cX6_turn 8 = .ok (.ifCond .ne 6, 3) := by decide +kernel
set_option maxRecDepth 20000 in
theorem dX6_turn_11 : decode cX6_turn 11 = .ok (.ldc 58, 2) := by decide +kernel
set_option maxRecDepth 20000 in
theorem dX6_turn_13 : decode cX6_turn 13 = .ok (.ireturn, 1) := by decide +kernel
set_option maxRecDepth 20000 in
theorem dX6_turn_14 : decode cX6_turn 14 = .ok (.iload_n 2, 1) := by decide +kernel
set_option maxRecDepth 20000 in
theorem dX6_turn_15 : decode cX6_turn 15 = .ok (.ifCond .lt 16, 3) := by decide +kernel
set_option maxRecDepth 20000 in
theorem dX6_turn_18 : decode cX6_turn 18 = .ok (.iload_n 2, 1) := by decide +kernel
set_option maxRecDepth 20000 in
theorem dX6_turn_19 : decode cX6_turn 19 = .ok (.aload_n 0, 1) := by decide +kernel
set_option maxRecDepth 20000 in
theorem dX6_turn_20 : decode cX6_turn 20 = .ok (.getfield 12, 3) := by decide +kernel
set_option maxRecDepth 20000 in
theorem dX6_turn_23 : decode cX6_turn 23 = .ok (.getfield 95, 3) := by decide +kernel
set_option maxRecDepth 20000 in
theorem dX6_turn_26 : decode cX6_turn 26 = .ok (.iload_n 1, 1) := by decide +kernel
set_option maxRecDepth 20000 in
theorem dX6_turn_27 : decode cX6_turn 27 = .ok (.iaload, 1) := by decide +kernel
set_option maxRecDepth 20000 in
theorem dX6_turn_28 : decode cX6_turn 28 = .ok (.if_icmp .lt 5, 3) := by decide +kernel
set_option maxRecDepth 20000 in
theorem dX6_turn_31 : decode cX6_turn 31 = .ok (.iconst (-1), 1) := by decide +kernel
set_option maxRecDepth 20000 in
theorem dX6_turn_32 : decode cX6_turn 32 = .ok (.ireturn, 1) := by decide +kernel
set_option maxRecDepth 20000 in
theorem dX6_turn_33 : decode cX6_turn 33 = .ok (.aload_n 0, 1) := by decide +kernel
set_option maxRecDepth 20000 in
theorem dX6_turn_34 : decode cX6_turn 34 = .ok (.getfield 12, 3) := by decide +kernel
set_option maxRecDepth 20000 in
theorem dX6_turn_37 : decode cX6_turn 37 = .ok (.iload_n 1, 1) := by decide +kernel
set_option maxRecDepth 20000 in
theorem dX6_turn_38 : decode cX6_turn 38 = .ok (.iload_n 2, 1) := by decide +kernel
set_option maxRecDepth 20000 in
theorem dX6_turn_39 : decode cX6_turn 39 = .ok (.invokevirtual 132, 3) := by decide +kernel
set_option maxRecDepth 20000 in
theorem dX6_turn_42 : decode cX6_turn 42 = .ok (.ireturn, 1) := by decide +kernel
set_option maxRecDepth 20000 in
theorem dX6_faces_0 : decode cX6_faces 0 = .ok (.aload_n 0, 1) := by decide +kernel
set_option maxRecDepth 20000 in
theorem dX6_faces_1 : decode cX6_faces 1 = .ok (.getfield 12, 3) := by decide +kernel
set_option maxRecDepth 20000 in
theorem dX6_faces_4 : decode cX6_faces 4 = .ok (.invokevirtual 135, 3) := by decide +kernel
set_option maxRecDepth 20000 in
theorem dX6_faces_7 : decode cX6_faces 7 = .ok (.ifCond .ne 6, 3) := by decide +kernel
set_option maxRecDepth 20000 in
theorem dX6_faces_10 : decode cX6_faces 10 = .ok (.ldc 58, 2) := by decide +kernel
set_option maxRecDepth 20000 in
theorem dX6_faces_12 : decode cX6_faces 12 = .ok (.ireturn, 1) := by decide +kernel
set_option maxRecDepth 20000 in
theorem dX6_faces_13 : decode cX6_faces 13 = .ok (.aload_n 0, 1) := by decide +kernel
set_option maxRecDepth 20000 in
theorem dX6_faces_14 : decode cX6_faces 14 = .ok (.getfield 22, 3) := by decide +kernel
set_option maxRecDepth 20000 in
theorem dX6_faces_17 : decode cX6_faces 17 = .ok (.aload_n 0, 1) := by decide +kernel
set_option maxRecDepth 20000 in
theorem dX6_faces_18 : decode cX6_faces 18 = .ok (.getfield 12, 3) := by decide +kernel
set_option maxRecDepth 20000 in
theorem dX6_faces_21 : decode cX6_faces 21 = .ok (.invokevirtual 138, 3) := by decide +kernel
set_option maxRecDepth 20000 in
theorem dX6_faces_24 : decode cX6_faces 24 = .ok (.aload_n 0, 1) := by decide +kernel
set_option maxRecDepth 20000 in
theorem dX6_faces_25 : decode cX6_faces 25 = .ok (.getfield 22, 3) := by decide +kernel
set_option maxRecDepth 20000 in
theorem dX6_faces_28 : decode cX6_faces 28 = .ok (.getfield 113, 3) := by decide +kernel
set_option maxRecDepth 20000 in
theorem dX6_faces_31 : decode cX6_faces 31 = .ok (.ireturn, 1) := by decide +kernel
set_option maxRecDepth 20000 in
theorem dX6_face_0 : decode cX6_face 0 = .ok (.aload_n 0, 1) := by decide +kernel
set_option maxRecDepth 20000 in
theorem dX6_face_1 : decode cX6_face 1 = .ok (.getfield 12, 3) := by decide +kernel
set_option maxRecDepth 20000 in
theorem dX6_face_4 : decode cX6_face 4 = .ok (.invokevirtual 135, 3) := by decide +kernel
set_option maxRecDepth 20000 in
theorem dX6_face_7 : decode cX6_face 7 = .ok (.ifCond .eq 20, 3) := by decide +kernel
set_option maxRecDepth 20000 in
theorem dX6_face_10 : decode cX6_face 10 = .ok (.iload_n 1, 1) := by decide +kernel
set_option maxRecDepth 20000 in
theorem dX6_face_11 : decode cX6_face 11 = .ok (.ifCond .lt 16, 3) := by decide +kernel
set_option maxRecDepth 20000 in
theorem dX6_face_14 : decode cX6_face 14 = .ok (.iload_n 1, 1) := by decide +kernel
set_option maxRecDepth 20000 in
theorem dX6_face_15 : decode cX6_face 15 = .ok (.iconst 2, 1) := by decide +kernel
set_option maxRecDepth 20000 in
theorem dX6_face_16 : decode cX6_face 16 = .ok (.aload_n 0, 1) := by decide +kernel
set_option maxRecDepth 20000 in
theorem dX6_face_17 : decode cX6_face 17 = .ok (.getfield 12, 3) := by decide +kernel
set_option maxRecDepth 20000 in
theorem dX6_face_20 : decode cX6_face 20 = .ok (.getfield 67, 3) := by decide +kernel
set_option maxRecDepth 20000 in
theorem dX6_face_23 : decode cX6_face 23 = .ok (.imul, 1) := by decide +kernel
set_option maxRecDepth 20000 in
theorem dX6_face_24 : decode cX6_face 24 = .ok (.if_icmp .lt 6, 3) := by decide +kernel
set_option maxRecDepth 20000 in
theorem dX6_face_27 : decode cX6_face 27 = .ok (.ldc 58, 2) := by decide +kernel
set_option maxRecDepth 20000 in
theorem dX6_face_29 : decode cX6_face 29 = .ok (.ireturn, 1) := by decide +kernel
set_option maxRecDepth 20000 in
theorem dX6_face_30 : decode cX6_face 30 = .ok (.aload_n 0, 1) := by decide +kernel
set_option maxRecDepth 20000 in
theorem dX6_face_31 : decode cX6_face 31 = .ok (.getfield 22, 3) := by decide +kernel
set_option maxRecDepth 20000 in
theorem dX6_face_34 : decode cX6_face 34 = .ok (.aload_n 0, 1) := by decide +kernel
set_option maxRecDepth 20000 in
theorem dX6_face_35 : decode cX6_face 35 = .ok (.getfield 12, 3) := by decide +kernel
set_option maxRecDepth 20000 in
theorem dX6_face_38 : decode cX6_face 38 = .ok (.invokevirtual 138, 3) := by decide +kernel
set_option maxRecDepth 20000 in
theorem dX6_face_41 : decode cX6_face 41 = .ok (.aload_n 0, 1) := by decide +kernel
set_option maxRecDepth 20000 in
theorem dX6_face_42 : decode cX6_face 42 = .ok (.getfield 22, 3) := by decide +kernel
set_option maxRecDepth 20000 in
theorem dX6_face_45 : decode cX6_face 45 = .ok (.getfield 141, 3) := by decide +kernel
set_option maxRecDepth 20000 in
theorem dX6_face_48 : decode cX6_face 48 = .ok (.iload_n 1, 1) := by decide +kernel
set_option maxRecDepth 20000 in
theorem dX6_face_49 : decode cX6_face 49 = .ok (.iaload, 1) := by decide +kernel
set_option maxRecDepth 20000 in
theorem dX6_face_50 : decode cX6_face 50 = .ok (.ireturn, 1) := by decide +kernel
set_option maxRecDepth 20000 in
theorem dX6_trees_0 : decode cX6_trees 0 = .ok (.aload_n 0, 1) := by decide +kernel
set_option maxRecDepth 20000 in
theorem dX6_trees_1 : decode cX6_trees 1 = .ok (.invokevirtual 144, 3) := by decide +kernel
set_option maxRecDepth 20000 in
theorem dX6_trees_4 : decode cX6_trees 4 = .ok (.ifCond .ne 7, 3) := by decide +kernel
set_option maxRecDepth 20000 in
theorem dX6_trees_7 : decode cX6_trees 7 = .ok (.ldc2_w 147, 3) := by decide +kernel
set_option maxRecDepth 20000 in
theorem dX6_trees_10 : decode cX6_trees 10 = .ok (.lreturn, 1) := by decide +kernel
set_option maxRecDepth 20000 in
theorem dX6_trees_11 : decode cX6_trees 11 = .ok (.aload_n 0, 1) := by decide +kernel
set_option maxRecDepth 20000 in
theorem dX6_trees_12 : decode cX6_trees 12 = .ok (.getfield 29, 3) := by decide +kernel
set_option maxRecDepth 20000 in
theorem dX6_trees_15 : decode cX6_trees 15 = .ok (.getfield 149, 3) := by decide +kernel
set_option maxRecDepth 20000 in
theorem dX6_trees_18 : decode cX6_trees 18 = .ok (.lreturn, 1) := by decide +kernel
set_option maxRecDepth 20000 in
theorem dX6_current_0 : decode cX6_current 0 = .ok (.aload_n 0, 1) := by decide +kernel
set_option maxRecDepth 20000 in
theorem dX6_current_1 : decode cX6_current 1 = .ok (.getfield 12, 3) := by decide +kernel
set_option maxRecDepth 20000 in
theorem dX6_current_4 : decode cX6_current 4 = .ok (.iload_n 1, 1) := by decide +kernel
set_option maxRecDepth 20000 in
theorem dX6_current_5 : decode cX6_current 5 = .ok (.invokevirtual 74, 3) := by decide +kernel
set_option maxRecDepth 20000 in
theorem dX6_current_8 : decode cX6_current 8 = .ok (.ifCond .eq 10, 3) := by decide +kernel
set_option maxRecDepth 20000 in
theorem dX6_current_11 : decode cX6_current 11 = .ok (.aload_n 0, 1) := by decide +kernel
set_option maxRecDepth 20000 in
theorem dX6_current_12 : decode cX6_current 12 = .ok (.invokevirtual 144, 3) := by decide +kernel
set_option maxRecDepth 20000 in
theorem dX6_current_15 : decode cX6_current 15 = .ok (.ifCond .ne 6, 3) := by decide +kernel
set_option maxRecDepth 20000 in
theorem dX6_current_18 : decode cX6_current 18 = .ok (.ldc 58, 2) := by decide +kernel
set_option maxRecDepth 20000 in
theorem dX6_current_20 : decode cX6_current 20 = .ok (.ireturn, 1) := by decide +kernel
set_option maxRecDepth 20000 in
theorem dX6_current_21 : decode cX6_current 21 = .ok (.aload_n 0, 1) := by decide +kernel
set_option maxRecDepth 20000 in
theorem dX6_current_22 : decode cX6_current 22 = .ok (.getfield 29, 3) := by decide +kernel
set_option maxRecDepth 20000 in
theorem dX6_current_25 : decode cX6_current 25 = .ok (.getfield 153, 3) := by decide +kernel
set_option maxRecDepth 20000 in
theorem dX6_current_28 : decode cX6_current 28 = .ok (.iload_n 1, 1) := by decide +kernel
set_option maxRecDepth 20000 in
theorem dX6_current_29 : decode cX6_current 29 = .ok (.iaload, 1) := by decide +kernel
set_option maxRecDepth 20000 in
theorem dX6_current_30 : decode cX6_current 30 = .ok (.ireturn, 1) := by decide +kernel
set_option maxRecDepth 20000 in
theorem dX6_height_0 : decode cX6_height 0 = .ok (.aload_n 0, 1) := by decide +kernel
set_option maxRecDepth 20000 in
theorem dX6_height_1 : decode cX6_height 1 = .ok (.getfield 12, 3) := by decide +kernel
set_option maxRecDepth 20000 in
theorem dX6_height_4 : decode cX6_height 4 = .ok (.iload_n 1, 1) := by decide +kernel
set_option maxRecDepth 20000 in
theorem dX6_height_5 : decode cX6_height 5 = .ok (.invokevirtual 63, 3) := by decide +kernel
set_option maxRecDepth 20000 in
theorem dX6_height_8 : decode cX6_height 8 = .ok (.ifCond .eq 10, 3) := by decide +kernel
set_option maxRecDepth 20000 in
theorem dX6_height_11 : decode cX6_height 11 = .ok (.aload_n 0, 1) := by decide +kernel
set_option maxRecDepth 20000 in
theorem dX6_height_12 : decode cX6_height 12 = .ok (.invokevirtual 144, 3) := by decide +kernel
set_option maxRecDepth 20000 in
theorem dX6_height_15 : decode cX6_height 15 = .ok (.ifCond .ne 6, 3) := by decide +kernel
set_option maxRecDepth 20000 in
theorem dX6_height_18 : decode cX6_height 18 = .ok (.ldc 58, 2) := by decide +kernel
set_option maxRecDepth 20000 in
theorem dX6_height_20 : decode cX6_height 20 = .ok (.ireturn, 1) := by decide +kernel
set_option maxRecDepth 20000 in
theorem dX6_height_21 : decode cX6_height 21 = .ok (.aload_n 0, 1) := by decide +kernel
set_option maxRecDepth 20000 in
theorem dX6_height_22 : decode cX6_height 22 = .ok (.getfield 29, 3) := by decide +kernel
set_option maxRecDepth 20000 in
theorem dX6_height_25 : decode cX6_height 25 = .ok (.getfield 156, 3) := by decide +kernel
set_option maxRecDepth 20000 in
theorem dX6_height_28 : decode cX6_height 28 = .ok (.iload_n 1, 1) := by decide +kernel
set_option maxRecDepth 20000 in
theorem dX6_height_29 : decode cX6_height 29 = .ok (.iaload, 1) := by decide +kernel
set_option maxRecDepth 20000 in
theorem dX6_height_30 : decode cX6_height 30 = .ok (.ireturn, 1) := by decide +kernel
set_option maxRecDepth 20000 in
theorem dX6_place_0 : decode cX6_place 0 = .ok (.aload_n 0, 1) := by decide +kernel
set_option maxRecDepth 20000 in
theorem dX6_place_1 : decode cX6_place 1 = .ok (.invokevirtual 144, 3) := by decide +kernel
set_option maxRecDepth 20000 in
theorem dX6_place_4 : decode cX6_place 4 = .ok (.ifCond .eq 18, 3) := by decide +kernel
set_option maxRecDepth 20000 in
theorem dX6_place_7 : decode cX6_place 7 = .ok (.iload_n 1, 1) := by decide +kernel
set_option maxRecDepth 20000 in
theorem dX6_place_8 : decode cX6_place 8 = .ok (.ifCond .lt 14, 3) := by decide +kernel
set_option maxRecDepth 20000 in
theorem dX6_place_11 : decode cX6_place 11 = .ok (.iload_n 1, 1) := by decide +kernel
set_option maxRecDepth 20000 in
theorem dX6_place_12 : decode cX6_place 12 = .ok (.aload_n 0, 1) := by decide +kernel
set_option maxRecDepth 20000 in
theorem dX6_place_13 : decode cX6_place 13 = .ok (.getfield 22, 3) := by decide +kernel
set_option maxRecDepth 20000 in
theorem dX6_place_16 : decode cX6_place 16 = .ok (.getfield 113, 3) := by decide +kernel
set_option maxRecDepth 20000 in
theorem dX6_place_19 : decode cX6_place 19 = .ok (.if_icmp .lt 6, 3) := by decide +kernel
set_option maxRecDepth 20000 in
theorem dX6_place_22 : decode cX6_place 22 = .ok (.ldc 58, 2) := by decide +kernel
set_option maxRecDepth 20000 in
theorem dX6_place_24 : decode cX6_place 24 = .ok (.ireturn, 1) := by decide +kernel
set_option maxRecDepth 20000 in
theorem dX6_place_25 : decode cX6_place 25 = .ok (.aload_n 0, 1) := by decide +kernel
set_option maxRecDepth 20000 in
theorem dX6_place_26 : decode cX6_place 26 = .ok (.getfield 29, 3) := by decide +kernel
set_option maxRecDepth 20000 in
theorem dX6_place_29 : decode cX6_place 29 = .ok (.getfield 159, 3) := by decide +kernel
set_option maxRecDepth 20000 in
theorem dX6_place_32 : decode cX6_place 32 = .ok (.iload_n 1, 1) := by decide +kernel
set_option maxRecDepth 20000 in
theorem dX6_place_33 : decode cX6_place 33 = .ok (.iaload, 1) := by decide +kernel
set_option maxRecDepth 20000 in
theorem dX6_place_34 : decode cX6_place 34 = .ok (.ireturn, 1) := by decide +kernel
set_option maxRecDepth 20000 in
theorem dX6_rectangle_0 : decode cX6_rectangle 0 = .ok (.aload_n 0, 1) := by decide +kernel
set_option maxRecDepth 20000 in
theorem dX6_rectangle_1 : decode cX6_rectangle 1 = .ok (.invokevirtual 162, 3) := by decide +kernel
set_option maxRecDepth 20000 in
theorem dX6_rectangle_4 : decode cX6_rectangle 4 = .ok (.ifCond .ne 6, 3) := by decide +kernel
set_option maxRecDepth 20000 in
theorem dX6_rectangle_7 : decode cX6_rectangle 7 = .ok (.ldc 58, 2) := by decide +kernel
set_option maxRecDepth 20000 in
theorem dX6_rectangle_9 : decode cX6_rectangle 9 = .ok (.ireturn, 1) := by decide +kernel
set_option maxRecDepth 20000 in
theorem dX6_rectangle_10 : decode cX6_rectangle 10 = .ok (.iload_n 1, 1) := by decide +kernel
set_option maxRecDepth 20000 in
theorem dX6_rectangle_11 : decode cX6_rectangle 11 = .ok (.tableswitch 99 0 4 #[33, 41, 49, 60, 76], 33) := by decide +kernel
set_option maxRecDepth 20000 in
theorem dX6_rectangle_44 : decode cX6_rectangle 44 = .ok (.aload_n 0, 1) := by decide +kernel
set_option maxRecDepth 20000 in
theorem dX6_rectangle_45 : decode cX6_rectangle 45 = .ok (.getfield 29, 3) := by decide +kernel
set_option maxRecDepth 20000 in
theorem dX6_rectangle_48 : decode cX6_rectangle 48 = .ok (.getfield 165, 3) := by decide +kernel
set_option maxRecDepth 20000 in
theorem dX6_rectangle_51 : decode cX6_rectangle 51 = .ok (.ireturn, 1) := by decide +kernel
set_option maxRecDepth 20000 in
theorem dX6_rectangle_52 : decode cX6_rectangle 52 = .ok (.aload_n 0, 1) := by decide +kernel
set_option maxRecDepth 20000 in
theorem dX6_rectangle_53 : decode cX6_rectangle 53 = .ok (.getfield 29, 3) := by decide +kernel
set_option maxRecDepth 20000 in
theorem dX6_rectangle_56 : decode cX6_rectangle 56 = .ok (.getfield 168, 3) := by decide +kernel
set_option maxRecDepth 20000 in
theorem dX6_rectangle_59 : decode cX6_rectangle 59 = .ok (.ireturn, 1) := by decide +kernel
set_option maxRecDepth 20000 in
theorem dX6_rectangle_60 : decode cX6_rectangle 60 = .ok (.aload_n 0, 1) := by decide +kernel
set_option maxRecDepth 20000 in
theorem dX6_rectangle_61 : decode cX6_rectangle 61 = .ok (.getfield 36, 3) := by decide +kernel
set_option maxRecDepth 20000 in
theorem dX6_rectangle_64 : decode cX6_rectangle 64 = .ok (.getfield 171, 3) := by decide +kernel
set_option maxRecDepth 20000 in
theorem dX6_rectangle_67 : decode cX6_rectangle 67 = .ok (.getfield 174, 3) := by decide +kernel
set_option maxRecDepth 20000 in
theorem dX6_rectangle_70 : decode cX6_rectangle 70 = .ok (.ireturn, 1) := by decide +kernel
set_option maxRecDepth 20000 in
theorem dX6_rectangle_71 : decode cX6_rectangle 71 = .ok (.aload_n 0, 1) := by decide +kernel
set_option maxRecDepth 20000 in
theorem dX6_rectangle_72 : decode cX6_rectangle 72 = .ok (.getfield 36, 3) := by decide +kernel
set_option maxRecDepth 20000 in
theorem dX6_rectangle_75 : decode cX6_rectangle 75 = .ok (.invokevirtual 175, 3) := by decide +kernel
set_option maxRecDepth 20000 in
theorem dX6_rectangle_78 : decode cX6_rectangle 78 = .ok (.ifCond .eq 7, 3) := by decide +kernel
set_option maxRecDepth 20000 in
theorem dX6_rectangle_81 : decode cX6_rectangle 81 = .ok (.iconst 1, 1) := by decide +kernel
set_option maxRecDepth 20000 in
theorem dX6_rectangle_82 : decode cX6_rectangle 82 = .ok (.goto 4, 3) := by decide +kernel
set_option maxRecDepth 20000 in
theorem dX6_rectangle_85 : decode cX6_rectangle 85 = .ok (.iconst 0, 1) := by decide +kernel
set_option maxRecDepth 20000 in
theorem dX6_rectangle_86 : decode cX6_rectangle 86 = .ok (.ireturn, 1) := by decide +kernel
set_option maxRecDepth 20000 in
theorem dX6_rectangle_87 : decode cX6_rectangle 87 = .ok (.aload_n 0, 1) := by decide +kernel
set_option maxRecDepth 20000 in
theorem dX6_rectangle_88 : decode cX6_rectangle 88 = .ok (.getfield 36, 3) := by decide +kernel
set_option maxRecDepth 20000 in
theorem dX6_rectangle_91 : decode cX6_rectangle 91 = .ok (.invokevirtual 178, 3) := by decide +kernel
set_option maxRecDepth 20000 in
theorem dX6_rectangle_94 : decode cX6_rectangle 94 = .ok (.aload_n 0, 1) := by decide +kernel
set_option maxRecDepth 20000 in
theorem dX6_rectangle_95 : decode cX6_rectangle 95 = .ok (.getfield 36, 3) := by decide +kernel
set_option maxRecDepth 20000 in
theorem dX6_rectangle_98 : decode cX6_rectangle 98 = .ok (.getfield 181, 3) := by decide +kernel
set_option maxRecDepth 20000 in
theorem dX6_rectangle_101 : decode cX6_rectangle 101 = .ok (.ifCond .ne 7, 3) := by decide +kernel
set_option maxRecDepth 20000 in
theorem dX6_rectangle_104 : decode cX6_rectangle 104 = .ok (.iconst 1, 1) := by decide +kernel
set_option maxRecDepth 20000 in
theorem dX6_rectangle_105 : decode cX6_rectangle 105 = .ok (.goto 4, 3) := by decide +kernel
set_option maxRecDepth 20000 in
theorem dX6_rectangle_108 : decode cX6_rectangle 108 = .ok (.iconst 0, 1) := by decide +kernel
set_option maxRecDepth 20000 in
theorem dX6_rectangle_109 : decode cX6_rectangle 109 = .ok (.ireturn, 1) := by decide +kernel
set_option maxRecDepth 20000 in
theorem dX6_rectangle_110 : decode cX6_rectangle 110 = .ok (.ldc 58, 2) := by decide +kernel
set_option maxRecDepth 20000 in
theorem dX6_rectangle_112 : decode cX6_rectangle 112 = .ok (.ireturn, 1) := by decide +kernel
set_option maxRecDepth 20000 in
theorem dX6_square_0 : decode cX6_square 0 = .ok (.aload_n 0, 1) := by decide +kernel
set_option maxRecDepth 20000 in
theorem dX6_square_1 : decode cX6_square 1 = .ok (.getfield 12, 3) := by decide +kernel
set_option maxRecDepth 20000 in
theorem dX6_square_4 : decode cX6_square 4 = .ok (.iload_n 1, 1) := by decide +kernel
set_option maxRecDepth 20000 in
theorem dX6_square_5 : decode cX6_square 5 = .ok (.invokevirtual 74, 3) := by decide +kernel
set_option maxRecDepth 20000 in
theorem dX6_square_8 : decode cX6_square 8 = .ok (.ifCond .eq 10, 3) := by decide +kernel
set_option maxRecDepth 20000 in
theorem dX6_square_11 : decode cX6_square 11 = .ok (.aload_n 0, 1) := by decide +kernel
set_option maxRecDepth 20000 in
theorem dX6_square_12 : decode cX6_square 12 = .ok (.invokevirtual 162, 3) := by decide +kernel
set_option maxRecDepth 20000 in
theorem dX6_square_15 : decode cX6_square 15 = .ok (.ifCond .ne 6, 3) := by decide +kernel
set_option maxRecDepth 20000 in
theorem dX6_square_18 : decode cX6_square 18 = .ok (.ldc 58, 2) := by decide +kernel
set_option maxRecDepth 20000 in
theorem dX6_square_20 : decode cX6_square 20 = .ok (.ireturn, 1) := by decide +kernel
set_option maxRecDepth 20000 in
theorem dX6_square_21 : decode cX6_square 21 = .ok (.aload_n 0, 1) := by decide +kernel
set_option maxRecDepth 20000 in
theorem dX6_square_22 : decode cX6_square 22 = .ok (.getfield 36, 3) := by decide +kernel
set_option maxRecDepth 20000 in
theorem dX6_square_25 : decode cX6_square 25 = .ok (.iload_n 1, 1) := by decide +kernel
set_option maxRecDepth 20000 in
theorem dX6_square_26 : decode cX6_square 26 = .ok (.invokevirtual 184, 3) := by decide +kernel
set_option maxRecDepth 20000 in
theorem dX6_square_29 : decode cX6_square 29 = .ok (.istore_n 3, 1) := by decide +kernel
set_option maxRecDepth 20000 in
theorem dX6_square_30 : decode cX6_square 30 = .ok (.iload_n 3, 1) := by decide +kernel
set_option maxRecDepth 20000 in
theorem dX6_square_31 : decode cX6_square 31 = .ok (.iconst (-1), 1) := by decide +kernel
set_option maxRecDepth 20000 in
theorem dX6_square_32 : decode cX6_square 32 = .ok (.if_icmp .eq 12, 3) := by decide +kernel
set_option maxRecDepth 20000 in
theorem dX6_square_35 : decode cX6_square 35 = .ok (.iload_n 2, 1) := by decide +kernel
set_option maxRecDepth 20000 in
theorem dX6_square_36 : decode cX6_square 36 = .ok (.ifCond .lt 8, 3) := by decide +kernel
set_option maxRecDepth 20000 in
theorem dX6_square_39 : decode cX6_square 39 = .ok (.iload_n 2, 1) := by decide +kernel
set_option maxRecDepth 20000 in
theorem dX6_square_40 : decode cX6_square 40 = .ok (.iconst 2, 1) := by decide +kernel
set_option maxRecDepth 20000 in
theorem dX6_square_41 : decode cX6_square 41 = .ok (.if_icmp .le 6, 3) := by decide +kernel
set_option maxRecDepth 20000 in
theorem dX6_square_44 : decode cX6_square 44 = .ok (.ldc 58, 2) := by decide +kernel
set_option maxRecDepth 20000 in
theorem dX6_square_46 : decode cX6_square 46 = .ok (.ireturn, 1) := by decide +kernel
set_option maxRecDepth 20000 in
theorem dX6_square_47 : decode cX6_square 47 = .ok (.aload_n 0, 1) := by decide +kernel
set_option maxRecDepth 20000 in
theorem dX6_square_48 : decode cX6_square 48 = .ok (.getfield 36, 3) := by decide +kernel
set_option maxRecDepth 20000 in
theorem dX6_square_51 : decode cX6_square 51 = .ok (.getfield 171, 3) := by decide +kernel
set_option maxRecDepth 20000 in
theorem dX6_square_54 : decode cX6_square 54 = .ok (.iload_n 3, 1) := by decide +kernel
set_option maxRecDepth 20000 in
theorem dX6_square_55 : decode cX6_square 55 = .ok (.iload_n 2, 1) := by decide +kernel
set_option maxRecDepth 20000 in
theorem dX6_square_56 : decode cX6_square 56 = .ok (.invokevirtual 188, 3) := by decide +kernel
set_option maxRecDepth 20000 in
theorem dX6_square_59 : decode cX6_square 59 = .ok (.ireturn, 1) := by decide +kernel
set_option maxRecDepth 20000 in
theorem dX6_within_0 : decode cX6_within 0 = .ok (.aload_n 0, 1) := by decide +kernel
set_option maxRecDepth 20000 in
theorem dX6_within_1 : decode cX6_within 1 = .ok (.invokevirtual 162, 3) := by decide +kernel
set_option maxRecDepth 20000 in
theorem dX6_within_4 : decode cX6_within 4 = .ok (.ifCond .ne 6, 3) := by decide +kernel
set_option maxRecDepth 20000 in
theorem dX6_within_7 : decode cX6_within 7 = .ok (.ldc 58, 2) := by decide +kernel
set_option maxRecDepth 20000 in
theorem dX6_within_9 : decode cX6_within 9 = .ok (.ireturn, 1) := by decide +kernel
set_option maxRecDepth 20000 in
theorem dX6_within_10 : decode cX6_within 10 = .ok (.aload_n 0, 1) := by decide +kernel
set_option maxRecDepth 20000 in
theorem dX6_within_11 : decode cX6_within 11 = .ok (.getfield 36, 3) := by decide +kernel
set_option maxRecDepth 20000 in
theorem dX6_within_14 : decode cX6_within 14 = .ok (.invokevirtual 178, 3) := by decide +kernel
set_option maxRecDepth 20000 in
theorem dX6_within_17 : decode cX6_within 17 = .ok (.aload_n 0, 1) := by decide +kernel
set_option maxRecDepth 20000 in
theorem dX6_within_18 : decode cX6_within 18 = .ok (.getfield 36, 3) := by decide +kernel
set_option maxRecDepth 20000 in
theorem dX6_within_21 : decode cX6_within 21 = .ok (.iload_n 1, 1) := by decide +kernel
set_option maxRecDepth 20000 in
theorem dX6_within_22 : decode cX6_within 22 = .ok (.invokevirtual 191, 3) := by decide +kernel
set_option maxRecDepth 20000 in
theorem dX6_within_25 : decode cX6_within 25 = .ok (.ireturn, 1) := by decide +kernel
set_option maxRecDepth 20000 in
theorem dX6_at_0 : decode cX6_at 0 = .ok (.aload_n 0, 1) := by decide +kernel
set_option maxRecDepth 20000 in
theorem dX6_at_1 : decode cX6_at 1 = .ok (.invokevirtual 162, 3) := by decide +kernel
set_option maxRecDepth 20000 in
theorem dX6_at_4 : decode cX6_at 4 = .ok (.ifCond .ne 6, 3) := by decide +kernel
set_option maxRecDepth 20000 in
theorem dX6_at_7 : decode cX6_at 7 = .ok (.ldc 58, 2) := by decide +kernel
set_option maxRecDepth 20000 in
theorem dX6_at_9 : decode cX6_at 9 = .ok (.ireturn, 1) := by decide +kernel
set_option maxRecDepth 20000 in
theorem dX6_at_10 : decode cX6_at 10 = .ok (.aload_n 0, 1) := by decide +kernel
set_option maxRecDepth 20000 in
theorem dX6_at_11 : decode cX6_at 11 = .ok (.getfield 36, 3) := by decide +kernel
set_option maxRecDepth 20000 in
theorem dX6_at_14 : decode cX6_at 14 = .ok (.iload_n 1, 1) := by decide +kernel
set_option maxRecDepth 20000 in
theorem dX6_at_15 : decode cX6_at 15 = .ok (.iload_n 2, 1) := by decide +kernel
set_option maxRecDepth 20000 in
theorem dX6_at_16 : decode cX6_at 16 = .ok (.invokevirtual 194, 3) := by decide +kernel
set_option maxRecDepth 20000 in
theorem dX6_at_19 : decode cX6_at 19 = .ok (.ireturn, 1) := by decide +kernel
set_option maxRecDepth 20000 in
theorem dX6_tell_0 : decode cX6_tell 0 = .ok (.aload_n 0, 1) := by decide +kernel
set_option maxRecDepth 20000 in
theorem dX6_tell_1 : decode cX6_tell 1 = .ok (.getfield 43, 3) := by decide +kernel
set_option maxRecDepth 20000 in
theorem dX6_tell_4 : decode cX6_tell 4 = .ok (.getfield 174, 3) := by decide +kernel
set_option maxRecDepth 20000 in
theorem dX6_tell_7 : decode cX6_tell 7 = .ok (.bipush 21, 2) := by decide +kernel
set_option maxRecDepth 20000 in
theorem dX6_tell_9 : decode cX6_tell 9 = .ok (.if_icmp .ge 27, 3) := by decide +kernel
set_option maxRecDepth 20000 in
theorem dX6_tell_12 : decode cX6_tell 12 = .ok (.iconst 0, 1) := by decide +kernel
set_option maxRecDepth 20000 in
theorem dX6_tell_13 : decode cX6_tell 13 = .ok (.iload_n 1, 1) := by decide +kernel
set_option maxRecDepth 20000 in
theorem dX6_tell_14 : decode cX6_tell 14 = .ok (.invokestatic 197, 3) := by decide +kernel
set_option maxRecDepth 20000 in
theorem dX6_tell_17 : decode cX6_tell 17 = .ok (.ifCond .eq 19, 3) := by decide +kernel
set_option maxRecDepth 20000 in
theorem dX6_tell_20 : decode cX6_tell 20 = .ok (.iconst 1, 1) := by decide +kernel
set_option maxRecDepth 20000 in
theorem dX6_tell_21 : decode cX6_tell 21 = .ok (.iload_n 2, 1) := by decide +kernel
set_option maxRecDepth 20000 in
theorem dX6_tell_22 : decode cX6_tell 22 = .ok (.invokestatic 197, 3) := by decide +kernel
set_option maxRecDepth 20000 in
theorem dX6_tell_25 : decode cX6_tell 25 = .ok (.ifCond .eq 11, 3) := by decide +kernel
set_option maxRecDepth 20000 in
theorem dX6_tell_28 : decode cX6_tell 28 = .ok (.iconst 2, 1) := by decide +kernel
set_option maxRecDepth 20000 in
theorem dX6_tell_29 : decode cX6_tell 29 = .ok (.iload_n 3, 1) := by decide +kernel
set_option maxRecDepth 20000 in
theorem dX6_tell_30 : decode cX6_tell 30 = .ok (.invokestatic 197, 3) := by decide +kernel
set_option maxRecDepth 20000 in
theorem dX6_tell_33 : decode cX6_tell 33 = .ok (.ifCond .ne 6, 3) := by decide +kernel
set_option maxRecDepth 20000 in
theorem dX6_tell_36 : decode cX6_tell 36 = .ok (.ldc 58, 2) := by decide +kernel
set_option maxRecDepth 20000 in
theorem dX6_tell_38 : decode cX6_tell 38 = .ok (.ireturn, 1) := by decide +kernel
set_option maxRecDepth 20000 in
theorem dX6_tell_39 : decode cX6_tell 39 = .ok (.aload_n 0, 1) := by decide +kernel
set_option maxRecDepth 20000 in
theorem dX6_tell_40 : decode cX6_tell 40 = .ok (.getfield 43, 3) := by decide +kernel
set_option maxRecDepth 20000 in
theorem dX6_tell_43 : decode cX6_tell 43 = .ok (.iload_n 1, 1) := by decide +kernel
set_option maxRecDepth 20000 in
theorem dX6_tell_44 : decode cX6_tell 44 = .ok (.iload_n 2, 1) := by decide +kernel
set_option maxRecDepth 20000 in
theorem dX6_tell_45 : decode cX6_tell 45 = .ok (.iload_n 3, 1) := by decide +kernel
set_option maxRecDepth 20000 in
theorem dX6_tell_46 : decode cX6_tell 46 = .ok (.invokevirtual 200, 3) := by decide +kernel
set_option maxRecDepth 20000 in
theorem dX6_tell_49 : decode cX6_tell 49 = .ok (.aload_n 0, 1) := by decide +kernel
set_option maxRecDepth 20000 in
theorem dX6_tell_50 : decode cX6_tell 50 = .ok (.getfield 43, 3) := by decide +kernel
set_option maxRecDepth 20000 in
theorem dX6_tell_53 : decode cX6_tell 53 = .ok (.getfield 174, 3) := by decide +kernel
set_option maxRecDepth 20000 in
theorem dX6_tell_56 : decode cX6_tell 56 = .ok (.ireturn, 1) := by decide +kernel
set_option maxRecDepth 20000 in
theorem dX6_alter_0 : decode cX6_alter 0 = .ok (.iload_n 1, 1) := by decide +kernel
set_option maxRecDepth 20000 in
theorem dX6_alter_1 : decode cX6_alter 1 = .ok (.ifCond .lt 31, 3) := by decide +kernel
set_option maxRecDepth 20000 in
theorem dX6_alter_4 : decode cX6_alter 4 = .ok (.iload_n 1, 1) := by decide +kernel
set_option maxRecDepth 20000 in
theorem dX6_alter_5 : decode cX6_alter 5 = .ok (.aload_n 0, 1) := by decide +kernel
set_option maxRecDepth 20000 in
theorem dX6_alter_6 : decode cX6_alter 6 = .ok (.getfield 43, 3) := by decide +kernel
set_option maxRecDepth 20000 in
theorem dX6_alter_9 : decode cX6_alter 9 = .ok (.getfield 174, 3) := by decide +kernel
set_option maxRecDepth 20000 in
theorem dX6_alter_12 : decode cX6_alter 12 = .ok (.if_icmp .ge 20, 3) := by decide +kernel
set_option maxRecDepth 20000 in
theorem dX6_alter_15 : decode cX6_alter 15 = .ok (.iload_n 2, 1) := by decide +kernel
set_option maxRecDepth 20000 in
theorem dX6_alter_16 : decode cX6_alter 16 = .ok (.ifCond .lt 16, 3) := by decide +kernel
set_option maxRecDepth 20000 in
theorem dX6_alter_19 : decode cX6_alter 19 = .ok (.iload_n 2, 1) := by decide +kernel
set_option maxRecDepth 20000 in
theorem dX6_alter_20 : decode cX6_alter 20 = .ok (.iconst 2, 1) := by decide +kernel
set_option maxRecDepth 20000 in
theorem dX6_alter_21 : decode cX6_alter 21 = .ok (.if_icmp .gt 11, 3) := by decide +kernel
set_option maxRecDepth 20000 in
theorem dX6_alter_24 : decode cX6_alter 24 = .ok (.iload_n 2, 1) := by decide +kernel
set_option maxRecDepth 20000 in
theorem dX6_alter_25 : decode cX6_alter 25 = .ok (.iload_n 3, 1) := by decide +kernel
set_option maxRecDepth 20000 in
theorem dX6_alter_26 : decode cX6_alter 26 = .ok (.invokestatic 197, 3) := by decide +kernel
set_option maxRecDepth 20000 in
theorem dX6_alter_29 : decode cX6_alter 29 = .ok (.ifCond .ne 6, 3) := by decide +kernel
set_option maxRecDepth 20000 in
theorem dX6_alter_32 : decode cX6_alter 32 = .ok (.ldc 58, 2) := by decide +kernel
set_option maxRecDepth 20000 in
theorem dX6_alter_34 : decode cX6_alter 34 = .ok (.ireturn, 1) := by decide +kernel
set_option maxRecDepth 20000 in
theorem dX6_alter_35 : decode cX6_alter 35 = .ok (.aload_n 0, 1) := by decide +kernel
set_option maxRecDepth 20000 in
theorem dX6_alter_36 : decode cX6_alter 36 = .ok (.getfield 43, 3) := by decide +kernel
set_option maxRecDepth 20000 in
theorem dX6_alter_39 : decode cX6_alter 39 = .ok (.iload_n 1, 1) := by decide +kernel
set_option maxRecDepth 20000 in
theorem dX6_alter_40 : decode cX6_alter 40 = .ok (.iload_n 2, 1) := by decide +kernel
set_option maxRecDepth 20000 in
theorem dX6_alter_41 : decode cX6_alter 41 = .ok (.invokevirtual 188, 3) := by decide +kernel
set_option maxRecDepth 20000 in
theorem dX6_alter_44 : decode cX6_alter 44 = .ok (.istore 4, 2) := by decide +kernel
set_option maxRecDepth 20000 in
theorem dX6_alter_46 : decode cX6_alter 46 = .ok (.aload_n 0, 1) := by decide +kernel
set_option maxRecDepth 20000 in
theorem dX6_alter_47 : decode cX6_alter 47 = .ok (.getfield 43, 3) := by decide +kernel
set_option maxRecDepth 20000 in
theorem dX6_alter_50 : decode cX6_alter 50 = .ok (.iload_n 1, 1) := by decide +kernel
set_option maxRecDepth 20000 in
theorem dX6_alter_51 : decode cX6_alter 51 = .ok (.iload_n 2, 1) := by decide +kernel
set_option maxRecDepth 20000 in
theorem dX6_alter_52 : decode cX6_alter 52 = .ok (.iload_n 3, 1) := by decide +kernel
set_option maxRecDepth 20000 in
theorem dX6_alter_53 : decode cX6_alter 53 = .ok (.invokevirtual 204, 3) := by decide +kernel
set_option maxRecDepth 20000 in
theorem dX6_alter_56 : decode cX6_alter 56 = .ok (.iload 4, 2) := by decide +kernel
set_option maxRecDepth 20000 in
theorem dX6_alter_58 : decode cX6_alter 58 = .ok (.ireturn, 1) := by decide +kernel
set_option maxRecDepth 20000 in
theorem dX6_hush_0 : decode cX6_hush 0 = .ok (.aload_n 0, 1) := by decide +kernel
set_option maxRecDepth 20000 in
theorem dX6_hush_1 : decode cX6_hush 1 = .ok (.getfield 43, 3) := by decide +kernel
set_option maxRecDepth 20000 in
theorem dX6_hush_4 : decode cX6_hush 4 = .ok (.getfield 174, 3) := by decide +kernel
set_option maxRecDepth 20000 in
theorem dX6_hush_7 : decode cX6_hush 7 = .ok (.istore_n 1, 1) := by decide +kernel
set_option maxRecDepth 20000 in
theorem dX6_hush_8 : decode cX6_hush 8 = .ok (.aload_n 0, 1) := by decide +kernel
set_option maxRecDepth 20000 in
theorem dX6_hush_9 : decode cX6_hush 9 = .ok (.getfield 43, 3) := by decide +kernel
set_option maxRecDepth 20000 in
theorem dX6_hush_12 : decode cX6_hush 12 = .ok (.iconst 0, 1) := by decide +kernel
set_option maxRecDepth 20000 in
theorem dX6_hush_13 : decode cX6_hush 13 = .ok (.putfield 174, 3) := by decide +kernel
set_option maxRecDepth 20000 in
theorem dX6_hush_16 : decode cX6_hush 16 = .ok (.iload_n 1, 1) := by decide +kernel
set_option maxRecDepth 20000 in
theorem dX6_hush_17 : decode cX6_hush 17 = .ok (.ireturn, 1) := by decide +kernel
set_option maxRecDepth 20000 in
theorem dX6_copy_0 : decode cX6_copy 0 = .ok (.aload_n 0, 1) := by decide +kernel
set_option maxRecDepth 20000 in
theorem dX6_copy_1 : decode cX6_copy 1 = .ok (.invokevirtual 162, 3) := by decide +kernel
set_option maxRecDepth 20000 in
theorem dX6_copy_4 : decode cX6_copy 4 = .ok (.ifCond .ne 6, 3) := by decide +kernel
set_option maxRecDepth 20000 in
theorem dX6_copy_7 : decode cX6_copy 7 = .ok (.ldc 58, 2) := by decide +kernel
set_option maxRecDepth 20000 in
theorem dX6_copy_9 : decode cX6_copy 9 = .ok (.ireturn, 1) := by decide +kernel
set_option maxRecDepth 20000 in
theorem dX6_copy_10 : decode cX6_copy 10 = .ok (.aload_n 0, 1) := by decide +kernel
set_option maxRecDepth 20000 in
theorem dX6_copy_11 : decode cX6_copy 11 = .ok (.getfield 43, 3) := by decide +kernel
set_option maxRecDepth 20000 in
theorem dX6_copy_14 : decode cX6_copy 14 = .ok (.aload_n 0, 1) := by decide +kernel
set_option maxRecDepth 20000 in
theorem dX6_copy_15 : decode cX6_copy 15 = .ok (.getfield 36, 3) := by decide +kernel
set_option maxRecDepth 20000 in
theorem dX6_copy_18 : decode cX6_copy 18 = .ok (.getfield 171, 3) := by decide +kernel
set_option maxRecDepth 20000 in
theorem dX6_copy_21 : decode cX6_copy 21 = .ok (.invokevirtual 207, 3) := by decide +kernel
set_option maxRecDepth 20000 in
theorem dX6_copy_24 : decode cX6_copy 24 = .ok (.aload_n 0, 1) := by decide +kernel
set_option maxRecDepth 20000 in
theorem dX6_copy_25 : decode cX6_copy 25 = .ok (.getfield 43, 3) := by decide +kernel
set_option maxRecDepth 20000 in
theorem dX6_copy_28 : decode cX6_copy 28 = .ok (.getfield 174, 3) := by decide +kernel
set_option maxRecDepth 20000 in
theorem dX6_copy_31 : decode cX6_copy 31 = .ok (.ireturn, 1) := by decide +kernel
set_option maxRecDepth 20000 in
theorem dX6_fit_0 : decode cX6_fit 0 = .ok (.aload_n 0, 1) := by decide +kernel
set_option maxRecDepth 20000 in
theorem dX6_fit_1 : decode cX6_fit 1 = .ok (.iload_n 1, 1) := by decide +kernel
set_option maxRecDepth 20000 in
theorem dX6_fit_2 : decode cX6_fit 2 = .ok (.iload_n 2, 1) := by decide +kernel
set_option maxRecDepth 20000 in
theorem dX6_fit_3 : decode cX6_fit 3 = .ok (.invokevirtual 210, 3) := by decide +kernel
set_option maxRecDepth 20000 in
theorem dX6_fit_6 : decode cX6_fit 6 = .ok (.ireturn, 1) := by decide +kernel
set_option maxRecDepth 20000 in
theorem dX6_read_0 : decode cX6_read 0 = .ok (.aload_n 0, 1) := by decide +kernel
set_option maxRecDepth 20000 in
theorem dX6_read_1 : decode cX6_read 1 = .ok (.iload_n 1, 1) := by decide +kernel
set_option maxRecDepth 20000 in
theorem dX6_read_2 : decode cX6_read 2 = .ok (.iload_n 2, 1) := by decide +kernel
set_option maxRecDepth 20000 in
theorem dX6_read_3 : decode cX6_read 3 = .ok (.invokevirtual 210, 3) := by decide +kernel
set_option maxRecDepth 20000 in
theorem dX6_read_6 : decode cX6_read 6 = .ok (.ifCond .eq 6, 3) := by decide +kernel
set_option maxRecDepth 20000 in
theorem dX6_read_9 : decode cX6_read 9 = .ok (.ldc 58, 2) := by decide +kernel
set_option maxRecDepth 20000 in
theorem dX6_read_11 : decode cX6_read 11 = .ok (.ireturn, 1) := by decide +kernel
set_option maxRecDepth 20000 in
theorem dX6_read_12 : decode cX6_read 12 = .ok (.aload_n 0, 1) := by decide +kernel
set_option maxRecDepth 20000 in
theorem dX6_read_13 : decode cX6_read 13 = .ok (.getfield 50, 3) := by decide +kernel
set_option maxRecDepth 20000 in
theorem dX6_read_16 : decode cX6_read 16 = .ok (.aload_n 0, 1) := by decide +kernel
set_option maxRecDepth 20000 in
theorem dX6_read_17 : decode cX6_read 17 = .ok (.getfield 43, 3) := by decide +kernel
set_option maxRecDepth 20000 in
theorem dX6_read_20 : decode cX6_read 20 = .ok (.invokevirtual 213, 3) := by decide +kernel
set_option maxRecDepth 20000 in
theorem dX6_read_23 : decode cX6_read 23 = .ok (.aload_n 0, 1) := by decide +kernel
set_option maxRecDepth 20000 in
theorem dX6_read_24 : decode cX6_read 24 = .ok (.getfield 50, 3) := by decide +kernel
set_option maxRecDepth 20000 in
theorem dX6_read_27 : decode cX6_read 27 = .ok (.getfield 216, 3) := by decide +kernel
set_option maxRecDepth 20000 in
theorem dX6_read_30 : decode cX6_read 30 = .ok (.bipush 12, 2) := by decide +kernel
set_option maxRecDepth 20000 in
theorem dX6_read_32 : decode cX6_read 32 = .ok (.if_icmp .le 6, 3) := by decide +kernel
set_option maxRecDepth 20000 in
theorem dX6_read_35 : decode cX6_read 35 = .ok (.ldc 58, 2) := by decide +kernel
set_option maxRecDepth 20000 in
theorem dX6_read_37 : decode cX6_read 37 = .ok (.ireturn, 1) := by decide +kernel
set_option maxRecDepth 20000 in
theorem dX6_read_38 : decode cX6_read 38 = .ok (.aload_n 0, 1) := by decide +kernel
set_option maxRecDepth 20000 in
theorem dX6_read_39 : decode cX6_read 39 = .ok (.getfield 50, 3) := by decide +kernel
set_option maxRecDepth 20000 in
theorem dX6_read_42 : decode cX6_read 42 = .ok (.aload_n 0, 1) := by decide +kernel
set_option maxRecDepth 20000 in
theorem dX6_read_43 : decode cX6_read 43 = .ok (.getfield 43, 3) := by decide +kernel
set_option maxRecDepth 20000 in
theorem dX6_read_46 : decode cX6_read 46 = .ok (.aload_n 0, 1) := by decide +kernel
set_option maxRecDepth 20000 in
theorem dX6_read_47 : decode cX6_read 47 = .ok (.getfield 12, 3) := by decide +kernel
set_option maxRecDepth 20000 in
theorem dX6_read_50 : decode cX6_read 50 = .ok (.invokevirtual 217, 3) := by decide +kernel
set_option maxRecDepth 20000 in
theorem dX6_read_53 : decode cX6_read 53 = .ok (.aload_n 0, 1) := by decide +kernel
set_option maxRecDepth 20000 in
theorem dX6_read_54 : decode cX6_read 54 = .ok (.getfield 12, 3) := by decide +kernel
set_option maxRecDepth 20000 in
theorem dX6_read_57 : decode cX6_read 57 = .ok (.getfield 54, 3) := by decide +kernel
set_option maxRecDepth 20000 in
theorem dX6_read_60 : decode cX6_read 60 = .ok (.ireturn, 1) := by decide +kernel
set_option maxRecDepth 20000 in
theorem dX6_claim_0 : decode cX6_claim 0 = .ok (.aload_n 0, 1) := by decide +kernel
set_option maxRecDepth 20000 in
theorem dX6_claim_1 : decode cX6_claim 1 = .ok (.getfield 12, 3) := by decide +kernel
set_option maxRecDepth 20000 in
theorem dX6_claim_4 : decode cX6_claim 4 = .ok (.iload_n 1, 1) := by decide +kernel
set_option maxRecDepth 20000 in
theorem dX6_claim_5 : decode cX6_claim 5 = .ok (.invokevirtual 74, 3) := by decide +kernel
set_option maxRecDepth 20000 in
theorem dX6_claim_8 : decode cX6_claim 8 = .ok (.ifCond .eq 10, 3) := by decide +kernel
set_option maxRecDepth 20000 in
theorem dX6_claim_11 : decode cX6_claim 11 = .ok (.iload_n 2, 1) := by decide +kernel
set_option maxRecDepth 20000 in
theorem dX6_claim_12 : decode cX6_claim 12 = .ok (.invokestatic 221, 3) := by decide +kernel
set_option maxRecDepth 20000 in
theorem dX6_claim_15 : decode cX6_claim 15 = .ok (.ifCond .ne 6, 3) := by decide +kernel
set_option maxRecDepth 20000 in
theorem dX6_claim_18 : decode cX6_claim 18 = .ok (.ldc 58, 2) := by decide +kernel
set_option maxRecDepth 20000 in
theorem dX6_claim_20 : decode cX6_claim 20 = .ok (.ireturn, 1) := by decide +kernel
set_option maxRecDepth 20000 in
theorem dX6_claim_21 : decode cX6_claim 21 = .ok (.aload_n 0, 1) := by decide +kernel
set_option maxRecDepth 20000 in
theorem dX6_claim_22 : decode cX6_claim 22 = .ok (.getfield 12, 3) := by decide +kernel
set_option maxRecDepth 20000 in
theorem dX6_claim_25 : decode cX6_claim 25 = .ok (.getfield 224, 3) := by decide +kernel
set_option maxRecDepth 20000 in
theorem dX6_claim_28 : decode cX6_claim 28 = .ok (.iload_n 1, 1) := by decide +kernel
set_option maxRecDepth 20000 in
theorem dX6_claim_29 : decode cX6_claim 29 = .ok (.iaload, 1) := by decide +kernel
set_option maxRecDepth 20000 in
theorem dX6_claim_30 : decode cX6_claim 30 = .ok (.istore_n 3, 1) := by decide +kernel
set_option maxRecDepth 20000 in
theorem dX6_claim_31 : decode cX6_claim 31 = .ok (.aload_n 0, 1) := by decide +kernel
set_option maxRecDepth 20000 in
theorem dX6_claim_32 : decode cX6_claim 32 = .ok (.getfield 12, 3) := by decide +kernel
set_option maxRecDepth 20000 in
theorem dX6_claim_35 : decode cX6_claim 35 = .ok (.getfield 224, 3) := by decide +kernel
set_option maxRecDepth 20000 in
theorem dX6_claim_38 : decode cX6_claim 38 = .ok (.iload_n 1, 1) := by decide +kernel
set_option maxRecDepth 20000 in
theorem dX6_claim_39 : decode cX6_claim 39 = .ok (.iload_n 2, 1) := by decide +kernel
set_option maxRecDepth 20000 in
theorem dX6_claim_40 : decode cX6_claim 40 = .ok (.iastore, 1) := by decide +kernel
set_option maxRecDepth 20000 in
theorem dX6_claim_41 : decode cX6_claim 41 = .ok (.iload_n 3, 1) := by decide +kernel
set_option maxRecDepth 20000 in
theorem dX6_claim_42 : decode cX6_claim 42 = .ok (.ireturn, 1) := by decide +kernel
set_option maxRecDepth 20000 in
theorem dX6_raise_0 : decode cX6_raise 0 = .ok (.aload_n 0, 1) := by decide +kernel
set_option maxRecDepth 20000 in
theorem dX6_raise_1 : decode cX6_raise 1 = .ok (.getfield 12, 3) := by decide +kernel
set_option maxRecDepth 20000 in
theorem dX6_raise_4 : decode cX6_raise 4 = .ok (.iload_n 1, 1) := by decide +kernel
set_option maxRecDepth 20000 in
theorem dX6_raise_5 : decode cX6_raise 5 = .ok (.invokevirtual 63, 3) := by decide +kernel
set_option maxRecDepth 20000 in
theorem dX6_raise_8 : decode cX6_raise 8 = .ok (.ifCond .eq 10, 3) := by decide +kernel
set_option maxRecDepth 20000 in
theorem dX6_raise_11 : decode cX6_raise 11 = .ok (.iload_n 2, 1) := by decide +kernel
set_option maxRecDepth 20000 in
theorem dX6_raise_12 : decode cX6_raise 12 = .ok (.invokestatic 221, 3) := by decide +kernel
set_option maxRecDepth 20000 in
theorem dX6_raise_15 : decode cX6_raise 15 = .ok (.ifCond .ne 6, 3) := by decide +kernel
set_option maxRecDepth 20000 in
theorem dX6_raise_18 : decode cX6_raise 18 = .ok (.ldc 58, 2) := by decide +kernel
set_option maxRecDepth 20000 in
theorem dX6_raise_20 : decode cX6_raise 20 = .ok (.ireturn, 1) := by decide +kernel
set_option maxRecDepth 20000 in
theorem dX6_raise_21 : decode cX6_raise 21 = .ok (.aload_n 0, 1) := by decide +kernel
set_option maxRecDepth 20000 in
theorem dX6_raise_22 : decode cX6_raise 22 = .ok (.getfield 12, 3) := by decide +kernel
set_option maxRecDepth 20000 in
theorem dX6_raise_25 : decode cX6_raise 25 = .ok (.getfield 227, 3) := by decide +kernel
set_option maxRecDepth 20000 in
theorem dX6_raise_28 : decode cX6_raise 28 = .ok (.iload_n 1, 1) := by decide +kernel
set_option maxRecDepth 20000 in
theorem dX6_raise_29 : decode cX6_raise 29 = .ok (.iaload, 1) := by decide +kernel
set_option maxRecDepth 20000 in
theorem dX6_raise_30 : decode cX6_raise 30 = .ok (.istore_n 3, 1) := by decide +kernel
set_option maxRecDepth 20000 in
theorem dX6_raise_31 : decode cX6_raise 31 = .ok (.aload_n 0, 1) := by decide +kernel
set_option maxRecDepth 20000 in
theorem dX6_raise_32 : decode cX6_raise 32 = .ok (.getfield 12, 3) := by decide +kernel
set_option maxRecDepth 20000 in
theorem dX6_raise_35 : decode cX6_raise 35 = .ok (.getfield 227, 3) := by decide +kernel
set_option maxRecDepth 20000 in
theorem dX6_raise_38 : decode cX6_raise 38 = .ok (.iload_n 1, 1) := by decide +kernel
set_option maxRecDepth 20000 in
theorem dX6_raise_39 : decode cX6_raise 39 = .ok (.iload_n 2, 1) := by decide +kernel
set_option maxRecDepth 20000 in
theorem dX6_raise_40 : decode cX6_raise 40 = .ok (.iastore, 1) := by decide +kernel
set_option maxRecDepth 20000 in
theorem dX6_raise_41 : decode cX6_raise 41 = .ok (.iload_n 3, 1) := by decide +kernel
set_option maxRecDepth 20000 in
theorem dX6_raise_42 : decode cX6_raise 42 = .ok (.ireturn, 1) := by decide +kernel
set_option maxRecDepth 20000 in
theorem dX6_grant_0 : decode cX6_grant 0 = .ok (.aload_n 0, 1) := by decide +kernel
set_option maxRecDepth 20000 in
theorem dX6_grant_1 : decode cX6_grant 1 = .ok (.invokevirtual 144, 3) := by decide +kernel
set_option maxRecDepth 20000 in
theorem dX6_grant_4 : decode cX6_grant 4 = .ok (.ifCond .ne 6, 3) := by decide +kernel
set_option maxRecDepth 20000 in
theorem dX6_grant_7 : decode cX6_grant 7 = .ok (.ldc 58, 2) := by decide +kernel
set_option maxRecDepth 20000 in
theorem dX6_grant_9 : decode cX6_grant 9 = .ok (.ireturn, 1) := by decide +kernel
set_option maxRecDepth 20000 in
theorem dX6_grant_10 : decode cX6_grant 10 = .ok (.iconst 0, 1) := by decide +kernel
set_option maxRecDepth 20000 in
theorem dX6_grant_11 : decode cX6_grant 11 = .ok (.istore_n 1, 1) := by decide +kernel
set_option maxRecDepth 20000 in
theorem dX6_grant_12 : decode cX6_grant 12 = .ok (.iload_n 1, 1) := by decide +kernel
set_option maxRecDepth 20000 in
theorem dX6_grant_13 : decode cX6_grant 13 = .ok (.aload_n 0, 1) := by decide +kernel
set_option maxRecDepth 20000 in
theorem dX6_grant_14 : decode cX6_grant 14 = .ok (.getfield 12, 3) := by decide +kernel
set_option maxRecDepth 20000 in
theorem dX6_grant_17 : decode cX6_grant 17 = .ok (.getfield 67, 3) := by decide +kernel
set_option maxRecDepth 20000 in
theorem dX6_grant_20 : decode cX6_grant 20 = .ok (.if_icmp .ge 27, 3) := by decide +kernel
set_option maxRecDepth 20000 in
theorem dX6_grant_23 : decode cX6_grant 23 = .ok (.aload_n 0, 1) := by decide +kernel
set_option maxRecDepth 20000 in
theorem dX6_grant_24 : decode cX6_grant 24 = .ok (.getfield 12, 3) := by decide +kernel
set_option maxRecDepth 20000 in
theorem dX6_grant_27 : decode cX6_grant 27 = .ok (.getfield 224, 3) := by decide +kernel
set_option maxRecDepth 20000 in
theorem dX6_grant_30 : decode cX6_grant 30 = .ok (.iload_n 1, 1) := by decide +kernel
set_option maxRecDepth 20000 in
theorem dX6_grant_31 : decode cX6_grant 31 = .ok (.aload_n 0, 1) := by decide +kernel
set_option maxRecDepth 20000 in
theorem dX6_grant_32 : decode cX6_grant 32 = .ok (.getfield 29, 3) := by decide +kernel
set_option maxRecDepth 20000 in
theorem dX6_grant_35 : decode cX6_grant 35 = .ok (.getfield 153, 3) := by decide +kernel
set_option maxRecDepth 20000 in
theorem dX6_grant_38 : decode cX6_grant 38 = .ok (.iload_n 1, 1) := by decide +kernel
set_option maxRecDepth 20000 in
theorem dX6_grant_39 : decode cX6_grant 39 = .ok (.iaload, 1) := by decide +kernel
set_option maxRecDepth 20000 in
theorem dX6_grant_40 : decode cX6_grant 40 = .ok (.iastore, 1) := by decide +kernel
set_option maxRecDepth 20000 in
theorem dX6_grant_41 : decode cX6_grant 41 = .ok (.iinc 1 1, 3) := by decide +kernel
set_option maxRecDepth 20000 in
theorem dX6_grant_44 : decode cX6_grant 44 = .ok (.goto (-32), 3) := by decide +kernel
set_option maxRecDepth 20000 in
theorem dX6_grant_47 : decode cX6_grant 47 = .ok (.iconst 0, 1) := by decide +kernel
set_option maxRecDepth 20000 in
theorem dX6_grant_48 : decode cX6_grant 48 = .ok (.istore_n 1, 1) := by decide +kernel
set_option maxRecDepth 20000 in
theorem dX6_grant_49 : decode cX6_grant 49 = .ok (.iload_n 1, 1) := by decide +kernel
set_option maxRecDepth 20000 in
theorem dX6_grant_50 : decode cX6_grant 50 = .ok (.aload_n 0, 1) := by decide +kernel
set_option maxRecDepth 20000 in
theorem dX6_grant_51 : decode cX6_grant 51 = .ok (.getfield 12, 3) := by decide +kernel
set_option maxRecDepth 20000 in
theorem dX6_grant_54 : decode cX6_grant 54 = .ok (.getfield 54, 3) := by decide +kernel
set_option maxRecDepth 20000 in
theorem dX6_grant_57 : decode cX6_grant 57 = .ok (.if_icmp .ge 27, 3) := by decide +kernel
set_option maxRecDepth 20000 in
theorem dX6_grant_60 : decode cX6_grant 60 = .ok (.aload_n 0, 1) := by decide +kernel
set_option maxRecDepth 20000 in
theorem dX6_grant_61 : decode cX6_grant 61 = .ok (.getfield 12, 3) := by decide +kernel
set_option maxRecDepth 20000 in
theorem dX6_grant_64 : decode cX6_grant 64 = .ok (.getfield 227, 3) := by decide +kernel
set_option maxRecDepth 20000 in
theorem dX6_grant_67 : decode cX6_grant 67 = .ok (.iload_n 1, 1) := by decide +kernel
set_option maxRecDepth 20000 in
theorem dX6_grant_68 : decode cX6_grant 68 = .ok (.aload_n 0, 1) := by decide +kernel
set_option maxRecDepth 20000 in
theorem dX6_grant_69 : decode cX6_grant 69 = .ok (.getfield 29, 3) := by decide +kernel
set_option maxRecDepth 20000 in
theorem dX6_grant_72 : decode cX6_grant 72 = .ok (.getfield 156, 3) := by decide +kernel
set_option maxRecDepth 20000 in
theorem dX6_grant_75 : decode cX6_grant 75 = .ok (.iload_n 1, 1) := by decide +kernel
set_option maxRecDepth 20000 in
theorem dX6_grant_76 : decode cX6_grant 76 = .ok (.iaload, 1) := by decide +kernel
set_option maxRecDepth 20000 in
theorem dX6_grant_77 : decode cX6_grant 77 = .ok (.iastore, 1) := by decide +kernel
set_option maxRecDepth 20000 in
theorem dX6_grant_78 : decode cX6_grant 78 = .ok (.iinc 1 1, 3) := by decide +kernel
set_option maxRecDepth 20000 in
theorem dX6_grant_81 : decode cX6_grant 81 = .ok (.goto (-32), 3) := by decide +kernel
set_option maxRecDepth 20000 in
theorem dX6_grant_84 : decode cX6_grant 84 = .ok (.aload_n 0, 1) := by decide +kernel
set_option maxRecDepth 20000 in
theorem dX6_grant_85 : decode cX6_grant 85 = .ok (.getfield 12, 3) := by decide +kernel
set_option maxRecDepth 20000 in
theorem dX6_grant_88 : decode cX6_grant 88 = .ok (.getfield 67, 3) := by decide +kernel
set_option maxRecDepth 20000 in
theorem dX6_grant_91 : decode cX6_grant 91 = .ok (.ireturn, 1) := by decide +kernel
set_option maxRecDepth 20000 in
theorem dX6_judge_0 : decode cX6_judge 0 = .ok (.aload_n 0, 1) := by decide +kernel
set_option maxRecDepth 20000 in
theorem dX6_judge_1 : decode cX6_judge 1 = .ok (.invokevirtual 103, 3) := by decide +kernel
set_option maxRecDepth 20000 in
theorem dX6_judge_4 : decode cX6_judge 4 = .ok (.ifCond .eq 6, 3) := by decide +kernel
set_option maxRecDepth 20000 in
theorem dX6_judge_7 : decode cX6_judge 7 = .ok (.ldc 58, 2) := by decide +kernel
set_option maxRecDepth 20000 in
theorem dX6_judge_9 : decode cX6_judge 9 = .ok (.ireturn, 1) := by decide +kernel
set_option maxRecDepth 20000 in
theorem dX6_judge_10 : decode cX6_judge 10 = .ok (.aload_n 0, 1) := by decide +kernel
set_option maxRecDepth 20000 in
theorem dX6_judge_11 : decode cX6_judge 11 = .ok (.getfield 12, 3) := by decide +kernel
set_option maxRecDepth 20000 in
theorem dX6_judge_14 : decode cX6_judge 14 = .ok (.invokevirtual 230, 3) := by decide +kernel
set_option maxRecDepth 20000 in
theorem dX6_judge_17 : decode cX6_judge 17 = .ok (.istore_n 1, 1) := by decide +kernel
set_option maxRecDepth 20000 in
theorem dX6_judge_18 : decode cX6_judge 18 = .ok (.iload_n 1, 1) := by decide +kernel
set_option maxRecDepth 20000 in
theorem dX6_judge_19 : decode cX6_judge 19 = .ok (.iconst (-1), 1) := by decide +kernel
set_option maxRecDepth 20000 in
theorem dX6_judge_20 : decode cX6_judge 20 = .ok (.if_icmp .eq 9, 3) := by decide +kernel
set_option maxRecDepth 20000 in
theorem dX6_judge_23 : decode cX6_judge 23 = .ok (.sipush 1000, 3) := by decide +kernel
set_option maxRecDepth 20000 in
theorem dX6_judge_26 : decode cX6_judge 26 = .ok (.iload_n 1, 1) := by decide +kernel
set_option maxRecDepth 20000 in
theorem dX6_judge_27 : decode cX6_judge 27 = .ok (.iadd, 1) := by decide +kernel
set_option maxRecDepth 20000 in
theorem dX6_judge_28 : decode cX6_judge 28 = .ok (.ireturn, 1) := by decide +kernel
set_option maxRecDepth 20000 in
theorem dX6_judge_29 : decode cX6_judge 29 = .ok (.aload_n 0, 1) := by decide +kernel
set_option maxRecDepth 20000 in
theorem dX6_judge_30 : decode cX6_judge 30 = .ok (.getfield 12, 3) := by decide +kernel
set_option maxRecDepth 20000 in
theorem dX6_judge_33 : decode cX6_judge 33 = .ok (.invokevirtual 233, 3) := by decide +kernel
set_option maxRecDepth 20000 in
theorem dX6_judge_36 : decode cX6_judge 36 = .ok (.istore_n 2, 1) := by decide +kernel
set_option maxRecDepth 20000 in
theorem dX6_judge_37 : decode cX6_judge 37 = .ok (.iload_n 2, 1) := by decide +kernel
set_option maxRecDepth 20000 in
theorem dX6_judge_38 : decode cX6_judge 38 = .ok (.iconst (-1), 1) := by decide +kernel
set_option maxRecDepth 20000 in
theorem dX6_judge_39 : decode cX6_judge 39 = .ok (.if_icmp .eq 9, 3) := by decide +kernel
set_option maxRecDepth 20000 in
theorem dX6_judge_42 : decode cX6_judge 42 = .ok (.sipush 2000, 3) := by decide +kernel
set_option maxRecDepth 20000 in
theorem dX6_judge_45 : decode cX6_judge 45 = .ok (.iload_n 2, 1) := by decide +kernel
set_option maxRecDepth 20000 in
theorem dX6_judge_46 : decode cX6_judge 46 = .ok (.iadd, 1) := by decide +kernel
set_option maxRecDepth 20000 in
theorem dX6_judge_47 : decode cX6_judge 47 = .ok (.ireturn, 1) := by decide +kernel
set_option maxRecDepth 20000 in
theorem dX6_judge_48 : decode cX6_judge 48 = .ok (.aload_n 0, 1) := by decide +kernel
set_option maxRecDepth 20000 in
theorem dX6_judge_49 : decode cX6_judge 49 = .ok (.invokevirtual 236, 3) := by decide +kernel
set_option maxRecDepth 20000 in
theorem dX6_judge_52 : decode cX6_judge 52 = .ok (.ireturn, 1) := by decide +kernel
set_option maxRecDepth 20000 in
theorem dX6_count_0 : decode cX6_count 0 = .ok (.iload_n 1, 1) := by decide +kernel
set_option maxRecDepth 20000 in
theorem dX6_count_1 : decode cX6_count 1 = .ok (.tableswitch 63 0 3 #[31, 39, 47, 55], 31) := by decide +kernel
set_option maxRecDepth 20000 in
theorem dX6_count_32 : decode cX6_count 32 = .ok (.aload_n 0, 1) := by decide +kernel
set_option maxRecDepth 20000 in
theorem dX6_count_33 : decode cX6_count 33 = .ok (.getfield 12, 3) := by decide +kernel
set_option maxRecDepth 20000 in
theorem dX6_count_36 : decode cX6_count 36 = .ok (.getfield 54, 3) := by decide +kernel
set_option maxRecDepth 20000 in
theorem dX6_count_39 : decode cX6_count 39 = .ok (.ireturn, 1) := by decide +kernel
set_option maxRecDepth 20000 in
theorem dX6_count_40 : decode cX6_count 40 = .ok (.aload_n 0, 1) := by decide +kernel
set_option maxRecDepth 20000 in
theorem dX6_count_41 : decode cX6_count 41 = .ok (.getfield 12, 3) := by decide +kernel
set_option maxRecDepth 20000 in
theorem dX6_count_44 : decode cX6_count 44 = .ok (.getfield 67, 3) := by decide +kernel
set_option maxRecDepth 20000 in
theorem dX6_count_47 : decode cX6_count 47 = .ok (.ireturn, 1) := by decide +kernel
set_option maxRecDepth 20000 in
theorem dX6_count_48 : decode cX6_count 48 = .ok (.aload_n 0, 1) := by decide +kernel
set_option maxRecDepth 20000 in
theorem dX6_count_49 : decode cX6_count 49 = .ok (.getfield 43, 3) := by decide +kernel
set_option maxRecDepth 20000 in
theorem dX6_count_52 : decode cX6_count 52 = .ok (.getfield 174, 3) := by decide +kernel
set_option maxRecDepth 20000 in
theorem dX6_count_55 : decode cX6_count 55 = .ok (.ireturn, 1) := by decide +kernel
set_option maxRecDepth 20000 in
theorem dX6_count_56 : decode cX6_count 56 = .ok (.aload_n 0, 1) := by decide +kernel
set_option maxRecDepth 20000 in
theorem dX6_count_57 : decode cX6_count 57 = .ok (.getfield 12, 3) := by decide +kernel
set_option maxRecDepth 20000 in
theorem dX6_count_60 : decode cX6_count 60 = .ok (.getfield 77, 3) := by decide +kernel
set_option maxRecDepth 20000 in
theorem dX6_count_63 : decode cX6_count 63 = .ok (.ireturn, 1) := by decide +kernel
set_option maxRecDepth 20000 in
theorem dX6_count_64 : decode cX6_count 64 = .ok (.ldc 58, 2) := by decide +kernel
set_option maxRecDepth 20000 in
theorem dX6_count_66 : decode cX6_count 66 = .ok (.ireturn, 1) := by decide +kernel
set_option maxRecDepth 20000 in
theorem dX6_findCause_0 : decode cX6_findCause 0 = .ok (.aload_n 0, 1) := by decide +kernel
set_option maxRecDepth 20000 in
theorem dX6_findCause_1 : decode cX6_findCause 1 = .ok (.getfield 12, 3) := by decide +kernel
set_option maxRecDepth 20000 in
theorem dX6_findCause_4 : decode cX6_findCause 4 = .ok (.getfield 77, 3) := by decide +kernel
set_option maxRecDepth 20000 in
theorem dX6_findCause_7 : decode cX6_findCause 7 = .ok (.iconst (-1), 1) := by decide +kernel
set_option maxRecDepth 20000 in
theorem dX6_findCause_8 : decode cX6_findCause 8 = .ok (.if_icmp .ne 5, 3) := by decide +kernel
set_option maxRecDepth 20000 in
theorem dX6_findCause_11 : decode cX6_findCause 11 = .ok (.iconst 1, 1) := by decide +kernel
set_option maxRecDepth 20000 in
theorem dX6_findCause_12 : decode cX6_findCause 12 = .ok (.ireturn, 1) := by decide +kernel
set_option maxRecDepth 20000 in
theorem dX6_findCause_13 : decode cX6_findCause 13 = .ok (.aload_n 0, 1) := by decide +kernel
set_option maxRecDepth 20000 in
theorem dX6_findCause_14 : decode cX6_findCause 14 = .ok (.getfield 12, 3) := by decide +kernel
set_option maxRecDepth 20000 in
theorem dX6_findCause_17 : decode cX6_findCause 17 = .ok (.invokevirtual 135, 3) := by decide +kernel
set_option maxRecDepth 20000 in
theorem dX6_findCause_20 : decode cX6_findCause 20 = .ok (.ifCond .ne 5, 3) := by decide +kernel
set_option maxRecDepth 20000 in
theorem dX6_findCause_23 : decode cX6_findCause 23 = .ok (.iconst 2, 1) := by decide +kernel
set_option maxRecDepth 20000 in
theorem dX6_findCause_24 : decode cX6_findCause 24 = .ok (.ireturn, 1) := by decide +kernel
set_option maxRecDepth 20000 in
theorem dX6_findCause_25 : decode cX6_findCause 25 = .ok (.aload_n 0, 1) := by decide +kernel
set_option maxRecDepth 20000 in
theorem dX6_findCause_26 : decode cX6_findCause 26 = .ok (.getfield 12, 3) := by decide +kernel
set_option maxRecDepth 20000 in
theorem dX6_findCause_29 : decode cX6_findCause 29 = .ok (.iconst 0, 1) := by decide +kernel
set_option maxRecDepth 20000 in
theorem dX6_findCause_30 : decode cX6_findCause 30 = .ok (.invokevirtual 239, 3) := by decide +kernel
set_option maxRecDepth 20000 in
theorem dX6_findCause_33 : decode cX6_findCause 33 = .ok (.ifCond .ne 5, 3) := by decide +kernel
set_option maxRecDepth 20000 in
theorem dX6_findCause_36 : decode cX6_findCause 36 = .ok (.iconst 3, 1) := by decide +kernel
set_option maxRecDepth 20000 in
theorem dX6_findCause_37 : decode cX6_findCause 37 = .ok (.ireturn, 1) := by decide +kernel
set_option maxRecDepth 20000 in
theorem dX6_findCause_38 : decode cX6_findCause 38 = .ok (.aload_n 0, 1) := by decide +kernel
set_option maxRecDepth 20000 in
theorem dX6_findCause_39 : decode cX6_findCause 39 = .ok (.getfield 12, 3) := by decide +kernel
set_option maxRecDepth 20000 in
theorem dX6_findCause_42 : decode cX6_findCause 42 = .ok (.iconst 1, 1) := by decide +kernel
set_option maxRecDepth 20000 in
theorem dX6_findCause_43 : decode cX6_findCause 43 = .ok (.invokevirtual 239, 3) := by decide +kernel
set_option maxRecDepth 20000 in
theorem dX6_findCause_46 : decode cX6_findCause 46 = .ok (.ifCond .ne 5, 3) := by decide +kernel
set_option maxRecDepth 20000 in
theorem dX6_findCause_49 : decode cX6_findCause 49 = .ok (.iconst 4, 1) := by decide +kernel
set_option maxRecDepth 20000 in
theorem dX6_findCause_50 : decode cX6_findCause 50 = .ok (.ireturn, 1) := by decide +kernel
set_option maxRecDepth 20000 in
theorem dX6_findCause_51 : decode cX6_findCause 51 = .ok (.aload_n 0, 1) := by decide +kernel
set_option maxRecDepth 20000 in
theorem dX6_findCause_52 : decode cX6_findCause 52 = .ok (.getfield 22, 3) := by decide +kernel
set_option maxRecDepth 20000 in
theorem dX6_findCause_55 : decode cX6_findCause 55 = .ok (.aload_n 0, 1) := by decide +kernel
set_option maxRecDepth 20000 in
theorem dX6_findCause_56 : decode cX6_findCause 56 = .ok (.getfield 12, 3) := by decide +kernel
set_option maxRecDepth 20000 in
theorem dX6_findCause_59 : decode cX6_findCause 59 = .ok (.invokevirtual 138, 3) := by decide +kernel
set_option maxRecDepth 20000 in
theorem dX6_findCause_62 : decode cX6_findCause 62 = .ok (.aload_n 0, 1) := by decide +kernel
set_option maxRecDepth 20000 in
theorem dX6_findCause_63 : decode cX6_findCause 63 = .ok (.getfield 12, 3) := by decide +kernel
set_option maxRecDepth 20000 in
theorem dX6_findCause_66 : decode cX6_findCause 66 = .ok (.getfield 54, 3) := by decide +kernel
set_option maxRecDepth 20000 in
theorem dX6_findCause_69 : decode cX6_findCause 69 = .ok (.aload_n 0, 1) := by decide +kernel
set_option maxRecDepth 20000 in
theorem dX6_findCause_70 : decode cX6_findCause 70 = .ok (.getfield 22, 3) := by decide +kernel
set_option maxRecDepth 20000 in
theorem dX6_findCause_73 : decode cX6_findCause 73 = .ok (.getfield 113, 3) := by decide +kernel
set_option maxRecDepth 20000 in
theorem dX6_findCause_76 : decode cX6_findCause 76 = .ok (.iadd, 1) := by decide +kernel
set_option maxRecDepth 20000 in
theorem dX6_findCause_77 : decode cX6_findCause 77 = .ok (.aload_n 0, 1) := by decide +kernel
set_option maxRecDepth 20000 in
theorem dX6_findCause_78 : decode cX6_findCause 78 = .ok (.getfield 12, 3) := by decide +kernel
set_option maxRecDepth 20000 in
theorem dX6_findCause_81 : decode cX6_findCause 81 = .ok (.getfield 67, 3) := by decide +kernel
set_option maxRecDepth 20000 in
theorem dX6_findCause_84 : decode cX6_findCause 84 = .ok (.iconst 2, 1) := by decide +kernel
set_option maxRecDepth 20000 in
theorem dX6_findCause_85 : decode cX6_findCause 85 = .ok (.iadd, 1) := by decide +kernel
set_option maxRecDepth 20000 in
theorem dX6_findCause_86 : decode cX6_findCause 86 = .ok (.if_icmp .ne 7, 3) := by decide +kernel
set_option maxRecDepth 20000 in
theorem dX6_findCause_89 : decode cX6_findCause 89 = .ok (.iconst 0, 1) := by decide +kernel
set_option maxRecDepth 20000 in
theorem dX6_findCause_90 : decode cX6_findCause 90 = .ok (.goto 4, 3) := by decide +kernel
set_option maxRecDepth 20000 in
theorem dX6_findCause_93 : decode cX6_findCause 93 = .ok (.iconst 5, 1) := by decide +kernel
set_option maxRecDepth 20000 in
theorem dX6_findCause_94 : decode cX6_findCause 94 = .ok (.ireturn, 1) := by decide +kernel
set_option maxRecDepth 20000 in
theorem dX6_letFlow_0 : decode cX6_letFlow 0 = .ok (.aload_n 0, 1) := by decide +kernel
set_option maxRecDepth 20000 in
theorem dX6_letFlow_1 : decode cX6_letFlow 1 = .ok (.invokevirtual 103, 3) := by decide +kernel
set_option maxRecDepth 20000 in
theorem dX6_letFlow_4 : decode cX6_letFlow 4 = .ok (.ifCond .eq 5, 3) := by decide +kernel
set_option maxRecDepth 20000 in
theorem dX6_letFlow_7 : decode cX6_letFlow 7 = .ok (.iconst 0, 1) := by decide +kernel
set_option maxRecDepth 20000 in
theorem dX6_letFlow_8 : decode cX6_letFlow 8 = .ok (.ireturn, 1) := by decide +kernel
set_option maxRecDepth 20000 in
theorem dX6_letFlow_9 : decode cX6_letFlow 9 = .ok (.aload_n 0, 1) := by decide +kernel
set_option maxRecDepth 20000 in
theorem dX6_letFlow_10 : decode cX6_letFlow 10 = .ok (.getfield 29, 3) := by decide +kernel
set_option maxRecDepth 20000 in
theorem dX6_letFlow_13 : decode cX6_letFlow 13 = .ok (.aload_n 0, 1) := by decide +kernel
set_option maxRecDepth 20000 in
theorem dX6_letFlow_14 : decode cX6_letFlow 14 = .ok (.getfield 12, 3) := by decide +kernel
set_option maxRecDepth 20000 in
theorem dX6_letFlow_17 : decode cX6_letFlow 17 = .ok (.aload_n 0, 1) := by decide +kernel
set_option maxRecDepth 20000 in
theorem dX6_letFlow_18 : decode cX6_letFlow 18 = .ok (.getfield 22, 3) := by decide +kernel
set_option maxRecDepth 20000 in
theorem dX6_letFlow_21 : decode cX6_letFlow 21 = .ok (.invokevirtual 243, 3) := by decide +kernel
set_option maxRecDepth 20000 in
theorem dX6_letFlow_24 : decode cX6_letFlow 24 = .ok (.iconst 1, 1) := by decide +kernel
set_option maxRecDepth 20000 in
theorem dX6_letFlow_25 : decode cX6_letFlow 25 = .ok (.ireturn, 1) := by decide +kernel
set_option maxRecDepth 20000 in
theorem dX6_layOut_0 : decode cX6_layOut 0 = .ok (.aload_n 0, 1) := by decide +kernel
set_option maxRecDepth 20000 in
theorem dX6_layOut_1 : decode cX6_layOut 1 = .ok (.invokevirtual 103, 3) := by decide +kernel
set_option maxRecDepth 20000 in
theorem dX6_layOut_4 : decode cX6_layOut 4 = .ok (.ifCond .eq 5, 3) := by decide +kernel
set_option maxRecDepth 20000 in
theorem dX6_layOut_7 : decode cX6_layOut 7 = .ok (.iconst 0, 1) := by decide +kernel
set_option maxRecDepth 20000 in
theorem dX6_layOut_8 : decode cX6_layOut 8 = .ok (.ireturn, 1) := by decide +kernel
set_option maxRecDepth 20000 in
theorem dX6_layOut_9 : decode cX6_layOut 9 = .ok (.aload_n 0, 1) := by decide +kernel
set_option maxRecDepth 20000 in
theorem dX6_layOut_10 : decode cX6_layOut 10 = .ok (.getfield 29, 3) := by decide +kernel
set_option maxRecDepth 20000 in
theorem dX6_layOut_13 : decode cX6_layOut 13 = .ok (.aload_n 0, 1) := by decide +kernel
set_option maxRecDepth 20000 in
theorem dX6_layOut_14 : decode cX6_layOut 14 = .ok (.getfield 12, 3) := by decide +kernel
set_option maxRecDepth 20000 in
theorem dX6_layOut_17 : decode cX6_layOut 17 = .ok (.aload_n 0, 1) := by decide +kernel
set_option maxRecDepth 20000 in
theorem dX6_layOut_18 : decode cX6_layOut 18 = .ok (.getfield 22, 3) := by decide +kernel
set_option maxRecDepth 20000 in
theorem dX6_layOut_21 : decode cX6_layOut 21 = .ok (.invokevirtual 243, 3) := by decide +kernel
set_option maxRecDepth 20000 in
theorem dX6_layOut_24 : decode cX6_layOut 24 = .ok (.aload_n 0, 1) := by decide +kernel
set_option maxRecDepth 20000 in
theorem dX6_layOut_25 : decode cX6_layOut 25 = .ok (.getfield 36, 3) := by decide +kernel
set_option maxRecDepth 20000 in
theorem dX6_layOut_28 : decode cX6_layOut 28 = .ok (.aload_n 0, 1) := by decide +kernel
set_option maxRecDepth 20000 in
theorem dX6_layOut_29 : decode cX6_layOut 29 = .ok (.getfield 12, 3) := by decide +kernel
set_option maxRecDepth 20000 in
theorem dX6_layOut_32 : decode cX6_layOut 32 = .ok (.aload_n 0, 1) := by decide +kernel
set_option maxRecDepth 20000 in
theorem dX6_layOut_33 : decode cX6_layOut 33 = .ok (.getfield 22, 3) := by decide +kernel
set_option maxRecDepth 20000 in
theorem dX6_layOut_36 : decode cX6_layOut 36 = .ok (.aload_n 0, 1) := by decide +kernel
set_option maxRecDepth 20000 in
theorem dX6_layOut_37 : decode cX6_layOut 37 = .ok (.getfield 29, 3) := by decide +kernel
set_option maxRecDepth 20000 in
theorem dX6_layOut_40 : decode cX6_layOut 40 = .ok (.invokevirtual 247, 3) := by decide +kernel
set_option maxRecDepth 20000 in
theorem dX6_layOut_43 : decode cX6_layOut 43 = .ok (.iconst 1, 1) := by decide +kernel
set_option maxRecDepth 20000 in
theorem dX6_layOut_44 : decode cX6_layOut 44 = .ok (.ireturn, 1) := by decide +kernel
set_option maxRecDepth 20000 in
theorem dX6_findFit_0 : decode cX6_findFit 0 = .ok (.iload_n 1, 1) := by decide +kernel
set_option maxRecDepth 20000 in
theorem dX6_findFit_1 : decode cX6_findFit 1 = .ok (.iconst 1, 1) := by decide +kernel
set_option maxRecDepth 20000 in
theorem dX6_findFit_2 : decode cX6_findFit 2 = .ok (.if_icmp .lt 30, 3) := by decide +kernel
set_option maxRecDepth 20000 in
theorem dX6_findFit_5 : decode cX6_findFit 5 = .ok (.iload_n 1, 1) := by decide +kernel
set_option maxRecDepth 20000 in
theorem dX6_findFit_6 : decode cX6_findFit 6 = .ok (.ldc 251, 2) := by decide +kernel
set_option maxRecDepth 20000 in
theorem dX6_findFit_8 : decode cX6_findFit 8 = .ok (.if_icmp .gt 24, 3) := by decide +kernel
set_option maxRecDepth 20000 in
theorem dX6_findFit_11 : decode cX6_findFit 11 = .ok (.iload_n 2, 1) := by decide +kernel
set_option maxRecDepth 20000 in
theorem dX6_findFit_12 : decode cX6_findFit 12 = .ok (.iconst 1, 1) := by decide +kernel
